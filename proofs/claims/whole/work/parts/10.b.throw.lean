/-! what a throw of KnitBench needs of the tables -/
def kb_EN : Nat → String
  | 1 => "java/lang/IllegalArgumentException"
  | 2 => "java/lang/IllegalStateException"
  | 3 => "java/lang/IndexOutOfBoundsException"
  | _ => ""
def kb_NB : List Cond := kb_decl.map (fun q => Cond.declares q) ++ kb_cast.map (fun q => Cond.castable q.1 q.2)
theorem kb_hB {p : Program} {s : State} {m : MethodId} {args : Array Value} {meth : Method} {c : Code} {cc : ByteArray} {nL : Nat} {own : String} {w0 : Cond} {ret : Option FieldType} {V : kb_V} {A : Nat → Prop} (C : kb_C p s m args meth c cc nL own w0 ret V A) : ∀ w ∈ kb_NB, w.before args s = true := by
  intro w hw
  rcases List.mem_append.mp hw with h | h
  · obtain ⟨q, hq, rfl⟩ := List.mem_map.mp h
    exact va_Nw.use rfl (C.2.1.2.2.2.2.2.2.2.2.2.2.2.1 q hq)
  · obtain ⟨q, hq, rfl⟩ := List.mem_map.mp h
    exact va_Nw.use rfl (C.2.1.2.2.2.2.2.2.2.2.2.2.2.2.1 q hq)
set_option maxRecDepth 100000 in
theorem kb_hg1 : ∀ w ∈ (vx_atS RX8 52 "java/lang/IllegalArgumentException" ["java/lang/RuntimeException", "java/lang/Exception"]).filter goodWord, w ∈ kb_TB := by decide +kernel
set_option maxRecDepth 100000 in
theorem kb_hb1 : ∀ w ∈ (vx_atS RX8 52 "java/lang/IllegalArgumentException" ["java/lang/RuntimeException", "java/lang/Exception"]).filter (fun w => !goodWord w), w ∈ kb_NB := by decide +kernel
set_option maxRecDepth 100000 in
theorem kb_hgd1 : ∀ w ∈ Cond.classLink RX8 48 "java/lang/IllegalArgumentException" :: Cond.initialized "java/lang/IllegalArgumentException" :: vx_atS RX8 52 "java/lang/IllegalArgumentException" ["java/lang/RuntimeException", "java/lang/Exception"], vx_ot w = true := by decide +kernel
theorem kb_hat1 {p : Program} {s : State} {m : MethodId} {args : Array Value} {meth : Method} {c : Code} {cc : ByteArray} {nL : Nat} {w0 : Cond} {ret : Option FieldType} {V : kb_V} {A : Nat → Prop} (C : kb_C p s m args meth c cc nL RX8 w0 ret V A) : ∀ w ∈ vx_atS RX8 52 "java/lang/IllegalArgumentException" ["java/lang/RuntimeException", "java/lang/Exception"], w.before args s = true := vx_hat (fun w hw => kb_w C (kb_hg1 w hw)) kb_hb1 (kb_hB C)
set_option maxRecDepth 100000 in
theorem kb_hg2 : ∀ w ∈ (vx_atS RX8 74 "java/lang/IllegalStateException" ["java/lang/RuntimeException", "java/lang/Exception"]).filter goodWord, w ∈ kb_TB := by decide +kernel
set_option maxRecDepth 100000 in
theorem kb_hb2 : ∀ w ∈ (vx_atS RX8 74 "java/lang/IllegalStateException" ["java/lang/RuntimeException", "java/lang/Exception"]).filter (fun w => !goodWord w), w ∈ kb_NB := by decide +kernel
set_option maxRecDepth 100000 in
theorem kb_hgd2 : ∀ w ∈ Cond.classLink RX8 70 "java/lang/IllegalStateException" :: Cond.initialized "java/lang/IllegalStateException" :: vx_atS RX8 74 "java/lang/IllegalStateException" ["java/lang/RuntimeException", "java/lang/Exception"], vx_ot w = true := by decide +kernel
theorem kb_hat2 {p : Program} {s : State} {m : MethodId} {args : Array Value} {meth : Method} {c : Code} {cc : ByteArray} {nL : Nat} {w0 : Cond} {ret : Option FieldType} {V : kb_V} {A : Nat → Prop} (C : kb_C p s m args meth c cc nL RX8 w0 ret V A) : ∀ w ∈ vx_atS RX8 74 "java/lang/IllegalStateException" ["java/lang/RuntimeException", "java/lang/Exception"], w.before args s = true := vx_hat (fun w hw => kb_w C (kb_hg2 w hw)) kb_hb2 (kb_hB C)
set_option maxRecDepth 100000 in
theorem kb_hg3 : ∀ w ∈ (vx_atS RX8 135 "java/lang/IndexOutOfBoundsException" ["java/lang/RuntimeException", "java/lang/Exception"]).filter goodWord, w ∈ kb_TB := by decide +kernel
set_option maxRecDepth 100000 in
theorem kb_hb3 : ∀ w ∈ (vx_atS RX8 135 "java/lang/IndexOutOfBoundsException" ["java/lang/RuntimeException", "java/lang/Exception"]).filter (fun w => !goodWord w), w ∈ kb_NB := by decide +kernel
set_option maxRecDepth 100000 in
theorem kb_hgd3 : ∀ w ∈ Cond.classLink RX8 131 "java/lang/IndexOutOfBoundsException" :: Cond.initialized "java/lang/IndexOutOfBoundsException" :: vx_atS RX8 135 "java/lang/IndexOutOfBoundsException" ["java/lang/RuntimeException", "java/lang/Exception"], vx_ot w = true := by decide +kernel
theorem kb_hat3 {p : Program} {s : State} {m : MethodId} {args : Array Value} {meth : Method} {c : Code} {cc : ByteArray} {nL : Nat} {w0 : Cond} {ret : Option FieldType} {V : kb_V} {A : Nat → Prop} (C : kb_C p s m args meth c cc nL RX8 w0 ret V A) : ∀ w ∈ vx_atS RX8 135 "java/lang/IndexOutOfBoundsException" ["java/lang/RuntimeException", "java/lang/Exception"], w.before args s = true := vx_hat (fun w hw => kb_w C (kb_hg3 w hw)) kb_hb3 (kb_hB C)
