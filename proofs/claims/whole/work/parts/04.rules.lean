/-! the memory of a system: numbers by their ids, rows of ints by their ids, rows of longs by their ids -/
abbrev kb_S : Type := (Nat → Int32) × (Nat → Nat → Int32) × (Nat → Nat → Int64)
def kb_g (σ : kb_S) (k : Nat) : Int32 := σ.1 k
def kb_a (σ : kb_S) (k : Nat) : Nat → Int32 := σ.2.1 k
def kb_b (σ : kb_S) (k : Nat) : Nat → Int64 := σ.2.2 k
def kb_p (σ : kb_S) (k : Nat) (v : Int32) : kb_S := (va_up σ.1 k v, σ.2)
def kb_ap (σ : kb_S) (k i : Nat) (v : Int32) : kb_S := (σ.1, va_up σ.2.1 k (upd (σ.2.1 k) i v), σ.2.2)
def kb_bp (σ : kb_S) (k i : Nat) (v : Int64) : kb_S := (σ.1, σ.2.1, va_up σ.2.2 k (vp_updL (σ.2.2 k) i v))
/-! what is fixed for a launch: classes and slots, the classes of arrays, addresses of what was there before -/
abbrev kb_V : Type := va_G × (Nat → ClassId) × (Nat → Nat)
abbrev kb_tys (V : kb_V) : List (ClassId × FieldType) := [(V.2.1 0, .int), (V.2.1 1, .long), (V.2.1 2, .boolean)]
def kb_TAKES : Nat → Int32 := fun j => ([1, 1, 1, 2, 2, 3, 1, 0, 1, 0] : List Int32).getD j 0
def kb_MAKES : Nat → Int32 := fun j => ([1, 1, 1, 1, 1, 1, 2, 1, 0, 1] : List Int32).getD j 0
def kb_OFFS : Nat → Int32 := fun j => ([0, 80, 3280, 4880] : List Int32).getD j 0
/-- a static row of ints, never written -/
def kb_z (C n : String) (q len : Nat) (f : Nat → Int32) (A : Nat → Prop) (U : State) (H : Heap) : Prop := va_Z C n "[I" (.ref q) A U H ∧ va_X q len f U H ∧ q < H.size ∧ ¬ A q
theorem kb_z.mv {C n : String} {q len : Nat} {f : Nat → Int32} {A : Nat → Prop} {u U : State} {H H1 : Heap} (hvm : u.vm.Alike U.vm) (hs : H.size ≤ H1.size) (hq : ∀ a : Nat, a < H.size → ¬ A a → H1[a]? = H[a]?) (h : kb_z C n q len f A u H) : kb_z C n q len f A U H1 :=
  ⟨(h.1.moved hvm).kept hq, (h.2.1.moved hvm).kept (hq q h.2.2.1 h.2.2.2), Nat.lt_of_lt_of_le h.2.2.1 hs, h.2.2.2⟩
def kb_Z (V : kb_V) (A : Nat → Prop) (U : State) : Prop := kb_z "KnitBench$Stitch" "TAKES" (V.2.2 0) 10 kb_TAKES A U U.heap ∧ kb_z "KnitBench$Stitch" "MAKES" (V.2.2 1) 10 kb_MAKES A U U.heap ∧ kb_z "KnitBench$Shortest" "OFFSETS" (V.2.2 2) 4 kb_OFFS A U U.heap
def kb_E (V : kb_V) (A : Nat → Prop) (U : State) : Prop := va_K V.1 vwCl (kb_tys V) U ∧ kb_Z V A U
theorem kb_E.mv {V : kb_V} {A : Nat → Prop} {u U : State} (hW : u.WarmedH U.vm) (hs : u.heap.size ≤ U.heap.size) (hq : ∀ a : Nat, a < u.heap.size → ¬ A a → U.heap[a]? = u.heap[a]?) (h : kb_E V A u) : kb_E V A U :=
  ⟨va_K.moved hW.alike h.1, kb_z.mv hW.alike hs hq h.2.1, kb_z.mv hW.alike hs hq h.2.2.1, kb_z.mv hW.alike hs hq h.2.2.2⟩
/-- a method's contract: called with these arguments in this world it returns o, and the world is W' -/
def kb_pre (V : kb_V) (A : Nat → Prop) (W : va_W) (U : State) : Prop := kb_E V A U ∧ va_P V.1 vwCl W U.heap ∧ va_D A W ∧ ∀ q, U.heap.size ≤ q → A q
def kb_post (V : kb_V) (A : Nat → Prop) (o : Option Value) (W' : va_W) : Array Value → State → Outcome → State → Prop := fun _ st oc t => oc = .returned o ∧ va_P V.1 vwCl W' t.heap ∧ va_D A W' ∧ va_F A st t
def kb_T (l : Launch) (y : MethodName) (cc : ByteArray) (nL : Nat) (ret : Option FieldType) (rm : Room) (V : kb_V) (A : Nat → Prop) (as : List Value) (W : va_W) (o : Option Value) (W' : va_W) (mc ms : Nat) : Prop :=
  Met l y (Cond.code y cc nL ret :: kb_TB) rm (va_Pc as (kb_pre V A W)) (kb_post V A o W') mc ms A
theorem kb_blind {V : kb_V} {A : Nat → Prop} {as : List Value} {W : va_W} : FrameBlind (va_Pc as (kb_pre V A W)) := fun a U g mk h =>
  ⟨h.1, kb_E.mv (u := U) (State.WarmedH.refl U) (Nat.le_refl _) (fun _ _ _ => rfl) h.2.1, h.2.2.1, h.2.2.2.1, h.2.2.2.2⟩
/-- what is fixed while a method's body runs -/
def kb_C (p : Program) (s : State) (m : MethodId) (args : Array Value) (meth : Method) (c : Code) (cc : ByteArray) (nL : Nat) (own : String) (w0 : Cond) (ret : Option FieldType) (V : kb_V) (A : Nat → Prop) : Prop :=
  CallFix p m c cc nL s args (w0 :: kb_TB) own ∧ kb_E V A s ∧ (∀ q, s.heap.size ≤ q → A q) ∧ meth.sig.returnType = ret ∧ meth.locks = false
def kb_J (p : Program) (l : Launch) (e : Env) (R : Room) (s : State) (m : MethodId) (args : Array Value) (below : List Frame) (meth : Method) (c : Code) (nL : Nat) (V : kb_V) (A : Nat → Prop) (k n : Nat) (Q : State → Prop) (pc : Nat) (L : List (Nat × Value)) (st : List Value) (ws : va_W) : Prop :=
  ∀ (H : Heap) (locs : List Loc) (ls : Array Slot), va_P V.1 vwCl ws H → va_D A ws → va_S A s.heap H locs → lv_has ls nL L → W p l e R s m args below meth c H locs k n Q (F0 m pc ls st)
section KBR
variable {p : Program} {l : Launch} {e : Env} {R : Room} {s : State} {m : MethodId} {args : Array Value} {below : List Frame} {meth : Method} {c : Code} {k n : Nat} {Q : State → Prop}
variable {cc : ByteArray} {nL : Nat} {own : String} {w0 : Cond} {ret : Option FieldType} {V : kb_V} {A : Nat → Prop} {pc : Nat} {L L2 : List (Nat × Value)} {st : List Value} {ws ws2 : va_W}
theorem kb_w (C : kb_C p s m args meth c cc nL own w0 ret V A) {w : Cond} (h : w ∈ kb_TB) : w.before args s = true := C.1.2.2.2.2 _ (List.mem_cons_of_mem _ h)
theorem kj_sub (ks : List Nat) (hl : lv_pick L ks = L2) (K : kb_J p l e R s m args below meth c nL V A k n Q pc L2 st ws) : kb_J p l e R s m args below meth c nL V A k n Q pc L st ws :=
  fun H locs ls hP hD hS h => K H locs ls hP hD hS (lv_sub h ks hl)
theorem kj_widen {k2 n2 : Nat} (h1 : k ≤ k2) (h2 : n ≤ n2) (K : kb_J p l e R s m args below meth c nL V A k2 n2 Q pc L st ws) : kb_J p l e R s m args below meth c nL V A k n Q pc L st ws :=
  fun H locs ls hP hD hS h => W.widen h1 h2 (K H locs ls hP hD hS h)

theorem kj_iconst {i : Int} {v : Int32} (C : kb_C p s m args meth c cc nL own w0 ret V A) (d : decode cc pc = .ok (.iconst i, 1)) (hv : Int32.ofInt i = v) (K : kb_J p l e R s m args below meth c nL V A k n Q (pc + 1) L (.int v :: st) ws) : kb_J p l e R s m args below meth c nL V A k n Q pc L st ws :=
  fun H locs ls hP hD hS hl => lv_iconst C.1.1 C.1.2.1 d hv (K H locs ls hP hD hS hl)
theorem kj_bipush {i : Int} {v : Int32} (C : kb_C p s m args meth c cc nL own w0 ret V A) (d : decode cc pc = .ok (.bipush i, 2)) (hv : (Int8.ofInt i).toInt32 = v) (K : kb_J p l e R s m args below meth c nL V A k n Q (pc + 2) L (.int v :: st) ws) : kb_J p l e R s m args below meth c nL V A k n Q pc L st ws :=
  fun H locs ls hP hD hS hl => lv_bipush C.1.1 C.1.2.1 d hv (K H locs ls hP hD hS hl)
theorem kj_sipush {i : Int} {v : Int32} (C : kb_C p s m args meth c cc nL own w0 ret V A) (d : decode cc pc = .ok (.sipush i, 3)) (hv : (Int16.ofInt i).toInt32 = v) (K : kb_J p l e R s m args below meth c nL V A k n Q (pc + 3) L (.int v :: st) ws) : kb_J p l e R s m args below meth c nL V A k n Q pc L st ws :=
  fun H locs ls hP hD hS hl => lv_sipush C.1.1 C.1.2.1 d hv (K H locs ls hP hD hS hl)
theorem kj_lconst {i : Fin 2} {v : Int64} (C : kb_C p s m args meth c cc nL own w0 ret V A) (d : decode cc pc = .ok (.lconst i, 1)) (hv : Int64.ofNat (i : Nat) = v) (K : kb_J p l e R s m args below meth c nL V A k n Q (pc + 1) L (.long v :: st) ws) : kb_J p l e R s m args below meth c nL V A k n Q pc L st ws :=
  fun H locs ls hP hD hS hl => lv_lconst C.1.1 C.1.2.1 d hv (K H locs ls hP hD hS hl)
theorem kj_ldc {i : Nat} {v : Int32} (C : kb_C p s m args meth c cc nL own w0 ret V A) (d : decode cc pc = .ok (.ldc i, 2)) (hw : Jvm.Cond.constant own i v ∈ kb_TB) (K : kb_J p l e R s m args below meth c nL V A k n Q (pc + 2) L (.int v :: st) ws) : kb_J p l e R s m args below meth c nL V A k n Q pc L st ws :=
  fun H locs ls hP hD hS hl => lv_ldc C.1.1 C.1.2.1 C.1.2.2.2.1 (kb_w C hw) d (K H locs ls hP hD hS hl)
theorem kj_ldc2 {i : Nat} {v : Int64} (C : kb_C p s m args meth c cc nL own w0 ret V A) (d : decode cc pc = .ok (.ldc2_w i, 3)) (hw : Jvm.Cond.constantLong own i v ∈ kb_TB) (K : kb_J p l e R s m args below meth c nL V A k n Q (pc + 3) L (.long v :: st) ws) : kb_J p l e R s m args below meth c nL V A k n Q pc L st ws :=
  fun H locs ls hP hD hS hl => lv_ldc2 C.1.1 C.1.2.1 C.1.2.2.2.1 (kb_w C hw) d (K H locs ls hP hD hS hl)
theorem kj_iload_n {q : Fin 4} {i : Nat} {x : Int32} (C : kb_C p s m args meth c cc nL own w0 ret V A) (j : Nat) (d : decode cc pc = .ok (.iload_n q, 1)) (hi : (q : Nat) = i) (hj : L[j]? = some (i, .int x)) (K : kb_J p l e R s m args below meth c nL V A k n Q (pc + 1) L (.int x :: st) ws) : kb_J p l e R s m args below meth c nL V A k n Q pc L st ws :=
  fun H locs ls hP hD hS hl => lv_iload_n C.1.1 C.1.2.1 d hi (lv_at hl j hj) (K H locs ls hP hD hS hl)
theorem kj_iload {i : Nat} {x : Int32} (C : kb_C p s m args meth c cc nL own w0 ret V A) (j : Nat) (d : decode cc pc = .ok (.iload i, 2)) (hj : L[j]? = some (i, .int x)) (K : kb_J p l e R s m args below meth c nL V A k n Q (pc + 2) L (.int x :: st) ws) : kb_J p l e R s m args below meth c nL V A k n Q pc L st ws :=
  fun H locs ls hP hD hS hl => lv_iload C.1.1 C.1.2.1 d (lv_at hl j hj) (K H locs ls hP hD hS hl)
theorem kj_istore_n {q : Fin 4} {i : Nat} {x : Int32} (C : kb_C p s m args meth c cc nL own w0 ret V A) (ks : List Nat) (d : decode cc pc = .ok (.istore_n q, 1)) (hi : (q : Nat) = i) (hn : i < nL) (hl2 : lv_pick ((i, Value.int x) :: L.filter (fun q => !(q.1 == i) && !(q.1 + 1 == i && q.2.category == 2))) ks = L2) (K : kb_J p l e R s m args below meth c nL V A k n Q (pc + 1) L2 st ws) : kb_J p l e R s m args below meth c nL V A k n Q pc L (.int x :: st) ws :=
  fun H locs ls hP hD hS hl => lv_istore_n C.1.1 C.1.2.1 d hi hl hn rfl (fun ls2 h2 => K H locs ls2 hP hD hS (lv_sub h2 ks hl2))
theorem kj_istore {i : Nat} {x : Int32} (C : kb_C p s m args meth c cc nL own w0 ret V A) (ks : List Nat) (d : decode cc pc = .ok (.istore i, 2)) (hn : i < nL) (hl2 : lv_pick ((i, Value.int x) :: L.filter (fun q => !(q.1 == i) && !(q.1 + 1 == i && q.2.category == 2))) ks = L2) (K : kb_J p l e R s m args below meth c nL V A k n Q (pc + 2) L2 st ws) : kb_J p l e R s m args below meth c nL V A k n Q pc L (.int x :: st) ws :=
  fun H locs ls hP hD hS hl => lv_istore C.1.1 C.1.2.1 d hl hn rfl (fun ls2 h2 => K H locs ls2 hP hD hS (lv_sub h2 ks hl2))
theorem kj_lload_n {q : Fin 4} {i : Nat} {x : Int64} (C : kb_C p s m args meth c cc nL own w0 ret V A) (j : Nat) (d : decode cc pc = .ok (.lload_n q, 1)) (hi : (q : Nat) = i) (hj : L[j]? = some (i, .long x)) (K : kb_J p l e R s m args below meth c nL V A k n Q (pc + 1) L (.long x :: st) ws) : kb_J p l e R s m args below meth c nL V A k n Q pc L st ws :=
  fun H locs ls hP hD hS hl => lv_lload_n C.1.1 C.1.2.1 d hi (lv_at hl j hj) (K H locs ls hP hD hS hl)
theorem kj_lload {i : Nat} {x : Int64} (C : kb_C p s m args meth c cc nL own w0 ret V A) (j : Nat) (d : decode cc pc = .ok (.lload i, 2)) (hj : L[j]? = some (i, .long x)) (K : kb_J p l e R s m args below meth c nL V A k n Q (pc + 2) L (.long x :: st) ws) : kb_J p l e R s m args below meth c nL V A k n Q pc L st ws :=
  fun H locs ls hP hD hS hl => lv_lload C.1.1 C.1.2.1 d (lv_at hl j hj) (K H locs ls hP hD hS hl)
theorem kj_lstore_n {q : Fin 4} {i : Nat} {x : Int64} (C : kb_C p s m args meth c cc nL own w0 ret V A) (ks : List Nat) (d : decode cc pc = .ok (.lstore_n q, 1)) (hi : (q : Nat) = i) (hn : i + 1 < nL) (hl2 : lv_pick ((i, Value.long x) :: L.filter (fun q => !(q.1 == i) && (!(q.1 == i + 1) && !(q.1 + 1 == i && q.2.category == 2)))) ks = L2) (K : kb_J p l e R s m args below meth c nL V A k n Q (pc + 1) L2 st ws) : kb_J p l e R s m args below meth c nL V A k n Q pc L (.long x :: st) ws :=
  fun H locs ls hP hD hS hl => lv_lstore_n C.1.1 C.1.2.1 d hi hl hn rfl (fun ls2 h2 => K H locs ls2 hP hD hS (lv_sub h2 ks hl2))
theorem kj_lstore {i : Nat} {x : Int64} (C : kb_C p s m args meth c cc nL own w0 ret V A) (ks : List Nat) (d : decode cc pc = .ok (.lstore i, 2)) (hn : i + 1 < nL) (hl2 : lv_pick ((i, Value.long x) :: L.filter (fun q => !(q.1 == i) && (!(q.1 == i + 1) && !(q.1 + 1 == i && q.2.category == 2)))) ks = L2) (K : kb_J p l e R s m args below meth c nL V A k n Q (pc + 2) L2 st ws) : kb_J p l e R s m args below meth c nL V A k n Q pc L (.long x :: st) ws :=
  fun H locs ls hP hD hS hl => lv_lstore C.1.1 C.1.2.1 d hl hn rfl (fun ls2 h2 => K H locs ls2 hP hD hS (lv_sub h2 ks hl2))
theorem kj_aload_n {q : Fin 4} {i : Nat} {x : Nat} (C : kb_C p s m args meth c cc nL own w0 ret V A) (j : Nat) (d : decode cc pc = .ok (.aload_n q, 1)) (hi : (q : Nat) = i) (hj : L[j]? = some (i, .ref x)) (K : kb_J p l e R s m args below meth c nL V A k n Q (pc + 1) L (.ref x :: st) ws) : kb_J p l e R s m args below meth c nL V A k n Q pc L st ws :=
  fun H locs ls hP hD hS hl => lv_aload_n C.1.1 C.1.2.1 d hi (lv_at hl j hj) (K H locs ls hP hD hS hl)
theorem kj_aload {i : Nat} {x : Nat} (C : kb_C p s m args meth c cc nL own w0 ret V A) (j : Nat) (d : decode cc pc = .ok (.aload i, 2)) (hj : L[j]? = some (i, .ref x)) (K : kb_J p l e R s m args below meth c nL V A k n Q (pc + 2) L (.ref x :: st) ws) : kb_J p l e R s m args below meth c nL V A k n Q pc L st ws :=
  fun H locs ls hP hD hS hl => lv_aload C.1.1 C.1.2.1 d (lv_at hl j hj) (K H locs ls hP hD hS hl)
theorem kj_astore_n {q : Fin 4} {i : Nat} {x : Nat} (C : kb_C p s m args meth c cc nL own w0 ret V A) (ks : List Nat) (d : decode cc pc = .ok (.astore_n q, 1)) (hi : (q : Nat) = i) (hn : i < nL) (hl2 : lv_pick ((i, Value.ref x) :: L.filter (fun q => !(q.1 == i) && !(q.1 + 1 == i && q.2.category == 2))) ks = L2) (K : kb_J p l e R s m args below meth c nL V A k n Q (pc + 1) L2 st ws) : kb_J p l e R s m args below meth c nL V A k n Q pc L (.ref x :: st) ws :=
  fun H locs ls hP hD hS hl => lv_astore_n C.1.1 C.1.2.1 d hi hl hn rfl (fun ls2 h2 => K H locs ls2 hP hD hS (lv_sub h2 ks hl2))
theorem kj_astore {i : Nat} {x : Nat} (C : kb_C p s m args meth c cc nL own w0 ret V A) (ks : List Nat) (d : decode cc pc = .ok (.astore i, 2)) (hn : i < nL) (hl2 : lv_pick ((i, Value.ref x) :: L.filter (fun q => !(q.1 == i) && !(q.1 + 1 == i && q.2.category == 2))) ks = L2) (K : kb_J p l e R s m args below meth c nL V A k n Q (pc + 2) L2 st ws) : kb_J p l e R s m args below meth c nL V A k n Q pc L (.ref x :: st) ws :=
  fun H locs ls hP hD hS hl => lv_astore C.1.1 C.1.2.1 d hl hn rfl (fun ls2 h2 => K H locs ls2 hP hD hS (lv_sub h2 ks hl2))
theorem kj_iinc {i : Nat} {z : Int} {x v : Int32} (C : kb_C p s m args meth c cc nL own w0 ret V A) (j : Nat) (ks : List Nat) (d : decode cc pc = .ok (.iinc i z, 3)) (hj : L[j]? = some (i, .int x)) (hv : x + Int32.ofInt z = v) (hn : i < nL) (hl2 : lv_pick ((i, Value.int v) :: L.filter (fun q => !(q.1 == i) && !(q.1 + 1 == i && q.2.category == 2))) ks = L2) (K : kb_J p l e R s m args below meth c nL V A k n Q (pc + 3) L2 st ws) : kb_J p l e R s m args below meth c nL V A k n Q pc L st ws :=
  fun H locs ls hP hD hS hl => lv_iinc C.1.1 C.1.2.1 d hl hj hv hn rfl (fun ls2 h2 => K H locs ls2 hP hD hS (lv_sub h2 ks hl2))
theorem kj_iadd {x y : Int32} (C : kb_C p s m args meth c cc nL own w0 ret V A) (d : decode cc pc = .ok (.iadd, 1)) (K : kb_J p l e R s m args below meth c nL V A k n Q (pc + 1) L (.int (x + y) :: st) ws) : kb_J p l e R s m args below meth c nL V A k n Q pc L (.int y :: .int x :: st) ws :=
  fun H locs ls hP hD hS hl => lv_iadd C.1.1 C.1.2.1 d (K H locs ls hP hD hS hl)
theorem kj_isub {x y : Int32} (C : kb_C p s m args meth c cc nL own w0 ret V A) (d : decode cc pc = .ok (.isub, 1)) (K : kb_J p l e R s m args below meth c nL V A k n Q (pc + 1) L (.int (x - y) :: st) ws) : kb_J p l e R s m args below meth c nL V A k n Q pc L (.int y :: .int x :: st) ws :=
  fun H locs ls hP hD hS hl => lv_isub C.1.1 C.1.2.1 d (K H locs ls hP hD hS hl)
theorem kj_imul {x y : Int32} (C : kb_C p s m args meth c cc nL own w0 ret V A) (d : decode cc pc = .ok (.imul, 1)) (K : kb_J p l e R s m args below meth c nL V A k n Q (pc + 1) L (.int (x * y) :: st) ws) : kb_J p l e R s m args below meth c nL V A k n Q pc L (.int y :: .int x :: st) ws :=
  fun H locs ls hP hD hS hl => lv_imul C.1.1 C.1.2.1 d (K H locs ls hP hD hS hl)
theorem kj_iand {x y : Int32} (C : kb_C p s m args meth c cc nL own w0 ret V A) (d : decode cc pc = .ok (.iand, 1)) (K : kb_J p l e R s m args below meth c nL V A k n Q (pc + 1) L (.int (x &&& y) :: st) ws) : kb_J p l e R s m args below meth c nL V A k n Q pc L (.int y :: .int x :: st) ws :=
  fun H locs ls hP hD hS hl => lv_iand C.1.1 C.1.2.1 d (K H locs ls hP hD hS hl)
theorem kj_ior {x y : Int32} (C : kb_C p s m args meth c cc nL own w0 ret V A) (d : decode cc pc = .ok (.ior, 1)) (K : kb_J p l e R s m args below meth c nL V A k n Q (pc + 1) L (.int (x ||| y) :: st) ws) : kb_J p l e R s m args below meth c nL V A k n Q pc L (.int y :: .int x :: st) ws :=
  fun H locs ls hP hD hS hl => lv_ior C.1.1 C.1.2.1 d (K H locs ls hP hD hS hl)
theorem kj_ixor {x y : Int32} (C : kb_C p s m args meth c cc nL own w0 ret V A) (d : decode cc pc = .ok (.ixor, 1)) (K : kb_J p l e R s m args below meth c nL V A k n Q (pc + 1) L (.int (x ^^^ y) :: st) ws) : kb_J p l e R s m args below meth c nL V A k n Q pc L (.int y :: .int x :: st) ws :=
  fun H locs ls hP hD hS hl => lv_ixor C.1.1 C.1.2.1 d (K H locs ls hP hD hS hl)
theorem kj_ishl {x y : Int32} (C : kb_C p s m args meth c cc nL own w0 ret V A) (d : decode cc pc = .ok (.ishl, 1)) (K : kb_J p l e R s m args below meth c nL V A k n Q (pc + 1) L (.int (x <<< (y &&& 31)) :: st) ws) : kb_J p l e R s m args below meth c nL V A k n Q pc L (.int y :: .int x :: st) ws :=
  fun H locs ls hP hD hS hl => lv_ishl C.1.1 C.1.2.1 d (K H locs ls hP hD hS hl)
theorem kj_ishr {x y : Int32} (C : kb_C p s m args meth c cc nL own w0 ret V A) (d : decode cc pc = .ok (.ishr, 1)) (K : kb_J p l e R s m args below meth c nL V A k n Q (pc + 1) L (.int (x >>> (y &&& 31)) :: st) ws) : kb_J p l e R s m args below meth c nL V A k n Q pc L (.int y :: .int x :: st) ws :=
  fun H locs ls hP hD hS hl => lv_ishr C.1.1 C.1.2.1 d (K H locs ls hP hD hS hl)
theorem kj_idiv {x y : Int32} (C : kb_C p s m args meth c cc nL own w0 ret V A) (d : decode cc pc = .ok (.idiv, 1)) (hne : ¬ y = 0) (K : kb_J p l e R s m args below meth c nL V A k n Q (pc + 1) L (.int (x / y) :: st) ws) : kb_J p l e R s m args below meth c nL V A k n Q pc L (.int y :: .int x :: st) ws :=
  fun H locs ls hP hD hS hl => lv_idiv C.1.1 C.1.2.1 d hne (K H locs ls hP hD hS hl)
theorem kj_irem {x y : Int32} (C : kb_C p s m args meth c cc nL own w0 ret V A) (d : decode cc pc = .ok (.irem, 1)) (hne : ¬ y = 0) (K : kb_J p l e R s m args below meth c nL V A k n Q (pc + 1) L (.int (x - x / y * y) :: st) ws) : kb_J p l e R s m args below meth c nL V A k n Q pc L (.int y :: .int x :: st) ws :=
  fun H locs ls hP hD hS hl => lv_irem C.1.1 C.1.2.1 d hne (K H locs ls hP hD hS hl)
theorem kj_ineg {x : Int32} (C : kb_C p s m args meth c cc nL own w0 ret V A) (d : decode cc pc = .ok (.ineg, 1)) (K : kb_J p l e R s m args below meth c nL V A k n Q (pc + 1) L (.int (-x) :: st) ws) : kb_J p l e R s m args below meth c nL V A k n Q pc L (.int x :: st) ws :=
  fun H locs ls hP hD hS hl => lv_ineg C.1.1 C.1.2.1 d (K H locs ls hP hD hS hl)
theorem kj_ladd {x y : Int64} (C : kb_C p s m args meth c cc nL own w0 ret V A) (d : decode cc pc = .ok (.ladd, 1)) (K : kb_J p l e R s m args below meth c nL V A k n Q (pc + 1) L (.long (x + y) :: st) ws) : kb_J p l e R s m args below meth c nL V A k n Q pc L (.long y :: .long x :: st) ws :=
  fun H locs ls hP hD hS hl => lv_ladd C.1.1 C.1.2.1 d (K H locs ls hP hD hS hl)
theorem kj_lsub {x y : Int64} (C : kb_C p s m args meth c cc nL own w0 ret V A) (d : decode cc pc = .ok (.lsub, 1)) (K : kb_J p l e R s m args below meth c nL V A k n Q (pc + 1) L (.long (x - y) :: st) ws) : kb_J p l e R s m args below meth c nL V A k n Q pc L (.long y :: .long x :: st) ws :=
  fun H locs ls hP hD hS hl => lv_lsub C.1.1 C.1.2.1 d (K H locs ls hP hD hS hl)
theorem kj_lmul {x y : Int64} (C : kb_C p s m args meth c cc nL own w0 ret V A) (d : decode cc pc = .ok (.lmul, 1)) (K : kb_J p l e R s m args below meth c nL V A k n Q (pc + 1) L (.long (x * y) :: st) ws) : kb_J p l e R s m args below meth c nL V A k n Q pc L (.long y :: .long x :: st) ws :=
  fun H locs ls hP hD hS hl => lv_lmul C.1.1 C.1.2.1 d (K H locs ls hP hD hS hl)
theorem kj_land {x y : Int64} (C : kb_C p s m args meth c cc nL own w0 ret V A) (d : decode cc pc = .ok (.land, 1)) (K : kb_J p l e R s m args below meth c nL V A k n Q (pc + 1) L (.long (x &&& y) :: st) ws) : kb_J p l e R s m args below meth c nL V A k n Q pc L (.long y :: .long x :: st) ws :=
  fun H locs ls hP hD hS hl => lv_land C.1.1 C.1.2.1 d (K H locs ls hP hD hS hl)
theorem kj_lor {x y : Int64} (C : kb_C p s m args meth c cc nL own w0 ret V A) (d : decode cc pc = .ok (.lor, 1)) (K : kb_J p l e R s m args below meth c nL V A k n Q (pc + 1) L (.long (x ||| y) :: st) ws) : kb_J p l e R s m args below meth c nL V A k n Q pc L (.long y :: .long x :: st) ws :=
  fun H locs ls hP hD hS hl => lv_lor C.1.1 C.1.2.1 d (K H locs ls hP hD hS hl)
theorem kj_lxor {x y : Int64} (C : kb_C p s m args meth c cc nL own w0 ret V A) (d : decode cc pc = .ok (.lxor, 1)) (K : kb_J p l e R s m args below meth c nL V A k n Q (pc + 1) L (.long (x ^^^ y) :: st) ws) : kb_J p l e R s m args below meth c nL V A k n Q pc L (.long y :: .long x :: st) ws :=
  fun H locs ls hP hD hS hl => lv_lxor C.1.1 C.1.2.1 d (K H locs ls hP hD hS hl)
theorem kj_ldiv {x y : Int64} (C : kb_C p s m args meth c cc nL own w0 ret V A) (d : decode cc pc = .ok (.ldiv, 1)) (hne : ¬ y = 0) (K : kb_J p l e R s m args below meth c nL V A k n Q (pc + 1) L (.long (x / y) :: st) ws) : kb_J p l e R s m args below meth c nL V A k n Q pc L (.long y :: .long x :: st) ws :=
  fun H locs ls hP hD hS hl => lv_ldiv C.1.1 C.1.2.1 d hne (K H locs ls hP hD hS hl)
theorem kj_lrem {x y : Int64} (C : kb_C p s m args meth c cc nL own w0 ret V A) (d : decode cc pc = .ok (.lrem, 1)) (hne : ¬ y = 0) (K : kb_J p l e R s m args below meth c nL V A k n Q (pc + 1) L (.long (x - x / y * y) :: st) ws) : kb_J p l e R s m args below meth c nL V A k n Q pc L (.long y :: .long x :: st) ws :=
  fun H locs ls hP hD hS hl => lv_lrem C.1.1 C.1.2.1 d hne (K H locs ls hP hD hS hl)
theorem kj_lshl {x : Int64} {y : Int32} (C : kb_C p s m args meth c cc nL own w0 ret V A) (d : decode cc pc = .ok (.lshl, 1)) (K : kb_J p l e R s m args below meth c nL V A k n Q (pc + 1) L (.long (x <<< (y.toInt64 &&& 63)) :: st) ws) : kb_J p l e R s m args below meth c nL V A k n Q pc L (.int y :: .long x :: st) ws :=
  fun H locs ls hP hD hS hl => lv_lshl C.1.1 C.1.2.1 d rfl (K H locs ls hP hD hS hl)
theorem kj_lshr {x : Int64} {y : Int32} (C : kb_C p s m args meth c cc nL own w0 ret V A) (d : decode cc pc = .ok (.lshr, 1)) (K : kb_J p l e R s m args below meth c nL V A k n Q (pc + 1) L (.long (x >>> (y.toInt64 &&& 63)) :: st) ws) : kb_J p l e R s m args below meth c nL V A k n Q pc L (.int y :: .long x :: st) ws :=
  fun H locs ls hP hD hS hl => lv_lshr C.1.1 C.1.2.1 d rfl (K H locs ls hP hD hS hl)
theorem kj_lushr {x : Int64} {y : Int32} (C : kb_C p s m args meth c cc nL own w0 ret V A) (d : decode cc pc = .ok (.lushr, 1)) (K : kb_J p l e R s m args below meth c nL V A k n Q (pc + 1) L (.long ((x.toUInt64 >>> (y.toInt64.toUInt64 &&& Int64.toUInt64 63)).toInt64) :: st) ws) : kb_J p l e R s m args below meth c nL V A k n Q pc L (.int y :: .long x :: st) ws :=
  fun H locs ls hP hD hS hl => lv_lushr C.1.1 C.1.2.1 d rfl (K H locs ls hP hD hS hl)
theorem kj_lcmp {x y : Int64} (C : kb_C p s m args meth c cc nL own w0 ret V A) (d : decode cc pc = .ok (.lcmp, 1)) (K : kb_J p l e R s m args below meth c nL V A k n Q (pc + 1) L (.int (lg_cmp x y) :: st) ws) : kb_J p l e R s m args below meth c nL V A k n Q pc L (.long y :: .long x :: st) ws :=
  fun H locs ls hP hD hS hl => W.lcmp C.1.1 C.1.2.1 d (K H locs ls hP hD hS hl)
theorem kj_i2l {x : Int32} (C : kb_C p s m args meth c cc nL own w0 ret V A) (d : decode cc pc = .ok (.i2l, 1)) (K : kb_J p l e R s m args below meth c nL V A k n Q (pc + 1) L (.long x.toInt64 :: st) ws) : kb_J p l e R s m args below meth c nL V A k n Q pc L (.int x :: st) ws :=
  fun H locs ls hP hD hS hl => lv_i2l C.1.1 C.1.2.1 d rfl (K H locs ls hP hD hS hl)
theorem kj_l2i {x : Int64} (C : kb_C p s m args meth c cc nL own w0 ret V A) (d : decode cc pc = .ok (.l2i, 1)) (K : kb_J p l e R s m args below meth c nL V A k n Q (pc + 1) L (.int x.toInt32 :: st) ws) : kb_J p l e R s m args below meth c nL V A k n Q pc L (.long x :: st) ws :=
  fun H locs ls hP hD hS hl => lv_l2i C.1.1 C.1.2.1 d rfl (K H locs ls hP hD hS hl)
theorem kj_dup {v : Value} (C : kb_C p s m args meth c cc nL own w0 ret V A) (d : decode cc pc = .ok (.dup, 1)) (hv : v.category = 1) (K : kb_J p l e R s m args below meth c nL V A k n Q (pc + 1) L (v :: v :: st) ws) : kb_J p l e R s m args below meth c nL V A k n Q pc L (v :: st) ws :=
  fun H locs ls hP hD hS hl => lv_dup C.1.1 C.1.2.1 d hv (K H locs ls hP hD hS hl)
theorem kj_pop {v : Value} (C : kb_C p s m args meth c cc nL own w0 ret V A) (d : decode cc pc = .ok (.pop, 1)) (hv : v.category = 1) (K : kb_J p l e R s m args below meth c nL V A k n Q (pc + 1) L st ws) : kb_J p l e R s m args below meth c nL V A k n Q pc L (v :: st) ws :=
  fun H locs ls hP hD hS hl => lv_pop C.1.1 C.1.2.1 d hv (K H locs ls hP hD hS hl)
theorem kj_dup2 {v u : Value} (C : kb_C p s m args meth c cc nL own w0 ret V A) (d : decode cc pc = .ok (.dup2, 1)) (hv : v.category = 1) (hu : u.category = 1) (K : kb_J p l e R s m args below meth c nL V A k n Q (pc + 1) L (v :: u :: v :: u :: st) ws) : kb_J p l e R s m args below meth c nL V A k n Q pc L (v :: u :: st) ws :=
  fun H locs ls hP hD hS hl => lv_dup2_11 C.1.1 C.1.2.1 d hv hu (K H locs ls hP hD hS hl)
theorem kj_if_eq {x : Int32} {off : Int} (tgt : Nat) (C : kb_C p s m args meth c cc nL own w0 ret V A) (d : decode cc pc = .ok (.ifCond .eq off, 3)) (ht : (pc : Int) + off = (tgt : Int)) (kt : x = 0 → kb_J p l e R s m args below meth c nL V A k n Q tgt L st ws) (kf : ¬ x = 0 → kb_J p l e R s m args below meth c nL V A k n Q (pc + 3) L st ws) : kb_J p l e R s m args below meth c nL V A k n Q pc L (.int x :: st) ws :=
  fun H locs ls hP hD hS hl => lv_if_eq C.1.1 C.1.2.1 d ht (fun q => kt q H locs ls hP hD hS hl) (fun q => kf q H locs ls hP hD hS hl)
theorem kj_if_ne {x : Int32} {off : Int} (tgt : Nat) (C : kb_C p s m args meth c cc nL own w0 ret V A) (d : decode cc pc = .ok (.ifCond .ne off, 3)) (ht : (pc : Int) + off = (tgt : Int)) (kt : ¬ x = 0 → kb_J p l e R s m args below meth c nL V A k n Q tgt L st ws) (kf : x = 0 → kb_J p l e R s m args below meth c nL V A k n Q (pc + 3) L st ws) : kb_J p l e R s m args below meth c nL V A k n Q pc L (.int x :: st) ws :=
  fun H locs ls hP hD hS hl => lv_if_ne C.1.1 C.1.2.1 d ht (fun q => kt q H locs ls hP hD hS hl) (fun q => kf q H locs ls hP hD hS hl)
theorem kj_if_lt {x : Int32} {off : Int} (tgt : Nat) (C : kb_C p s m args meth c cc nL own w0 ret V A) (d : decode cc pc = .ok (.ifCond .lt off, 3)) (ht : (pc : Int) + off = (tgt : Int)) (kt : x < 0 → kb_J p l e R s m args below meth c nL V A k n Q tgt L st ws) (kf : ¬ x < 0 → kb_J p l e R s m args below meth c nL V A k n Q (pc + 3) L st ws) : kb_J p l e R s m args below meth c nL V A k n Q pc L (.int x :: st) ws :=
  fun H locs ls hP hD hS hl => lv_if_lt C.1.1 C.1.2.1 d ht (fun q => kt q H locs ls hP hD hS hl) (fun q => kf q H locs ls hP hD hS hl)
theorem kj_if_ge {x : Int32} {off : Int} (tgt : Nat) (C : kb_C p s m args meth c cc nL own w0 ret V A) (d : decode cc pc = .ok (.ifCond .ge off, 3)) (ht : (pc : Int) + off = (tgt : Int)) (kt : 0 ≤ x → kb_J p l e R s m args below meth c nL V A k n Q tgt L st ws) (kf : ¬ 0 ≤ x → kb_J p l e R s m args below meth c nL V A k n Q (pc + 3) L st ws) : kb_J p l e R s m args below meth c nL V A k n Q pc L (.int x :: st) ws :=
  fun H locs ls hP hD hS hl => lv_if_ge C.1.1 C.1.2.1 d ht (fun q => kt q H locs ls hP hD hS hl) (fun q => kf q H locs ls hP hD hS hl)
theorem kj_if_gt {x : Int32} {off : Int} (tgt : Nat) (C : kb_C p s m args meth c cc nL own w0 ret V A) (d : decode cc pc = .ok (.ifCond .gt off, 3)) (ht : (pc : Int) + off = (tgt : Int)) (kt : 0 < x → kb_J p l e R s m args below meth c nL V A k n Q tgt L st ws) (kf : ¬ 0 < x → kb_J p l e R s m args below meth c nL V A k n Q (pc + 3) L st ws) : kb_J p l e R s m args below meth c nL V A k n Q pc L (.int x :: st) ws :=
  fun H locs ls hP hD hS hl => lv_if_gt C.1.1 C.1.2.1 d ht (fun q => kt q H locs ls hP hD hS hl) (fun q => kf q H locs ls hP hD hS hl)
theorem kj_if_le {x : Int32} {off : Int} (tgt : Nat) (C : kb_C p s m args meth c cc nL own w0 ret V A) (d : decode cc pc = .ok (.ifCond .le off, 3)) (ht : (pc : Int) + off = (tgt : Int)) (kt : x ≤ 0 → kb_J p l e R s m args below meth c nL V A k n Q tgt L st ws) (kf : ¬ x ≤ 0 → kb_J p l e R s m args below meth c nL V A k n Q (pc + 3) L st ws) : kb_J p l e R s m args below meth c nL V A k n Q pc L (.int x :: st) ws :=
  fun H locs ls hP hD hS hl => lv_if_le C.1.1 C.1.2.1 d ht (fun q => kt q H locs ls hP hD hS hl) (fun q => kf q H locs ls hP hD hS hl)
theorem kj_icmp_eq {x y : Int32} {off : Int} (tgt : Nat) (C : kb_C p s m args meth c cc nL own w0 ret V A) (d : decode cc pc = .ok (.if_icmp .eq off, 3)) (ht : (pc : Int) + off = (tgt : Int)) (kt : x = y → kb_J p l e R s m args below meth c nL V A k n Q tgt L st ws) (kf : ¬ x = y → kb_J p l e R s m args below meth c nL V A k n Q (pc + 3) L st ws) : kb_J p l e R s m args below meth c nL V A k n Q pc L (.int y :: .int x :: st) ws :=
  fun H locs ls hP hD hS hl => lv_icmp_eq C.1.1 C.1.2.1 d ht (fun q => kt q H locs ls hP hD hS hl) (fun q => kf q H locs ls hP hD hS hl)
theorem kj_icmp_ne {x y : Int32} {off : Int} (tgt : Nat) (C : kb_C p s m args meth c cc nL own w0 ret V A) (d : decode cc pc = .ok (.if_icmp .ne off, 3)) (ht : (pc : Int) + off = (tgt : Int)) (kt : ¬ x = y → kb_J p l e R s m args below meth c nL V A k n Q tgt L st ws) (kf : x = y → kb_J p l e R s m args below meth c nL V A k n Q (pc + 3) L st ws) : kb_J p l e R s m args below meth c nL V A k n Q pc L (.int y :: .int x :: st) ws :=
  fun H locs ls hP hD hS hl => lv_icmp_ne C.1.1 C.1.2.1 d ht (fun q => kt q H locs ls hP hD hS hl) (fun q => kf q H locs ls hP hD hS hl)
theorem kj_icmp_lt {x y : Int32} {off : Int} (tgt : Nat) (C : kb_C p s m args meth c cc nL own w0 ret V A) (d : decode cc pc = .ok (.if_icmp .lt off, 3)) (ht : (pc : Int) + off = (tgt : Int)) (kt : x < y → kb_J p l e R s m args below meth c nL V A k n Q tgt L st ws) (kf : ¬ x < y → kb_J p l e R s m args below meth c nL V A k n Q (pc + 3) L st ws) : kb_J p l e R s m args below meth c nL V A k n Q pc L (.int y :: .int x :: st) ws :=
  fun H locs ls hP hD hS hl => lv_icmp_lt C.1.1 C.1.2.1 d ht (fun q => kt q H locs ls hP hD hS hl) (fun q => kf q H locs ls hP hD hS hl)
theorem kj_icmp_ge {x y : Int32} {off : Int} (tgt : Nat) (C : kb_C p s m args meth c cc nL own w0 ret V A) (d : decode cc pc = .ok (.if_icmp .ge off, 3)) (ht : (pc : Int) + off = (tgt : Int)) (kt : y ≤ x → kb_J p l e R s m args below meth c nL V A k n Q tgt L st ws) (kf : ¬ y ≤ x → kb_J p l e R s m args below meth c nL V A k n Q (pc + 3) L st ws) : kb_J p l e R s m args below meth c nL V A k n Q pc L (.int y :: .int x :: st) ws :=
  fun H locs ls hP hD hS hl => lv_icmp_ge C.1.1 C.1.2.1 d ht (fun q => kt q H locs ls hP hD hS hl) (fun q => kf q H locs ls hP hD hS hl)
theorem kj_icmp_gt {x y : Int32} {off : Int} (tgt : Nat) (C : kb_C p s m args meth c cc nL own w0 ret V A) (d : decode cc pc = .ok (.if_icmp .gt off, 3)) (ht : (pc : Int) + off = (tgt : Int)) (kt : y < x → kb_J p l e R s m args below meth c nL V A k n Q tgt L st ws) (kf : ¬ y < x → kb_J p l e R s m args below meth c nL V A k n Q (pc + 3) L st ws) : kb_J p l e R s m args below meth c nL V A k n Q pc L (.int y :: .int x :: st) ws :=
  fun H locs ls hP hD hS hl => lv_icmp_gt C.1.1 C.1.2.1 d ht (fun q => kt q H locs ls hP hD hS hl) (fun q => kf q H locs ls hP hD hS hl)
theorem kj_icmp_le {x y : Int32} {off : Int} (tgt : Nat) (C : kb_C p s m args meth c cc nL own w0 ret V A) (d : decode cc pc = .ok (.if_icmp .le off, 3)) (ht : (pc : Int) + off = (tgt : Int)) (kt : x ≤ y → kb_J p l e R s m args below meth c nL V A k n Q tgt L st ws) (kf : ¬ x ≤ y → kb_J p l e R s m args below meth c nL V A k n Q (pc + 3) L st ws) : kb_J p l e R s m args below meth c nL V A k n Q pc L (.int y :: .int x :: st) ws :=
  fun H locs ls hP hD hS hl => lv_icmp_le C.1.1 C.1.2.1 d ht (fun q => kt q H locs ls hP hD hS hl) (fun q => kf q H locs ls hP hD hS hl)
theorem kj_goto {off : Int} (tgt : Nat) (C : kb_C p s m args meth c cc nL own w0 ret V A) (d : decode cc pc = .ok (.goto off, 3)) (ht : (pc : Int) + off = (tgt : Int)) (K : kb_J p l e R s m args below meth c nL V A k n Q tgt L st ws) : kb_J p l e R s m args below meth c nL V A k n Q pc L st ws :=
  fun H locs ls hP hD hS hl => lv_goto C.1.1 C.1.2.1 d ht (K H locs ls hP hD hS hl)
theorem kj_tabOut {x : Int32} {df lo hi : Int} {offs : Array Int} {len : Nat} (tgt : Nat) (C : kb_C p s m args meth c cc nL own w0 ret V A) (d : decode cc pc = .ok (.tableswitch df lo hi offs, len)) (h : x.toInt < lo ∨ hi < x.toInt) (ht : (pc : Int) + df = (tgt : Int)) (K : kb_J p l e R s m args below meth c nL V A k n Q tgt L st ws) : kb_J p l e R s m args below meth c nL V A k n Q pc L (.int x :: st) ws :=
  fun H locs ls hP hD hS hl => lv_tableOut C.1.1 C.1.2.1 d h ht (K H locs ls hP hD hS hl)
theorem kj_tabIn {x : Int32} {df lo hi off : Int} {offs : Array Int} {len : Nat} (tgt : Nat) (C : kb_C p s m args meth c cc nL own w0 ret V A) (d : decode cc pc = .ok (.tableswitch df lo hi offs, len)) (h1 : ¬ x.toInt < lo) (h2 : ¬ hi < x.toInt) (ho : offs[(x.toInt - lo).toNat]? = some off) (ht : (pc : Int) + off = (tgt : Int)) (K : kb_J p l e R s m args below meth c nL V A k n Q tgt L st ws) : kb_J p l e R s m args below meth c nL V A k n Q pc L (.int x :: st) ws :=
  fun H locs ls hP hD hS hl => lv_tableIn C.1.1 C.1.2.1 d h1 h2 ho ht (K H locs ls hP hD hS hl)
theorem kj_lookup {x : Int32} {df off : Int} {ps : Array (Int × Int)} {len : Nat} (tgt : Nat) (C : kb_C p s m args meth c cc nL own w0 ret V A) (d : decode cc pc = .ok (.lookupswitch df ps, len)) (hp : (ps.toList.zip (ps.toList.drop 1)).all (fun (a, next) => a.1 < next.1) = true) (ho : Op.lookupswitch.offset ps.toList df x.toInt = off) (ht : (pc : Int) + off = (tgt : Int)) (K : kb_J p l e R s m args below meth c nL V A k n Q tgt L st ws) : kb_J p l e R s m args below meth c nL V A k n Q pc L (.int x :: st) ws :=
  fun H locs ls hP hD hS hl => lv_lookup C.1.1 C.1.2.1 d hp ho ht (K H locs ls hP hD hS hl)
/-- a field is read -/
theorem kj_get {C0 ref : String} {T0 : u_T} {N ci index a : Nat} {fs : List Value} {v : Value} (C : kb_C p s m args meth c cc nL own w0 ret V A) (hin : ∀ w ∈ u_ws C0 T0 N, w ∈ kb_TB) (q0 : Nat) (he : ws[q0]? = some (a, .inr (ci, fs))) (hc : vwCl[ci]? = some (C0, T0, N)) (f : Nat) (hk : f < N) (hlink : Cond.fieldLink own index ref (T0 f).2.1 (T0 f).2.2.1 ∈ kb_TB) (hsame : (T0 f).1 = ref) (hv : fs[f]? = some v) (d : decode cc pc = .ok (.getfield index, 3)) (K : kb_J p l e R s m args below meth c nL V A k n Q (pc + 3) L (v :: st) ws) : kb_J p l e R s m args below meth c nL V A k n Q pc L (.ref a :: st) ws :=
  fun H locs ls hP hD hS hl => va_get C.1.1 C.1.2.1 C.1.2.2.2.2 (fun w h => List.mem_cons_of_mem _ (hin w h)) C.1.2.2.2.1 C.2.1.1 hP q0 he hc f hk (kb_w C hlink) (fun x hx => hsame ▸ hx) hv d (K H locs ls hP hD hS hl)
/-- a field is written -/
theorem kj_put {C0 ref : String} {T0 : u_T} {N ci index a : Nat} {fs : List Value} {v : Value} {ty : FieldType} (C : kb_C p s m args meth c cc nL own w0 ret V A) (hin : ∀ w ∈ u_ws C0 T0 N, w ∈ kb_TB) (ty0 : Nat → FieldType) (hty : ∀ f, f < N → parseFieldDescriptor (T0 f).2.2.1 = some (ty0 f)) (hnm : ∀ a, a < N → ∀ b, b < N → a ≠ b → (T0 a).2.1 ≠ (T0 b).2.1) (q0 : Nat) (he : ws[q0]? = some (a, .inr (ci, fs))) (hc : vwCl[ci]? = some (C0, T0, N)) (f : Nat) (hk : f < N) (hlink : Cond.fieldLink own index ref (T0 f).2.1 (T0 f).2.2.1 ∈ kb_TB) (hsame : (T0 f).1 = ref) (hfin : (T0 f).2.2.2 = false) (hd : parseFieldDescriptor (T0 f).2.2.1 = some ty) (hn : narrow ty v = v) (hfit : fits ty v = true) (hlen : f < fs.length) (hw2 : ws.set q0 (a, .inr (ci, fs.set f v)) = ws2) (d : decode cc pc = .ok (.putfield index, 3)) (K : kb_J p l e R s m args below meth c nL V A k n Q (pc + 3) L st ws2) : kb_J p l e R s m args below meth c nL V A k n Q pc L (v :: .ref a :: st) ws := by
  intro H locs ls hP hD hS hl
  subst hw2
  exact va_put C.1.1 C.1.2.1 C.1.2.2.2.2 (fun w h => List.mem_cons_of_mem _ (hin w h)) ty0 hty hnm C.1.2.2.2.1 C.2.1.1 hP hD hS q0 he hc f hk (kb_w C hlink) (fun x hx => hsame ▸ hx) hfin hd hn hfit hlen d (fun H1 locs1 hP1 hD1 hS1 => K H1 locs1 ls hP1 hD1 hS1 hl)
theorem kj_iald {a len : Nat} {f : Nat → Int32} {i : Int32} (C : kb_C p s m args meth c cc nL own w0 ret V A) (q0 : Nat) (he : ws[q0]? = some (a, .inl (V.2.1 0, len, .inl f))) (hin : vp_in i len) (d : decode cc pc = .ok (.iaload, 1)) (K : kb_J p l e R s m args below meth c nL V A k n Q (pc + 1) L (.int (f i.toNatClampNeg) :: st) ws) : kb_J p l e R s m args below meth c nL V A k n Q pc L (.int i :: .ref a :: st) ws :=
  fun H locs ls hP hD hS hl => va_iald C.1.1 C.1.2.1 C.2.1.1 hP q0 0 he rfl hin d (K H locs ls hP hD hS hl)
theorem kj_lald {a len : Nat} {f : Nat → Int64} {i : Int32} (C : kb_C p s m args meth c cc nL own w0 ret V A) (q0 : Nat) (he : ws[q0]? = some (a, .inl (V.2.1 1, len, .inr (.inl f)))) (hin : vp_in i len) (d : decode cc pc = .ok (.laload, 1)) (K : kb_J p l e R s m args below meth c nL V A k n Q (pc + 1) L (.long (f i.toNatClampNeg) :: st) ws) : kb_J p l e R s m args below meth c nL V A k n Q pc L (.int i :: .ref a :: st) ws :=
  fun H locs ls hP hD hS hl => va_lald C.1.1 C.1.2.1 C.2.1.1 hP q0 1 he rfl hin d (K H locs ls hP hD hS hl)
theorem kj_zald {a len : Nat} {f : Nat → Int32} {i : Int32} (C : kb_C p s m args meth c cc nL own w0 ret V A) (q0 : Nat) (he : ws[q0]? = some (a, .inl (V.2.1 2, len, .inl f))) (hin : vp_in i len) (d : decode cc pc = .ok (.baload, 1)) (K : kb_J p l e R s m args below meth c nL V A k n Q (pc + 1) L (.int (f i.toNatClampNeg) :: st) ws) : kb_J p l e R s m args below meth c nL V A k n Q pc L (.int i :: .ref a :: st) ws :=
  fun H locs ls hP hD hS hl => va_zald C.1.1 C.1.2.1 C.2.1.1 hP q0 2 he rfl hin d (K H locs ls hP hD hS hl)
theorem kj_iast {a len : Nat} {f : Nat → Int32} {i x : Int32} (C : kb_C p s m args meth c cc nL own w0 ret V A) (q0 : Nat) (he : ws[q0]? = some (a, .inl (V.2.1 0, len, .inl f))) (hin : vp_in i len) (hw2 : ws.set q0 (a, .inl (V.2.1 0, len, .inl (upd f i.toNatClampNeg x))) = ws2) (d : decode cc pc = .ok (.iastore, 1)) (K : kb_J p l e R s m args below meth c nL V A k n Q (pc + 1) L st ws2) : kb_J p l e R s m args below meth c nL V A k n Q pc L (.int x :: .int i :: .ref a :: st) ws := by
  intro H locs ls hP hD hS hl
  subst hw2
  exact va_iast C.1.1 C.1.2.1 C.2.1.1 hP hD hS q0 0 he rfl hin d (fun H1 locs1 hP1 hD1 hS1 => K H1 locs1 ls hP1 hD1 hS1 hl)
theorem kj_zast {a len : Nat} {f : Nat → Int32} {i x : Int32} (C : kb_C p s m args meth c cc nL own w0 ret V A) (q0 : Nat) (he : ws[q0]? = some (a, .inl (V.2.1 2, len, .inl f))) (hin : vp_in i len) (hw2 : ws.set q0 (a, .inl (V.2.1 2, len, .inl (upd f i.toNatClampNeg (vp_nar .boolean x)))) = ws2) (d : decode cc pc = .ok (.bastore, 1)) (K : kb_J p l e R s m args below meth c nL V A k n Q (pc + 1) L st ws2) : kb_J p l e R s m args below meth c nL V A k n Q pc L (.int x :: .int i :: .ref a :: st) ws := by
  intro H locs ls hP hD hS hl
  subst hw2
  exact va_zast C.1.1 C.1.2.1 C.2.1.1 hP hD hS q0 2 he rfl hin d (fun H1 locs1 hP1 hD1 hS1 => K H1 locs1 ls hP1 hD1 hS1 hl)
theorem kj_last {a len : Nat} {f : Nat → Int64} {i : Int32} {x : Int64} (C : kb_C p s m args meth c cc nL own w0 ret V A) (q0 : Nat) (he : ws[q0]? = some (a, .inl (V.2.1 1, len, .inr (.inl f)))) (hin : vp_in i len) (hw2 : ws.set q0 (a, .inl (V.2.1 1, len, .inr (.inl (vp_updL f i.toNatClampNeg x)))) = ws2) (d : decode cc pc = .ok (.lastore, 1)) (K : kb_J p l e R s m args below meth c nL V A k n Q (pc + 1) L st ws2) : kb_J p l e R s m args below meth c nL V A k n Q pc L (.long x :: .int i :: .ref a :: st) ws := by
  intro H locs ls hP hD hS hl
  subst hw2
  exact va_last C.1.1 C.1.2.1 C.2.1.1 hP hD hS q0 1 he rfl hin d (fun H1 locs1 hP1 hD1 hS1 => K H1 locs1 ls hP1 hD1 hS1 hl)
/-- a static row of ints is named, read, asked for its length -/
theorem kj_gets {C0 nm : String} {q len index : Nat} {f : Nat → Int32} (C : kb_C p s m args meth c cc nL own w0 ret V A) (hz : kb_z C0 nm q len f A s s.heap) (hlink : Cond.fieldLink own index C0 nm "[I" ∈ kb_TB) (d : decode cc pc = .ok (.getstatic index, 3)) (K : kb_J p l e R s m args below meth c nL V A k n Q (pc + 3) L (.ref q :: st) ws) : kb_J p l e R s m args below meth c nL V A k n Q pc L st ws :=
  fun H locs ls hP hD hS hl => va_gets C.1.1 C.1.2.1 hz.1 hS C.1.2.2.2.1 (kb_w C hlink) (fun x hx => hx) d (K H locs ls hP hD hS hl)
theorem kj_sld {C0 nm : String} {q len : Nat} {f : Nat → Int32} {i : Int32} (C : kb_C p s m args meth c cc nL own w0 ret V A) (hz : kb_z C0 nm q len f A s s.heap) (hin : vp_in i len) (d : decode cc pc = .ok (.iaload, 1)) (K : kb_J p l e R s m args below meth c nL V A k n Q (pc + 1) L (.int (f i.toNatClampNeg) :: st) ws) : kb_J p l e R s m args below meth c nL V A k n Q pc L (.int i :: .ref q :: st) ws :=
  fun H locs ls hP hD hS hl => va_sld C.1.1 C.1.2.1 hz.2.1 hz.2.2.1 hz.2.2.2 hS hin d (K H locs ls hP hD hS hl)
theorem kj_slen {C0 nm : String} {q len : Nat} {f : Nat → Int32} (C : kb_C p s m args meth c cc nL own w0 ret V A) (hz : kb_z C0 nm q len f A s s.heap) (d : decode cc pc = .ok (.arraylength, 1)) (K : kb_J p l e R s m args below meth c nL V A k n Q (pc + 1) L (.int (Int32.ofNat len) :: st) ws) : kb_J p l e R s m args below meth c nL V A k n Q pc L (.ref q :: st) ws :=
  fun H locs ls hP hD hS hl => va_slen C.1.1 C.1.2.1 hz.2.1 hz.2.2.1 hz.2.2.2 hS d (K H locs ls hP hD hS hl)

/-- a method's contract out of its body -/
theorem kb_start {y : MethodName} {rm : Room} {as : List Value} {W0 W1 : va_W} {o : Option Value} {mc ms : Nat} (hy : plainName y.cls = true) (ho : y.cls = own) (hn : (lg_sl as).length ≤ nL)
    (body : ∀ (p : Program) (e : Env) (s : State) (m : MethodId) (args : Array Value) (below : List Frame) (meth : Method) (c : Code), kb_C p s m args meth c cc nL own (Cond.code y cc nL ret) ret V A → kb_J p l e rm s m args below meth c nL V A 0 0 (MQ below (kb_post V A o W1) args s mc ms A) 0 (lv_args 0 as) [] W0) :
    kb_T l y cc nL ret rm V A as W0 o W1 mc ms := by
  refine Met.ofW (cc := cc) (maxL := nL) (ret := ret) hy rfl ?_
  intro p e s m args below meth c s₁ B hml hv
  obtain ⟨rfl, hE, hP, hD, hA⟩ := hv
  have hts := atoms_spec (ws := Cond.code y cc nL ret :: kb_TB) B.pre
  have hown : s.vm.findClass own = some m.cls := by rw [← ho]; exact findClass_of_methodNamed B.named
  have hl := lv_entry as (n := nL) hn
  rw [lg_entry_eq]
  exact body p e s m _ below meth c ⟨⟨B.exec, B.bytes, hml, hown, hts⟩, hE, hA, B.returns, B.notSynchronized⟩ s.heap [] _ hP hD va_S.rf hl

theorem kj_iret {v : Int32} (C : kb_C p s m args meth c cc nL own w0 (some .int) V A) (d : decode cc pc = .ok (.ireturn, 1)) : kb_J p l e R s m args below meth c nL V A k n (MQ below (kb_post V A (some (.int v)) ws) args s k n A) pc L [.int v] ws :=
  fun H locs ls hP hD hS hl => W.iret C.1.1 C.1.2.1 C.2.2.2.1 (fun t ht hW => ⟨rfl, by rw [ht]; exact hP, hD, hS.F ht⟩) hS.2.2 d C.2.2.2.2
theorem kj_zret {v : Int32} (C : kb_C p s m args meth c cc nL own w0 (some .boolean) V A) (hv : narrow .boolean (.int v) = .int v) (d : decode cc pc = .ok (.ireturn, 1)) : kb_J p l e R s m args below meth c nL V A k n (MQ below (kb_post V A (some (.int v)) ws) args s k n A) pc L [.int v] ws :=
  fun H locs ls hP hD hS hl => W.zret C.1.1 C.1.2.1 C.2.2.2.1 hv (fun t ht hW => ⟨rfl, by rw [ht]; exact hP, hD, hS.F ht⟩) hS.2.2 d C.2.2.2.2
theorem kj_lret {v : Int64} (C : kb_C p s m args meth c cc nL own w0 (some .long) V A) (d : decode cc pc = .ok (.lreturn, 1)) : kb_J p l e R s m args below meth c nL V A k n (MQ below (kb_post V A (some (.long v)) ws) args s k n A) pc L [.long v] ws :=
  fun H locs ls hP hD hS hl => W.lret C.1.1 C.1.2.1 C.2.2.2.1 (fun t ht hW => ⟨rfl, by rw [ht]; exact hP, hD, hS.F ht⟩) hS.2.2 d C.2.2.2.2
theorem kj_vret (C : kb_C p s m args meth c cc nL own w0 none V A) (d : decode cc pc = .ok (.return_, 1)) : kb_J p l e R s m args below meth c nL V A k n (MQ below (kb_post V A none ws) args s k n A) pc L [] ws :=
  fun H locs ls hP hD hS hl => W.vret C.1.1 C.1.2.1 C.2.2.2.1 (fun t ht hW => ⟨rfl, by rw [ht]; exact hP, hD, hS.F ht⟩) hS.2.2 d C.2.2.2.2
theorem kj_aret {v : Nat} {nm : String} (C : kb_C p s m args meth c cc nL own w0 (some (.object nm)) V A) (d : decode cc pc = .ok (.areturn, 1)) : kb_J p l e R s m args below meth c nL V A k n (MQ below (kb_post V A (some (.ref v)) ws) args s k n A) pc L [.ref v] ws :=
  fun H locs ls hP hD hS hl => W.aret C.1.1 C.1.2.1 C.2.2.2.1 (Or.inl ⟨_, rfl⟩) (Or.inr ⟨_, rfl⟩) (fun t ht hW => ⟨rfl, by rw [ht]; exact hP, hD, hS.F ht⟩) hS.2.2 d C.2.2.2.2
/-- behind a call whose contract is known -/
theorem kj_go {a9 : Array Value} {o9 : Option Value} {rest st0 : List Value} {mc ms : Nat} {H : Heap} {locs : List Loc} {ls : Array Slot} (hS : va_S A s.heap H locs) (hl : lv_has ls nL L)
    (hr : va_Run p l e R s m args below meth c H locs k n mc ms (F0 m pc ls st0) rest (kb_post V A o9 ws2 a9) A) (K : kb_J p l e R s m args below meth c nL V A (k + mc) (n + ms) Q (pc + 3) L (o9.toList ++ rest) ws2) : W p l e R s m args below meth c H locs k n Q (F0 m pc ls st0) := by
  intro T hT X
  obtain ⟨v, st₀, t, T', L9, h0, X', hL, e1, e2, ⟨hv, hp1, hd1, hz, hk⟩, go⟩ := hr T hT X
  cases hv
  rw [h0] at hz hk
  obtain ⟨t2, a1, b1⟩ := K T'.heap (locs ++ L9) ls (by rw [e1]; exact hp1) hd1
    ⟨Nat.le_trans hS.1 (by rw [e1]; exact hz), fun q h1 h2 => by rw [e1, hk q (Nat.lt_of_lt_of_le h1 hS.1) h2]; exact hS.2.1 q h1 h2, fun q hq => by
      rcases List.mem_append.mp hq with h | h
      · exact hS.2.2 q h
      · exact hL q h⟩ hl T' rfl X'
  exact ⟨t2, go t2 a1, b1⟩
theorem kb_preU (C : kb_C p s m args meth c cc nL own w0 ret V A) {H : Heap} {locs : List Loc} {as : List Value} (hP : va_P V.1 vwCl ws H) (hD : va_D A ws) (hS : va_S A s.heap H locs) : ∀ U : State, U.heap = H → s.WarmedH U.vm → va_Pc as (kb_pre V A ws) as.toArray U := fun U hU hW =>
  ⟨rfl, kb_E.mv hW (by rw [hU]; exact hS.1) (fun a h1 h2 => by rw [hU]; exact hS.2.1 a h1 h2) C.2.1, by rw [hU]; exact hP, hD, fun q h => C.2.2.1 q (Nat.le_trans hS.1 (by rw [← hU]; exact h))⟩
/-- a method of an object is called -/
theorem kj_callV {y : MethodName} {rm : Room} {as rest : List Value} {o9 : Option Value} {mc ms index maxL ci b : Nat} {bytes : ByteArray} {ret9 : Option FieldType} {C0 : String} {fs : List Value} {r0 : vw_C} (C : kb_C p s m args meth c cc nL own w0 ret V A) (hM : kb_T l y bytes maxL ret9 rm V A (.ref b :: as) ws o9 ws2 mc ms) (h1 : Cond.code y bytes maxL ret9 ∈ kb_TB) (h2 : Cond.methodLink own index y ∈ kb_TB) (h3 : Cond.instanceMethod y ∈ kb_TB) (h4 : Cond.selects C0 y y ∈ kb_TB) (h5 : Cond.initialized C0 ∈ kb_TB) (hrc : rm.cells = mc) (hrs : rm.slots = ms)
    (hd : y.cls = C0 ∧ y.cls ≠ "java/lang/invoke/MethodHandle" ∧ y.cls ≠ "java/lang/invoke/VarHandle" ∧ (parseMethodDescriptor y.desc).map (fun d => d.parameters.length) = some as.length) (hR : rm.frames + 1 ≤ R.frames ∧ 8 + (maxL + 11) + rm.locals ≤ R.locals) (q0 : Nat) (he : ws[q0]? = some (b, .inr (ci, fs))) (hc : vwCl[ci]? = some r0) (hr0 : r0.1 = C0) (hst : as.reverse ++ .ref b :: rest = st) (hroom : (rest.map fun v => v.category).sum ≤ 8) (hcs : k + mc ≤ R.cells ∧ n + ms ≤ R.slots) (d : decode cc pc = .ok (.invokevirtual index, 3))
    (K : kb_J p l e R s m args below meth c nL V A (k + mc) (n + ms) Q (pc + 3) L (o9.toList ++ rest) ws2) : kb_J p l e R s m args below meth c nL V A k n Q pc L st ws := by
  intro H locs ls hP hD hS hl
  subst hst
  subst hr0
  exact kj_go hS hl (va_runV C.1 hM (cwV as.length C.1.2.2.2.2 (kb_gV h1 h2 h3 h4 h5) rfl hrc hrs hd hR) ⟨kb_blind, va_recv C.2.1.1 hP hc he, kb_preU C hP hD hS⟩ rfl rfl hl.1 rfl (lv_room hroom) d hcs) K
/-- a static method is called -/
theorem kj_callS {y : MethodName} {rm : Room} {as rest : List Value} {o9 : Option Value} {mc ms index maxL : Nat} {bytes : ByteArray} {ret9 : Option FieldType} (C : kb_C p s m args meth c cc nL own w0 ret V A) (hM : kb_T l y bytes maxL ret9 rm V A as ws o9 ws2 mc ms) (h1 : Cond.code y bytes maxL ret9 ∈ kb_TB) (h2 : Cond.methodLink own index y ∈ kb_TB) (h3 : Cond.static y ∈ kb_TB) (h5 : Cond.initialized y.cls ∈ kb_TB) (hrc : rm.cells = mc) (hrs : rm.slots = ms)
    (hd : y.cls ≠ "java/lang/invoke/MethodHandle" ∧ y.cls ≠ "java/lang/invoke/VarHandle" ∧ (parseMethodDescriptor y.desc).map (fun d => d.parameters.length) = some as.length) (hR : rm.frames + 1 ≤ R.frames ∧ 8 + (maxL + 11) + rm.locals ≤ R.locals) (hst : as.reverse ++ rest = st) (hroom : (rest.map fun v => v.category).sum ≤ 8) (hcs : k + mc ≤ R.cells ∧ n + ms ≤ R.slots) (d : decode cc pc = .ok (.invokestatic index, 3))
    (K : kb_J p l e R s m args below meth c nL V A (k + mc) (n + ms) Q (pc + 3) L (o9.toList ++ rest) ws2) : kb_J p l e R s m args below meth c nL V A k n Q pc L st ws := by
  intro H locs ls hP hD hS hl
  subst hst
  exact kj_go hS hl (va_runS C.1 hM (va_cwS as.length C.1.2.2.2.2 (kb_gS h1 h2 h3 h5) rfl hrc hrs hd hR) ⟨kb_blind, kb_preU C hP hD hS⟩ rfl rfl hl.1 rfl (lv_room hroom) d hcs) K

theorem kj_callV0 {y : MethodName} {rm : Room} {as rest : List Value} {o9 : Option Value} {index maxL ci b : Nat} {bytes : ByteArray} {ret9 : Option FieldType} {C0 : String} {fs : List Value} {r0 : vw_C} (C : kb_C p s m args meth c cc nL own w0 ret V A) (hM : kb_T l y bytes maxL ret9 rm V A (.ref b :: as) ws o9 ws2 0 0) (h1 : Cond.code y bytes maxL ret9 ∈ kb_TB) (h2 : Cond.methodLink own index y ∈ kb_TB) (h3 : Cond.instanceMethod y ∈ kb_TB) (h4 : Cond.selects C0 y y ∈ kb_TB) (h5 : Cond.initialized C0 ∈ kb_TB) (hrc : rm.cells = 0) (hrs : rm.slots = 0)
    (hd : y.cls = C0 ∧ y.cls ≠ "java/lang/invoke/MethodHandle" ∧ y.cls ≠ "java/lang/invoke/VarHandle" ∧ (parseMethodDescriptor y.desc).map (fun d => d.parameters.length) = some as.length) (hR : rm.frames + 1 ≤ R.frames ∧ 8 + (maxL + 11) + rm.locals ≤ R.locals) (q0 : Nat) (he : ws[q0]? = some (b, .inr (ci, fs))) (hc : vwCl[ci]? = some r0) (hr0 : r0.1 = C0) (hst : as.reverse ++ .ref b :: rest = st) (hroom : (rest.map fun v => v.category).sum ≤ 8) (hcs : k ≤ R.cells ∧ n ≤ R.slots) (d : decode cc pc = .ok (.invokevirtual index, 3))
    (K : kb_J p l e R s m args below meth c nL V A k n Q (pc + 3) L (o9.toList ++ rest) ws2) : kb_J p l e R s m args below meth c nL V A k n Q pc L st ws := kj_callV C hM h1 h2 h3 h4 h5 hrc hrs hd hR q0 he hc hr0 hst hroom hcs d K
theorem kj_callS0 {y : MethodName} {rm : Room} {as rest : List Value} {o9 : Option Value} {index maxL : Nat} {bytes : ByteArray} {ret9 : Option FieldType} (C : kb_C p s m args meth c cc nL own w0 ret V A) (hM : kb_T l y bytes maxL ret9 rm V A as ws o9 ws2 0 0) (h1 : Cond.code y bytes maxL ret9 ∈ kb_TB) (h2 : Cond.methodLink own index y ∈ kb_TB) (h3 : Cond.static y ∈ kb_TB) (h5 : Cond.initialized y.cls ∈ kb_TB) (hrc : rm.cells = 0) (hrs : rm.slots = 0)
    (hd : y.cls ≠ "java/lang/invoke/MethodHandle" ∧ y.cls ≠ "java/lang/invoke/VarHandle" ∧ (parseMethodDescriptor y.desc).map (fun d => d.parameters.length) = some as.length) (hR : rm.frames + 1 ≤ R.frames ∧ 8 + (maxL + 11) + rm.locals ≤ R.locals) (hst : as.reverse ++ rest = st) (hroom : (rest.map fun v => v.category).sum ≤ 8) (hcs : k ≤ R.cells ∧ n ≤ R.slots) (d : decode cc pc = .ok (.invokestatic index, 3))
    (K : kb_J p l e R s m args below meth c nL V A k n Q (pc + 3) L (o9.toList ++ rest) ws2) : kb_J p l e R s m args below meth c nL V A k n Q pc L st ws := kj_callS C hM h1 h2 h3 h5 hrc hrs hd hR hst hroom hcs d K

theorem kj_mmax {index : Nat} {x y : Int32} (C : kb_C p s m args meth c cc nL own w0 ret V A) (hlink : Cond.methodLink own index Lib.Math.max.name ∈ kb_TB) (hstat : Cond.static Lib.Math.max.name ∈ kb_TB) (hini : Cond.initialized "java/lang/Math" ∈ kb_TB) (hcode : Cond.code Lib.Math.max.name Lib.Math.max.code 2 (some .int) ∈ kb_TB) (hfr : 1 ≤ R.frames) (hlo : (st.map fun v => v.category).sum + 13 ≤ R.locals) (hcs : k ≤ R.cells ∧ n ≤ R.slots) (d : decode cc pc = .ok (.invokestatic index, 3)) (K : kb_J p l e R s m args below meth c nL V A k n Q (pc + 3) L (.int (if x < y then y else x) :: st) ws) : kb_J p l e R s m args below meth c nL V A k n Q pc L (.int y :: .int x :: st) ws :=
  fun H locs ls hP hD hS hl => va_mmax C.1.1 C.1.2.1 (C.1.2.2.1.trans hl.1.symm) C.1.2.2.2.1 (kb_w C hlink) (kb_w C hstat) (kb_w C hini) (kb_w C hcode) hfr hlo hcs.1 hcs.2 d (K H locs ls hP hD hS hl)
theorem kj_mmin {index : Nat} {x y : Int32} (C : kb_C p s m args meth c cc nL own w0 ret V A) (hlink : Cond.methodLink own index Lib.Math.min.name ∈ kb_TB) (hstat : Cond.static Lib.Math.min.name ∈ kb_TB) (hini : Cond.initialized "java/lang/Math" ∈ kb_TB) (hcode : Cond.code Lib.Math.min.name Lib.Math.min.code 2 (some .int) ∈ kb_TB) (hfr : 1 ≤ R.frames) (hlo : (st.map fun v => v.category).sum + 13 ≤ R.locals) (hcs : k ≤ R.cells ∧ n ≤ R.slots) (d : decode cc pc = .ok (.invokestatic index, 3)) (K : kb_J p l e R s m args below meth c nL V A k n Q (pc + 3) L (.int (if y < x then y else x) :: st) ws) : kb_J p l e R s m args below meth c nL V A k n Q pc L (.int y :: .int x :: st) ws :=
  fun H locs ls hP hD hS hl => va_mmin C.1.1 C.1.2.1 (C.1.2.2.1.trans hl.1.symm) C.1.2.2.2.1 (kb_w C hlink) (kb_w C hstat) (kb_w C hini) (kb_w C hcode) hfr hlo hcs.1 hcs.2 d (K H locs ls hP hD hS hl)
end KBR
