/-! worlds and fields, printed by wip/gen/ext.py -/
def kb_in (i : Int32) (n : Nat) : Bool := decide (0 ≤ i.toInt ∧ i.toInt < n)
theorem kb_inv {i : Int32} {n : Nat} (h : kb_in i n = true) : vp_in i n := vp_in_iff.mpr (of_decide_eq_true h)
theorem kb_ift {α : Type} {c : Prop} [Decidable c] {x y z : α} (h : (if c then x else y) = z) (hc : c) : x = z := by rw [if_pos hc] at h; exact h
theorem kb_ife {α : Type} {c : Prop} [Decidable c] {x y z : α} (h : (if c then x else y) = z) (hc : ¬ c) : y = z := by rw [if_neg hc] at h; exact h
theorem kb_gd {α : Type} {c : Prop} [Decidable c] {x : Option α} {z : α} (h : (if c then x else none) = some z) : c ∧ x = some z := by
  by_cases hc : c
  · rw [if_pos hc] at h; exact ⟨hc, h⟩
  · rw [if_neg hc] at h; cases h
theorem kb_bd {α β : Type} {x : Option α} {f : α → Option β} {z : β} (h : x.bind f = some z) : ∃ q, x = some q ∧ f q = some z := by
  cases x with
  | none => cases h
  | some q => exact ⟨q, rfl, h⟩
theorem kb_out {x : Int32} {lo hi : Int} (h : ∀ z : Int, lo ≤ z → z ≤ hi → ¬ x = Int32.ofInt z) : x.toInt < lo ∨ hi < x.toInt := by
  rcases Int.lt_or_le x.toInt lo with h1 | h1
  · exact Or.inl h1
  · rcases Int.lt_or_le hi x.toInt with h2 | h2
    · exact Or.inr h2
    · exact absurd (Int32.ofInt_toInt x).symm (h x.toInt h1 h2)
theorem kb_neI {x y : Int32} (h : ¬ x = y) : ¬ x.toInt = y.toInt := fun q => h (Int32.toInt_inj.mp q)
theorem kb_no {α : Type} {z : α} (h : (none : Option α) = some z) {P : Prop} : P := nomatch h
def kb_FU : Nat := 1000000000
def kb_W (V : kb_V) (a : Nat → Nat) (σ : kb_S) (sh : Value) (ex : va_W) : va_W := (a 0, .inr (6, [.ref (a 1), .ref (a 2), .ref (a 3), .ref (a 4), sh])) :: (a 1, .inr (5, [.ref (a 6), .int (kb_g σ 0)])) :: (a 2, .inr (0, [.ref (a 7), .ref (a 8), .ref (a 9), .ref (a 10), .ref (a 11), .int (kb_g σ 1), .int (kb_g σ 2), .int (kb_g σ 3), .int (kb_g σ 4), .int (kb_g σ 5), .int (kb_g σ 6), .int (kb_g σ 7), .int (kb_g σ 8)])) :: (a 3, .inr (3, [.ref (a 1), .ref (a 5), .ref (a 12), .ref (a 13), .int (kb_g σ 9), .int (kb_g σ 10), .int (kb_g σ 11), .int (kb_g σ 12), .int (kb_g σ 13)])) :: (a 4, .inr (1, [.ref (a 5), .ref (a 2), .ref (a 14), .int (kb_g σ 14), .int (kb_g σ 15)])) :: (a 5, .inr (2, [.ref (a 15), .ref (a 16), .ref (a 17), .ref (a 18), .ref (a 19), .int (kb_g σ 16)])) :: (a 6, .inl (V.2.1 0, 200, .inl (kb_a σ 0))) :: (a 7, .inl (V.2.1 0, 32, .inl (kb_a σ 1))) :: (a 8, .inl (V.2.1 0, 32, .inl (kb_a σ 2))) :: (a 9, .inl (V.2.1 0, 1200, .inl (kb_a σ 3))) :: (a 10, .inl (V.2.1 0, 600, .inl (kb_a σ 4))) :: (a 11, .inl (V.2.1 0, 600, .inl (kb_a σ 5))) :: (a 12, .inl (V.2.1 0, 5, .inl (kb_a σ 6))) :: (a 13, .inl (V.2.1 1, 5, .inr (.inl (kb_b σ 0)))) :: (a 14, .inl (V.2.1 1, 5, .inr (.inl (kb_b σ 1)))) :: (a 15, .inl (V.2.1 0, 200, .inl (kb_a σ 7))) :: (a 16, .inl (V.2.1 0, 200, .inl (kb_a σ 8))) :: (a 17, .inl (V.2.1 0, 200, .inl (kb_a σ 9))) :: (a 18, .inl (V.2.1 0, 200, .inl (kb_a σ 10))) :: (a 19, .inl (V.2.1 1, 200, .inr (.inl (kb_b σ 2)))) :: ex
def kb_WS (V : kb_V) (b : Nat → Nat) (τ : kb_S) (ex : va_W) : va_W := (b 0, .inr (4, [.ref (b 1), .ref (b 2), .ref (b 3), .ref (b 4), .int (kb_g τ 0), .int (kb_g τ 1)])) :: (b 1, .inl (V.2.1 0, 5680, .inl (kb_a τ 0))) :: (b 2, .inl (V.2.1 0, 3200, .inl (kb_a τ 1))) :: (b 3, .inl (V.2.1 0, 80, .inl (kb_a τ 2))) :: (b 4, .inl (V.2.1 0, 480, .inl (kb_a τ 3))) :: ex
def kb_WM (V : kb_V) (d : Nat → Nat) (μ : kb_S) (ex : va_W) : va_W := (d 0, .inr (7, [.int (kb_g μ 0), .int (kb_g μ 1), .ref (d 1), .int (kb_g μ 2), .int (kb_g μ 3), .ref (d 2), .ref (d 3), .ref (d 4), .ref (d 5), .ref (d 6), .int (kb_g μ 4), .ref (d 7), .ref (d 8), .ref (d 9), .int (kb_g μ 5), .int (kb_g μ 6), .int (kb_g μ 7), .int (kb_g μ 8), .int (kb_g μ 9), .ref (d 10), .ref (d 11), .ref (d 12), .ref (d 13), .int (kb_g μ 10), .ref (d 14), .int (kb_g μ 11), .ref (d 15), .ref (d 16), .ref (d 17), .ref (d 18), .ref (d 19), .ref (d 20)])) :: (d 1, .inl (V.2.1 0, 200, .inl (kb_a μ 0))) :: (d 2, .inl (V.2.1 0, 600, .inl (kb_a μ 1))) :: (d 3, .inl (V.2.1 0, 600, .inl (kb_a μ 2))) :: (d 4, .inl (V.2.1 2, 600, .inl (kb_a μ 3))) :: (d 5, .inl (V.2.1 0, 600, .inl (kb_a μ 4))) :: (d 6, .inl (V.2.1 0, 1800, .inl (kb_a μ 5))) :: (d 7, .inl (V.2.1 0, 32, .inl (kb_a μ 6))) :: (d 8, .inl (V.2.1 0, 31, .inl (kb_a μ 7))) :: (d 9, .inl (V.2.1 0, 2480, .inl (kb_a μ 8))) :: (d 10, .inl (V.2.1 0, 220, .inl (kb_a μ 9))) :: (d 11, .inl (V.2.1 0, 220, .inl (kb_a μ 10))) :: (d 12, .inl (V.2.1 0, 220, .inl (kb_a μ 11))) :: (d 13, .inl (V.2.1 0, 220, .inl (kb_a μ 12))) :: (d 14, .inl (V.2.1 0, 700, .inl (kb_a μ 13))) :: (d 15, .inl (V.2.1 0, 1200, .inl (kb_a μ 14))) :: (d 16, .inl (V.2.1 0, 32400, .inl (kb_a μ 15))) :: (d 17, .inl (V.2.1 0, 32400, .inl (kb_a μ 16))) :: (d 18, .inl (V.2.1 0, 5, .inl (kb_a μ 17))) :: (d 19, .inl (V.2.1 0, 220, .inl (kb_a μ 18))) :: (d 20, .inl (V.2.1 0, 800, .inl (kb_a μ 19))) :: ex
section KBFK
variable {p : Program} {l : Launch} {e : Env} {R : Room} {s : State} {m : MethodId} {args : Array Value} {below : List Frame} {meth : Method} {c : Code} {k n : Nat} {Q : State → Prop} {cc : ByteArray} {nL : Nat} {own : String} {w0 : Cond} {ret : Option FieldType} {V : kb_V} {A : Nat → Prop} {pc : Nat} {L : List (Nat × Value)} {st : List Value} {a : Nat → Nat} {σ : kb_S} {sh : Value} {ex : va_W} {index : Nat}
theorem kg_X8_tape (C : kb_C p s m args meth c cc nL own w0 ret V A)  (hl : Cond.fieldLink own index "KnitBench" "tape" "LKnitBench$Tape;" ∈ kb_TB) (dg : decode cc pc = .ok (.getfield index, 3)) (K : kb_J p l e R s m args below meth c nL V A k n Q (pc + 3) L (.ref (a 1) :: st) (kb_W V a σ sh ex)) : kb_J p l e R s m args below meth c nL V A k n Q pc L (.ref (a 0) :: st) (kb_W V a σ sh ex) :=
  kj_get C hi_X8 0 rfl rfl 0 (by decide) hl rfl rfl dg K
theorem kg_X8_fabric (C : kb_C p s m args meth c cc nL own w0 ret V A)  (hl : Cond.fieldLink own index "KnitBench" "fabric" "LKnitBench$Fabric;" ∈ kb_TB) (dg : decode cc pc = .ok (.getfield index, 3)) (K : kb_J p l e R s m args below meth c nL V A k n Q (pc + 3) L (.ref (a 2) :: st) (kb_W V a σ sh ex)) : kb_J p l e R s m args below meth c nL V A k n Q pc L (.ref (a 0) :: st) (kb_W V a σ sh ex) :=
  kj_get C hi_X8 0 rfl rfl 1 (by decide) hl rfl rfl dg K
theorem kg_X8_reader (C : kb_C p s m args meth c cc nL own w0 ret V A)  (hl : Cond.fieldLink own index "KnitBench" "reader" "LKnitBench$RowReader;" ∈ kb_TB) (dg : decode cc pc = .ok (.getfield index, 3)) (K : kb_J p l e R s m args below meth c nL V A k n Q (pc + 3) L (.ref (a 3) :: st) (kb_W V a σ sh ex)) : kb_J p l e R s m args below meth c nL V A k n Q pc L (.ref (a 0) :: st) (kb_W V a σ sh ex) :=
  kj_get C hi_X8 0 rfl rfl 2 (by decide) hl rfl rfl dg K
theorem kg_X8_knitter (C : kb_C p s m args meth c cc nL own w0 ret V A)  (hl : Cond.fieldLink own index "KnitBench" "knitter" "LKnitBench$Knitter;" ∈ kb_TB) (dg : decode cc pc = .ok (.getfield index, 3)) (K : kb_J p l e R s m args below meth c nL V A k n Q (pc + 3) L (.ref (a 4) :: st) (kb_W V a σ sh ex)) : kb_J p l e R s m args below meth c nL V A k n Q pc L (.ref (a 0) :: st) (kb_W V a σ sh ex) :=
  kj_get C hi_X8 0 rfl rfl 3 (by decide) hl rfl rfl dg K
theorem kg_X8_shortest (C : kb_C p s m args meth c cc nL own w0 ret V A)  (hl : Cond.fieldLink own index "KnitBench" "shortest" "LKnitBench$Shortest;" ∈ kb_TB) (dg : decode cc pc = .ok (.getfield index, 3)) (K : kb_J p l e R s m args below meth c nL V A k n Q (pc + 3) L (sh :: st) (kb_W V a σ sh ex)) : kb_J p l e R s m args below meth c nL V A k n Q pc L (.ref (a 0) :: st) (kb_W V a σ sh ex) :=
  kj_get C hi_X8 0 rfl rfl 4 (by decide) hl rfl rfl dg K
theorem kg_X7_bytes (C : kb_C p s m args meth c cc nL own w0 ret V A)  (hl : Cond.fieldLink own index "KnitBench$Tape" "bytes" "[I" ∈ kb_TB) (dg : decode cc pc = .ok (.getfield index, 3)) (K : kb_J p l e R s m args below meth c nL V A k n Q (pc + 3) L (.ref (a 6) :: st) (kb_W V a σ sh ex)) : kb_J p l e R s m args below meth c nL V A k n Q pc L (.ref (a 1) :: st) (kb_W V a σ sh ex) :=
  kj_get C hi_X7 1 rfl rfl 0 (by decide) hl rfl rfl dg K
theorem kg_X7_length {v : Int32} (C : kb_C p s m args meth c cc nL own w0 ret V A)  (hl : Cond.fieldLink own index "KnitBench$Tape" "length" "I" ∈ kb_TB) (dg : decode cc pc = .ok (.getfield index, 3)) (hv : kb_g σ 0 = v) (K : kb_J p l e R s m args below meth c nL V A k n Q (pc + 3) L (.int v :: st) (kb_W V a σ sh ex)) : kb_J p l e R s m args below meth c nL V A k n Q pc L (.ref (a 1) :: st) (kb_W V a σ sh ex) := by
  subst hv
  exact kj_get C hi_X7 1 rfl rfl 1 (by decide) hl rfl rfl dg K
theorem kp_X7_length {v : Int32} (C : kb_C p s m args meth c cc nL own w0 ret V A)  (hl : Cond.fieldLink own index "KnitBench$Tape" "length" "I" ∈ kb_TB) (dg : decode cc pc = .ok (.putfield index, 3)) (K : kb_J p l e R s m args below meth c nL V A k n Q (pc + 3) L st (kb_W V a (kb_p σ 0 v) sh ex)) : kb_J p l e R s m args below meth c nL V A k n Q pc L (.int v :: .ref (a 1) :: st) (kb_W V a σ sh ex) :=
  kj_put C hi_X7 tyX7 tyX7_ok nmX7 1 rfl rfl 1 (by decide) hl rfl rfl rfl rfl rfl (by simp) rfl dg K
theorem kg_X0_firstLoops (C : kb_C p s m args meth c cc nL own w0 ret V A)  (hl : Cond.fieldLink own index "KnitBench$Fabric" "firstLoops" "[I" ∈ kb_TB) (dg : decode cc pc = .ok (.getfield index, 3)) (K : kb_J p l e R s m args below meth c nL V A k n Q (pc + 3) L (.ref (a 7) :: st) (kb_W V a σ sh ex)) : kb_J p l e R s m args below meth c nL V A k n Q pc L (.ref (a 2) :: st) (kb_W V a σ sh ex) :=
  kj_get C hi_X0 2 rfl rfl 0 (by decide) hl rfl rfl dg K
theorem kg_X0_firstStitches (C : kb_C p s m args meth c cc nL own w0 ret V A)  (hl : Cond.fieldLink own index "KnitBench$Fabric" "firstStitches" "[I" ∈ kb_TB) (dg : decode cc pc = .ok (.getfield index, 3)) (K : kb_J p l e R s m args below meth c nL V A k n Q (pc + 3) L (.ref (a 8) :: st) (kb_W V a σ sh ex)) : kb_J p l e R s m args below meth c nL V A k n Q pc L (.ref (a 2) :: st) (kb_W V a σ sh ex) :=
  kj_get C hi_X0 2 rfl rfl 1 (by decide) hl rfl rfl dg K
theorem kg_X0_stitches (C : kb_C p s m args meth c cc nL own w0 ret V A)  (hl : Cond.fieldLink own index "KnitBench$Fabric" "stitches" "[I" ∈ kb_TB) (dg : decode cc pc = .ok (.getfield index, 3)) (K : kb_J p l e R s m args below meth c nL V A k n Q (pc + 3) L (.ref (a 9) :: st) (kb_W V a σ sh ex)) : kb_J p l e R s m args below meth c nL V A k n Q pc L (.ref (a 2) :: st) (kb_W V a σ sh ex) :=
  kj_get C hi_X0 2 rfl rfl 2 (by decide) hl rfl rfl dg K
theorem kg_X0_parentCounts (C : kb_C p s m args meth c cc nL own w0 ret V A)  (hl : Cond.fieldLink own index "KnitBench$Fabric" "parentCounts" "[I" ∈ kb_TB) (dg : decode cc pc = .ok (.getfield index, 3)) (K : kb_J p l e R s m args below meth c nL V A k n Q (pc + 3) L (.ref (a 10) :: st) (kb_W V a σ sh ex)) : kb_J p l e R s m args below meth c nL V A k n Q pc L (.ref (a 2) :: st) (kb_W V a σ sh ex) :=
  kj_get C hi_X0 2 rfl rfl 3 (by decide) hl rfl rfl dg K
theorem kg_X0_firstParents (C : kb_C p s m args meth c cc nL own w0 ret V A)  (hl : Cond.fieldLink own index "KnitBench$Fabric" "firstParents" "[I" ∈ kb_TB) (dg : decode cc pc = .ok (.getfield index, 3)) (K : kb_J p l e R s m args below meth c nL V A k n Q (pc + 3) L (.ref (a 11) :: st) (kb_W V a σ sh ex)) : kb_J p l e R s m args below meth c nL V A k n Q pc L (.ref (a 2) :: st) (kb_W V a σ sh ex) :=
  kj_get C hi_X0 2 rfl rfl 4 (by decide) hl rfl rfl dg K
theorem kg_X0_round {v : Int32} (C : kb_C p s m args meth c cc nL own w0 ret V A)  (hl : Cond.fieldLink own index "KnitBench$Fabric" "round" "Z" ∈ kb_TB) (dg : decode cc pc = .ok (.getfield index, 3)) (hv : kb_g σ 1 = v) (K : kb_J p l e R s m args below meth c nL V A k n Q (pc + 3) L (.int v :: st) (kb_W V a σ sh ex)) : kb_J p l e R s m args below meth c nL V A k n Q pc L (.ref (a 2) :: st) (kb_W V a σ sh ex) := by
  subst hv
  exact kj_get C hi_X0 2 rfl rfl 5 (by decide) hl rfl rfl dg K
theorem kp_X0_round {v : Int32} (C : kb_C p s m args meth c cc nL own w0 ret V A)  (hl : Cond.fieldLink own index "KnitBench$Fabric" "round" "Z" ∈ kb_TB) (dg : decode cc pc = .ok (.putfield index, 3)) (hb : v = 0 ∨ v = 1) (K : kb_J p l e R s m args below meth c nL V A k n Q (pc + 3) L st (kb_W V a (kb_p σ 1 v) sh ex)) : kb_J p l e R s m args below meth c nL V A k n Q pc L (.int v :: .ref (a 2) :: st) (kb_W V a σ sh ex) :=
  kj_put C hi_X0 tyX0 tyX0_ok nmX0 2 rfl rfl 5 (by decide) hl rfl rfl rfl (by rcases hb with rfl | rfl <;> rfl) (by rcases hb with rfl | rfl <;> rfl) (by simp) rfl dg K
theorem kg_X0_rowCount {v : Int32} (C : kb_C p s m args meth c cc nL own w0 ret V A)  (hl : Cond.fieldLink own index "KnitBench$Fabric" "rowCount" "I" ∈ kb_TB) (dg : decode cc pc = .ok (.getfield index, 3)) (hv : kb_g σ 2 = v) (K : kb_J p l e R s m args below meth c nL V A k n Q (pc + 3) L (.int v :: st) (kb_W V a σ sh ex)) : kb_J p l e R s m args below meth c nL V A k n Q pc L (.ref (a 2) :: st) (kb_W V a σ sh ex) := by
  subst hv
  exact kj_get C hi_X0 2 rfl rfl 6 (by decide) hl rfl rfl dg K
theorem kp_X0_rowCount {v : Int32} (C : kb_C p s m args meth c cc nL own w0 ret V A)  (hl : Cond.fieldLink own index "KnitBench$Fabric" "rowCount" "I" ∈ kb_TB) (dg : decode cc pc = .ok (.putfield index, 3)) (K : kb_J p l e R s m args below meth c nL V A k n Q (pc + 3) L st (kb_W V a (kb_p σ 2 v) sh ex)) : kb_J p l e R s m args below meth c nL V A k n Q pc L (.int v :: .ref (a 2) :: st) (kb_W V a σ sh ex) :=
  kj_put C hi_X0 tyX0 tyX0_ok nmX0 2 rfl rfl 6 (by decide) hl rfl rfl rfl rfl rfl (by simp) rfl dg K
theorem kg_X0_needleCount {v : Int32} (C : kb_C p s m args meth c cc nL own w0 ret V A)  (hl : Cond.fieldLink own index "KnitBench$Fabric" "needleCount" "I" ∈ kb_TB) (dg : decode cc pc = .ok (.getfield index, 3)) (hv : kb_g σ 3 = v) (K : kb_J p l e R s m args below meth c nL V A k n Q (pc + 3) L (.int v :: st) (kb_W V a σ sh ex)) : kb_J p l e R s m args below meth c nL V A k n Q pc L (.ref (a 2) :: st) (kb_W V a σ sh ex) := by
  subst hv
  exact kj_get C hi_X0 2 rfl rfl 7 (by decide) hl rfl rfl dg K
theorem kp_X0_needleCount {v : Int32} (C : kb_C p s m args meth c cc nL own w0 ret V A)  (hl : Cond.fieldLink own index "KnitBench$Fabric" "needleCount" "I" ∈ kb_TB) (dg : decode cc pc = .ok (.putfield index, 3)) (K : kb_J p l e R s m args below meth c nL V A k n Q (pc + 3) L st (kb_W V a (kb_p σ 3 v) sh ex)) : kb_J p l e R s m args below meth c nL V A k n Q pc L (.int v :: .ref (a 2) :: st) (kb_W V a σ sh ex) :=
  kj_put C hi_X0 tyX0 tyX0_ok nmX0 2 rfl rfl 7 (by decide) hl rfl rfl rfl rfl rfl (by simp) rfl dg K
theorem kg_X0_needleStart {v : Int32} (C : kb_C p s m args meth c cc nL own w0 ret V A)  (hl : Cond.fieldLink own index "KnitBench$Fabric" "needleStart" "I" ∈ kb_TB) (dg : decode cc pc = .ok (.getfield index, 3)) (hv : kb_g σ 4 = v) (K : kb_J p l e R s m args below meth c nL V A k n Q (pc + 3) L (.int v :: st) (kb_W V a σ sh ex)) : kb_J p l e R s m args below meth c nL V A k n Q pc L (.ref (a 2) :: st) (kb_W V a σ sh ex) := by
  subst hv
  exact kj_get C hi_X0 2 rfl rfl 8 (by decide) hl rfl rfl dg K
theorem kp_X0_needleStart {v : Int32} (C : kb_C p s m args meth c cc nL own w0 ret V A)  (hl : Cond.fieldLink own index "KnitBench$Fabric" "needleStart" "I" ∈ kb_TB) (dg : decode cc pc = .ok (.putfield index, 3)) (K : kb_J p l e R s m args below meth c nL V A k n Q (pc + 3) L st (kb_W V a (kb_p σ 4 v) sh ex)) : kb_J p l e R s m args below meth c nL V A k n Q pc L (.int v :: .ref (a 2) :: st) (kb_W V a σ sh ex) :=
  kj_put C hi_X0 tyX0 tyX0_ok nmX0 2 rfl rfl 8 (by decide) hl rfl rfl rfl rfl rfl (by simp) rfl dg K
theorem kg_X0_needleStep {v : Int32} (C : kb_C p s m args meth c cc nL own w0 ret V A)  (hl : Cond.fieldLink own index "KnitBench$Fabric" "needleStep" "I" ∈ kb_TB) (dg : decode cc pc = .ok (.getfield index, 3)) (hv : kb_g σ 5 = v) (K : kb_J p l e R s m args below meth c nL V A k n Q (pc + 3) L (.int v :: st) (kb_W V a σ sh ex)) : kb_J p l e R s m args below meth c nL V A k n Q pc L (.ref (a 2) :: st) (kb_W V a σ sh ex) := by
  subst hv
  exact kj_get C hi_X0 2 rfl rfl 9 (by decide) hl rfl rfl dg K
theorem kp_X0_needleStep {v : Int32} (C : kb_C p s m args meth c cc nL own w0 ret V A)  (hl : Cond.fieldLink own index "KnitBench$Fabric" "needleStep" "I" ∈ kb_TB) (dg : decode cc pc = .ok (.putfield index, 3)) (K : kb_J p l e R s m args below meth c nL V A k n Q (pc + 3) L st (kb_W V a (kb_p σ 5 v) sh ex)) : kb_J p l e R s m args below meth c nL V A k n Q pc L (.int v :: .ref (a 2) :: st) (kb_W V a σ sh ex) :=
  kj_put C hi_X0 tyX0 tyX0_ok nmX0 2 rfl rfl 9 (by decide) hl rfl rfl rfl rfl rfl (by simp) rfl dg K
theorem kg_X0_taken {v : Int32} (C : kb_C p s m args meth c cc nL own w0 ret V A)  (hl : Cond.fieldLink own index "KnitBench$Fabric" "taken" "I" ∈ kb_TB) (dg : decode cc pc = .ok (.getfield index, 3)) (hv : kb_g σ 6 = v) (K : kb_J p l e R s m args below meth c nL V A k n Q (pc + 3) L (.int v :: st) (kb_W V a σ sh ex)) : kb_J p l e R s m args below meth c nL V A k n Q pc L (.ref (a 2) :: st) (kb_W V a σ sh ex) := by
  subst hv
  exact kj_get C hi_X0 2 rfl rfl 10 (by decide) hl rfl rfl dg K
theorem kp_X0_taken {v : Int32} (C : kb_C p s m args meth c cc nL own w0 ret V A)  (hl : Cond.fieldLink own index "KnitBench$Fabric" "taken" "I" ∈ kb_TB) (dg : decode cc pc = .ok (.putfield index, 3)) (K : kb_J p l e R s m args below meth c nL V A k n Q (pc + 3) L st (kb_W V a (kb_p σ 6 v) sh ex)) : kb_J p l e R s m args below meth c nL V A k n Q pc L (.int v :: .ref (a 2) :: st) (kb_W V a σ sh ex) :=
  kj_put C hi_X0 tyX0 tyX0_ok nmX0 2 rfl rfl 10 (by decide) hl rfl rfl rfl rfl rfl (by simp) rfl dg K
theorem kg_X0_loopEnd {v : Int32} (C : kb_C p s m args meth c cc nL own w0 ret V A)  (hl : Cond.fieldLink own index "KnitBench$Fabric" "loopEnd" "I" ∈ kb_TB) (dg : decode cc pc = .ok (.getfield index, 3)) (hv : kb_g σ 7 = v) (K : kb_J p l e R s m args below meth c nL V A k n Q (pc + 3) L (.int v :: st) (kb_W V a σ sh ex)) : kb_J p l e R s m args below meth c nL V A k n Q pc L (.ref (a 2) :: st) (kb_W V a σ sh ex) := by
  subst hv
  exact kj_get C hi_X0 2 rfl rfl 11 (by decide) hl rfl rfl dg K
theorem kp_X0_loopEnd {v : Int32} (C : kb_C p s m args meth c cc nL own w0 ret V A)  (hl : Cond.fieldLink own index "KnitBench$Fabric" "loopEnd" "I" ∈ kb_TB) (dg : decode cc pc = .ok (.putfield index, 3)) (K : kb_J p l e R s m args below meth c nL V A k n Q (pc + 3) L st (kb_W V a (kb_p σ 7 v) sh ex)) : kb_J p l e R s m args below meth c nL V A k n Q pc L (.int v :: .ref (a 2) :: st) (kb_W V a σ sh ex) :=
  kj_put C hi_X0 tyX0 tyX0_ok nmX0 2 rfl rfl 11 (by decide) hl rfl rfl rfl rfl rfl (by simp) rfl dg K
theorem kg_X0_stitchEnd {v : Int32} (C : kb_C p s m args meth c cc nL own w0 ret V A)  (hl : Cond.fieldLink own index "KnitBench$Fabric" "stitchEnd" "I" ∈ kb_TB) (dg : decode cc pc = .ok (.getfield index, 3)) (hv : kb_g σ 8 = v) (K : kb_J p l e R s m args below meth c nL V A k n Q (pc + 3) L (.int v :: st) (kb_W V a σ sh ex)) : kb_J p l e R s m args below meth c nL V A k n Q pc L (.ref (a 2) :: st) (kb_W V a σ sh ex) := by
  subst hv
  exact kj_get C hi_X0 2 rfl rfl 12 (by decide) hl rfl rfl dg K
theorem kp_X0_stitchEnd {v : Int32} (C : kb_C p s m args meth c cc nL own w0 ret V A)  (hl : Cond.fieldLink own index "KnitBench$Fabric" "stitchEnd" "I" ∈ kb_TB) (dg : decode cc pc = .ok (.putfield index, 3)) (K : kb_J p l e R s m args below meth c nL V A k n Q (pc + 3) L st (kb_W V a (kb_p σ 8 v) sh ex)) : kb_J p l e R s m args below meth c nL V A k n Q pc L (.int v :: .ref (a 2) :: st) (kb_W V a σ sh ex) :=
  kj_put C hi_X0 tyX0 tyX0_ok nmX0 2 rfl rfl 12 (by decide) hl rfl rfl rfl rfl rfl (by simp) rfl dg K
theorem kg_X4_tape (C : kb_C p s m args meth c cc nL own w0 ret V A)  (hl : Cond.fieldLink own index "KnitBench$RowReader" "tape" "LKnitBench$Tape;" ∈ kb_TB) (dg : decode cc pc = .ok (.getfield index, 3)) (K : kb_J p l e R s m args below meth c nL V A k n Q (pc + 3) L (.ref (a 1) :: st) (kb_W V a σ sh ex)) : kb_J p l e R s m args below meth c nL V A k n Q pc L (.ref (a 3) :: st) (kb_W V a σ sh ex) :=
  kj_get C hi_X4 3 rfl rfl 0 (by decide) hl rfl rfl dg K
theorem kg_X4_plan (C : kb_C p s m args meth c cc nL own w0 ret V A)  (hl : Cond.fieldLink own index "KnitBench$RowReader" "plan" "LKnitBench$Plan;" ∈ kb_TB) (dg : decode cc pc = .ok (.getfield index, 3)) (K : kb_J p l e R s m args below meth c nL V A k n Q (pc + 3) L (.ref (a 5) :: st) (kb_W V a σ sh ex)) : kb_J p l e R s m args below meth c nL V A k n Q pc L (.ref (a 3) :: st) (kb_W V a σ sh ex) :=
  kj_get C hi_X4 3 rfl rfl 1 (by decide) hl rfl rfl dg K
theorem kg_X4_openSteps (C : kb_C p s m args meth c cc nL own w0 ret V A)  (hl : Cond.fieldLink own index "KnitBench$RowReader" "openSteps" "[I" ∈ kb_TB) (dg : decode cc pc = .ok (.getfield index, 3)) (K : kb_J p l e R s m args below meth c nL V A k n Q (pc + 3) L (.ref (a 12) :: st) (kb_W V a σ sh ex)) : kb_J p l e R s m args below meth c nL V A k n Q pc L (.ref (a 3) :: st) (kb_W V a σ sh ex) :=
  kj_get C hi_X4 3 rfl rfl 2 (by decide) hl rfl rfl dg K
theorem kg_X4_takes (C : kb_C p s m args meth c cc nL own w0 ret V A)  (hl : Cond.fieldLink own index "KnitBench$RowReader" "takes" "[J" ∈ kb_TB) (dg : decode cc pc = .ok (.getfield index, 3)) (K : kb_J p l e R s m args below meth c nL V A k n Q (pc + 3) L (.ref (a 13) :: st) (kb_W V a σ sh ex)) : kb_J p l e R s m args below meth c nL V A k n Q pc L (.ref (a 3) :: st) (kb_W V a σ sh ex) :=
  kj_get C hi_X4 3 rfl rfl 3 (by decide) hl rfl rfl dg K
theorem kg_X4_depth {v : Int32} (C : kb_C p s m args meth c cc nL own w0 ret V A)  (hl : Cond.fieldLink own index "KnitBench$RowReader" "depth" "I" ∈ kb_TB) (dg : decode cc pc = .ok (.getfield index, 3)) (hv : kb_g σ 9 = v) (K : kb_J p l e R s m args below meth c nL V A k n Q (pc + 3) L (.int v :: st) (kb_W V a σ sh ex)) : kb_J p l e R s m args below meth c nL V A k n Q pc L (.ref (a 3) :: st) (kb_W V a σ sh ex) := by
  subst hv
  exact kj_get C hi_X4 3 rfl rfl 4 (by decide) hl rfl rfl dg K
theorem kp_X4_depth {v : Int32} (C : kb_C p s m args meth c cc nL own w0 ret V A)  (hl : Cond.fieldLink own index "KnitBench$RowReader" "depth" "I" ∈ kb_TB) (dg : decode cc pc = .ok (.putfield index, 3)) (K : kb_J p l e R s m args below meth c nL V A k n Q (pc + 3) L st (kb_W V a (kb_p σ 9 v) sh ex)) : kb_J p l e R s m args below meth c nL V A k n Q pc L (.int v :: .ref (a 3) :: st) (kb_W V a σ sh ex) :=
  kj_put C hi_X4 tyX4 tyX4_ok nmX4 3 rfl rfl 4 (by decide) hl rfl rfl rfl rfl rfl (by simp) rfl dg K
theorem kg_X4_at {v : Int32} (C : kb_C p s m args meth c cc nL own w0 ret V A)  (hl : Cond.fieldLink own index "KnitBench$RowReader" "at" "I" ∈ kb_TB) (dg : decode cc pc = .ok (.getfield index, 3)) (hv : kb_g σ 10 = v) (K : kb_J p l e R s m args below meth c nL V A k n Q (pc + 3) L (.int v :: st) (kb_W V a σ sh ex)) : kb_J p l e R s m args below meth c nL V A k n Q pc L (.ref (a 3) :: st) (kb_W V a σ sh ex) := by
  subst hv
  exact kj_get C hi_X4 3 rfl rfl 5 (by decide) hl rfl rfl dg K
theorem kp_X4_at {v : Int32} (C : kb_C p s m args meth c cc nL own w0 ret V A)  (hl : Cond.fieldLink own index "KnitBench$RowReader" "at" "I" ∈ kb_TB) (dg : decode cc pc = .ok (.putfield index, 3)) (K : kb_J p l e R s m args below meth c nL V A k n Q (pc + 3) L st (kb_W V a (kb_p σ 10 v) sh ex)) : kb_J p l e R s m args below meth c nL V A k n Q pc L (.int v :: .ref (a 3) :: st) (kb_W V a σ sh ex) :=
  kj_put C hi_X4 tyX4 tyX4_ok nmX4 3 rfl rfl 5 (by decide) hl rfl rfl rfl rfl rfl (by simp) rfl dg K
theorem kg_X4_fault {v : Int32} (C : kb_C p s m args meth c cc nL own w0 ret V A)  (hl : Cond.fieldLink own index "KnitBench$RowReader" "fault" "I" ∈ kb_TB) (dg : decode cc pc = .ok (.getfield index, 3)) (hv : kb_g σ 11 = v) (K : kb_J p l e R s m args below meth c nL V A k n Q (pc + 3) L (.int v :: st) (kb_W V a σ sh ex)) : kb_J p l e R s m args below meth c nL V A k n Q pc L (.ref (a 3) :: st) (kb_W V a σ sh ex) := by
  subst hv
  exact kj_get C hi_X4 3 rfl rfl 6 (by decide) hl rfl rfl dg K
theorem kp_X4_fault {v : Int32} (C : kb_C p s m args meth c cc nL own w0 ret V A)  (hl : Cond.fieldLink own index "KnitBench$RowReader" "fault" "I" ∈ kb_TB) (dg : decode cc pc = .ok (.putfield index, 3)) (K : kb_J p l e R s m args below meth c nL V A k n Q (pc + 3) L st (kb_W V a (kb_p σ 11 v) sh ex)) : kb_J p l e R s m args below meth c nL V A k n Q pc L (.int v :: .ref (a 3) :: st) (kb_W V a σ sh ex) :=
  kj_put C hi_X4 tyX4 tyX4_ok nmX4 3 rfl rfl 6 (by decide) hl rfl rfl rfl rfl rfl (by simp) rfl dg K
theorem kg_X4_itemIsDue {v : Int32} (C : kb_C p s m args meth c cc nL own w0 ret V A)  (hl : Cond.fieldLink own index "KnitBench$RowReader" "itemIsDue" "Z" ∈ kb_TB) (dg : decode cc pc = .ok (.getfield index, 3)) (hv : kb_g σ 12 = v) (K : kb_J p l e R s m args below meth c nL V A k n Q (pc + 3) L (.int v :: st) (kb_W V a σ sh ex)) : kb_J p l e R s m args below meth c nL V A k n Q pc L (.ref (a 3) :: st) (kb_W V a σ sh ex) := by
  subst hv
  exact kj_get C hi_X4 3 rfl rfl 7 (by decide) hl rfl rfl dg K
theorem kp_X4_itemIsDue {v : Int32} (C : kb_C p s m args meth c cc nL own w0 ret V A)  (hl : Cond.fieldLink own index "KnitBench$RowReader" "itemIsDue" "Z" ∈ kb_TB) (dg : decode cc pc = .ok (.putfield index, 3)) (hb : v = 0 ∨ v = 1) (K : kb_J p l e R s m args below meth c nL V A k n Q (pc + 3) L st (kb_W V a (kb_p σ 12 v) sh ex)) : kb_J p l e R s m args below meth c nL V A k n Q pc L (.int v :: .ref (a 3) :: st) (kb_W V a σ sh ex) :=
  kj_put C hi_X4 tyX4 tyX4_ok nmX4 3 rfl rfl 7 (by decide) hl rfl rfl rfl (by rcases hb with rfl | rfl <;> rfl) (by rcases hb with rfl | rfl <;> rfl) (by simp) rfl dg K
theorem kg_X4_ended {v : Int32} (C : kb_C p s m args meth c cc nL own w0 ret V A)  (hl : Cond.fieldLink own index "KnitBench$RowReader" "ended" "Z" ∈ kb_TB) (dg : decode cc pc = .ok (.getfield index, 3)) (hv : kb_g σ 13 = v) (K : kb_J p l e R s m args below meth c nL V A k n Q (pc + 3) L (.int v :: st) (kb_W V a σ sh ex)) : kb_J p l e R s m args below meth c nL V A k n Q pc L (.ref (a 3) :: st) (kb_W V a σ sh ex) := by
  subst hv
  exact kj_get C hi_X4 3 rfl rfl 8 (by decide) hl rfl rfl dg K
theorem kp_X4_ended {v : Int32} (C : kb_C p s m args meth c cc nL own w0 ret V A)  (hl : Cond.fieldLink own index "KnitBench$RowReader" "ended" "Z" ∈ kb_TB) (dg : decode cc pc = .ok (.putfield index, 3)) (hb : v = 0 ∨ v = 1) (K : kb_J p l e R s m args below meth c nL V A k n Q (pc + 3) L st (kb_W V a (kb_p σ 13 v) sh ex)) : kb_J p l e R s m args below meth c nL V A k n Q pc L (.int v :: .ref (a 3) :: st) (kb_W V a σ sh ex) :=
  kj_put C hi_X4 tyX4 tyX4_ok nmX4 3 rfl rfl 8 (by decide) hl rfl rfl rfl (by rcases hb with rfl | rfl <;> rfl) (by rcases hb with rfl | rfl <;> rfl) (by simp) rfl dg K
theorem kg_X2_plan (C : kb_C p s m args meth c cc nL own w0 ret V A)  (hl : Cond.fieldLink own index "KnitBench$Knitter" "plan" "LKnitBench$Plan;" ∈ kb_TB) (dg : decode cc pc = .ok (.getfield index, 3)) (K : kb_J p l e R s m args below meth c nL V A k n Q (pc + 3) L (.ref (a 5) :: st) (kb_W V a σ sh ex)) : kb_J p l e R s m args below meth c nL V A k n Q pc L (.ref (a 4) :: st) (kb_W V a σ sh ex) :=
  kj_get C hi_X2 4 rfl rfl 0 (by decide) hl rfl rfl dg K
theorem kg_X2_fabric (C : kb_C p s m args meth c cc nL own w0 ret V A)  (hl : Cond.fieldLink own index "KnitBench$Knitter" "fabric" "LKnitBench$Fabric;" ∈ kb_TB) (dg : decode cc pc = .ok (.getfield index, 3)) (K : kb_J p l e R s m args below meth c nL V A k n Q (pc + 3) L (.ref (a 2) :: st) (kb_W V a σ sh ex)) : kb_J p l e R s m args below meth c nL V A k n Q pc L (.ref (a 4) :: st) (kb_W V a σ sh ex) :=
  kj_get C hi_X2 4 rfl rfl 1 (by decide) hl rfl rfl dg K
theorem kg_X2_runsLeft (C : kb_C p s m args meth c cc nL own w0 ret V A)  (hl : Cond.fieldLink own index "KnitBench$Knitter" "runsLeft" "[J" ∈ kb_TB) (dg : decode cc pc = .ok (.getfield index, 3)) (K : kb_J p l e R s m args below meth c nL V A k n Q (pc + 3) L (.ref (a 14) :: st) (kb_W V a σ sh ex)) : kb_J p l e R s m args below meth c nL V A k n Q pc L (.ref (a 4) :: st) (kb_W V a σ sh ex) :=
  kj_get C hi_X2 4 rfl rfl 2 (by decide) hl rfl rfl dg K
theorem kg_X2_depth {v : Int32} (C : kb_C p s m args meth c cc nL own w0 ret V A)  (hl : Cond.fieldLink own index "KnitBench$Knitter" "depth" "I" ∈ kb_TB) (dg : decode cc pc = .ok (.getfield index, 3)) (hv : kb_g σ 14 = v) (K : kb_J p l e R s m args below meth c nL V A k n Q (pc + 3) L (.int v :: st) (kb_W V a σ sh ex)) : kb_J p l e R s m args below meth c nL V A k n Q pc L (.ref (a 4) :: st) (kb_W V a σ sh ex) := by
  subst hv
  exact kj_get C hi_X2 4 rfl rfl 3 (by decide) hl rfl rfl dg K
theorem kp_X2_depth {v : Int32} (C : kb_C p s m args meth c cc nL own w0 ret V A)  (hl : Cond.fieldLink own index "KnitBench$Knitter" "depth" "I" ∈ kb_TB) (dg : decode cc pc = .ok (.putfield index, 3)) (K : kb_J p l e R s m args below meth c nL V A k n Q (pc + 3) L st (kb_W V a (kb_p σ 14 v) sh ex)) : kb_J p l e R s m args below meth c nL V A k n Q pc L (.int v :: .ref (a 4) :: st) (kb_W V a σ sh ex) :=
  kj_put C hi_X2 tyX2 tyX2_ok nmX2 4 rfl rfl 3 (by decide) hl rfl rfl rfl rfl rfl (by simp) rfl dg K
theorem kg_X2_fault {v : Int32} (C : kb_C p s m args meth c cc nL own w0 ret V A)  (hl : Cond.fieldLink own index "KnitBench$Knitter" "fault" "I" ∈ kb_TB) (dg : decode cc pc = .ok (.getfield index, 3)) (hv : kb_g σ 15 = v) (K : kb_J p l e R s m args below meth c nL V A k n Q (pc + 3) L (.int v :: st) (kb_W V a σ sh ex)) : kb_J p l e R s m args below meth c nL V A k n Q pc L (.ref (a 4) :: st) (kb_W V a σ sh ex) := by
  subst hv
  exact kj_get C hi_X2 4 rfl rfl 4 (by decide) hl rfl rfl dg K
theorem kp_X2_fault {v : Int32} (C : kb_C p s m args meth c cc nL own w0 ret V A)  (hl : Cond.fieldLink own index "KnitBench$Knitter" "fault" "I" ∈ kb_TB) (dg : decode cc pc = .ok (.putfield index, 3)) (K : kb_J p l e R s m args below meth c nL V A k n Q (pc + 3) L st (kb_W V a (kb_p σ 15 v) sh ex)) : kb_J p l e R s m args below meth c nL V A k n Q pc L (.int v :: .ref (a 4) :: st) (kb_W V a σ sh ex) :=
  kj_put C hi_X2 tyX2 tyX2_ok nmX2 4 rfl rfl 4 (by decide) hl rfl rfl rfl rfl rfl (by simp) rfl dg K
theorem kg_X3_kinds (C : kb_C p s m args meth c cc nL own w0 ret V A)  (hl : Cond.fieldLink own index "KnitBench$Plan" "kinds" "[I" ∈ kb_TB) (dg : decode cc pc = .ok (.getfield index, 3)) (K : kb_J p l e R s m args below meth c nL V A k n Q (pc + 3) L (.ref (a 15) :: st) (kb_W V a σ sh ex)) : kb_J p l e R s m args below meth c nL V A k n Q pc L (.ref (a 5) :: st) (kb_W V a σ sh ex) :=
  kj_get C hi_X3 5 rfl rfl 0 (by decide) hl rfl rfl dg K
theorem kg_X3_places (C : kb_C p s m args meth c cc nL own w0 ret V A)  (hl : Cond.fieldLink own index "KnitBench$Plan" "places" "[I" ∈ kb_TB) (dg : decode cc pc = .ok (.getfield index, 3)) (K : kb_J p l e R s m args below meth c nL V A k n Q (pc + 3) L (.ref (a 16) :: st) (kb_W V a σ sh ex)) : kb_J p l e R s m args below meth c nL V A k n Q pc L (.ref (a 5) :: st) (kb_W V a σ sh ex) :=
  kj_get C hi_X3 5 rfl rfl 1 (by decide) hl rfl rfl dg K
theorem kg_X3_counts (C : kb_C p s m args meth c cc nL own w0 ret V A)  (hl : Cond.fieldLink own index "KnitBench$Plan" "counts" "[I" ∈ kb_TB) (dg : decode cc pc = .ok (.getfield index, 3)) (K : kb_J p l e R s m args below meth c nL V A k n Q (pc + 3) L (.ref (a 17) :: st) (kb_W V a σ sh ex)) : kb_J p l e R s m args below meth c nL V A k n Q pc L (.ref (a 5) :: st) (kb_W V a σ sh ex) :=
  kj_get C hi_X3 5 rfl rfl 2 (by decide) hl rfl rfl dg K
theorem kg_X3_links (C : kb_C p s m args meth c cc nL own w0 ret V A)  (hl : Cond.fieldLink own index "KnitBench$Plan" "links" "[I" ∈ kb_TB) (dg : decode cc pc = .ok (.getfield index, 3)) (K : kb_J p l e R s m args below meth c nL V A k n Q (pc + 3) L (.ref (a 18) :: st) (kb_W V a σ sh ex)) : kb_J p l e R s m args below meth c nL V A k n Q pc L (.ref (a 5) :: st) (kb_W V a σ sh ex) :=
  kj_get C hi_X3 5 rfl rfl 3 (by decide) hl rfl rfl dg K
theorem kg_X3_takes (C : kb_C p s m args meth c cc nL own w0 ret V A)  (hl : Cond.fieldLink own index "KnitBench$Plan" "takes" "[J" ∈ kb_TB) (dg : decode cc pc = .ok (.getfield index, 3)) (K : kb_J p l e R s m args below meth c nL V A k n Q (pc + 3) L (.ref (a 19) :: st) (kb_W V a σ sh ex)) : kb_J p l e R s m args below meth c nL V A k n Q pc L (.ref (a 5) :: st) (kb_W V a σ sh ex) :=
  kj_get C hi_X3 5 rfl rfl 4 (by decide) hl rfl rfl dg K
theorem kg_X3_size {v : Int32} (C : kb_C p s m args meth c cc nL own w0 ret V A)  (hl : Cond.fieldLink own index "KnitBench$Plan" "size" "I" ∈ kb_TB) (dg : decode cc pc = .ok (.getfield index, 3)) (hv : kb_g σ 16 = v) (K : kb_J p l e R s m args below meth c nL V A k n Q (pc + 3) L (.int v :: st) (kb_W V a σ sh ex)) : kb_J p l e R s m args below meth c nL V A k n Q pc L (.ref (a 5) :: st) (kb_W V a σ sh ex) := by
  subst hv
  exact kj_get C hi_X3 5 rfl rfl 5 (by decide) hl rfl rfl dg K
theorem kp_X3_size {v : Int32} (C : kb_C p s m args meth c cc nL own w0 ret V A)  (hl : Cond.fieldLink own index "KnitBench$Plan" "size" "I" ∈ kb_TB) (dg : decode cc pc = .ok (.putfield index, 3)) (K : kb_J p l e R s m args below meth c nL V A k n Q (pc + 3) L st (kb_W V a (kb_p σ 16 v) sh ex)) : kb_J p l e R s m args below meth c nL V A k n Q pc L (.int v :: .ref (a 5) :: st) (kb_W V a σ sh ex) :=
  kj_put C hi_X3 tyX3 tyX3_ok nmX3 5 rfl rfl 5 (by decide) hl rfl rfl rfl rfl rfl (by simp) rfl dg K
theorem ka_X7_bytes {i v : Int32} (C : kb_C p s m args meth c cc nL own w0 ret V A) (hin : kb_in i 200 = true) (dg : decode cc pc = .ok (.iaload, 1)) (hv : kb_a σ 0 i.toNatClampNeg = v) (K : kb_J p l e R s m args below meth c nL V A k n Q (pc + 1) L (.int v :: st) (kb_W V a σ sh ex)) : kb_J p l e R s m args below meth c nL V A k n Q pc L (.int i :: .ref (a 6) :: st) (kb_W V a σ sh ex) := by
  subst hv
  exact kj_iald C 6 rfl (kb_inv hin) dg K
theorem ks_X7_bytes {i v : Int32} (C : kb_C p s m args meth c cc nL own w0 ret V A) (hin : kb_in i 200 = true) (dg : decode cc pc = .ok (.iastore, 1)) (K : kb_J p l e R s m args below meth c nL V A k n Q (pc + 1) L st (kb_W V a (kb_ap σ 0 i.toNatClampNeg v) sh ex)) : kb_J p l e R s m args below meth c nL V A k n Q pc L (.int v :: .int i :: .ref (a 6) :: st) (kb_W V a σ sh ex) :=
  kj_iast C 6 rfl (kb_inv hin) rfl dg K
theorem ka_X0_firstLoops {i v : Int32} (C : kb_C p s m args meth c cc nL own w0 ret V A) (hin : kb_in i 32 = true) (dg : decode cc pc = .ok (.iaload, 1)) (hv : kb_a σ 1 i.toNatClampNeg = v) (K : kb_J p l e R s m args below meth c nL V A k n Q (pc + 1) L (.int v :: st) (kb_W V a σ sh ex)) : kb_J p l e R s m args below meth c nL V A k n Q pc L (.int i :: .ref (a 7) :: st) (kb_W V a σ sh ex) := by
  subst hv
  exact kj_iald C 7 rfl (kb_inv hin) dg K
theorem ks_X0_firstLoops {i v : Int32} (C : kb_C p s m args meth c cc nL own w0 ret V A) (hin : kb_in i 32 = true) (dg : decode cc pc = .ok (.iastore, 1)) (K : kb_J p l e R s m args below meth c nL V A k n Q (pc + 1) L st (kb_W V a (kb_ap σ 1 i.toNatClampNeg v) sh ex)) : kb_J p l e R s m args below meth c nL V A k n Q pc L (.int v :: .int i :: .ref (a 7) :: st) (kb_W V a σ sh ex) :=
  kj_iast C 7 rfl (kb_inv hin) rfl dg K
theorem ka_X0_firstStitches {i v : Int32} (C : kb_C p s m args meth c cc nL own w0 ret V A) (hin : kb_in i 32 = true) (dg : decode cc pc = .ok (.iaload, 1)) (hv : kb_a σ 2 i.toNatClampNeg = v) (K : kb_J p l e R s m args below meth c nL V A k n Q (pc + 1) L (.int v :: st) (kb_W V a σ sh ex)) : kb_J p l e R s m args below meth c nL V A k n Q pc L (.int i :: .ref (a 8) :: st) (kb_W V a σ sh ex) := by
  subst hv
  exact kj_iald C 8 rfl (kb_inv hin) dg K
theorem ks_X0_firstStitches {i v : Int32} (C : kb_C p s m args meth c cc nL own w0 ret V A) (hin : kb_in i 32 = true) (dg : decode cc pc = .ok (.iastore, 1)) (K : kb_J p l e R s m args below meth c nL V A k n Q (pc + 1) L st (kb_W V a (kb_ap σ 2 i.toNatClampNeg v) sh ex)) : kb_J p l e R s m args below meth c nL V A k n Q pc L (.int v :: .int i :: .ref (a 8) :: st) (kb_W V a σ sh ex) :=
  kj_iast C 8 rfl (kb_inv hin) rfl dg K
theorem ka_X0_stitches {i v : Int32} (C : kb_C p s m args meth c cc nL own w0 ret V A) (hin : kb_in i 1200 = true) (dg : decode cc pc = .ok (.iaload, 1)) (hv : kb_a σ 3 i.toNatClampNeg = v) (K : kb_J p l e R s m args below meth c nL V A k n Q (pc + 1) L (.int v :: st) (kb_W V a σ sh ex)) : kb_J p l e R s m args below meth c nL V A k n Q pc L (.int i :: .ref (a 9) :: st) (kb_W V a σ sh ex) := by
  subst hv
  exact kj_iald C 9 rfl (kb_inv hin) dg K
theorem ks_X0_stitches {i v : Int32} (C : kb_C p s m args meth c cc nL own w0 ret V A) (hin : kb_in i 1200 = true) (dg : decode cc pc = .ok (.iastore, 1)) (K : kb_J p l e R s m args below meth c nL V A k n Q (pc + 1) L st (kb_W V a (kb_ap σ 3 i.toNatClampNeg v) sh ex)) : kb_J p l e R s m args below meth c nL V A k n Q pc L (.int v :: .int i :: .ref (a 9) :: st) (kb_W V a σ sh ex) :=
  kj_iast C 9 rfl (kb_inv hin) rfl dg K
theorem ka_X0_parentCounts {i v : Int32} (C : kb_C p s m args meth c cc nL own w0 ret V A) (hin : kb_in i 600 = true) (dg : decode cc pc = .ok (.iaload, 1)) (hv : kb_a σ 4 i.toNatClampNeg = v) (K : kb_J p l e R s m args below meth c nL V A k n Q (pc + 1) L (.int v :: st) (kb_W V a σ sh ex)) : kb_J p l e R s m args below meth c nL V A k n Q pc L (.int i :: .ref (a 10) :: st) (kb_W V a σ sh ex) := by
  subst hv
  exact kj_iald C 10 rfl (kb_inv hin) dg K
theorem ks_X0_parentCounts {i v : Int32} (C : kb_C p s m args meth c cc nL own w0 ret V A) (hin : kb_in i 600 = true) (dg : decode cc pc = .ok (.iastore, 1)) (K : kb_J p l e R s m args below meth c nL V A k n Q (pc + 1) L st (kb_W V a (kb_ap σ 4 i.toNatClampNeg v) sh ex)) : kb_J p l e R s m args below meth c nL V A k n Q pc L (.int v :: .int i :: .ref (a 10) :: st) (kb_W V a σ sh ex) :=
  kj_iast C 10 rfl (kb_inv hin) rfl dg K
theorem ka_X0_firstParents {i v : Int32} (C : kb_C p s m args meth c cc nL own w0 ret V A) (hin : kb_in i 600 = true) (dg : decode cc pc = .ok (.iaload, 1)) (hv : kb_a σ 5 i.toNatClampNeg = v) (K : kb_J p l e R s m args below meth c nL V A k n Q (pc + 1) L (.int v :: st) (kb_W V a σ sh ex)) : kb_J p l e R s m args below meth c nL V A k n Q pc L (.int i :: .ref (a 11) :: st) (kb_W V a σ sh ex) := by
  subst hv
  exact kj_iald C 11 rfl (kb_inv hin) dg K
theorem ks_X0_firstParents {i v : Int32} (C : kb_C p s m args meth c cc nL own w0 ret V A) (hin : kb_in i 600 = true) (dg : decode cc pc = .ok (.iastore, 1)) (K : kb_J p l e R s m args below meth c nL V A k n Q (pc + 1) L st (kb_W V a (kb_ap σ 5 i.toNatClampNeg v) sh ex)) : kb_J p l e R s m args below meth c nL V A k n Q pc L (.int v :: .int i :: .ref (a 11) :: st) (kb_W V a σ sh ex) :=
  kj_iast C 11 rfl (kb_inv hin) rfl dg K
theorem ka_X4_openSteps {i v : Int32} (C : kb_C p s m args meth c cc nL own w0 ret V A) (hin : kb_in i 5 = true) (dg : decode cc pc = .ok (.iaload, 1)) (hv : kb_a σ 6 i.toNatClampNeg = v) (K : kb_J p l e R s m args below meth c nL V A k n Q (pc + 1) L (.int v :: st) (kb_W V a σ sh ex)) : kb_J p l e R s m args below meth c nL V A k n Q pc L (.int i :: .ref (a 12) :: st) (kb_W V a σ sh ex) := by
  subst hv
  exact kj_iald C 12 rfl (kb_inv hin) dg K
theorem ks_X4_openSteps {i v : Int32} (C : kb_C p s m args meth c cc nL own w0 ret V A) (hin : kb_in i 5 = true) (dg : decode cc pc = .ok (.iastore, 1)) (K : kb_J p l e R s m args below meth c nL V A k n Q (pc + 1) L st (kb_W V a (kb_ap σ 6 i.toNatClampNeg v) sh ex)) : kb_J p l e R s m args below meth c nL V A k n Q pc L (.int v :: .int i :: .ref (a 12) :: st) (kb_W V a σ sh ex) :=
  kj_iast C 12 rfl (kb_inv hin) rfl dg K
theorem ka_X4_takes {i : Int32} {v : Int64} (C : kb_C p s m args meth c cc nL own w0 ret V A) (hin : kb_in i 5 = true) (dg : decode cc pc = .ok (.laload, 1)) (hv : kb_b σ 0 i.toNatClampNeg = v) (K : kb_J p l e R s m args below meth c nL V A k n Q (pc + 1) L (.long v :: st) (kb_W V a σ sh ex)) : kb_J p l e R s m args below meth c nL V A k n Q pc L (.int i :: .ref (a 13) :: st) (kb_W V a σ sh ex) := by
  subst hv
  exact kj_lald C 13 rfl (kb_inv hin) dg K
theorem ks_X4_takes {i : Int32} {v : Int64} (C : kb_C p s m args meth c cc nL own w0 ret V A) (hin : kb_in i 5 = true) (dg : decode cc pc = .ok (.lastore, 1)) (K : kb_J p l e R s m args below meth c nL V A k n Q (pc + 1) L st (kb_W V a (kb_bp σ 0 i.toNatClampNeg v) sh ex)) : kb_J p l e R s m args below meth c nL V A k n Q pc L (.long v :: .int i :: .ref (a 13) :: st) (kb_W V a σ sh ex) :=
  kj_last C 13 rfl (kb_inv hin) rfl dg K
theorem ka_X2_runsLeft {i : Int32} {v : Int64} (C : kb_C p s m args meth c cc nL own w0 ret V A) (hin : kb_in i 5 = true) (dg : decode cc pc = .ok (.laload, 1)) (hv : kb_b σ 1 i.toNatClampNeg = v) (K : kb_J p l e R s m args below meth c nL V A k n Q (pc + 1) L (.long v :: st) (kb_W V a σ sh ex)) : kb_J p l e R s m args below meth c nL V A k n Q pc L (.int i :: .ref (a 14) :: st) (kb_W V a σ sh ex) := by
  subst hv
  exact kj_lald C 14 rfl (kb_inv hin) dg K
theorem ks_X2_runsLeft {i : Int32} {v : Int64} (C : kb_C p s m args meth c cc nL own w0 ret V A) (hin : kb_in i 5 = true) (dg : decode cc pc = .ok (.lastore, 1)) (K : kb_J p l e R s m args below meth c nL V A k n Q (pc + 1) L st (kb_W V a (kb_bp σ 1 i.toNatClampNeg v) sh ex)) : kb_J p l e R s m args below meth c nL V A k n Q pc L (.long v :: .int i :: .ref (a 14) :: st) (kb_W V a σ sh ex) :=
  kj_last C 14 rfl (kb_inv hin) rfl dg K
theorem ka_X3_kinds {i v : Int32} (C : kb_C p s m args meth c cc nL own w0 ret V A) (hin : kb_in i 200 = true) (dg : decode cc pc = .ok (.iaload, 1)) (hv : kb_a σ 7 i.toNatClampNeg = v) (K : kb_J p l e R s m args below meth c nL V A k n Q (pc + 1) L (.int v :: st) (kb_W V a σ sh ex)) : kb_J p l e R s m args below meth c nL V A k n Q pc L (.int i :: .ref (a 15) :: st) (kb_W V a σ sh ex) := by
  subst hv
  exact kj_iald C 15 rfl (kb_inv hin) dg K
theorem ks_X3_kinds {i v : Int32} (C : kb_C p s m args meth c cc nL own w0 ret V A) (hin : kb_in i 200 = true) (dg : decode cc pc = .ok (.iastore, 1)) (K : kb_J p l e R s m args below meth c nL V A k n Q (pc + 1) L st (kb_W V a (kb_ap σ 7 i.toNatClampNeg v) sh ex)) : kb_J p l e R s m args below meth c nL V A k n Q pc L (.int v :: .int i :: .ref (a 15) :: st) (kb_W V a σ sh ex) :=
  kj_iast C 15 rfl (kb_inv hin) rfl dg K
theorem ka_X3_places {i v : Int32} (C : kb_C p s m args meth c cc nL own w0 ret V A) (hin : kb_in i 200 = true) (dg : decode cc pc = .ok (.iaload, 1)) (hv : kb_a σ 8 i.toNatClampNeg = v) (K : kb_J p l e R s m args below meth c nL V A k n Q (pc + 1) L (.int v :: st) (kb_W V a σ sh ex)) : kb_J p l e R s m args below meth c nL V A k n Q pc L (.int i :: .ref (a 16) :: st) (kb_W V a σ sh ex) := by
  subst hv
  exact kj_iald C 16 rfl (kb_inv hin) dg K
theorem ks_X3_places {i v : Int32} (C : kb_C p s m args meth c cc nL own w0 ret V A) (hin : kb_in i 200 = true) (dg : decode cc pc = .ok (.iastore, 1)) (K : kb_J p l e R s m args below meth c nL V A k n Q (pc + 1) L st (kb_W V a (kb_ap σ 8 i.toNatClampNeg v) sh ex)) : kb_J p l e R s m args below meth c nL V A k n Q pc L (.int v :: .int i :: .ref (a 16) :: st) (kb_W V a σ sh ex) :=
  kj_iast C 16 rfl (kb_inv hin) rfl dg K
theorem ka_X3_counts {i v : Int32} (C : kb_C p s m args meth c cc nL own w0 ret V A) (hin : kb_in i 200 = true) (dg : decode cc pc = .ok (.iaload, 1)) (hv : kb_a σ 9 i.toNatClampNeg = v) (K : kb_J p l e R s m args below meth c nL V A k n Q (pc + 1) L (.int v :: st) (kb_W V a σ sh ex)) : kb_J p l e R s m args below meth c nL V A k n Q pc L (.int i :: .ref (a 17) :: st) (kb_W V a σ sh ex) := by
  subst hv
  exact kj_iald C 17 rfl (kb_inv hin) dg K
theorem ks_X3_counts {i v : Int32} (C : kb_C p s m args meth c cc nL own w0 ret V A) (hin : kb_in i 200 = true) (dg : decode cc pc = .ok (.iastore, 1)) (K : kb_J p l e R s m args below meth c nL V A k n Q (pc + 1) L st (kb_W V a (kb_ap σ 9 i.toNatClampNeg v) sh ex)) : kb_J p l e R s m args below meth c nL V A k n Q pc L (.int v :: .int i :: .ref (a 17) :: st) (kb_W V a σ sh ex) :=
  kj_iast C 17 rfl (kb_inv hin) rfl dg K
theorem ka_X3_links {i v : Int32} (C : kb_C p s m args meth c cc nL own w0 ret V A) (hin : kb_in i 200 = true) (dg : decode cc pc = .ok (.iaload, 1)) (hv : kb_a σ 10 i.toNatClampNeg = v) (K : kb_J p l e R s m args below meth c nL V A k n Q (pc + 1) L (.int v :: st) (kb_W V a σ sh ex)) : kb_J p l e R s m args below meth c nL V A k n Q pc L (.int i :: .ref (a 18) :: st) (kb_W V a σ sh ex) := by
  subst hv
  exact kj_iald C 18 rfl (kb_inv hin) dg K
theorem ks_X3_links {i v : Int32} (C : kb_C p s m args meth c cc nL own w0 ret V A) (hin : kb_in i 200 = true) (dg : decode cc pc = .ok (.iastore, 1)) (K : kb_J p l e R s m args below meth c nL V A k n Q (pc + 1) L st (kb_W V a (kb_ap σ 10 i.toNatClampNeg v) sh ex)) : kb_J p l e R s m args below meth c nL V A k n Q pc L (.int v :: .int i :: .ref (a 18) :: st) (kb_W V a σ sh ex) :=
  kj_iast C 18 rfl (kb_inv hin) rfl dg K
theorem ka_X3_takes {i : Int32} {v : Int64} (C : kb_C p s m args meth c cc nL own w0 ret V A) (hin : kb_in i 200 = true) (dg : decode cc pc = .ok (.laload, 1)) (hv : kb_b σ 2 i.toNatClampNeg = v) (K : kb_J p l e R s m args below meth c nL V A k n Q (pc + 1) L (.long v :: st) (kb_W V a σ sh ex)) : kb_J p l e R s m args below meth c nL V A k n Q pc L (.int i :: .ref (a 19) :: st) (kb_W V a σ sh ex) := by
  subst hv
  exact kj_lald C 19 rfl (kb_inv hin) dg K
theorem ks_X3_takes {i : Int32} {v : Int64} (C : kb_C p s m args meth c cc nL own w0 ret V A) (hin : kb_in i 200 = true) (dg : decode cc pc = .ok (.lastore, 1)) (K : kb_J p l e R s m args below meth c nL V A k n Q (pc + 1) L st (kb_W V a (kb_bp σ 2 i.toNatClampNeg v) sh ex)) : kb_J p l e R s m args below meth c nL V A k n Q pc L (.long v :: .int i :: .ref (a 19) :: st) (kb_W V a σ sh ex) :=
  kj_last C 19 rfl (kb_inv hin) rfl dg K
end KBFK
section KBFS
variable {p : Program} {l : Launch} {e : Env} {R : Room} {s : State} {m : MethodId} {args : Array Value} {below : List Frame} {meth : Method} {c : Code} {k n : Nat} {Q : State → Prop} {cc : ByteArray} {nL : Nat} {own : String} {w0 : Cond} {ret : Option FieldType} {V : kb_V} {A : Nat → Prop} {pc : Nat} {L : List (Nat × Value)} {st : List Value} {b : Nat → Nat} {τ : kb_S} {ex : va_W} {index : Nat}
theorem kg_X5_table (C : kb_C p s m args meth c cc nL own w0 ret V A)  (hl : Cond.fieldLink own index "KnitBench$Shortest" "table" "[I" ∈ kb_TB) (dg : decode cc pc = .ok (.getfield index, 3)) (K : kb_J p l e R s m args below meth c nL V A k n Q (pc + 3) L (.ref (b 1) :: st) (kb_WS V b τ ex)) : kb_J p l e R s m args below meth c nL V A k n Q pc L (.ref (b 0) :: st) (kb_WS V b τ ex) :=
  kj_get C hi_X5 0 rfl rfl 0 (by decide) hl rfl rfl dg K
theorem kg_X5_sames (C : kb_C p s m args meth c cc nL own w0 ret V A)  (hl : Cond.fieldLink own index "KnitBench$Shortest" "sames" "[I" ∈ kb_TB) (dg : decode cc pc = .ok (.getfield index, 3)) (K : kb_J p l e R s m args below meth c nL V A k n Q (pc + 3) L (.ref (b 2) :: st) (kb_WS V b τ ex)) : kb_J p l e R s m args below meth c nL V A k n Q pc L (.ref (b 0) :: st) (kb_WS V b τ ex) :=
  kj_get C hi_X5 0 rfl rfl 1 (by decide) hl rfl rfl dg K
theorem kg_X5_stitches (C : kb_C p s m args meth c cc nL own w0 ret V A)  (hl : Cond.fieldLink own index "KnitBench$Shortest" "stitches" "[I" ∈ kb_TB) (dg : decode cc pc = .ok (.getfield index, 3)) (K : kb_J p l e R s m args below meth c nL V A k n Q (pc + 3) L (.ref (b 3) :: st) (kb_WS V b τ ex)) : kb_J p l e R s m args below meth c nL V A k n Q pc L (.ref (b 0) :: st) (kb_WS V b τ ex) :=
  kj_get C hi_X5 0 rfl rfl 2 (by decide) hl rfl rfl dg K
theorem kg_X5_text (C : kb_C p s m args meth c cc nL own w0 ret V A)  (hl : Cond.fieldLink own index "KnitBench$Shortest" "text" "[I" ∈ kb_TB) (dg : decode cc pc = .ok (.getfield index, 3)) (K : kb_J p l e R s m args below meth c nL V A k n Q (pc + 3) L (.ref (b 4) :: st) (kb_WS V b τ ex)) : kb_J p l e R s m args below meth c nL V A k n Q pc L (.ref (b 0) :: st) (kb_WS V b τ ex) :=
  kj_get C hi_X5 0 rfl rfl 3 (by decide) hl rfl rfl dg K
theorem kg_X5_count {v : Int32} (C : kb_C p s m args meth c cc nL own w0 ret V A)  (hl : Cond.fieldLink own index "KnitBench$Shortest" "count" "I" ∈ kb_TB) (dg : decode cc pc = .ok (.getfield index, 3)) (hv : kb_g τ 0 = v) (K : kb_J p l e R s m args below meth c nL V A k n Q (pc + 3) L (.int v :: st) (kb_WS V b τ ex)) : kb_J p l e R s m args below meth c nL V A k n Q pc L (.ref (b 0) :: st) (kb_WS V b τ ex) := by
  subst hv
  exact kj_get C hi_X5 0 rfl rfl 4 (by decide) hl rfl rfl dg K
theorem kp_X5_count {v : Int32} (C : kb_C p s m args meth c cc nL own w0 ret V A)  (hl : Cond.fieldLink own index "KnitBench$Shortest" "count" "I" ∈ kb_TB) (dg : decode cc pc = .ok (.putfield index, 3)) (K : kb_J p l e R s m args below meth c nL V A k n Q (pc + 3) L st (kb_WS V b (kb_p τ 0 v) ex)) : kb_J p l e R s m args below meth c nL V A k n Q pc L (.int v :: .ref (b 0) :: st) (kb_WS V b τ ex) :=
  kj_put C hi_X5 tyX5 tyX5_ok nmX5 0 rfl rfl 4 (by decide) hl rfl rfl rfl rfl rfl (by simp) rfl dg K
theorem kg_X5_length {v : Int32} (C : kb_C p s m args meth c cc nL own w0 ret V A)  (hl : Cond.fieldLink own index "KnitBench$Shortest" "length" "I" ∈ kb_TB) (dg : decode cc pc = .ok (.getfield index, 3)) (hv : kb_g τ 1 = v) (K : kb_J p l e R s m args below meth c nL V A k n Q (pc + 3) L (.int v :: st) (kb_WS V b τ ex)) : kb_J p l e R s m args below meth c nL V A k n Q pc L (.ref (b 0) :: st) (kb_WS V b τ ex) := by
  subst hv
  exact kj_get C hi_X5 0 rfl rfl 5 (by decide) hl rfl rfl dg K
theorem kp_X5_length {v : Int32} (C : kb_C p s m args meth c cc nL own w0 ret V A)  (hl : Cond.fieldLink own index "KnitBench$Shortest" "length" "I" ∈ kb_TB) (dg : decode cc pc = .ok (.putfield index, 3)) (K : kb_J p l e R s m args below meth c nL V A k n Q (pc + 3) L st (kb_WS V b (kb_p τ 1 v) ex)) : kb_J p l e R s m args below meth c nL V A k n Q pc L (.int v :: .ref (b 0) :: st) (kb_WS V b τ ex) :=
  kj_put C hi_X5 tyX5 tyX5_ok nmX5 0 rfl rfl 5 (by decide) hl rfl rfl rfl rfl rfl (by simp) rfl dg K
theorem ka_X5_table {i v : Int32} (C : kb_C p s m args meth c cc nL own w0 ret V A) (hin : kb_in i 5680 = true) (dg : decode cc pc = .ok (.iaload, 1)) (hv : kb_a τ 0 i.toNatClampNeg = v) (K : kb_J p l e R s m args below meth c nL V A k n Q (pc + 1) L (.int v :: st) (kb_WS V b τ ex)) : kb_J p l e R s m args below meth c nL V A k n Q pc L (.int i :: .ref (b 1) :: st) (kb_WS V b τ ex) := by
  subst hv
  exact kj_iald C 1 rfl (kb_inv hin) dg K
theorem ks_X5_table {i v : Int32} (C : kb_C p s m args meth c cc nL own w0 ret V A) (hin : kb_in i 5680 = true) (dg : decode cc pc = .ok (.iastore, 1)) (K : kb_J p l e R s m args below meth c nL V A k n Q (pc + 1) L st (kb_WS V b (kb_ap τ 0 i.toNatClampNeg v) ex)) : kb_J p l e R s m args below meth c nL V A k n Q pc L (.int v :: .int i :: .ref (b 1) :: st) (kb_WS V b τ ex) :=
  kj_iast C 1 rfl (kb_inv hin) rfl dg K
theorem ka_X5_sames {i v : Int32} (C : kb_C p s m args meth c cc nL own w0 ret V A) (hin : kb_in i 3200 = true) (dg : decode cc pc = .ok (.iaload, 1)) (hv : kb_a τ 1 i.toNatClampNeg = v) (K : kb_J p l e R s m args below meth c nL V A k n Q (pc + 1) L (.int v :: st) (kb_WS V b τ ex)) : kb_J p l e R s m args below meth c nL V A k n Q pc L (.int i :: .ref (b 2) :: st) (kb_WS V b τ ex) := by
  subst hv
  exact kj_iald C 2 rfl (kb_inv hin) dg K
theorem ks_X5_sames {i v : Int32} (C : kb_C p s m args meth c cc nL own w0 ret V A) (hin : kb_in i 3200 = true) (dg : decode cc pc = .ok (.iastore, 1)) (K : kb_J p l e R s m args below meth c nL V A k n Q (pc + 1) L st (kb_WS V b (kb_ap τ 1 i.toNatClampNeg v) ex)) : kb_J p l e R s m args below meth c nL V A k n Q pc L (.int v :: .int i :: .ref (b 2) :: st) (kb_WS V b τ ex) :=
  kj_iast C 2 rfl (kb_inv hin) rfl dg K
theorem ka_X5_stitches {i v : Int32} (C : kb_C p s m args meth c cc nL own w0 ret V A) (hin : kb_in i 80 = true) (dg : decode cc pc = .ok (.iaload, 1)) (hv : kb_a τ 2 i.toNatClampNeg = v) (K : kb_J p l e R s m args below meth c nL V A k n Q (pc + 1) L (.int v :: st) (kb_WS V b τ ex)) : kb_J p l e R s m args below meth c nL V A k n Q pc L (.int i :: .ref (b 3) :: st) (kb_WS V b τ ex) := by
  subst hv
  exact kj_iald C 3 rfl (kb_inv hin) dg K
theorem ks_X5_stitches {i v : Int32} (C : kb_C p s m args meth c cc nL own w0 ret V A) (hin : kb_in i 80 = true) (dg : decode cc pc = .ok (.iastore, 1)) (K : kb_J p l e R s m args below meth c nL V A k n Q (pc + 1) L st (kb_WS V b (kb_ap τ 2 i.toNatClampNeg v) ex)) : kb_J p l e R s m args below meth c nL V A k n Q pc L (.int v :: .int i :: .ref (b 3) :: st) (kb_WS V b τ ex) :=
  kj_iast C 3 rfl (kb_inv hin) rfl dg K
theorem ka_X5_text {i v : Int32} (C : kb_C p s m args meth c cc nL own w0 ret V A) (hin : kb_in i 480 = true) (dg : decode cc pc = .ok (.iaload, 1)) (hv : kb_a τ 3 i.toNatClampNeg = v) (K : kb_J p l e R s m args below meth c nL V A k n Q (pc + 1) L (.int v :: st) (kb_WS V b τ ex)) : kb_J p l e R s m args below meth c nL V A k n Q pc L (.int i :: .ref (b 4) :: st) (kb_WS V b τ ex) := by
  subst hv
  exact kj_iald C 4 rfl (kb_inv hin) dg K
theorem ks_X5_text {i v : Int32} (C : kb_C p s m args meth c cc nL own w0 ret V A) (hin : kb_in i 480 = true) (dg : decode cc pc = .ok (.iastore, 1)) (K : kb_J p l e R s m args below meth c nL V A k n Q (pc + 1) L st (kb_WS V b (kb_ap τ 3 i.toNatClampNeg v) ex)) : kb_J p l e R s m args below meth c nL V A k n Q pc L (.int v :: .int i :: .ref (b 4) :: st) (kb_WS V b τ ex) :=
  kj_iast C 4 rfl (kb_inv hin) rfl dg K
end KBFS
section KBFM
variable {p : Program} {l : Launch} {e : Env} {R : Room} {s : State} {m : MethodId} {args : Array Value} {below : List Frame} {meth : Method} {c : Code} {k n : Nat} {Q : State → Prop} {cc : ByteArray} {nL : Nat} {own : String} {w0 : Cond} {ret : Option FieldType} {V : kb_V} {A : Nat → Prop} {pc : Nat} {L : List (Nat × Value)} {st : List Value} {d : Nat → Nat} {μ : kb_S} {ex : va_W} {index : Nat}
theorem kg_X9_thrown {v : Int32} (C : kb_C p s m args meth c cc nL own w0 ret V A)  (hl : Cond.fieldLink own index "KnitBenchModel" "thrown" "I" ∈ kb_TB) (dg : decode cc pc = .ok (.getfield index, 3)) (hv : kb_g μ 0 = v) (K : kb_J p l e R s m args below meth c nL V A k n Q (pc + 3) L (.int v :: st) (kb_WM V d μ ex)) : kb_J p l e R s m args below meth c nL V A k n Q pc L (.ref (d 0) :: st) (kb_WM V d μ ex) := by
  subst hv
  exact kj_get C hi_X9 0 rfl rfl 0 (by decide) hl rfl rfl dg K
theorem kp_X9_thrown {v : Int32} (C : kb_C p s m args meth c cc nL own w0 ret V A)  (hl : Cond.fieldLink own index "KnitBenchModel" "thrown" "I" ∈ kb_TB) (dg : decode cc pc = .ok (.putfield index, 3)) (K : kb_J p l e R s m args below meth c nL V A k n Q (pc + 3) L st (kb_WM V d (kb_p μ 0 v) ex)) : kb_J p l e R s m args below meth c nL V A k n Q pc L (.int v :: .ref (d 0) :: st) (kb_WM V d μ ex) :=
  kj_put C hi_X9 tyX9 tyX9_ok nmX9 0 rfl rfl 0 (by decide) hl rfl rfl rfl rfl rfl (by simp) rfl dg K
theorem kg_X9_taped {v : Int32} (C : kb_C p s m args meth c cc nL own w0 ret V A)  (hl : Cond.fieldLink own index "KnitBenchModel" "taped" "I" ∈ kb_TB) (dg : decode cc pc = .ok (.getfield index, 3)) (hv : kb_g μ 1 = v) (K : kb_J p l e R s m args below meth c nL V A k n Q (pc + 3) L (.int v :: st) (kb_WM V d μ ex)) : kb_J p l e R s m args below meth c nL V A k n Q pc L (.ref (d 0) :: st) (kb_WM V d μ ex) := by
  subst hv
  exact kj_get C hi_X9 0 rfl rfl 1 (by decide) hl rfl rfl dg K
theorem kp_X9_taped {v : Int32} (C : kb_C p s m args meth c cc nL own w0 ret V A)  (hl : Cond.fieldLink own index "KnitBenchModel" "taped" "I" ∈ kb_TB) (dg : decode cc pc = .ok (.putfield index, 3)) (K : kb_J p l e R s m args below meth c nL V A k n Q (pc + 3) L st (kb_WM V d (kb_p μ 1 v) ex)) : kb_J p l e R s m args below meth c nL V A k n Q pc L (.int v :: .ref (d 0) :: st) (kb_WM V d μ ex) :=
  kj_put C hi_X9 tyX9 tyX9_ok nmX9 0 rfl rfl 1 (by decide) hl rfl rfl rfl rfl rfl (by simp) rfl dg K
theorem kg_X9_tape (C : kb_C p s m args meth c cc nL own w0 ret V A)  (hl : Cond.fieldLink own index "KnitBenchModel" "tape" "[I" ∈ kb_TB) (dg : decode cc pc = .ok (.getfield index, 3)) (K : kb_J p l e R s m args below meth c nL V A k n Q (pc + 3) L (.ref (d 1) :: st) (kb_WM V d μ ex)) : kb_J p l e R s m args below meth c nL V A k n Q pc L (.ref (d 0) :: st) (kb_WM V d μ ex) :=
  kj_get C hi_X9 0 rfl rfl 2 (by decide) hl rfl rfl dg K
theorem kg_X9_round {v : Int32} (C : kb_C p s m args meth c cc nL own w0 ret V A)  (hl : Cond.fieldLink own index "KnitBenchModel" "round" "Z" ∈ kb_TB) (dg : decode cc pc = .ok (.getfield index, 3)) (hv : kb_g μ 2 = v) (K : kb_J p l e R s m args below meth c nL V A k n Q (pc + 3) L (.int v :: st) (kb_WM V d μ ex)) : kb_J p l e R s m args below meth c nL V A k n Q pc L (.ref (d 0) :: st) (kb_WM V d μ ex) := by
  subst hv
  exact kj_get C hi_X9 0 rfl rfl 3 (by decide) hl rfl rfl dg K
theorem kp_X9_round {v : Int32} (C : kb_C p s m args meth c cc nL own w0 ret V A)  (hl : Cond.fieldLink own index "KnitBenchModel" "round" "Z" ∈ kb_TB) (dg : decode cc pc = .ok (.putfield index, 3)) (hb : v = 0 ∨ v = 1) (K : kb_J p l e R s m args below meth c nL V A k n Q (pc + 3) L st (kb_WM V d (kb_p μ 2 v) ex)) : kb_J p l e R s m args below meth c nL V A k n Q pc L (.int v :: .ref (d 0) :: st) (kb_WM V d μ ex) :=
  kj_put C hi_X9 tyX9 tyX9_ok nmX9 0 rfl rfl 3 (by decide) hl rfl rfl rfl (by rcases hb with rfl | rfl <;> rfl) (by rcases hb with rfl | rfl <;> rfl) (by simp) rfl dg K
theorem kg_X9_loops {v : Int32} (C : kb_C p s m args meth c cc nL own w0 ret V A)  (hl : Cond.fieldLink own index "KnitBenchModel" "loops" "I" ∈ kb_TB) (dg : decode cc pc = .ok (.getfield index, 3)) (hv : kb_g μ 3 = v) (K : kb_J p l e R s m args below meth c nL V A k n Q (pc + 3) L (.int v :: st) (kb_WM V d μ ex)) : kb_J p l e R s m args below meth c nL V A k n Q pc L (.ref (d 0) :: st) (kb_WM V d μ ex) := by
  subst hv
  exact kj_get C hi_X9 0 rfl rfl 4 (by decide) hl rfl rfl dg K
theorem kp_X9_loops {v : Int32} (C : kb_C p s m args meth c cc nL own w0 ret V A)  (hl : Cond.fieldLink own index "KnitBenchModel" "loops" "I" ∈ kb_TB) (dg : decode cc pc = .ok (.putfield index, 3)) (K : kb_J p l e R s m args below meth c nL V A k n Q (pc + 3) L st (kb_WM V d (kb_p μ 3 v) ex)) : kb_J p l e R s m args below meth c nL V A k n Q pc L (.int v :: .ref (d 0) :: st) (kb_WM V d μ ex) :=
  kj_put C hi_X9 tyX9 tyX9_ok nmX9 0 rfl rfl 4 (by decide) hl rfl rfl rfl rfl rfl (by simp) rfl dg K
theorem kg_X9_born (C : kb_C p s m args meth c cc nL own w0 ret V A)  (hl : Cond.fieldLink own index "KnitBenchModel" "born" "[I" ∈ kb_TB) (dg : decode cc pc = .ok (.getfield index, 3)) (K : kb_J p l e R s m args below meth c nL V A k n Q (pc + 3) L (.ref (d 2) :: st) (kb_WM V d μ ex)) : kb_J p l e R s m args below meth c nL V A k n Q pc L (.ref (d 0) :: st) (kb_WM V d μ ex) :=
  kj_get C hi_X9 0 rfl rfl 5 (by decide) hl rfl rfl dg K
theorem kg_X9_died (C : kb_C p s m args meth c cc nL own w0 ret V A)  (hl : Cond.fieldLink own index "KnitBenchModel" "died" "[I" ∈ kb_TB) (dg : decode cc pc = .ok (.getfield index, 3)) (K : kb_J p l e R s m args below meth c nL V A k n Q (pc + 3) L (.ref (d 3) :: st) (kb_WM V d μ ex)) : kb_J p l e R s m args below meth c nL V A k n Q pc L (.ref (d 0) :: st) (kb_WM V d μ ex) :=
  kj_get C hi_X9 0 rfl rfl 6 (by decide) hl rfl rfl dg K
theorem kg_X9_bound (C : kb_C p s m args meth c cc nL own w0 ret V A)  (hl : Cond.fieldLink own index "KnitBenchModel" "bound" "[Z" ∈ kb_TB) (dg : decode cc pc = .ok (.getfield index, 3)) (K : kb_J p l e R s m args below meth c nL V A k n Q (pc + 3) L (.ref (d 4) :: st) (kb_WM V d μ ex)) : kb_J p l e R s m args below meth c nL V A k n Q pc L (.ref (d 0) :: st) (kb_WM V d μ ex) :=
  kj_get C hi_X9 0 rfl rfl 7 (by decide) hl rfl rfl dg K
theorem kg_X9_parents (C : kb_C p s m args meth c cc nL own w0 ret V A)  (hl : Cond.fieldLink own index "KnitBenchModel" "parents" "[I" ∈ kb_TB) (dg : decode cc pc = .ok (.getfield index, 3)) (K : kb_J p l e R s m args below meth c nL V A k n Q (pc + 3) L (.ref (d 5) :: st) (kb_WM V d μ ex)) : kb_J p l e R s m args below meth c nL V A k n Q pc L (.ref (d 0) :: st) (kb_WM V d μ ex) :=
  kj_get C hi_X9 0 rfl rfl 8 (by decide) hl rfl rfl dg K
theorem kg_X9_parent (C : kb_C p s m args meth c cc nL own w0 ret V A)  (hl : Cond.fieldLink own index "KnitBenchModel" "parent" "[I" ∈ kb_TB) (dg : decode cc pc = .ok (.getfield index, 3)) (K : kb_J p l e R s m args below meth c nL V A k n Q (pc + 3) L (.ref (d 6) :: st) (kb_WM V d μ ex)) : kb_J p l e R s m args below meth c nL V A k n Q pc L (.ref (d 0) :: st) (kb_WM V d μ ex) :=
  kj_get C hi_X9 0 rfl rfl 9 (by decide) hl rfl rfl dg K
theorem kg_X9_rows {v : Int32} (C : kb_C p s m args meth c cc nL own w0 ret V A)  (hl : Cond.fieldLink own index "KnitBenchModel" "rows" "I" ∈ kb_TB) (dg : decode cc pc = .ok (.getfield index, 3)) (hv : kb_g μ 4 = v) (K : kb_J p l e R s m args below meth c nL V A k n Q (pc + 3) L (.int v :: st) (kb_WM V d μ ex)) : kb_J p l e R s m args below meth c nL V A k n Q pc L (.ref (d 0) :: st) (kb_WM V d μ ex) := by
  subst hv
  exact kj_get C hi_X9 0 rfl rfl 10 (by decide) hl rfl rfl dg K
theorem kp_X9_rows {v : Int32} (C : kb_C p s m args meth c cc nL own w0 ret V A)  (hl : Cond.fieldLink own index "KnitBenchModel" "rows" "I" ∈ kb_TB) (dg : decode cc pc = .ok (.putfield index, 3)) (K : kb_J p l e R s m args below meth c nL V A k n Q (pc + 3) L st (kb_WM V d (kb_p μ 4 v) ex)) : kb_J p l e R s m args below meth c nL V A k n Q pc L (.int v :: .ref (d 0) :: st) (kb_WM V d μ ex) :=
  kj_put C hi_X9 tyX9 tyX9_ok nmX9 0 rfl rfl 10 (by decide) hl rfl rfl rfl rfl rfl (by simp) rfl dg K
theorem kg_X9_begin (C : kb_C p s m args meth c cc nL own w0 ret V A)  (hl : Cond.fieldLink own index "KnitBenchModel" "begin" "[I" ∈ kb_TB) (dg : decode cc pc = .ok (.getfield index, 3)) (K : kb_J p l e R s m args below meth c nL V A k n Q (pc + 3) L (.ref (d 7) :: st) (kb_WM V d μ ex)) : kb_J p l e R s m args below meth c nL V A k n Q pc L (.ref (d 0) :: st) (kb_WM V d μ ex) :=
  kj_get C hi_X9 0 rfl rfl 11 (by decide) hl rfl rfl dg K
theorem kg_X9_many (C : kb_C p s m args meth c cc nL own w0 ret V A)  (hl : Cond.fieldLink own index "KnitBenchModel" "many" "[I" ∈ kb_TB) (dg : decode cc pc = .ok (.getfield index, 3)) (K : kb_J p l e R s m args below meth c nL V A k n Q (pc + 3) L (.ref (d 8) :: st) (kb_WM V d μ ex)) : kb_J p l e R s m args below meth c nL V A k n Q pc L (.ref (d 0) :: st) (kb_WM V d μ ex) :=
  kj_get C hi_X9 0 rfl rfl 12 (by decide) hl rfl rfl dg K
theorem kg_X9_stitch (C : kb_C p s m args meth c cc nL own w0 ret V A)  (hl : Cond.fieldLink own index "KnitBenchModel" "stitch" "[I" ∈ kb_TB) (dg : decode cc pc = .ok (.getfield index, 3)) (K : kb_J p l e R s m args below meth c nL V A k n Q (pc + 3) L (.ref (d 9) :: st) (kb_WM V d μ ex)) : kb_J p l e R s m args below meth c nL V A k n Q pc L (.ref (d 0) :: st) (kb_WM V d μ ex) :=
  kj_get C hi_X9 0 rfl rfl 13 (by decide) hl rfl rfl dg K
theorem kg_X9_at {v : Int32} (C : kb_C p s m args meth c cc nL own w0 ret V A)  (hl : Cond.fieldLink own index "KnitBenchModel" "at" "I" ∈ kb_TB) (dg : decode cc pc = .ok (.getfield index, 3)) (hv : kb_g μ 5 = v) (K : kb_J p l e R s m args below meth c nL V A k n Q (pc + 3) L (.int v :: st) (kb_WM V d μ ex)) : kb_J p l e R s m args below meth c nL V A k n Q pc L (.ref (d 0) :: st) (kb_WM V d μ ex) := by
  subst hv
  exact kj_get C hi_X9 0 rfl rfl 14 (by decide) hl rfl rfl dg K
theorem kp_X9_at {v : Int32} (C : kb_C p s m args meth c cc nL own w0 ret V A)  (hl : Cond.fieldLink own index "KnitBenchModel" "at" "I" ∈ kb_TB) (dg : decode cc pc = .ok (.putfield index, 3)) (K : kb_J p l e R s m args below meth c nL V A k n Q (pc + 3) L st (kb_WM V d (kb_p μ 5 v) ex)) : kb_J p l e R s m args below meth c nL V A k n Q pc L (.int v :: .ref (d 0) :: st) (kb_WM V d μ ex) :=
  kj_put C hi_X9 tyX9 tyX9_ok nmX9 0 rfl rfl 14 (by decide) hl rfl rfl rfl rfl rfl (by simp) rfl dg K
theorem kg_X9_fault {v : Int32} (C : kb_C p s m args meth c cc nL own w0 ret V A)  (hl : Cond.fieldLink own index "KnitBenchModel" "fault" "I" ∈ kb_TB) (dg : decode cc pc = .ok (.getfield index, 3)) (hv : kb_g μ 6 = v) (K : kb_J p l e R s m args below meth c nL V A k n Q (pc + 3) L (.int v :: st) (kb_WM V d μ ex)) : kb_J p l e R s m args below meth c nL V A k n Q pc L (.ref (d 0) :: st) (kb_WM V d μ ex) := by
  subst hv
  exact kj_get C hi_X9 0 rfl rfl 15 (by decide) hl rfl rfl dg K
theorem kp_X9_fault {v : Int32} (C : kb_C p s m args meth c cc nL own w0 ret V A)  (hl : Cond.fieldLink own index "KnitBenchModel" "fault" "I" ∈ kb_TB) (dg : decode cc pc = .ok (.putfield index, 3)) (K : kb_J p l e R s m args below meth c nL V A k n Q (pc + 3) L st (kb_WM V d (kb_p μ 6 v) ex)) : kb_J p l e R s m args below meth c nL V A k n Q pc L (.int v :: .ref (d 0) :: st) (kb_WM V d μ ex) :=
  kj_put C hi_X9 tyX9 tyX9_ok nmX9 0 rfl rfl 15 (by decide) hl rfl rfl rfl rfl rfl (by simp) rfl dg K
theorem kg_X9_place {v : Int32} (C : kb_C p s m args meth c cc nL own w0 ret V A)  (hl : Cond.fieldLink own index "KnitBenchModel" "place" "I" ∈ kb_TB) (dg : decode cc pc = .ok (.getfield index, 3)) (hv : kb_g μ 7 = v) (K : kb_J p l e R s m args below meth c nL V A k n Q (pc + 3) L (.int v :: st) (kb_WM V d μ ex)) : kb_J p l e R s m args below meth c nL V A k n Q pc L (.ref (d 0) :: st) (kb_WM V d μ ex) := by
  subst hv
  exact kj_get C hi_X9 0 rfl rfl 16 (by decide) hl rfl rfl dg K
theorem kp_X9_place {v : Int32} (C : kb_C p s m args meth c cc nL own w0 ret V A)  (hl : Cond.fieldLink own index "KnitBenchModel" "place" "I" ∈ kb_TB) (dg : decode cc pc = .ok (.putfield index, 3)) (K : kb_J p l e R s m args below meth c nL V A k n Q (pc + 3) L st (kb_WM V d (kb_p μ 7 v) ex)) : kb_J p l e R s m args below meth c nL V A k n Q pc L (.int v :: .ref (d 0) :: st) (kb_WM V d μ ex) :=
  kj_put C hi_X9 tyX9 tyX9_ok nmX9 0 rfl rfl 16 (by decide) hl rfl rfl rfl rfl rfl (by simp) rfl dg K
theorem kg_X9_depth {v : Int32} (C : kb_C p s m args meth c cc nL own w0 ret V A)  (hl : Cond.fieldLink own index "KnitBenchModel" "depth" "I" ∈ kb_TB) (dg : decode cc pc = .ok (.getfield index, 3)) (hv : kb_g μ 8 = v) (K : kb_J p l e R s m args below meth c nL V A k n Q (pc + 3) L (.int v :: st) (kb_WM V d μ ex)) : kb_J p l e R s m args below meth c nL V A k n Q pc L (.ref (d 0) :: st) (kb_WM V d μ ex) := by
  subst hv
  exact kj_get C hi_X9 0 rfl rfl 17 (by decide) hl rfl rfl dg K
theorem kp_X9_depth {v : Int32} (C : kb_C p s m args meth c cc nL own w0 ret V A)  (hl : Cond.fieldLink own index "KnitBenchModel" "depth" "I" ∈ kb_TB) (dg : decode cc pc = .ok (.putfield index, 3)) (K : kb_J p l e R s m args below meth c nL V A k n Q (pc + 3) L st (kb_WM V d (kb_p μ 8 v) ex)) : kb_J p l e R s m args below meth c nL V A k n Q pc L (.int v :: .ref (d 0) :: st) (kb_WM V d μ ex) :=
  kj_put C hi_X9 tyX9 tyX9_ok nmX9 0 rfl rfl 17 (by decide) hl rfl rfl rfl rfl rfl (by simp) rfl dg K
theorem kg_X9_marks {v : Int32} (C : kb_C p s m args meth c cc nL own w0 ret V A)  (hl : Cond.fieldLink own index "KnitBenchModel" "marks" "I" ∈ kb_TB) (dg : decode cc pc = .ok (.getfield index, 3)) (hv : kb_g μ 9 = v) (K : kb_J p l e R s m args below meth c nL V A k n Q (pc + 3) L (.int v :: st) (kb_WM V d μ ex)) : kb_J p l e R s m args below meth c nL V A k n Q pc L (.ref (d 0) :: st) (kb_WM V d μ ex) := by
  subst hv
  exact kj_get C hi_X9 0 rfl rfl 18 (by decide) hl rfl rfl dg K
theorem kp_X9_marks {v : Int32} (C : kb_C p s m args meth c cc nL own w0 ret V A)  (hl : Cond.fieldLink own index "KnitBenchModel" "marks" "I" ∈ kb_TB) (dg : decode cc pc = .ok (.putfield index, 3)) (K : kb_J p l e R s m args below meth c nL V A k n Q (pc + 3) L st (kb_WM V d (kb_p μ 9 v) ex)) : kb_J p l e R s m args below meth c nL V A k n Q pc L (.int v :: .ref (d 0) :: st) (kb_WM V d μ ex) :=
  kj_put C hi_X9 tyX9 tyX9_ok nmX9 0 rfl rfl 18 (by decide) hl rfl rfl rfl rfl rfl (by simp) rfl dg K
theorem kg_X9_mark (C : kb_C p s m args meth c cc nL own w0 ret V A)  (hl : Cond.fieldLink own index "KnitBenchModel" "mark" "[I" ∈ kb_TB) (dg : decode cc pc = .ok (.getfield index, 3)) (K : kb_J p l e R s m args below meth c nL V A k n Q (pc + 3) L (.ref (d 10) :: st) (kb_WM V d μ ex)) : kb_J p l e R s m args below meth c nL V A k n Q pc L (.ref (d 0) :: st) (kb_WM V d μ ex) :=
  kj_get C hi_X9 0 rfl rfl 19 (by decide) hl rfl rfl dg K
theorem kg_X9_number (C : kb_C p s m args meth c cc nL own w0 ret V A)  (hl : Cond.fieldLink own index "KnitBenchModel" "number" "[I" ∈ kb_TB) (dg : decode cc pc = .ok (.getfield index, 3)) (K : kb_J p l e R s m args below meth c nL V A k n Q (pc + 3) L (.ref (d 11) :: st) (kb_WM V d μ ex)) : kb_J p l e R s m args below meth c nL V A k n Q pc L (.ref (d 0) :: st) (kb_WM V d μ ex) :=
  kj_get C hi_X9 0 rfl rfl 20 (by decide) hl rfl rfl dg K
theorem kg_X9_where (C : kb_C p s m args meth c cc nL own w0 ret V A)  (hl : Cond.fieldLink own index "KnitBenchModel" "where" "[I" ∈ kb_TB) (dg : decode cc pc = .ok (.getfield index, 3)) (K : kb_J p l e R s m args below meth c nL V A k n Q (pc + 3) L (.ref (d 12) :: st) (kb_WM V d μ ex)) : kb_J p l e R s m args below meth c nL V A k n Q pc L (.ref (d 0) :: st) (kb_WM V d μ ex) :=
  kj_get C hi_X9 0 rfl rfl 21 (by decide) hl rfl rfl dg K
theorem kg_X9_other (C : kb_C p s m args meth c cc nL own w0 ret V A)  (hl : Cond.fieldLink own index "KnitBenchModel" "other" "[I" ∈ kb_TB) (dg : decode cc pc = .ok (.getfield index, 3)) (K : kb_J p l e R s m args below meth c nL V A k n Q (pc + 3) L (.ref (d 13) :: st) (kb_WM V d μ ex)) : kb_J p l e R s m args below meth c nL V A k n Q pc L (.ref (d 0) :: st) (kb_WM V d μ ex) :=
  kj_get C hi_X9 0 rfl rfl 22 (by decide) hl rfl rfl dg K
theorem kg_X9_size {v : Int32} (C : kb_C p s m args meth c cc nL own w0 ret V A)  (hl : Cond.fieldLink own index "KnitBenchModel" "size" "I" ∈ kb_TB) (dg : decode cc pc = .ok (.getfield index, 3)) (hv : kb_g μ 10 = v) (K : kb_J p l e R s m args below meth c nL V A k n Q (pc + 3) L (.int v :: st) (kb_WM V d μ ex)) : kb_J p l e R s m args below meth c nL V A k n Q pc L (.ref (d 0) :: st) (kb_WM V d μ ex) := by
  subst hv
  exact kj_get C hi_X9 0 rfl rfl 23 (by decide) hl rfl rfl dg K
theorem kp_X9_size {v : Int32} (C : kb_C p s m args meth c cc nL own w0 ret V A)  (hl : Cond.fieldLink own index "KnitBenchModel" "size" "I" ∈ kb_TB) (dg : decode cc pc = .ok (.putfield index, 3)) (K : kb_J p l e R s m args below meth c nL V A k n Q (pc + 3) L st (kb_WM V d (kb_p μ 10 v) ex)) : kb_J p l e R s m args below meth c nL V A k n Q pc L (.int v :: .ref (d 0) :: st) (kb_WM V d μ ex) :=
  kj_put C hi_X9 tyX9 tyX9_ok nmX9 0 rfl rfl 23 (by decide) hl rfl rfl rfl rfl rfl (by simp) rfl dg K
theorem kg_X9_made (C : kb_C p s m args meth c cc nL own w0 ret V A)  (hl : Cond.fieldLink own index "KnitBenchModel" "made" "[I" ∈ kb_TB) (dg : decode cc pc = .ok (.getfield index, 3)) (K : kb_J p l e R s m args below meth c nL V A k n Q (pc + 3) L (.ref (d 14) :: st) (kb_WM V d μ ex)) : kb_J p l e R s m args below meth c nL V A k n Q pc L (.ref (d 0) :: st) (kb_WM V d μ ex) :=
  kj_get C hi_X9 0 rfl rfl 24 (by decide) hl rfl rfl dg K
theorem kg_X9_written {v : Int32} (C : kb_C p s m args meth c cc nL own w0 ret V A)  (hl : Cond.fieldLink own index "KnitBenchModel" "written" "I" ∈ kb_TB) (dg : decode cc pc = .ok (.getfield index, 3)) (hv : kb_g μ 11 = v) (K : kb_J p l e R s m args below meth c nL V A k n Q (pc + 3) L (.int v :: st) (kb_WM V d μ ex)) : kb_J p l e R s m args below meth c nL V A k n Q pc L (.ref (d 0) :: st) (kb_WM V d μ ex) := by
  subst hv
  exact kj_get C hi_X9 0 rfl rfl 25 (by decide) hl rfl rfl dg K
theorem kp_X9_written {v : Int32} (C : kb_C p s m args meth c cc nL own w0 ret V A)  (hl : Cond.fieldLink own index "KnitBenchModel" "written" "I" ∈ kb_TB) (dg : decode cc pc = .ok (.putfield index, 3)) (K : kb_J p l e R s m args below meth c nL V A k n Q (pc + 3) L st (kb_WM V d (kb_p μ 11 v) ex)) : kb_J p l e R s m args below meth c nL V A k n Q pc L (.int v :: .ref (d 0) :: st) (kb_WM V d μ ex) :=
  kj_put C hi_X9 tyX9 tyX9_ok nmX9 0 rfl rfl 25 (by decide) hl rfl rfl rfl rfl rfl (by simp) rfl dg K
theorem kg_X9_out (C : kb_C p s m args meth c cc nL own w0 ret V A)  (hl : Cond.fieldLink own index "KnitBenchModel" "out" "[I" ∈ kb_TB) (dg : decode cc pc = .ok (.getfield index, 3)) (K : kb_J p l e R s m args below meth c nL V A k n Q (pc + 3) L (.ref (d 15) :: st) (kb_WM V d μ ex)) : kb_J p l e R s m args below meth c nL V A k n Q pc L (.ref (d 0) :: st) (kb_WM V d μ ex) :=
  kj_get C hi_X9 0 rfl rfl 26 (by decide) hl rfl rfl dg K
theorem kg_X9_words (C : kb_C p s m args meth c cc nL own w0 ret V A)  (hl : Cond.fieldLink own index "KnitBenchModel" "words" "[I" ∈ kb_TB) (dg : decode cc pc = .ok (.getfield index, 3)) (K : kb_J p l e R s m args below meth c nL V A k n Q (pc + 3) L (.ref (d 16) :: st) (kb_WM V d μ ex)) : kb_J p l e R s m args below meth c nL V A k n Q pc L (.ref (d 0) :: st) (kb_WM V d μ ex) :=
  kj_get C hi_X9 0 rfl rfl 27 (by decide) hl rfl rfl dg K
theorem kg_X9_way (C : kb_C p s m args meth c cc nL own w0 ret V A)  (hl : Cond.fieldLink own index "KnitBenchModel" "way" "[I" ∈ kb_TB) (dg : decode cc pc = .ok (.getfield index, 3)) (K : kb_J p l e R s m args below meth c nL V A k n Q (pc + 3) L (.ref (d 17) :: st) (kb_WM V d μ ex)) : kb_J p l e R s m args below meth c nL V A k n Q pc L (.ref (d 0) :: st) (kb_WM V d μ ex) :=
  kj_get C hi_X9 0 rfl rfl 28 (by decide) hl rfl rfl dg K
theorem kg_X9_open (C : kb_C p s m args meth c cc nL own w0 ret V A)  (hl : Cond.fieldLink own index "KnitBenchModel" "open" "[I" ∈ kb_TB) (dg : decode cc pc = .ok (.getfield index, 3)) (K : kb_J p l e R s m args below meth c nL V A k n Q (pc + 3) L (.ref (d 18) :: st) (kb_WM V d μ ex)) : kb_J p l e R s m args below meth c nL V A k n Q pc L (.ref (d 0) :: st) (kb_WM V d μ ex) :=
  kj_get C hi_X9 0 rfl rfl 29 (by decide) hl rfl rfl dg K
theorem kg_X9_turns (C : kb_C p s m args meth c cc nL own w0 ret V A)  (hl : Cond.fieldLink own index "KnitBenchModel" "turns" "[I" ∈ kb_TB) (dg : decode cc pc = .ok (.getfield index, 3)) (K : kb_J p l e R s m args below meth c nL V A k n Q (pc + 3) L (.ref (d 19) :: st) (kb_WM V d μ ex)) : kb_J p l e R s m args below meth c nL V A k n Q pc L (.ref (d 0) :: st) (kb_WM V d μ ex) :=
  kj_get C hi_X9 0 rfl rfl 30 (by decide) hl rfl rfl dg K
theorem kg_X9_task (C : kb_C p s m args meth c cc nL own w0 ret V A)  (hl : Cond.fieldLink own index "KnitBenchModel" "task" "[I" ∈ kb_TB) (dg : decode cc pc = .ok (.getfield index, 3)) (K : kb_J p l e R s m args below meth c nL V A k n Q (pc + 3) L (.ref (d 20) :: st) (kb_WM V d μ ex)) : kb_J p l e R s m args below meth c nL V A k n Q pc L (.ref (d 0) :: st) (kb_WM V d μ ex) :=
  kj_get C hi_X9 0 rfl rfl 31 (by decide) hl rfl rfl dg K
theorem ka_X9_tape {i v : Int32} (C : kb_C p s m args meth c cc nL own w0 ret V A) (hin : kb_in i 200 = true) (dg : decode cc pc = .ok (.iaload, 1)) (hv : kb_a μ 0 i.toNatClampNeg = v) (K : kb_J p l e R s m args below meth c nL V A k n Q (pc + 1) L (.int v :: st) (kb_WM V d μ ex)) : kb_J p l e R s m args below meth c nL V A k n Q pc L (.int i :: .ref (d 1) :: st) (kb_WM V d μ ex) := by
  subst hv
  exact kj_iald C 1 rfl (kb_inv hin) dg K
theorem ks_X9_tape {i v : Int32} (C : kb_C p s m args meth c cc nL own w0 ret V A) (hin : kb_in i 200 = true) (dg : decode cc pc = .ok (.iastore, 1)) (K : kb_J p l e R s m args below meth c nL V A k n Q (pc + 1) L st (kb_WM V d (kb_ap μ 0 i.toNatClampNeg v) ex)) : kb_J p l e R s m args below meth c nL V A k n Q pc L (.int v :: .int i :: .ref (d 1) :: st) (kb_WM V d μ ex) :=
  kj_iast C 1 rfl (kb_inv hin) rfl dg K
theorem ka_X9_born {i v : Int32} (C : kb_C p s m args meth c cc nL own w0 ret V A) (hin : kb_in i 600 = true) (dg : decode cc pc = .ok (.iaload, 1)) (hv : kb_a μ 1 i.toNatClampNeg = v) (K : kb_J p l e R s m args below meth c nL V A k n Q (pc + 1) L (.int v :: st) (kb_WM V d μ ex)) : kb_J p l e R s m args below meth c nL V A k n Q pc L (.int i :: .ref (d 2) :: st) (kb_WM V d μ ex) := by
  subst hv
  exact kj_iald C 2 rfl (kb_inv hin) dg K
theorem ks_X9_born {i v : Int32} (C : kb_C p s m args meth c cc nL own w0 ret V A) (hin : kb_in i 600 = true) (dg : decode cc pc = .ok (.iastore, 1)) (K : kb_J p l e R s m args below meth c nL V A k n Q (pc + 1) L st (kb_WM V d (kb_ap μ 1 i.toNatClampNeg v) ex)) : kb_J p l e R s m args below meth c nL V A k n Q pc L (.int v :: .int i :: .ref (d 2) :: st) (kb_WM V d μ ex) :=
  kj_iast C 2 rfl (kb_inv hin) rfl dg K
theorem ka_X9_died {i v : Int32} (C : kb_C p s m args meth c cc nL own w0 ret V A) (hin : kb_in i 600 = true) (dg : decode cc pc = .ok (.iaload, 1)) (hv : kb_a μ 2 i.toNatClampNeg = v) (K : kb_J p l e R s m args below meth c nL V A k n Q (pc + 1) L (.int v :: st) (kb_WM V d μ ex)) : kb_J p l e R s m args below meth c nL V A k n Q pc L (.int i :: .ref (d 3) :: st) (kb_WM V d μ ex) := by
  subst hv
  exact kj_iald C 3 rfl (kb_inv hin) dg K
theorem ks_X9_died {i v : Int32} (C : kb_C p s m args meth c cc nL own w0 ret V A) (hin : kb_in i 600 = true) (dg : decode cc pc = .ok (.iastore, 1)) (K : kb_J p l e R s m args below meth c nL V A k n Q (pc + 1) L st (kb_WM V d (kb_ap μ 2 i.toNatClampNeg v) ex)) : kb_J p l e R s m args below meth c nL V A k n Q pc L (.int v :: .int i :: .ref (d 3) :: st) (kb_WM V d μ ex) :=
  kj_iast C 3 rfl (kb_inv hin) rfl dg K
theorem ka_X9_bound {i v : Int32} (C : kb_C p s m args meth c cc nL own w0 ret V A) (hin : kb_in i 600 = true) (dg : decode cc pc = .ok (.baload, 1)) (hv : kb_a μ 3 i.toNatClampNeg = v) (K : kb_J p l e R s m args below meth c nL V A k n Q (pc + 1) L (.int v :: st) (kb_WM V d μ ex)) : kb_J p l e R s m args below meth c nL V A k n Q pc L (.int i :: .ref (d 4) :: st) (kb_WM V d μ ex) := by
  subst hv
  exact kj_zald C 4 rfl (kb_inv hin) dg K
theorem ks_X9_bound {i v : Int32} (C : kb_C p s m args meth c cc nL own w0 ret V A) (hin : kb_in i 600 = true) (dg : decode cc pc = .ok (.bastore, 1)) (K : kb_J p l e R s m args below meth c nL V A k n Q (pc + 1) L st (kb_WM V d (kb_ap μ 3 i.toNatClampNeg (vp_nar .boolean v)) ex)) : kb_J p l e R s m args below meth c nL V A k n Q pc L (.int v :: .int i :: .ref (d 4) :: st) (kb_WM V d μ ex) :=
  kj_zast C 4 rfl (kb_inv hin) rfl dg K
theorem ka_X9_parents {i v : Int32} (C : kb_C p s m args meth c cc nL own w0 ret V A) (hin : kb_in i 600 = true) (dg : decode cc pc = .ok (.iaload, 1)) (hv : kb_a μ 4 i.toNatClampNeg = v) (K : kb_J p l e R s m args below meth c nL V A k n Q (pc + 1) L (.int v :: st) (kb_WM V d μ ex)) : kb_J p l e R s m args below meth c nL V A k n Q pc L (.int i :: .ref (d 5) :: st) (kb_WM V d μ ex) := by
  subst hv
  exact kj_iald C 5 rfl (kb_inv hin) dg K
theorem ks_X9_parents {i v : Int32} (C : kb_C p s m args meth c cc nL own w0 ret V A) (hin : kb_in i 600 = true) (dg : decode cc pc = .ok (.iastore, 1)) (K : kb_J p l e R s m args below meth c nL V A k n Q (pc + 1) L st (kb_WM V d (kb_ap μ 4 i.toNatClampNeg v) ex)) : kb_J p l e R s m args below meth c nL V A k n Q pc L (.int v :: .int i :: .ref (d 5) :: st) (kb_WM V d μ ex) :=
  kj_iast C 5 rfl (kb_inv hin) rfl dg K
theorem ka_X9_parent {i v : Int32} (C : kb_C p s m args meth c cc nL own w0 ret V A) (hin : kb_in i 1800 = true) (dg : decode cc pc = .ok (.iaload, 1)) (hv : kb_a μ 5 i.toNatClampNeg = v) (K : kb_J p l e R s m args below meth c nL V A k n Q (pc + 1) L (.int v :: st) (kb_WM V d μ ex)) : kb_J p l e R s m args below meth c nL V A k n Q pc L (.int i :: .ref (d 6) :: st) (kb_WM V d μ ex) := by
  subst hv
  exact kj_iald C 6 rfl (kb_inv hin) dg K
theorem ks_X9_parent {i v : Int32} (C : kb_C p s m args meth c cc nL own w0 ret V A) (hin : kb_in i 1800 = true) (dg : decode cc pc = .ok (.iastore, 1)) (K : kb_J p l e R s m args below meth c nL V A k n Q (pc + 1) L st (kb_WM V d (kb_ap μ 5 i.toNatClampNeg v) ex)) : kb_J p l e R s m args below meth c nL V A k n Q pc L (.int v :: .int i :: .ref (d 6) :: st) (kb_WM V d μ ex) :=
  kj_iast C 6 rfl (kb_inv hin) rfl dg K
theorem ka_X9_begin {i v : Int32} (C : kb_C p s m args meth c cc nL own w0 ret V A) (hin : kb_in i 32 = true) (dg : decode cc pc = .ok (.iaload, 1)) (hv : kb_a μ 6 i.toNatClampNeg = v) (K : kb_J p l e R s m args below meth c nL V A k n Q (pc + 1) L (.int v :: st) (kb_WM V d μ ex)) : kb_J p l e R s m args below meth c nL V A k n Q pc L (.int i :: .ref (d 7) :: st) (kb_WM V d μ ex) := by
  subst hv
  exact kj_iald C 7 rfl (kb_inv hin) dg K
theorem ks_X9_begin {i v : Int32} (C : kb_C p s m args meth c cc nL own w0 ret V A) (hin : kb_in i 32 = true) (dg : decode cc pc = .ok (.iastore, 1)) (K : kb_J p l e R s m args below meth c nL V A k n Q (pc + 1) L st (kb_WM V d (kb_ap μ 6 i.toNatClampNeg v) ex)) : kb_J p l e R s m args below meth c nL V A k n Q pc L (.int v :: .int i :: .ref (d 7) :: st) (kb_WM V d μ ex) :=
  kj_iast C 7 rfl (kb_inv hin) rfl dg K
theorem ka_X9_many {i v : Int32} (C : kb_C p s m args meth c cc nL own w0 ret V A) (hin : kb_in i 31 = true) (dg : decode cc pc = .ok (.iaload, 1)) (hv : kb_a μ 7 i.toNatClampNeg = v) (K : kb_J p l e R s m args below meth c nL V A k n Q (pc + 1) L (.int v :: st) (kb_WM V d μ ex)) : kb_J p l e R s m args below meth c nL V A k n Q pc L (.int i :: .ref (d 8) :: st) (kb_WM V d μ ex) := by
  subst hv
  exact kj_iald C 8 rfl (kb_inv hin) dg K
theorem ks_X9_many {i v : Int32} (C : kb_C p s m args meth c cc nL own w0 ret V A) (hin : kb_in i 31 = true) (dg : decode cc pc = .ok (.iastore, 1)) (K : kb_J p l e R s m args below meth c nL V A k n Q (pc + 1) L st (kb_WM V d (kb_ap μ 7 i.toNatClampNeg v) ex)) : kb_J p l e R s m args below meth c nL V A k n Q pc L (.int v :: .int i :: .ref (d 8) :: st) (kb_WM V d μ ex) :=
  kj_iast C 8 rfl (kb_inv hin) rfl dg K
theorem ka_X9_stitch {i v : Int32} (C : kb_C p s m args meth c cc nL own w0 ret V A) (hin : kb_in i 2480 = true) (dg : decode cc pc = .ok (.iaload, 1)) (hv : kb_a μ 8 i.toNatClampNeg = v) (K : kb_J p l e R s m args below meth c nL V A k n Q (pc + 1) L (.int v :: st) (kb_WM V d μ ex)) : kb_J p l e R s m args below meth c nL V A k n Q pc L (.int i :: .ref (d 9) :: st) (kb_WM V d μ ex) := by
  subst hv
  exact kj_iald C 9 rfl (kb_inv hin) dg K
theorem ks_X9_stitch {i v : Int32} (C : kb_C p s m args meth c cc nL own w0 ret V A) (hin : kb_in i 2480 = true) (dg : decode cc pc = .ok (.iastore, 1)) (K : kb_J p l e R s m args below meth c nL V A k n Q (pc + 1) L st (kb_WM V d (kb_ap μ 8 i.toNatClampNeg v) ex)) : kb_J p l e R s m args below meth c nL V A k n Q pc L (.int v :: .int i :: .ref (d 9) :: st) (kb_WM V d μ ex) :=
  kj_iast C 9 rfl (kb_inv hin) rfl dg K
theorem ka_X9_mark {i v : Int32} (C : kb_C p s m args meth c cc nL own w0 ret V A) (hin : kb_in i 220 = true) (dg : decode cc pc = .ok (.iaload, 1)) (hv : kb_a μ 9 i.toNatClampNeg = v) (K : kb_J p l e R s m args below meth c nL V A k n Q (pc + 1) L (.int v :: st) (kb_WM V d μ ex)) : kb_J p l e R s m args below meth c nL V A k n Q pc L (.int i :: .ref (d 10) :: st) (kb_WM V d μ ex) := by
  subst hv
  exact kj_iald C 10 rfl (kb_inv hin) dg K
theorem ks_X9_mark {i v : Int32} (C : kb_C p s m args meth c cc nL own w0 ret V A) (hin : kb_in i 220 = true) (dg : decode cc pc = .ok (.iastore, 1)) (K : kb_J p l e R s m args below meth c nL V A k n Q (pc + 1) L st (kb_WM V d (kb_ap μ 9 i.toNatClampNeg v) ex)) : kb_J p l e R s m args below meth c nL V A k n Q pc L (.int v :: .int i :: .ref (d 10) :: st) (kb_WM V d μ ex) :=
  kj_iast C 10 rfl (kb_inv hin) rfl dg K
theorem ka_X9_number {i v : Int32} (C : kb_C p s m args meth c cc nL own w0 ret V A) (hin : kb_in i 220 = true) (dg : decode cc pc = .ok (.iaload, 1)) (hv : kb_a μ 10 i.toNatClampNeg = v) (K : kb_J p l e R s m args below meth c nL V A k n Q (pc + 1) L (.int v :: st) (kb_WM V d μ ex)) : kb_J p l e R s m args below meth c nL V A k n Q pc L (.int i :: .ref (d 11) :: st) (kb_WM V d μ ex) := by
  subst hv
  exact kj_iald C 11 rfl (kb_inv hin) dg K
theorem ks_X9_number {i v : Int32} (C : kb_C p s m args meth c cc nL own w0 ret V A) (hin : kb_in i 220 = true) (dg : decode cc pc = .ok (.iastore, 1)) (K : kb_J p l e R s m args below meth c nL V A k n Q (pc + 1) L st (kb_WM V d (kb_ap μ 10 i.toNatClampNeg v) ex)) : kb_J p l e R s m args below meth c nL V A k n Q pc L (.int v :: .int i :: .ref (d 11) :: st) (kb_WM V d μ ex) :=
  kj_iast C 11 rfl (kb_inv hin) rfl dg K
theorem ka_X9_where {i v : Int32} (C : kb_C p s m args meth c cc nL own w0 ret V A) (hin : kb_in i 220 = true) (dg : decode cc pc = .ok (.iaload, 1)) (hv : kb_a μ 11 i.toNatClampNeg = v) (K : kb_J p l e R s m args below meth c nL V A k n Q (pc + 1) L (.int v :: st) (kb_WM V d μ ex)) : kb_J p l e R s m args below meth c nL V A k n Q pc L (.int i :: .ref (d 12) :: st) (kb_WM V d μ ex) := by
  subst hv
  exact kj_iald C 12 rfl (kb_inv hin) dg K
theorem ks_X9_where {i v : Int32} (C : kb_C p s m args meth c cc nL own w0 ret V A) (hin : kb_in i 220 = true) (dg : decode cc pc = .ok (.iastore, 1)) (K : kb_J p l e R s m args below meth c nL V A k n Q (pc + 1) L st (kb_WM V d (kb_ap μ 11 i.toNatClampNeg v) ex)) : kb_J p l e R s m args below meth c nL V A k n Q pc L (.int v :: .int i :: .ref (d 12) :: st) (kb_WM V d μ ex) :=
  kj_iast C 12 rfl (kb_inv hin) rfl dg K
theorem ka_X9_other {i v : Int32} (C : kb_C p s m args meth c cc nL own w0 ret V A) (hin : kb_in i 220 = true) (dg : decode cc pc = .ok (.iaload, 1)) (hv : kb_a μ 12 i.toNatClampNeg = v) (K : kb_J p l e R s m args below meth c nL V A k n Q (pc + 1) L (.int v :: st) (kb_WM V d μ ex)) : kb_J p l e R s m args below meth c nL V A k n Q pc L (.int i :: .ref (d 13) :: st) (kb_WM V d μ ex) := by
  subst hv
  exact kj_iald C 13 rfl (kb_inv hin) dg K
theorem ks_X9_other {i v : Int32} (C : kb_C p s m args meth c cc nL own w0 ret V A) (hin : kb_in i 220 = true) (dg : decode cc pc = .ok (.iastore, 1)) (K : kb_J p l e R s m args below meth c nL V A k n Q (pc + 1) L st (kb_WM V d (kb_ap μ 12 i.toNatClampNeg v) ex)) : kb_J p l e R s m args below meth c nL V A k n Q pc L (.int v :: .int i :: .ref (d 13) :: st) (kb_WM V d μ ex) :=
  kj_iast C 13 rfl (kb_inv hin) rfl dg K
theorem ka_X9_made {i v : Int32} (C : kb_C p s m args meth c cc nL own w0 ret V A) (hin : kb_in i 700 = true) (dg : decode cc pc = .ok (.iaload, 1)) (hv : kb_a μ 13 i.toNatClampNeg = v) (K : kb_J p l e R s m args below meth c nL V A k n Q (pc + 1) L (.int v :: st) (kb_WM V d μ ex)) : kb_J p l e R s m args below meth c nL V A k n Q pc L (.int i :: .ref (d 14) :: st) (kb_WM V d μ ex) := by
  subst hv
  exact kj_iald C 14 rfl (kb_inv hin) dg K
theorem ks_X9_made {i v : Int32} (C : kb_C p s m args meth c cc nL own w0 ret V A) (hin : kb_in i 700 = true) (dg : decode cc pc = .ok (.iastore, 1)) (K : kb_J p l e R s m args below meth c nL V A k n Q (pc + 1) L st (kb_WM V d (kb_ap μ 13 i.toNatClampNeg v) ex)) : kb_J p l e R s m args below meth c nL V A k n Q pc L (.int v :: .int i :: .ref (d 14) :: st) (kb_WM V d μ ex) :=
  kj_iast C 14 rfl (kb_inv hin) rfl dg K
theorem ka_X9_out {i v : Int32} (C : kb_C p s m args meth c cc nL own w0 ret V A) (hin : kb_in i 1200 = true) (dg : decode cc pc = .ok (.iaload, 1)) (hv : kb_a μ 14 i.toNatClampNeg = v) (K : kb_J p l e R s m args below meth c nL V A k n Q (pc + 1) L (.int v :: st) (kb_WM V d μ ex)) : kb_J p l e R s m args below meth c nL V A k n Q pc L (.int i :: .ref (d 15) :: st) (kb_WM V d μ ex) := by
  subst hv
  exact kj_iald C 15 rfl (kb_inv hin) dg K
theorem ks_X9_out {i v : Int32} (C : kb_C p s m args meth c cc nL own w0 ret V A) (hin : kb_in i 1200 = true) (dg : decode cc pc = .ok (.iastore, 1)) (K : kb_J p l e R s m args below meth c nL V A k n Q (pc + 1) L st (kb_WM V d (kb_ap μ 14 i.toNatClampNeg v) ex)) : kb_J p l e R s m args below meth c nL V A k n Q pc L (.int v :: .int i :: .ref (d 15) :: st) (kb_WM V d μ ex) :=
  kj_iast C 15 rfl (kb_inv hin) rfl dg K
theorem ka_X9_words {i v : Int32} (C : kb_C p s m args meth c cc nL own w0 ret V A) (hin : kb_in i 32400 = true) (dg : decode cc pc = .ok (.iaload, 1)) (hv : kb_a μ 15 i.toNatClampNeg = v) (K : kb_J p l e R s m args below meth c nL V A k n Q (pc + 1) L (.int v :: st) (kb_WM V d μ ex)) : kb_J p l e R s m args below meth c nL V A k n Q pc L (.int i :: .ref (d 16) :: st) (kb_WM V d μ ex) := by
  subst hv
  exact kj_iald C 16 rfl (kb_inv hin) dg K
theorem ks_X9_words {i v : Int32} (C : kb_C p s m args meth c cc nL own w0 ret V A) (hin : kb_in i 32400 = true) (dg : decode cc pc = .ok (.iastore, 1)) (K : kb_J p l e R s m args below meth c nL V A k n Q (pc + 1) L st (kb_WM V d (kb_ap μ 15 i.toNatClampNeg v) ex)) : kb_J p l e R s m args below meth c nL V A k n Q pc L (.int v :: .int i :: .ref (d 16) :: st) (kb_WM V d μ ex) :=
  kj_iast C 16 rfl (kb_inv hin) rfl dg K
theorem ka_X9_way {i v : Int32} (C : kb_C p s m args meth c cc nL own w0 ret V A) (hin : kb_in i 32400 = true) (dg : decode cc pc = .ok (.iaload, 1)) (hv : kb_a μ 16 i.toNatClampNeg = v) (K : kb_J p l e R s m args below meth c nL V A k n Q (pc + 1) L (.int v :: st) (kb_WM V d μ ex)) : kb_J p l e R s m args below meth c nL V A k n Q pc L (.int i :: .ref (d 17) :: st) (kb_WM V d μ ex) := by
  subst hv
  exact kj_iald C 17 rfl (kb_inv hin) dg K
theorem ks_X9_way {i v : Int32} (C : kb_C p s m args meth c cc nL own w0 ret V A) (hin : kb_in i 32400 = true) (dg : decode cc pc = .ok (.iastore, 1)) (K : kb_J p l e R s m args below meth c nL V A k n Q (pc + 1) L st (kb_WM V d (kb_ap μ 16 i.toNatClampNeg v) ex)) : kb_J p l e R s m args below meth c nL V A k n Q pc L (.int v :: .int i :: .ref (d 17) :: st) (kb_WM V d μ ex) :=
  kj_iast C 17 rfl (kb_inv hin) rfl dg K
theorem ka_X9_open {i v : Int32} (C : kb_C p s m args meth c cc nL own w0 ret V A) (hin : kb_in i 5 = true) (dg : decode cc pc = .ok (.iaload, 1)) (hv : kb_a μ 17 i.toNatClampNeg = v) (K : kb_J p l e R s m args below meth c nL V A k n Q (pc + 1) L (.int v :: st) (kb_WM V d μ ex)) : kb_J p l e R s m args below meth c nL V A k n Q pc L (.int i :: .ref (d 18) :: st) (kb_WM V d μ ex) := by
  subst hv
  exact kj_iald C 18 rfl (kb_inv hin) dg K
theorem ks_X9_open {i v : Int32} (C : kb_C p s m args meth c cc nL own w0 ret V A) (hin : kb_in i 5 = true) (dg : decode cc pc = .ok (.iastore, 1)) (K : kb_J p l e R s m args below meth c nL V A k n Q (pc + 1) L st (kb_WM V d (kb_ap μ 17 i.toNatClampNeg v) ex)) : kb_J p l e R s m args below meth c nL V A k n Q pc L (.int v :: .int i :: .ref (d 18) :: st) (kb_WM V d μ ex) :=
  kj_iast C 18 rfl (kb_inv hin) rfl dg K
theorem ka_X9_turns {i v : Int32} (C : kb_C p s m args meth c cc nL own w0 ret V A) (hin : kb_in i 220 = true) (dg : decode cc pc = .ok (.iaload, 1)) (hv : kb_a μ 18 i.toNatClampNeg = v) (K : kb_J p l e R s m args below meth c nL V A k n Q (pc + 1) L (.int v :: st) (kb_WM V d μ ex)) : kb_J p l e R s m args below meth c nL V A k n Q pc L (.int i :: .ref (d 19) :: st) (kb_WM V d μ ex) := by
  subst hv
  exact kj_iald C 19 rfl (kb_inv hin) dg K
theorem ks_X9_turns {i v : Int32} (C : kb_C p s m args meth c cc nL own w0 ret V A) (hin : kb_in i 220 = true) (dg : decode cc pc = .ok (.iastore, 1)) (K : kb_J p l e R s m args below meth c nL V A k n Q (pc + 1) L st (kb_WM V d (kb_ap μ 18 i.toNatClampNeg v) ex)) : kb_J p l e R s m args below meth c nL V A k n Q pc L (.int v :: .int i :: .ref (d 19) :: st) (kb_WM V d μ ex) :=
  kj_iast C 19 rfl (kb_inv hin) rfl dg K
theorem ka_X9_task {i v : Int32} (C : kb_C p s m args meth c cc nL own w0 ret V A) (hin : kb_in i 800 = true) (dg : decode cc pc = .ok (.iaload, 1)) (hv : kb_a μ 19 i.toNatClampNeg = v) (K : kb_J p l e R s m args below meth c nL V A k n Q (pc + 1) L (.int v :: st) (kb_WM V d μ ex)) : kb_J p l e R s m args below meth c nL V A k n Q pc L (.int i :: .ref (d 20) :: st) (kb_WM V d μ ex) := by
  subst hv
  exact kj_iald C 20 rfl (kb_inv hin) dg K
theorem ks_X9_task {i v : Int32} (C : kb_C p s m args meth c cc nL own w0 ret V A) (hin : kb_in i 800 = true) (dg : decode cc pc = .ok (.iastore, 1)) (K : kb_J p l e R s m args below meth c nL V A k n Q (pc + 1) L st (kb_WM V d (kb_ap μ 19 i.toNatClampNeg v) ex)) : kb_J p l e R s m args below meth c nL V A k n Q pc L (.int v :: .int i :: .ref (d 20) :: st) (kb_WM V d μ ex) :=
  kj_iast C 20 rfl (kb_inv hin) rfl dg K
end KBFM
