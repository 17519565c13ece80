/-! stitches -/
def vt_vs (s : Nat) : Bool := decide (s < 10) || (decide (1 ≤ (s - 10) / 100) && decide ((s - 10) / 100 ≤ 5) && decide (1 ≤ (s - 10) / 10 % 10) && decide ((s - 10) / 10 % 10 ≤ 5) && decide ((s - 10) % 10 ≤ 1))
def vt_ca (s : Nat) : Nat := (s - 10) / 100
def vt_cb (s : Nat) : Nat := (s - 10) / 10 % 10
def vt_tk (s : Nat) : Nat := if s < 100 then (if s = 7 ∨ s = 9 then 0 else if s = 3 ∨ s = 4 then 2 else if s = 5 then 3 else 1) else vt_ca s + vt_cb s
def vt_mk (s : Nat) : Nat := if s < 100 then (if s = 6 then 2 else if s = 8 then 0 else 1) else vt_ca s + vt_cb s
theorem vt_vs_lt {s : Nat} (h : vt_vs s = true) : s < 600 := by
  simp only [vt_vs, Bool.or_eq_true, Bool.and_eq_true, decide_eq_true_eq] at h
  omega
theorem vt_st_1 : ∀ s, s < 600 → vt_vs s = true → fn_X6_loopsTaken (nI s) = some (nI (vt_tk s)) ∧ fn_X6_loopsMade (nI s) = some (nI (vt_mk s)) ∧ fn_X9_takes (nI s) = nI (vt_tk s) ∧ fn_X9_makes (nI s) = nI (vt_mk s) := by decide +kernel
theorem vt_st_2 : ∀ s, s < 600 → vt_vs s = true → (fn_X6_isCable (nI s) = (if s < 100 then 0 else 1)) := by decide +kernel
theorem vt_st_3 : ∀ s, s < 600 → vt_vs s = true → 100 ≤ s → fn_X6_cableA (nI s) = nI (vt_ca s) ∧ fn_X6_cableB (nI s) = nI (vt_cb s) ∧ fn_X9_a (nI s) = nI (vt_ca s) ∧ fn_X9_b (nI s) = nI (vt_cb s) := by decide +kernel
theorem vt_st_4 : ∀ s, s < 600 → vt_vs s = true → 100 ≤ s → 1 ≤ vt_ca s ∧ vt_ca s ≤ 5 ∧ 1 ≤ vt_cb s ∧ vt_cb s ≤ 5 := by decide +kernel
theorem vt_st_5 : ∀ s, s < 600 → vt_vs s = true → vt_tk s ≤ 10 ∧ vt_mk s ≤ 10 ∧ 1 ≤ vt_tk s + vt_mk s := by decide +kernel
theorem vt_st_6 : ∀ s, s < 600 → vt_vs s = true → s < 100 → s < 10 ∧ vt_tk s ≤ 3 ∧ vt_mk s ≤ 2 := by decide +kernel
theorem vt_st {s : Nat} (h : vt_vs s = true) : fn_X6_loopsTaken (nI s) = some (nI (vt_tk s)) ∧ fn_X6_loopsMade (nI s) = some (nI (vt_mk s)) ∧ fn_X9_takes (nI s) = nI (vt_tk s) ∧ fn_X9_makes (nI s) = nI (vt_mk s) ∧
    fn_X6_isCable (nI s) = (if s < 100 then 0 else 1) ∧ (100 ≤ s → fn_X6_cableA (nI s) = nI (vt_ca s) ∧ fn_X6_cableB (nI s) = nI (vt_cb s) ∧ fn_X9_a (nI s) = nI (vt_ca s) ∧ fn_X9_b (nI s) = nI (vt_cb s) ∧ 1 ≤ vt_ca s ∧ vt_ca s ≤ 5 ∧ 1 ≤ vt_cb s ∧ vt_cb s ≤ 5) ∧ vt_tk s ≤ 10 ∧ vt_mk s ≤ 10 ∧ 1 ≤ vt_tk s + vt_mk s ∧ (s < 100 → s < 10 ∧ vt_tk s ≤ 3 ∧ vt_mk s ≤ 2) := by
  have h0 := vt_vs_lt h
  obtain ⟨a1, a2, a3, a4⟩ := vt_st_1 s h0 h
  obtain ⟨a5, a6, a7⟩ := vt_st_5 s h0 h
  refine ⟨a1, a2, a3, a4, vt_st_2 s h0 h, fun hc => ?_, a5, a6, a7, vt_st_6 s h0 h⟩
  obtain ⟨b1, b2, b3, b4⟩ := vt_st_3 s h0 h hc
  exact ⟨b1, b2, b3, b4, vt_st_4 s h0 h hc⟩
/-! sums over a stretch -/
def vt_sum (f : Nat → Nat) (a : Nat) : Nat → Nat
  | 0 => 0
  | n + 1 => vt_sum f a n + f (a + n)
theorem vt_sum_le {f : Nat → Nat} {a b : Nat} : ∀ n, (∀ i, i < n → f (a + i) ≤ b) → vt_sum f a n ≤ b * n
  | 0, _ => by simp [vt_sum]
  | n + 1, h => by
      have h1 := vt_sum_le n (fun i hi => h i (by omega))
      have h2 := h n (by omega)
      rw [vt_sum, Nat.mul_succ]; omega
theorem vt_sum_congr {f g : Nat → Nat} {a b : Nat} : ∀ n, (∀ i, i < n → f (a + i) = g (b + i)) → vt_sum f a n = vt_sum g b n
  | 0, _ => rfl
  | n + 1, h => by rw [vt_sum, vt_sum, vt_sum_congr n (fun i hi => h i (by omega)), h n (by omega)]
theorem vt_sum_add {f : Nat → Nat} {a : Nat} (n : Nat) : ∀ m, vt_sum f a (n + m) = vt_sum f a n + vt_sum f (a + n) m
  | 0 => by simp [vt_sum]
  | m + 1 => by rw [← Nat.add_assoc, vt_sum, vt_sum, vt_sum_add n m, Nat.add_assoc a n m]; omega
theorem vt_sum_mono {f : Nat → Nat} {a : Nat} {n m : Nat} (h : n ≤ m) : vt_sum f a n ≤ vt_sum f a m := by
  obtain ⟨k, rfl⟩ := Nat.le.dest h; rw [vt_sum_add]; omega
def vt_is (c : Prop) [Decidable c] : Nat := if c then 1 else 0
/-! what class and reference hold alike -/
def vt_T (tl : Nat) (tp : Nat → Nat) (σ μ : kb_S) : Prop :=
  tl ≤ 200 ∧ kb_g σ 0 = nI tl ∧ kb_g μ 1 = nI tl ∧ ∀ i, i < tl → tp i < 256 ∧ kb_a σ 0 i = nI (tp i) ∧ kb_a μ 0 i = nI (tp i)
/-- the fabric as such: rows and loops and stitches, no memory in it -/
def vt_K (R : Nat) (F G S : Nat → Nat) : Prop :=
  R ≤ 30 ∧ F 0 = 0 ∧ G 0 = 0 ∧ G 1 = 0 ∧ F (R + 1) ≤ 600 ∧ (∀ r, r ≤ R → F r < F (r + 1) ∧ F (r + 1) - F r ≤ 40 ∧ G r ≤ G (r + 1) ∧ G (r + 1) - G r ≤ 80) ∧
  (∀ i, i < G (R + 1) → vt_vs (S i) = true) ∧
  (∀ r, 1 ≤ r → r ≤ R → vt_sum (fun i => vt_tk (S i)) (G r) (G (r + 1) - G r) = F r - F (r - 1) ∧ vt_sum (fun i => vt_mk (S i)) (G r) (G (r + 1) - G r) = F (r + 1) - F r)
/-- step from a place of the needle to the next -/
def vt_stp (w : Int32) : Int32 := if w = 0 then -(nI 1) else nI 1
/-- the loop x of row r as both hold it -/
def vt_L (w : Int32) (R r x : Nat) (F : Nat → Nat) (σ μ : kb_S) : Prop :=
  kb_a μ 1 x = nI r ∧ kb_a μ 2 x = nI (if r < R then r + 1 else 0) ∧ (kb_a μ 3 x = 0 ∨ kb_a μ 3 x = 1) ∧ (r = R → kb_a μ 3 x = 0) ∧
  ∃ c, c ≤ 3 ∧ (r = 0 → c = 0) ∧ kb_a σ 4 x = nI c ∧ kb_a μ 4 x = nI c ∧ ∀ j, j < c → ∃ y, F (r - 1) ≤ y ∧ y < F r ∧ kb_a μ 5 (3 * x + j) = nI y ∧ kb_a σ 5 x + nI j * vt_stp w = nI y
def vt_F (w : Int32) (R : Nat) (F G S : Nat → Nat) (σ μ : kb_S) : Prop :=
  (w = 0 ∨ w = 1) ∧ kb_g σ 1 = w ∧ kb_g μ 2 = w ∧ kb_g σ 2 = nI R ∧ kb_g μ 4 = nI R ∧ kb_g μ 3 = nI (F (R + 1)) ∧
  kb_g σ 3 = nI (F (R + 1) - F R) ∧ kb_g σ 4 = (if w = 0 then nI (F (R + 1)) - nI 1 else nI (F R)) ∧ kb_g σ 5 = vt_stp w ∧
  (∀ r, r ≤ R + 1 → kb_a σ 1 r = nI (F r) ∧ kb_a σ 2 r = nI (G r) ∧ kb_a μ 6 r = nI (F r)) ∧
  (∀ i, i < G (R + 1) → kb_a σ 3 i = nI (S i)) ∧
  (∀ r, 1 ≤ r → r ≤ R → kb_a μ 7 r = nI (G (r + 1) - G r) ∧ (∀ k, k < G (r + 1) - G r → kb_a μ 8 (80 * r + k) = nI (S (G r + k))) ∧
    vt_sum (fun x => vt_is (kb_a μ 3 x = 1)) (F (r - 1)) (F r - F (r - 1)) = vt_sum (fun i => vt_is (S i = 8)) (G r) (G (r + 1) - G r)) ∧
  ∀ r, r ≤ R → ∀ x, F r ≤ x → x < F (r + 1) → vt_L w R r x F σ μ
def vt_O (T : Option kb_S) (μ : kb_S) : Prop :=
  (T = none ∧ kb_g μ 11 = 0) ∨ ∃ τ n, T = some τ ∧ n ≤ 480 ∧ kb_g τ 1 = nI n ∧ kb_g μ 11 = nI n ∧ ∀ i, i < n → kb_a τ 3 i = kb_a μ 14 i
def vt_I : kb_I := fun σ T μ => (∃ tl tp, vt_T tl tp σ μ) ∧ (∃ w R F G S, vt_K R F G S ∧ vt_F w R F G S σ μ) ∧ vt_O T μ
/-! what doesn't touch them -/
theorem vt_T.mu {tl : Nat} {tp : Nat → Nat} {σ μ μ2 : kb_S} (h : vt_T tl tp σ μ) (h1 : kb_g μ2 1 = kb_g μ 1) (h2 : kb_a μ2 0 = kb_a μ 0) : vt_T tl tp σ μ2 := by
  unfold vt_T at *; rw [h1, h2]; exact h
theorem vt_T.si {tl : Nat} {tp : Nat → Nat} {σ σ2 μ : kb_S} (h : vt_T tl tp σ μ) (h1 : kb_g σ2 0 = kb_g σ 0) (h2 : kb_a σ2 0 = kb_a σ 0) : vt_T tl tp σ2 μ := by
  unfold vt_T at *; rw [h1, h2]; exact h
theorem vt_O.mu {T : Option kb_S} {μ μ2 : kb_S} (h : vt_O T μ) (h1 : kb_g μ2 11 = kb_g μ 11) (h2 : kb_a μ2 14 = kb_a μ 14) : vt_O T μ2 := by
  unfold vt_O at *; rw [h1, h2]; exact h
theorem vt_F.same {w : Int32} {R : Nat} {F G S : Nat → Nat} {σ σ2 μ μ2 : kb_S} (h : vt_F w R F G S σ μ) (h1 : ∀ k, 1 ≤ k → k ≤ 5 → kb_g σ2 k = kb_g σ k ∧ kb_a σ2 k = kb_a σ k) (h2 : ∀ k, 2 ≤ k → k ≤ 4 → kb_g μ2 k = kb_g μ k) (h3 : ∀ k, 1 ≤ k → k ≤ 8 → kb_a μ2 k = kb_a μ k) : vt_F w R F G S σ2 μ2 := by
  unfold vt_F vt_L at *
  rw [(h1 1 (by decide) (by decide)).1, (h1 2 (by decide) (by decide)).1, (h1 3 (by decide) (by decide)).1, (h1 4 (by decide) (by decide)).1, (h1 5 (by decide) (by decide)).1, (h1 1 (by decide) (by decide)).2, (h1 2 (by decide) (by decide)).2, (h1 3 (by decide) (by decide)).2, (h1 4 (by decide) (by decide)).2, (h1 5 (by decide) (by decide)).2,
    h2 2 (by decide) (by decide), h2 3 (by decide) (by decide), h2 4 (by decide) (by decide), h3 1 (by decide) (by decide), h3 2 (by decide) (by decide), h3 3 (by decide) (by decide), h3 4 (by decide) (by decide), h3 5 (by decide) (by decide), h3 6 (by decide) (by decide), h3 7 (by decide) (by decide), h3 8 (by decide) (by decide)]
  exact h
/-- the reference notes whether it threw: nothing else sees it -/
theorem vt_I.thr {σ μ : kb_S} {T : Option kb_S} (h : vt_I σ T μ) (v : Int32) : vt_I σ T (kb_p μ 0 v) := by
  obtain ⟨⟨tl, tp, hT⟩, ⟨w, R, F, G, S, hK, hF⟩, hO⟩ := h
  refine ⟨⟨tl, tp, hT.mu rfl rfl⟩, ⟨w, R, F, G, S, hK, hF.same (fun _ _ _ => ⟨rfl, rfl⟩) (fun k hk _ => ?_) (fun _ _ _ => rfl)⟩, hO.mu rfl rfl⟩
  rw [vt_gp, if_neg (by omega)]
