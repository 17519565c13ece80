/-! reading a memory behind writing -/
theorem vt_gp (σ : kb_S) (k j : Nat) (v : Int32) : kb_g (kb_p σ k v) j = if j = k then v else kb_g σ j := rfl
theorem vt_ga (σ : kb_S) (k i j : Nat) (v : Int32) : kb_g (kb_ap σ k i v) j = kb_g σ j := rfl
theorem vt_gb (σ : kb_S) (k i j : Nat) (v : Int64) : kb_g (kb_bp σ k i v) j = kb_g σ j := rfl
theorem vt_ap (σ : kb_S) (k j : Nat) (v : Int32) : kb_a (kb_p σ k v) j = kb_a σ j := rfl
theorem vt_aa (σ : kb_S) (k i j : Nat) (v : Int32) : kb_a (kb_ap σ k i v) j = if j = k then upd (kb_a σ k) i v else kb_a σ j := rfl
theorem vt_ab (σ : kb_S) (k i j : Nat) (v : Int64) : kb_a (kb_bp σ k i v) j = kb_a σ j := rfl
theorem vt_bp (σ : kb_S) (k j : Nat) (v : Int32) : kb_b (kb_p σ k v) j = kb_b σ j := rfl
theorem vt_ba (σ : kb_S) (k i j : Nat) (v : Int32) : kb_b (kb_ap σ k i v) j = kb_b σ j := rfl
theorem vt_bb (σ : kb_S) (k i j : Nat) (v : Int64) : kb_b (kb_bp σ k i v) j = if j = k then vp_updL (kb_b σ k) i v else kb_b σ j := rfl
theorem vt_upd (f : Nat → Int32) (i j : Nat) (v : Int32) : upd f i v j = if j = i then v else f j := rfl
theorem vt_updL (f : Nat → Int64) (i j : Nat) (v : Int64) : vp_updL f i v j = if j = i then v else f j := rfl
/-! numbers -/
theorem vt_int {n : Nat} (h : n < 2 ^ 31) : (nI n).toInt = n := Int32.toInt_ofNat_of_lt h
theorem vt_in {n m : Nat} (h : n < 2 ^ 31) : (kb_in (nI n) m = true) = (n < m) := by
  unfold kb_in
  rw [decide_eq_true_eq, vt_int h]
  simp
theorem vt_in' {n m : Nat} (h : n < 2 ^ 31) (hm : n < m) : kb_in (nI n) m = true := by rw [vt_in h]; exact hm
theorem vt_neg {n : Nat} (h : n < 2 ^ 31) : ¬ nI n < 0 := by
  rw [show (0 : Int32) = nI 0 from rfl, nI_ltI h (by decide)]; omega
theorem vt_leI {a b : Nat} (h1 : a < 2 ^ 31) (h2 : b < 2 ^ 31) : (nI a ≤ nI b) = (a ≤ b) := propext (nI_leI h1 h2)
theorem vt_ltI {a b : Nat} (h1 : a < 2 ^ 31) (h2 : b < 2 ^ 31) : (nI a < nI b) = (a < b) := propext (nI_ltI h1 h2)
theorem vt_eqI {a b : Nat} (h1 : a < 2 ^ 31) (h2 : b < 2 ^ 31) : (nI a = nI b) = (a = b) := propext (nI_eq h1 h2)
theorem vt_0 : (0 : Int32) = nI 0 := rfl
theorem vt_1 : (1 : Int32) = nI 1 := rfl
theorem vt_2 : (2 : Int32) = nI 2 := rfl
theorem vt_3 : (3 : Int32) = nI 3 := rfl
theorem vt_4 : (4 : Int32) = nI 4 := rfl
theorem vt_5 : (5 : Int32) = nI 5 := rfl
theorem vt_6 : (6 : Int32) = nI 6 := rfl
theorem vt_7 : (7 : Int32) = nI 7 := rfl
theorem vt_8 : (8 : Int32) = nI 8 := rfl
theorem vt_9 : (9 : Int32) = nI 9 := rfl
theorem vt_10 : (10 : Int32) = nI 10 := rfl
theorem vt_30 : (30 : Int32) = nI 30 := rfl
theorem vt_40 : (40 : Int32) = nI 40 := rfl
theorem vt_80 : (80 : Int32) = nI 80 := rfl
theorem vt_100 : (100 : Int32) = nI 100 := rfl
theorem vt_200 : (200 : Int32) = nI 200 := rfl
theorem vt_600 : (600 : Int32) = nI 600 := rfl
theorem vt_1200 : (1200 : Int32) = nI 1200 := rfl
theorem vt_n1 : (-1 : Int32) = -(nI 1) := rfl
/-- an index of any kind against a bound -/
theorem vt_cases (x : Int32) {n : Nat} (h : n < 2 ^ 31) : x < 0 ∨ nI n ≤ x ∨ ∃ j, j < n ∧ x = nI j := pk_ix x h
theorem vt_nat {x : Int32} (h : ¬ x < 0) : ∃ n : Nat, n < 2 ^ 31 ∧ x = nI n := by
  rcases pk_ix x (n := 2 ^ 31 - 1) (by decide) with h1 | h1 | ⟨j, h1, h2⟩
  · exact absurd h1 h
  · refine ⟨2 ^ 31 - 1, by decide, ?_⟩
    have h3 : x.toInt ≤ 2 ^ 31 - 1 := by have := x.toInt_lt; omega
    have h4 : (nI (2 ^ 31 - 1)).toInt ≤ x.toInt := Int32.le_iff_toInt_le.mp h1
    rw [vt_int (by decide)] at h4
    apply Int32.toInt_inj.mp
    rw [vt_int (by decide)]
    omega
  · exact ⟨j, by omega, h2⟩
theorem vt_fu : kb_FU = 1000000000 := rfl
theorem vt_an {a b : Nat} (h : b ≤ a) : nI a + -(nI b) = nI (a - b) := by rw [← Int32.sub_eq_add_neg, pk_sub h]
theorem vt_of (n : Nat) : Int32.ofNat n = nI n := rfl
theorem vt_aax (σ : kb_S) (k i j x : Nat) (v : Int32) : kb_a (kb_ap σ k i v) j x = if j = k ∧ x = i then v else kb_a σ j x := by
  rw [vt_aa]
  by_cases h : j = k
  · subst h; rw [if_pos rfl, vt_upd]
    by_cases h2 : x = i
    · rw [if_pos h2, if_pos ⟨rfl, h2⟩]
    · rw [if_neg h2, if_neg (fun h3 => h2 h3.2)]
  · rw [if_neg h, if_neg (fun h3 => h h3.1)]
theorem vt_bbx (σ : kb_S) (k i j x : Nat) (v : Int64) : kb_b (kb_bp σ k i v) j x = if j = k ∧ x = i then v else kb_b σ j x := by
  rw [vt_bb]
  by_cases h : j = k
  · subst h; rw [if_pos rfl, vt_updL]
    by_cases h2 : x = i
    · rw [if_pos h2, if_pos ⟨rfl, h2⟩]
    · rw [if_neg h2, if_neg (fun h3 => h2 h3.2)]
  · rw [if_neg h, if_neg (fun h3 => h h3.1)]
