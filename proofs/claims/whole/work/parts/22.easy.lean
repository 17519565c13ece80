theorem vt_pred {n : Nat} (h : n < 2 ^ 31) : (nI n - nI 1).toInt = (n : Int) - 1 := by
  rcases Nat.eq_zero_or_pos n with h0 | h0
  · subst h0; decide
  · rw [pk_sub (by omega), vt_int (by omega)]; omega
theorem vt_in0 {n : Nat} (h : n < 2 ^ 31) (x : Int32) : fn_X9_in x 0 (nI n - nI 1) = if x < 0 ∨ nI n ≤ x then 0 else 1 := by
  unfold fn_X9_in
  by_cases h0 : x < 0
  · rw [if_pos h0, if_pos (Or.inl h0)]
  · rw [if_neg h0]
    obtain ⟨j, hj, rfl⟩ := vt_nat h0
    have e : (nI n - nI 1 < nI j) ↔ (nI n ≤ nI j) := by
      rw [vt_leI h hj, Int32.lt_iff_toInt_lt, vt_pred h, vt_int hj]; omega
    by_cases h1 : nI n ≤ nI j
    · rw [if_pos (e.mpr h1), if_pos (Or.inr h1)]
    · rw [if_neg (fun h2 => h1 (e.mp h2)), if_neg (fun h2 => h2.elim h0 h1)]
theorem vt_says0 (μ : kb_S) : fn_X9_says 0 μ = some (kb_p μ 0 1, 0) := by
  unfold fn_X9_says fp_X9_says_10; simp
theorem vt_says1 (μ : kb_S) : fn_X9_says 1 μ = some (kb_p μ 0 0, 1) := by
  unfold fn_X9_says fp_X9_says_10; rw [if_neg (by decide), if_pos (Or.inr rfl)]
theorem vt_ok_rows : ok_rows vt_I := by
  intro σ T μ h
  refine ⟨kb_p μ 0 0, ?_, h.thr 0⟩
  obtain ⟨-, ⟨w, R, F, G, S, hK, hF⟩, -⟩ := h
  unfold fn_X9_rows fn_X8_rows fn_X0_rowCount
  rw [hF.2.2.2.1, hF.2.2.2.2.1]
theorem vt_live9 {w : Int32} {R : Nat} {F G S : Nat → Nat} {σ μ : kb_S} (hK : vt_K R F G S) (hF : vt_F w R F G S σ μ) : fn_X9_liveLoops μ = some (nI (F (R + 1) - F R)) := by
  unfold fn_X9_liveLoops
  have h1 := hK.1
  have h2 := (hK.2.2.2.2.2.1 R (Nat.le_refl _)).1
  simp (disch := omega) only [vt_gp, vt_ga, vt_gb, vt_ap, vt_aax, vt_ab, vt_bp, vt_ba, vt_bbx, vt_in, vt_leI, vt_ltI, vt_eqI, nI_clamp, nI_add, pk_sub, vt_an, pk_mul, pk_div, pk_rem, vt_0, vt_1, vt_2, vt_3, vt_4, vt_5, vt_6, vt_7, vt_8, vt_9, vt_10, vt_30, vt_40, vt_80, vt_100, vt_200, vt_600, vt_1200, vt_of, if_pos, if_neg, ↓reduceIte, true_and, false_and, and_true, and_false, Option.bind_some, Nat.reduceEqDiff, Nat.reduceAdd, Nat.reduceMul, Nat.reduceSub, reduceCtorEq, hF.2.2.2.2.1, hF.2.2.2.2.2.1, (hF.2.2.2.2.2.2.2.2.2.1 R (by omega)).2.2]
/-- the loop at a place of the needle -/
def vt_nd (w : Int32) (R : Nat) (F : Nat → Nat) (i : Nat) : Nat := if w = 0 then F (R + 1) - 1 - i else F R + i
theorem vt_nd_in {w : Int32} {R : Nat} {F : Nat → Nat} {i : Nat} (h : i < F (R + 1) - F R) : F R ≤ vt_nd w R F i ∧ vt_nd w R F i < F (R + 1) := by
  unfold vt_nd; split <;> omega
theorem vt_needle9 {w : Int32} {R : Nat} {F G S : Nat → Nat} {σ μ : kb_S} (hK : vt_K R F G S) (hF : vt_F w R F G S σ μ) {j : Nat} (hj : j < F (R + 1) - F R) : fn_X9_needle (nI j) μ = some (nI (vt_nd w R F j)) := by
  unfold fn_X9_needle vt_nd
  have h1 := hK.1
  by_cases hw : w = 0
  · rw [if_pos hw, if_pos (by rw [hF.2.2.1]; exact hw)]
    simp (disch := omega) only [vt_gp, vt_ga, vt_gb, vt_ap, vt_aax, vt_ab, vt_bp, vt_ba, vt_bbx, vt_in, vt_leI, vt_ltI, vt_eqI, nI_clamp, nI_add, pk_sub, vt_an, pk_mul, pk_div, pk_rem, vt_0, vt_1, vt_2, vt_3, vt_4, vt_5, vt_6, vt_7, vt_8, vt_9, vt_10, vt_30, vt_40, vt_80, vt_100, vt_200, vt_600, vt_1200, vt_of, if_pos, if_neg, ↓reduceIte, true_and, false_and, and_true, and_false, Option.bind_some, Nat.reduceEqDiff, Nat.reduceAdd, Nat.reduceMul, Nat.reduceSub, reduceCtorEq, hF.2.2.2.2.2.1]
  · rw [if_neg hw, if_neg (by rw [hF.2.2.1]; exact hw)]
    simp (disch := omega) only [vt_gp, vt_ga, vt_gb, vt_ap, vt_aax, vt_ab, vt_bp, vt_ba, vt_bbx, vt_in, vt_leI, vt_ltI, vt_eqI, nI_clamp, nI_add, pk_sub, vt_an, pk_mul, pk_div, pk_rem, vt_0, vt_1, vt_2, vt_3, vt_4, vt_5, vt_6, vt_7, vt_8, vt_9, vt_10, vt_30, vt_40, vt_80, vt_100, vt_200, vt_600, vt_1200, vt_of, if_pos, if_neg, ↓reduceIte, true_and, false_and, and_true, and_false, Option.bind_some, Nat.reduceEqDiff, Nat.reduceAdd, Nat.reduceMul, Nat.reduceSub, reduceCtorEq, hF.2.2.2.2.1, (hF.2.2.2.2.2.2.2.2.2.1 R (by omega)).2.2]
theorem vt_needle0 {w : Int32} {R : Nat} {F G S : Nat → Nat} {σ μ : kb_S} (hK : vt_K R F G S) (hF : vt_F w R F G S σ μ) (x : Int32) : fn_X0_needleLoop x σ = -1 ∧ (x < 0 ∨ nI (F (R + 1) - F R) ≤ x) ∨ ∃ j, j < F (R + 1) - F R ∧ x = nI j ∧ fn_X0_needleLoop x σ = nI (vt_nd w R F j) := by
  have h2 := (hK.2.2.2.2.1)
  unfold fn_X0_needleLoop
  rw [hF.2.2.2.2.2.2.1, hF.2.2.2.2.2.2.2.1, hF.2.2.2.2.2.2.2.2.1]
  rcases vt_cases x (n := F (R + 1) - F R) (by omega) with hx | hx | ⟨j, hj, rfl⟩
  · left; rw [if_pos hx]; exact ⟨rfl, Or.inl hx⟩
  · left
    by_cases h0 : x < 0
    · rw [if_pos h0]; exact ⟨rfl, Or.inl h0⟩
    · rw [if_neg h0, if_pos hx]; exact ⟨rfl, Or.inr hx⟩
  · right
    refine ⟨j, hj, rfl, ?_⟩
    rw [if_neg (vt_neg (by omega)), if_neg (by rw [vt_leI (by omega) (by omega)]; omega)]
    unfold vt_stp vt_nd
    by_cases hw : w = 0
    · rw [if_pos hw, if_pos hw, if_pos hw, pk_sub (by omega)]
      have e : nI j * -(nI 1) = -(nI j) := by
        rw [Int32.mul_neg, pk_mul, Nat.mul_one]
      rw [e, ← Int32.sub_eq_add_neg, pk_sub (by omega)]
    · rw [if_neg hw, if_neg hw, if_neg hw, pk_mul, nI_add, Nat.mul_one]
theorem vt_F.thr {w : Int32} {R : Nat} {F G S : Nat → Nat} {σ μ : kb_S} (h : vt_F w R F G S σ μ) (v : Int32) : vt_F w R F G S σ (kb_p μ 0 v) :=
  h.same (fun _ _ _ => ⟨rfl, rfl⟩) (fun k hk _ => by rw [vt_gp, if_neg (by omega)]) (fun _ _ _ => rfl)
theorem vt_ok_live : ok_live vt_I := by
  intro σ T μ x h
  refine ⟨kb_p μ 0 0, ?_, h.thr 0⟩
  obtain ⟨-, ⟨w, R, F, G, S, hK, hF⟩, -⟩ := h
  unfold fn_X9_live fn_X8_live
  have h2 := (hK.2.2.2.2.1)
  rw [vt_live9 hK (hF.thr 0), Option.bind_some, vt_1, vt_in0 (by omega)]
  rcases vt_needle0 hK hF x with ⟨h1, h3⟩ | ⟨j, hj, rfl, h3⟩
  · rw [if_pos h3, if_pos rfl, h1]; rfl
  · have h4 : ¬ (nI j < 0 ∨ nI (F (R + 1) - F R) ≤ nI j) := by
      rintro (h4 | h4)
      · exact vt_neg (by omega) h4
      · rw [vt_leI (by omega) (by omega)] at h4; omega
    rw [if_neg (by rw [if_neg h4]; decide), vt_needle9 hK (hF.thr 0) hj, Option.bind_some, h3]
theorem vt_ok_out : ok_out vt_I := by
  intro σ T μ x h
  by_cases h0 : x < 0
  · refine ⟨kb_p μ 0 1, 0, ?_, h.thr 1, Or.inl ⟨?_, rfl⟩⟩
    · unfold fn_X9_out fp_X9_out_10
      rw [if_pos h0, vt_says0, Option.bind_some, if_pos rfl]
    · intro h1; exact absurd h0 (Int32.not_lt.mpr h1)
  · have h1 : (0 : Int32) ≤ x := Int32.not_lt.mp h0
    have e : fn_X9_out x μ = if kb_g μ 11 ≤ x then some (kb_p μ 0 0, -1) else if kb_in x 1200 = true then some (kb_p μ 0 0, kb_a μ 14 x.toNatClampNeg) else none := by
      unfold fn_X9_out fp_X9_out_10
      rw [if_neg h0, vt_says1, Option.bind_some, if_neg (show ¬ (1 : Int32) = 0 by decide)]
      rfl
    obtain ⟨j, hj, rfl⟩ := vt_nat h0
    have hh := h.thr 0
    obtain ⟨-, -, hO⟩ := h
    rcases hO with ⟨rfl, hw⟩ | ⟨τ, n, rfl, hn, hl, hw, ht⟩
    · refine ⟨kb_p μ 0 0, -1, ?_, hh, Or.inr ⟨h1, rfl, Or.inl ⟨rfl, rfl⟩⟩⟩
      rw [e, hw, if_pos h1]
    · by_cases hjn : n ≤ j
      · refine ⟨kb_p μ 0 0, -1, ?_, hh, Or.inr ⟨h1, rfl, Or.inr ⟨τ, rfl, ?_⟩⟩⟩
        · rw [e, hw]; simp (disch := omega) only [vt_gp, vt_ga, vt_gb, vt_ap, vt_aax, vt_ab, vt_bp, vt_ba, vt_bbx, vt_in, vt_leI, vt_ltI, vt_eqI, nI_clamp, nI_add, pk_sub, vt_an, pk_mul, pk_div, pk_rem, vt_0, vt_1, vt_2, vt_3, vt_4, vt_5, vt_6, vt_7, vt_8, vt_9, vt_10, vt_30, vt_40, vt_80, vt_100, vt_200, vt_600, vt_1200, vt_of, if_pos, if_neg, ↓reduceIte, true_and, false_and, and_true, and_false, Option.bind_some, Nat.reduceEqDiff, Nat.reduceAdd, Nat.reduceMul, Nat.reduceSub, reduceCtorEq]
        · unfold fn_X5_byteAt
          rw [hl]; simp (disch := omega) only [vt_gp, vt_ga, vt_gb, vt_ap, vt_aax, vt_ab, vt_bp, vt_ba, vt_bbx, vt_in, vt_leI, vt_ltI, vt_eqI, nI_clamp, nI_add, pk_sub, vt_an, pk_mul, pk_div, pk_rem, vt_0, vt_1, vt_2, vt_3, vt_4, vt_5, vt_6, vt_7, vt_8, vt_9, vt_10, vt_30, vt_40, vt_80, vt_100, vt_200, vt_600, vt_1200, vt_of, if_pos, if_neg, ↓reduceIte, true_and, false_and, and_true, and_false, Option.bind_some, Nat.reduceEqDiff, Nat.reduceAdd, Nat.reduceMul, Nat.reduceSub, reduceCtorEq]
      · refine ⟨kb_p μ 0 0, kb_a μ 14 j, ?_, hh, Or.inr ⟨h1, rfl, Or.inr ⟨τ, rfl, ?_⟩⟩⟩
        · rw [e, hw]; simp (disch := omega) only [vt_gp, vt_ga, vt_gb, vt_ap, vt_aax, vt_ab, vt_bp, vt_ba, vt_bbx, vt_in, vt_leI, vt_ltI, vt_eqI, nI_clamp, nI_add, pk_sub, vt_an, pk_mul, pk_div, pk_rem, vt_0, vt_1, vt_2, vt_3, vt_4, vt_5, vt_6, vt_7, vt_8, vt_9, vt_10, vt_30, vt_40, vt_80, vt_100, vt_200, vt_600, vt_1200, vt_of, if_pos, if_neg, ↓reduceIte, true_and, false_and, and_true, and_false, Option.bind_some, Nat.reduceEqDiff, Nat.reduceAdd, Nat.reduceMul, Nat.reduceSub, reduceCtorEq]
        · unfold fn_X5_byteAt
          rw [hl]; simp (disch := omega) only [vt_gp, vt_ga, vt_gb, vt_ap, vt_aax, vt_ab, vt_bp, vt_ba, vt_bbx, vt_in, vt_leI, vt_ltI, vt_eqI, nI_clamp, nI_add, pk_sub, vt_an, pk_mul, pk_div, pk_rem, vt_0, vt_1, vt_2, vt_3, vt_4, vt_5, vt_6, vt_7, vt_8, vt_9, vt_10, vt_30, vt_40, vt_80, vt_100, vt_200, vt_600, vt_1200, vt_of, if_pos, if_neg, ↓reduceIte, true_and, false_and, and_true, and_false, Option.bind_some, Nat.reduceEqDiff, Nat.reduceAdd, Nat.reduceMul, Nat.reduceSub, reduceCtorEq, ht]
