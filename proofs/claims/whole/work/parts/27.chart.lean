theorem vt_hasRow {w : Int32} {R : Nat} {F G S : Nat → Nat} {σ μ : kb_S} (hK : vt_K R F G S) (hF : vt_F w R F G S σ μ) {r : Nat} (hr : r ≤ R) : fn_X0_hasRow (nI r) σ = 1 := by
  have hR := hK.1
  unfold fn_X0_hasRow
  rw [if_neg (vt_neg (by omega)), hF.2.2.2.1, if_neg (by rw [vt_ltI (by omega) (by omega)]; omega)]
theorem vt_stCount {w : Int32} {R : Nat} {F G S : Nat → Nat} {σ μ : kb_S} (hK : vt_K R F G S) (hF : vt_F w R F G S σ μ) {r : Nat} (hr : r ≤ R) : fn_X0_stitchCount (nI r) σ = some (nI (G (r + 1) - G r)) := by
  have hR := hK.1
  unfold fn_X0_stitchCount
  rw [vt_hasRow hK hF hr, if_neg (by decide), vt_1, nI_add, if_pos (vt_in' (by omega) (by omega)), if_pos (vt_in' (by omega) (by omega)), nI_clamp (by omega), nI_clamp (by omega), (hF.2.2.2.2.2.2.2.2.2.1 (r + 1) (by omega)).2.1, (hF.2.2.2.2.2.2.2.2.2.1 r (by omega)).2.1, pk_sub (hK.2.2.2.2.2.1 r hr).2.2.1]
theorem vt_G_le {R : Nat} {F G S : Nat → Nat} (hK : vt_K R F G S) : ∀ r, r ≤ R + 1 → G r ≤ F r + F (r - 1) := by
  have hs : ∀ (a n : Nat), a + n ≤ G (R + 1) → n ≤ vt_sum (fun i => vt_tk (S i)) a n + vt_sum (fun i => vt_mk (S i)) a n := by
    intro a n
    induction n with
    | zero => intro _; omega
    | succ n ih =>
        intro h
        have h1 := ih (by omega)
        have h2 := (vt_st (hK.2.2.2.2.2.2.1 (a + n) (by omega))).2.2.2.2.2.2.2.2.1
        simp only [vt_sum]
        omega
  intro r
  induction r with
  | zero => intro _; rw [hK.2.2.1]; omega
  | succ r ih =>
      intro h
      have h1 := ih (by omega)
      rcases Nat.eq_zero_or_pos r with rfl | hr
      · rw [hK.2.2.2.1]; omega
      · obtain ⟨s1, s2⟩ := hK.2.2.2.2.2.2.2 r hr (by omega)
        have k6 := hK.2.2.2.2.2.1 r (by omega)
        have k7 := hK.2.2.2.2.2.1 (r - 1) (by omega)
        rw [show r - 1 + 1 = r by omega] at k7
        have h4 := (vt_mono hK (show r + 1 ≤ R + 1 by omega) (Nat.le_refl _)).2
        have h3 := hs (G r) (G (r + 1) - G r) (by omega)
        rw [s1, s2] at h3
        rw [show r + 1 - 1 = r by omega]
        omega
theorem vt_G1200 {R : Nat} {F G S : Nat → Nat} (hK : vt_K R F G S) {r : Nat} (hr : r ≤ R + 1) : G r ≤ 1200 := by
  have h1 := vt_G_le hK r hr
  have h2 := (vt_mono hK hr (Nat.le_refl _)).1
  have h3 := (vt_mono hK (show r - 1 ≤ R + 1 by omega) (Nat.le_refl _)).1
  have h4 := hK.2.2.2.2.1
  omega
theorem vt_stAt {w : Int32} {R : Nat} {F G S : Nat → Nat} {σ μ : kb_S} (hK : vt_K R F G S) (hF : vt_F w R F G S σ μ) {r k : Nat} (hr : r ≤ R) (hk : k < G (r + 1) - G r) : fn_X0_stitchAt (nI r) (nI k) σ = some (nI (S (G r + k))) := by
  have hR := hK.1
  have h1 := (hK.2.2.2.2.2.1 r hr).2.2
  have h2 := (vt_mono hK (show r + 1 ≤ R + 1 by omega) (Nat.le_refl _)).2
  have h3 := vt_G1200 hK (Nat.le_refl (R + 1))
  unfold fn_X0_stitchAt
  rw [if_neg (vt_neg (by omega)), vt_stCount hK hF hr, Option.bind_some, if_pos (by rw [vt_ltI (by omega) (by omega)]; exact hk), if_pos (vt_in' (by omega) (by omega)), nI_clamp (by omega), (hF.2.2.2.2.2.2.2.2.2.1 r (by omega)).2.1, nI_add, if_pos (vt_in' (by omega) (by omega)), nI_clamp (by omega), hF.2.2.2.2.2.2.2.2.2.2.1 _ (by omega)]
/-- a row's number: refused by both, or a row -/
theorem vt_req {w : Int32} {R : Nat} {F G S : Nat → Nat} {σ μ : kb_S} (hK : vt_K R F G S) (hF : vt_F w R F G S σ μ) (x : Int32) : (fn_X8_requireRow x σ = some (1, 0) ∧ fn_X9_in x 1 (kb_g μ 4) = 0) ∨ ∃ r, 1 ≤ r ∧ r ≤ R ∧ x = nI r ∧ fn_X8_requireRow x σ = some (0, 0) ∧ fn_X9_in x 1 (kb_g μ 4) = 1 := by
  have hR := hK.1
  unfold fn_X8_requireRow fn_X9_in fp_X8_requireRow_16 fn_X0_rowCount
  rw [hF.2.2.2.1, hF.2.2.2.2.1]
  by_cases h1 : x < 1
  · left; rw [if_pos h1, if_pos h1]; exact ⟨rfl, rfl⟩
  · rw [if_neg h1, if_neg h1]
    by_cases h2 : x ≤ nI R
    · have h0 : ¬ x < 0 := fun h3 => h1 (Int32.lt_iff_toInt_lt.mpr (by have := Int32.lt_iff_toInt_lt.mp h3; have e0 : (0 : Int32).toInt = 0 := rfl; have e1 : (1 : Int32).toInt = 1 := rfl; omega))
      obtain ⟨n, hn, rfl⟩ := vt_nat h0
      right
      refine ⟨n, ?_, ?_, rfl, ?_, ?_⟩
      · rw [vt_1, vt_ltI hn (by omega)] at h1; omega
      · rw [vt_leI hn (by omega)] at h2; omega
      · rw [if_pos h2]
      · rw [if_neg (Int32.not_lt.mpr h2)]
    · left; rw [if_neg h2, if_pos (Int32.not_le.mp h2)]; exact ⟨rfl, rfl⟩
theorem vt_ok_chart : ok_chart vt_I := by
  intro σ T μ x y h
  have hh := h.thr 1
  have hh0 : ∀ v, vt_I σ T (kb_p (kb_p μ 0 0) 0 v) := fun v => (h.thr 0).thr v
  obtain ⟨-, ⟨w, R, F, G, S, hK, hF⟩, -⟩ := h
  have hR := hK.1
  rcases vt_req hK hF x with ⟨h1, h2⟩ | ⟨r, hr1, hr2, rfl, h1, h2⟩
  · refine ⟨kb_p μ 0 1, 1, 0, 0, ?_, ?_, hh, Or.inr (Or.inl ⟨rfl, rfl⟩)⟩
    · unfold fn_X8_chart; rw [h1, Option.bind_some, if_neg (show ¬ (1 : Nat) = 0 by decide)]
    · unfold fn_X9_chart; rw [h2, vt_says0, Option.bind_some, if_pos rfl]
  · have k6 := hK.2.2.2.2.2.1 r (by omega)
    obtain ⟨g1, g2, -⟩ := hF.2.2.2.2.2.2.2.2.2.2.2.1 r hr1 hr2
    have e9 : fn_X9_chart (nI r) y μ = fp_X9_chart_40 (nI r) y (if y < 0 ∨ nI (G (r + 1) - G r) ≤ y then 2 else 0) (kb_p μ 0 0) := by
      unfold fn_X9_chart
      rw [h2, vt_says1, Option.bind_some, if_neg (show ¬ (1 : Int32) = 0 by decide), if_pos (vt_in' (by omega) (by omega)), nI_clamp (by omega), vt_ap, g1, vt_1, vt_in0 (by omega)]
      by_cases hy : y < 0 ∨ nI (G (r + 1) - G r) ≤ y
      · rw [if_pos (by rw [if_pos hy]), if_pos hy]
      · rw [if_neg (by rw [if_neg hy]; decide), if_neg hy]
    have e8 : fn_X8_chart (nI r) y σ = if y < 0 then some (3, 0) else if y < nI (G (r + 1) - G r) then (fn_X0_stitchSeen (nI r) y σ).bind fun q => some (0, q) else some (3, 0) := by
      unfold fn_X8_chart fp_X8_chart_21
      rw [h1, Option.bind_some, if_pos rfl, vt_stCount hK hF hr2, Option.bind_some]
    by_cases hy : y < 0 ∨ nI (G (r + 1) - G r) ≤ y
    · refine ⟨kb_p (kb_p μ 0 0) 0 2, 3, 0, 0, ?_, ?_, hh0 2, Or.inr (Or.inr ⟨rfl, rfl⟩)⟩
      · rw [e8]
        by_cases hy0 : y < 0
        · rw [if_pos hy0]
        · rw [if_neg hy0, if_neg (Int32.not_lt.mpr (hy.resolve_left hy0))]
      · rw [e9, if_pos hy]; unfold fp_X9_chart_40; rw [if_neg (by decide)]
    · have hy0 : ¬ y < 0 := fun h => hy (Or.inl h)
      obtain ⟨c, hc0, rfl⟩ := vt_nat hy0
      have hc : c < G (r + 1) - G r := by
        have : ¬ nI (G (r + 1) - G r) ≤ nI c := fun h => hy (Or.inr h)
        rw [vt_leI (by omega) hc0] at this; omega
      rw [if_neg hy] at e9
      rw [if_neg hy0, if_pos (by rw [vt_ltI (by omega) (by omega)]; exact hc)] at e8
      have er : (nI r - nI r / 2 * 2 = 0) ↔ r % 2 = 0 := by
        rw [vt_2, pk_rem (by omega) (by omega) (by omega), vt_0, vt_eqI (by omega) (by omega)]
      by_cases hb : w = 0 ∧ r % 2 = 0
      · have q9 : fn_X9_chart (nI r) (nI c) μ = some (kb_p (kb_p μ 0 0) 0 0, fn_X6_seenFromBehind (nI (S (G r + (G (r + 1) - G r - 1 - c))))) := by
          rw [e9]; unfold fp_X9_chart_40
          rw [if_pos (by decide), if_pos (by rw [vt_gp, if_neg (by decide), hF.2.2.1]; exact hb.1), if_pos (er.mpr hb.2)]
          unfold fp_X9_chart_70 fp_X9_chart_97 fp_X9_chart_114 fn_X6_seenFromBehind
          rw [if_neg (by decide), if_pos (vt_in' (by omega) (by omega)), nI_clamp (by omega), vt_ap, vt_ap, g1, vt_80, pk_mul, vt_1, pk_sub (by omega), pk_sub (by omega), nI_add, if_pos (vt_in' (by omega) (by omega)), nI_clamp (by omega), vt_ap, vt_ap, show r * 80 + (G (r + 1) - G r - 1 - c) = 80 * r + (G (r + 1) - G r - 1 - c) by omega, g2 _ (by omega), if_neg (show ¬ nI 1 = 0 by decide), if_neg (show ¬ nI 1 = 0 by decide)]
          split
          · rfl
          · split <;> rfl
        have q8 : fn_X8_chart (nI r) (nI c) σ = some (0, fn_X6_seenFromBehind (nI (S (G r + (G (r + 1) - G r - 1 - c))))) := by
          rw [e8]; unfold fn_X0_stitchSeen
          rw [if_pos (by rw [hF.2.1]; exact hb.1), if_pos (er.mpr hb.2)]
          unfold fp_X0_stitchSeen_18
          rw [if_neg (by decide), vt_stCount hK hF hr2, Option.bind_some, vt_1, pk_sub (by omega), pk_sub (by omega), vt_stAt hK hF hr2 (by omega)]; rfl
        exact ⟨_, 0, _, _, q8, q9, hh0 0, Or.inl ⟨rfl, rfl, rfl⟩⟩
      · have q9 : fn_X9_chart (nI r) (nI c) μ = some (kb_p (kb_p μ 0 0) 0 0, nI (S (G r + c))) := by
          have e69 : fp_X9_chart_69 (nI r) (nI c) (kb_p (kb_p μ 0 0) 0 0) = some (kb_p (kb_p μ 0 0) 0 0, nI (S (G r + c))) := by
            unfold fp_X9_chart_69 fp_X9_chart_70 fp_X9_chart_97 fp_X9_chart_114
            rw [if_pos rfl, vt_80, pk_mul, nI_add, if_pos (vt_in' (by omega) (by omega)), nI_clamp (by omega), if_pos rfl, if_pos rfl, vt_ap, vt_ap, show r * 80 + c = 80 * r + c by omega, g2 _ (by omega)]
          rw [e9]; unfold fp_X9_chart_40
          rw [if_pos (by decide), show kb_g (kb_p μ 0 0) 2 = w from hF.2.2.1, e69]
          by_cases hw : w = 0
          · rw [if_pos hw, if_neg (fun h => hb ⟨hw, er.mp h⟩)]
          · rw [if_neg hw]
        have q8 : fn_X8_chart (nI r) (nI c) σ = some (0, nI (S (G r + c))) := by
          have e17 : fp_X0_stitchSeen_17 (nI r) (nI c) σ = some (nI (S (G r + c))) := by
            unfold fp_X0_stitchSeen_17 fp_X0_stitchSeen_18
            rw [if_pos rfl, vt_stAt hK hF hr2 hc]; rfl
          rw [e8]; unfold fn_X0_stitchSeen
          rw [hF.2.1, e17]
          by_cases hw : w = 0
          · rw [if_pos hw, if_neg (fun h => hb ⟨hw, er.mp h⟩)]; rfl
          · rw [if_neg hw]; rfl
        exact ⟨_, 0, _, _, q8, q9, hh0 0, Or.inl ⟨rfl, rfl, rfl⟩⟩
