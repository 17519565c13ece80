/-- what row sums up of a stitch -/
def vt_rv (v s : Nat) : Nat := if v = 0 then 1 else if v = 1 then (if s < 100 then 0 else vt_ca s * vt_cb s) else if v = 2 then vt_tk s else if v = 3 then vt_mk s else if s = 8 then 1 else 0
theorem vt_row40 {w : Int32} {R : Nat} {F G S : Nat → Nat} {σ μ : kb_S} (hK : vt_K R F G S) (hF : vt_F w R F G S σ μ) {r v : Nat} (hr1 : 1 ≤ r) (hr2 : r ≤ R) (hv : v ≤ 4) : ∀ m fu k acc, m < fu → k + m = G (r + 1) - G r → fp_X9_row_40 fu (nI r) (nI v) (nI acc) (nI k) μ = some (μ, nI (acc + vt_sum (fun i => vt_rv v (S i)) (G r + k) m)) := by
  have hR := hK.1
  have k6 := hK.2.2.2.2.2.1 r (by omega)
  have h1200 := vt_G1200 hK (show r + 1 ≤ R + 1 by omega)
  obtain ⟨g1, g2, -⟩ := hF.2.2.2.2.2.2.2.2.2.2.2.1 r hr1 hr2
  intro m
  induction m with
  | zero =>
      intro fu k acc h1 h2
      obtain ⟨n, rfl⟩ : ∃ n, fu = n + 1 := ⟨fu - 1, by omega⟩
      rw [fp_X9_row_40_s, if_pos (vt_in' (by omega) (by omega)), nI_clamp (by omega), g1, if_pos (by rw [vt_leI (by omega) (by omega)]; omega)]; rfl
  | succ m ih =>
      intro fu k acc h1 h2
      obtain ⟨n, rfl⟩ : ∃ n, fu = n + 1 := ⟨fu - 1, by omega⟩
      have hm := (vt_mono hK (show r + 1 ≤ R + 1 by omega) (Nat.le_refl _)).2
      have hs := hK.2.2.2.2.2.2.1 (G r + k) (by omega)
      obtain ⟨t1, t2, t3, t4, t5, t6, -⟩ := vt_st hs
      have hlt := vt_vs_lt hs
      have hstep : fp_X9_row_40 (n + 1) (nI r) (nI v) (nI acc) (nI k) μ = fp_X9_row_40 n (nI r) (nI v) (nI (acc + vt_rv v (S (G r + k)))) (nI (k + 1)) μ := by
        rw [fp_X9_row_40_s, if_pos (vt_in' (by omega) (by omega)), nI_clamp (by omega), g1, if_neg (by rw [vt_leI (by omega) (by omega)]; omega), vt_80, pk_mul, nI_add, if_pos (vt_in' (by omega) (by omega)), nI_clamp (by omega), show r * 80 + k = 80 * r + k by omega, g2 k (by omega)]
        simp only [fp_X9_row_142_e, vt_1, nI_add, t3, t4]
        unfold vt_rv
        have hv5 : v = 0 ∨ v = 1 ∨ v = 2 ∨ v = 3 ∨ v = 4 := by omega
        rcases hv5 with rfl | rfl | rfl | rfl | rfl
        · rfl
        · by_cases h100 : S (G r + k) < 100
          · rw [if_neg (show ¬ nI 1 = 0 by decide), if_pos rfl, if_pos (by rw [vt_100, vt_ltI (by omega) (by omega)]; exact h100), vt_0, nI_add, if_neg (show ¬ 1 = 0 by decide), if_pos rfl, if_pos h100]
          · obtain ⟨-, -, a3, a4, -⟩ := t6 (by omega)
            rw [if_neg (show ¬ nI 1 = 0 by decide), if_pos rfl, if_neg (by rw [vt_100, vt_ltI (by omega) (by omega)]; exact h100), a3, a4, pk_mul, nI_add, if_neg (show ¬ 1 = 0 by decide), if_pos rfl, if_neg h100]
        · rfl
        · rfl
        · by_cases h8 : S (G r + k) = 8
          · rw [if_neg (show ¬ nI 4 = 0 by decide), if_neg (show ¬ nI 4 = nI 1 by decide), if_neg (show ¬ nI 4 = 2 by decide), if_neg (show ¬ nI 4 = 3 by decide), if_pos (by rw [h8]; rfl), if_neg (by decide), if_neg (by decide), if_neg (by decide), if_neg (by decide), if_pos h8]
          · rw [if_neg (show ¬ nI 4 = 0 by decide), if_neg (show ¬ nI 4 = nI 1 by decide), if_neg (show ¬ nI 4 = 2 by decide), if_neg (show ¬ nI 4 = 3 by decide), if_neg (by rw [vt_8, vt_eqI (by omega) (by omega)]; exact h8), vt_0, nI_add, if_neg (by decide), if_neg (by decide), if_neg (by decide), if_neg (by decide), if_neg h8]
      rw [hstep, ih n (k + 1) _ (by omega) (by omega), vt_sum_front, show G r + (k + 1) = G r + k + 1 by omega, Nat.add_assoc]
theorem vt_cross {w : Int32} {R : Nat} {F G S : Nat → Nat} {σ μ : kb_S} (hK : vt_K R F G S) (hF : vt_F w R F G S σ μ) {r : Nat} (hr2 : r ≤ R) : ∀ m fu k acc, m < fu → k + m = G (r + 1) - G r → fp_X0_crossings_11 fu (nI r) (nI acc) (nI (G (r + 1) - G r)) (nI k) σ = some (nI (acc + vt_sum (fun i => vt_rv 1 (S i)) (G r + k) m)) := by
  have hR := hK.1
  have k6 := hK.2.2.2.2.2.1 r (by omega)
  intro m
  induction m with
  | zero =>
      intro fu k acc h1 h2
      obtain ⟨n, rfl⟩ : ∃ n, fu = n + 1 := ⟨fu - 1, by omega⟩
      rw [fp_X0_crossings_11_s, if_pos (by rw [vt_leI (by omega) (by omega)]; omega)]; rfl
  | succ m ih =>
      intro fu k acc h1 h2
      obtain ⟨n, rfl⟩ : ∃ n, fu = n + 1 := ⟨fu - 1, by omega⟩
      have hm := (vt_mono hK (show r + 1 ≤ R + 1 by omega) (Nat.le_refl _)).2
      have hs := hK.2.2.2.2.2.2.1 (G r + k) (by omega)
      obtain ⟨t1, t2, t3, t4, t5, t6, -⟩ := vt_st hs
      have hstep : fp_X0_crossings_11 (n + 1) (nI r) (nI acc) (nI (G (r + 1) - G r)) (nI k) σ = fp_X0_crossings_11 n (nI r) (nI (acc + vt_rv 1 (S (G r + k)))) (nI (G (r + 1) - G r)) (nI (k + 1)) σ := by
        rw [fp_X0_crossings_11_s, if_neg (by rw [vt_leI (by omega) (by omega)]; omega), vt_stAt hK hF hr2 (by omega), Option.bind_some, t5]
        unfold vt_rv
        by_cases h100 : S (G r + k) < 100
        · rw [if_pos (by rw [if_pos h100]), fp_X0_crossings_48_e, vt_1, nI_add, if_neg (show ¬ 1 = 0 by decide), if_pos rfl, if_pos h100]; rfl
        · obtain ⟨a1, a2, -⟩ := t6 (by omega)
          rw [if_neg (by rw [if_neg h100]; decide), fp_X0_crossings_48_e, vt_1, nI_add, a1, a2, pk_mul, nI_add, if_neg (show ¬ 1 = 0 by decide), if_pos rfl, if_neg h100]
      rw [hstep, ih n (k + 1) _ (by omega) (by omega), vt_sum_front, show G r + (k + 1) = G r + k + 1 by omega, Nat.add_assoc]
theorem vt_bound {w : Int32} {R : Nat} {F G S : Nat → Nat} {σ μ : kb_S} (hK : vt_K R F G S) (hF : vt_F w R F G S σ μ) {r2 : Nat} (h2 : r2 ≤ R) : ∀ m fu i acc, m < fu → i + m = G (r2 + 1) → fp_X0_boundIn_28 fu (nI r2) (nI acc) (nI i) σ = some (nI (acc + vt_sum (fun i => vt_is (S i = 8)) i m)) := by
  have hR := hK.1
  have h1200 := vt_G1200 hK (show r2 + 1 ≤ R + 1 by omega)
  have hmm := (vt_mono hK (show r2 + 1 ≤ R + 1 by omega) (Nat.le_refl _)).2
  intro m
  induction m with
  | zero =>
      intro fu i acc q1 q2
      obtain ⟨n, rfl⟩ : ∃ n, fu = n + 1 := ⟨fu - 1, by omega⟩
      rw [fp_X0_boundIn_28_s, vt_1, nI_add, if_pos (vt_in' (by omega) (by omega)), nI_clamp (by omega), (hF.2.2.2.2.2.2.2.2.2.1 (r2 + 1) (by omega)).2.1, if_pos (by rw [vt_leI (by omega) (by omega)]; omega)]; rfl
  | succ m ih =>
      intro fu i acc q1 q2
      obtain ⟨n, rfl⟩ : ∃ n, fu = n + 1 := ⟨fu - 1, by omega⟩
      have hs := hK.2.2.2.2.2.2.1 i (by omega)
      have hlt := vt_vs_lt hs
      rw [fp_X0_boundIn_28_s, vt_1, nI_add, if_pos (vt_in' (by omega) (by omega)), nI_clamp (by omega), (hF.2.2.2.2.2.2.2.2.2.1 (r2 + 1) (by omega)).2.1, if_neg (by rw [vt_leI (by omega) (by omega)]; omega), if_pos (vt_in' (by omega) (by omega)), nI_clamp (by omega), hF.2.2.2.2.2.2.2.2.2.2.1 i (by omega), vt_sum_front, fp_X0_boundIn_56_e, fp_X0_boundIn_56_e, vt_1, nI_add, nI_add, ih n (i + 1) _ (by omega) (by omega), ih n (i + 1) _ (by omega) (by omega), vt_8]
      unfold vt_is
      by_cases h8 : S i = 8
      · rw [if_pos (by rw [h8]), if_pos h8, Nat.add_assoc]
      · rw [if_neg (by rw [vt_eqI (by omega) (by omega)]; exact h8), if_neg h8, Nat.zero_add]
theorem vt_boundIn {w : Int32} {R : Nat} {F G S : Nat → Nat} {σ μ : kb_S} (hK : vt_K R F G S) (hF : vt_F w R F G S σ μ) {r1 r2 : Nat} (h1 : r1 ≤ r2) (h2 : r2 ≤ R) : fn_X0_boundIn (nI r1) (nI r2) σ = some (nI (vt_sum (fun i => vt_is (S i = 8)) (G r1) (G (r2 + 1) - G r1))) := by
  have hR := hK.1
  have hm := (vt_mono hK (show r1 ≤ r2 + 1 by omega) (by omega)).2
  have h1200 := vt_G1200 hK (show r2 + 1 ≤ R + 1 by omega)
  unfold fn_X0_boundIn
  rw [vt_hasRow hK hF (by omega), if_neg (by decide), vt_hasRow hK hF h2, if_neg (by decide), if_pos (vt_in' (by omega) (by omega)), nI_clamp (by omega), (hF.2.2.2.2.2.2.2.2.2.1 r1 (by omega)).2.1, vt_0, vt_bound hK hF h2 (G (r2 + 1) - G r1) kb_FU (G r1) 0 (by rw [vt_fu]; omega) (by omega), Nat.zero_add]
theorem vt_madeIn {w : Int32} {R : Nat} {F G S : Nat → Nat} {σ μ : kb_S} (hK : vt_K R F G S) (hF : vt_F w R F G S σ μ) {r : Nat} (hr : r ≤ R) : fn_X0_madeIn (nI r) σ = some (nI (F (r + 1) - F r)) := by
  have hR := hK.1
  unfold fn_X0_madeIn
  rw [vt_hasRow hK hF hr, if_neg (by decide), vt_1, nI_add, if_pos (vt_in' (by omega) (by omega)), if_pos (vt_in' (by omega) (by omega)), nI_clamp (by omega), nI_clamp (by omega), (hF.2.2.2.2.2.2.2.2.2.1 (r + 1) (by omega)).1, (hF.2.2.2.2.2.2.2.2.2.1 r (by omega)).1, pk_sub (Nat.le_of_lt (hK.2.2.2.2.2.1 r hr).1)]
theorem vt_ok_row : ok_row vt_I := by
  intro σ T μ x y h
  have hh := h.thr 1
  have hh0 := h.thr 0
  obtain ⟨-, ⟨w, R, F, G, S, hK, hF⟩, -⟩ := h
  have hR := hK.1
  have h26 : ∀ x, fp_X9_row_26 x y μ = some (kb_p μ 0 1, 0) := by
    intro x
    unfold fp_X9_row_26 fp_X9_row_27
    rw [vt_says0, Option.bind_some, if_pos rfl]
  rcases vt_req hK hF x with ⟨h1, h2⟩ | ⟨r, hr1, hr2, rfl, h1, h2⟩
  · refine ⟨kb_p μ 0 1, 1, 0, 0, ?_, ?_, hh, Or.inr ⟨rfl, rfl⟩⟩
    · unfold fn_X8_row; rw [h1, Option.bind_some, if_neg (show ¬ (1 : Nat) = 0 by decide)]
    · unfold fn_X9_row; rw [h2, if_pos rfl, h26]
  · have hi : fn_X9_in y 0 4 = if y < 0 ∨ nI 5 ≤ y then 0 else 1 := by
      have e : (4 : Int32) = nI 5 - nI 1 := by decide
      rw [e, vt_in0 (by omega)]
    have e8 : fn_X8_row (nI r) y σ = if y = 0 then some (0, nI (vt_sum (fun i => vt_rv 0 (S i)) (G r) (G (r + 1) - G r))) else if y = 1 then some (0, nI (vt_sum (fun i => vt_rv 1 (S i)) (G r) (G (r + 1) - G r))) else if y = 2 then some (0, nI (vt_sum (fun i => vt_rv 2 (S i)) (G r) (G (r + 1) - G r))) else if y = 3 then some (0, nI (vt_sum (fun i => vt_rv 3 (S i)) (G r) (G (r + 1) - G r))) else if y = 4 then some (0, nI (vt_sum (fun i => vt_rv 4 (S i)) (G r) (G (r + 1) - G r))) else some (1, 0) := by
      have s0 : vt_sum (fun i => vt_rv 0 (S i)) (G r) (G (r + 1) - G r) = G (r + 1) - G r := by
        have : ∀ n, vt_sum (fun i => vt_rv 0 (S i)) (G r) n = n := by
          intro n
          induction n with
          | zero => rfl
          | succ n ih => rw [vt_sum, ih]; rfl
        exact this _
      obtain ⟨s2, s3⟩ := hK.2.2.2.2.2.2.2 r hr1 hr2
      have k80 := (hK.2.2.2.2.2.1 r hr2).2.2.2
      unfold fn_X8_row fn_X0_crossings
      rw [h1, Option.bind_some, if_pos rfl, vt_stCount hK hF hr2, Option.bind_some, Option.bind_some, vt_0, vt_cross hK hF hr2 (G (r + 1) - G r) kb_FU 0 0 (by rw [vt_fu]; omega) (by omega), vt_1, pk_sub hr1, vt_madeIn hK hF (by omega), vt_madeIn hK hF hr2, vt_boundIn hK hF (Nat.le_refl r) hr2, s0, show r - 1 + 1 = r by omega, ← s2, ← s3, Nat.zero_add, Nat.add_zero]
      rfl
    by_cases hy : y < 0 ∨ nI 5 ≤ y
    · refine ⟨kb_p μ 0 1, 1, 0, 0, ?_, ?_, hh, Or.inr ⟨rfl, rfl⟩⟩
      · have hne : ∀ k, k < 5 → y ≠ nI k := by
          rintro k hk rfl
          rcases hy with h4 | h4
          · exact vt_neg (by omega) h4
          · rw [vt_leI (by omega) (by omega)] at h4; omega
        rw [e8, vt_0, vt_1, vt_2, vt_3, vt_4, if_neg (hne 0 (by omega)), if_neg (hne 1 (by omega)), if_neg (hne 2 (by omega)), if_neg (hne 3 (by omega)), if_neg (hne 4 (by omega))]
      · unfold fn_X9_row; rw [h2, if_neg (by decide), if_pos (by rw [hi, if_pos hy]), h26]
    · have hy0 : ¬ y < 0 := fun h => hy (Or.inl h)
      obtain ⟨v, hv0, rfl⟩ := vt_nat hy0
      have hv : v < 5 := by
        have : ¬ nI 5 ≤ nI v := fun h => hy (Or.inr h)
        rw [vt_leI (by omega) hv0] at this; omega
      have k80 := (hK.2.2.2.2.2.1 r hr2).2.2.2
      have e9 : fn_X9_row (nI r) (nI v) μ = some (kb_p μ 0 0, nI (vt_sum (fun i => vt_rv v (S i)) (G r) (G (r + 1) - G r))) := by
        unfold fn_X9_row fp_X9_row_27
        rw [h2, if_neg (by decide), if_neg (by rw [hi, if_neg hy]; decide), vt_says1, Option.bind_some, if_neg (show ¬ (1 : Int32) = 0 by decide)]
        refine (vt_row40 (v := v) hK (hF.thr 0) hr1 hr2 (by omega) (G (r + 1) - G r) kb_FU 0 0 (by rw [vt_fu]; omega) (by omega)).trans ?_
        rw [Nat.zero_add, Nat.add_zero]
      refine ⟨_, 0, _, _, ?_, e9, hh0, Or.inl ⟨rfl, rfl, rfl⟩⟩
      rw [e8]
      have hv5 : v = 0 ∨ v = 1 ∨ v = 2 ∨ v = 3 ∨ v = 4 := by omega
      rcases hv5 with rfl | rfl | rfl | rfl | rfl <;> rfl
