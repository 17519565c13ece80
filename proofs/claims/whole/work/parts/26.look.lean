theorem vt_sum_front {f : Nat → Nat} {a : Nat} (m : Nat) : vt_sum f a (m + 1) = f a + vt_sum f (a + 1) m := by
  rw [Nat.add_comm m 1, vt_sum_add 1 m]; simp [vt_sum]
theorem vt_rowOf {R : Nat} {F G S : Nat → Nat} (hK : vt_K R F G S) {j : Nat} (hj : j < F (R + 1)) : ∃ r, r ≤ R ∧ F r ≤ j ∧ j < F (r + 1) := by
  have h : ∀ n, n ≤ R + 1 → j < F n → ∃ r, r ≤ R ∧ F r ≤ j ∧ j < F (r + 1) := by
    intro n
    induction n with
    | zero => intro _ h; rw [hK.2.1] at h; omega
    | succ n ih =>
        intro h1 h2
        by_cases h3 : j < F n
        · exact ih (by omega) h3
        · exact ⟨n, by omega, by omega, h2⟩
  exact h (R + 1) (Nat.le_refl _) hj
theorem vt_loopCount {w : Int32} {R : Nat} {F G S : Nat → Nat} {σ μ : kb_S} (hK : vt_K R F G S) (hF : vt_F w R F G S σ μ) : fn_X0_loopCount σ = some (nI (F (R + 1))) := by
  unfold fn_X0_loopCount
  have h1 := hK.1
  rw [hF.2.2.2.1, vt_1, nI_add, if_pos (vt_in' (by omega) (by omega)), nI_clamp (by omega), (hF.2.2.2.2.2.2.2.2.2.1 (R + 1) (by omega)).1]
theorem vt_hasLoop {w : Int32} {R : Nat} {F G S : Nat → Nat} {σ μ : kb_S} (hK : vt_K R F G S) (hF : vt_F w R F G S σ μ) (x : Int32) : fn_X0_hasLoop x σ = some (if x < 0 ∨ nI (F (R + 1)) ≤ x then 0 else 1) := by
  unfold fn_X0_hasLoop
  rw [vt_loopCount hK hF, Option.bind_some]
  by_cases h0 : x < 0
  · rw [if_pos h0, if_pos (Or.inl h0)]
  · rw [if_neg h0]
    by_cases h1 : nI (F (R + 1)) ≤ x
    · rw [if_pos h1, if_pos (Or.inr h1)]
    · rw [if_neg h1, if_neg (fun h => h.elim h0 h1)]
theorem vt_hasLoop1 {w : Int32} {R : Nat} {F G S : Nat → Nat} {σ μ : kb_S} (hK : vt_K R F G S) (hF : vt_F w R F G S σ μ) {j : Nat} (hj : j < F (R + 1)) : fn_X0_hasLoop (nI j) σ = some 1 := by
  have h2 := (hK.2.2.2.2.1)
  rw [vt_hasLoop hK hF, if_neg]
  rintro (h4 | h4)
  · exact vt_neg (by omega) h4
  · rw [vt_leI (by omega) (by omega)] at h4; omega
theorem vt_pc {w : Int32} {R : Nat} {F G S : Nat → Nat} {σ μ : kb_S} (hK : vt_K R F G S) (hF : vt_F w R F G S σ μ) {j : Nat} (hj : j < F (R + 1)) : fn_X0_parentCount (nI j) σ = some (kb_a σ 4 j) := by
  have h2 := (hK.2.2.2.2.1)
  unfold fn_X0_parentCount
  rw [vt_hasLoop1 hK hF hj, Option.bind_some, if_neg (by decide), if_pos (vt_in' (by omega) (by omega)), nI_clamp (by omega)]
theorem vt_par {w : Int32} {R : Nat} {F G S : Nat → Nat} {σ μ : kb_S} (hK : vt_K R F G S) (hF : vt_F w R F G S σ μ) {j : Nat} (hj : j < F (R + 1)) (v : Int32) : fn_X0_parent (nI j) v σ = some (kb_a σ 5 j + v * vt_stp w) := by
  have h2 := (hK.2.2.2.2.1)
  unfold fn_X0_parent
  rw [vt_hasLoop1 hK hF hj, Option.bind_some, if_neg (by decide), if_pos (vt_in' (by omega) (by omega)), nI_clamp (by omega), hF.2.2.2.2.2.2.2.2.1]
theorem vt_born {w : Int32} {R : Nat} {F G S : Nat → Nat} {σ μ : kb_S} (hK : vt_K R F G S) (hF : vt_F w R F G S σ μ) {j r : Nat} (hr : r ≤ R) (h1 : F r ≤ j) (h2 : j < F (r + 1)) : fn_X0_bornIn (nI j) σ = some (nI r) := by
  have hR := hK.1
  have h600 := hK.2.2.2.2.1
  have h601 := (vt_mono hK (show r + 1 ≤ R + 1 by omega) (by omega)).1
  have h : ∀ m fu i, m < fu → i + m = r → fp_X0_bornIn_2 fu (nI j) (nI i) σ = some (nI r) := by
    intro m
    induction m with
    | zero =>
        intro fu i q1 q2
        obtain ⟨k, rfl⟩ : ∃ k, fu = k + 1 := ⟨fu - 1, by omega⟩
        rw [fp_X0_bornIn_2_s, hF.2.2.2.1]
        by_cases h4 : R ≤ i
        · rw [if_pos (by rw [vt_leI (by omega) (by omega)]; exact h4), show R = r by omega]
        · rw [if_neg (by rw [vt_leI (by omega) (by omega)]; exact h4), vt_1, nI_add, if_pos (vt_in' (by omega) (by omega)), nI_clamp (by omega), (hF.2.2.2.2.2.2.2.2.2.1 (i + 1) (by omega)).1, show i = r by omega, if_neg (by rw [vt_leI (by omega) (by omega)]; omega)]
    | succ m ih =>
        intro fu i q1 q2
        obtain ⟨k, rfl⟩ : ∃ k, fu = k + 1 := ⟨fu - 1, by omega⟩
        have h5 := (vt_mono hK (show i + 1 ≤ r by omega) (by omega)).1
        rw [fp_X0_bornIn_2_s, hF.2.2.2.1, if_neg (by rw [vt_leI (by omega) (by omega)]; omega), vt_1, nI_add, if_pos (vt_in' (by omega) (by omega)), nI_clamp (by omega), (hF.2.2.2.2.2.2.2.2.2.1 (i + 1) (by omega)).1, if_pos (by rw [vt_leI (by omega) (by omega)]; omega), ih k (i + 1) (by omega) (by omega)]
  exact h r kb_FU 0 (by rw [vt_fu]; omega) (by omega)
theorem vt_ok_loop : ok_loop vt_I := by
  intro σ T μ x y h
  have hh := h.thr 1
  have hh0 := h.thr 0
  obtain ⟨-, ⟨w, R, F, G, S, hK, hF⟩, -⟩ := h
  have hR := hK.1
  have h600 := hK.2.2.2.2.1
  have h53 : fp_X9_loop_53 x y μ = some (kb_p μ 0 1, 0) := by
    unfold fp_X9_loop_53 fp_X9_loop_54
    rw [vt_says0, Option.bind_some, if_pos rfl]
  have hi : fn_X9_in x 0 (kb_g μ 3 - 1) = if x < 0 ∨ nI (F (R + 1)) ≤ x then 0 else 1 := by
    rw [hF.2.2.2.2.2.1, vt_1, vt_in0 (by omega)]; rfl
  by_cases hx : x < 0 ∨ nI (F (R + 1)) ≤ x
  · refine ⟨kb_p μ 0 1, 1, 0, 0, ?_, ?_, hh, Or.inr ⟨rfl, rfl⟩⟩
    · unfold fn_X8_loop; rw [vt_hasLoop hK hF, if_pos hx, Option.bind_some, if_pos rfl]
    · unfold fn_X9_loop; rw [hi, if_pos (by rw [if_pos hx]), h53]
  · have hx0 : ¬ x < 0 := fun h => hx (Or.inl h)
    obtain ⟨j, hj0, rfl⟩ := vt_nat hx0
    have hj : j < F (R + 1) := by
      have : ¬ nI (F (R + 1)) ≤ nI j := fun h => hx (Or.inr h)
      rw [vt_leI (by omega) hj0] at this; omega
    obtain ⟨r, hr, hr1, hr2⟩ := vt_rowOf hK hj
    obtain ⟨l1, l2, l3, l4, c, l5, l6, l7, l8, l9⟩ := hF.2.2.2.2.2.2.2.2.2.2.2.2 r hr j hr1 hr2
    have h9 : fn_X9_loop (nI j) y μ = if fn_X9_in y 0 (nI (c + 3) - nI 1) = 0 then fp_X9_loop_53 (nI j) y μ else fp_X9_loop_54 (nI j) y 1 μ := by
      have e : nI 2 + nI c = nI (c + 3) - nI 1 := by rw [nI_add, pk_sub (by omega), show 2 + c = c + 3 - 1 by omega]
      unfold fn_X9_loop fp_X9_loop_42
      rw [hi, if_neg (by rw [if_neg hx]; decide), if_neg (by rw [if_neg hx]; decide), if_pos (vt_in' (by omega) (by omega)), nI_clamp (by omega), l8, vt_2, e]
    rw [vt_in0 (by omega)] at h9
    have h8 : fn_X8_loop (nI j) y σ = if y < 0 then some (1, 0) else if y < nI (c + 3) then (if y = 0 then some (0, nI r) else if y = 1 then some (0, nI (if r < R then r + 1 else 0)) else if y = 2 then some (0, nI c) else some (0, kb_a σ 5 j + (y - 3) * vt_stp w)) else some (1, 0) := by
      unfold fn_X8_loop fp_X8_loop_39 fn_X0_diedIn
      rw [vt_hasLoop1 hK hF hj, Option.bind_some, if_neg (by decide), vt_pc hK hF hj, Option.bind_some, vt_born hK hF hr hr1 hr2, vt_par hK hF hj, l7, vt_3, nI_add, show 3 + c = c + 3 by omega, hF.2.2.2.1]
      simp only [Option.bind_some]
      by_cases hrR : r < R
      · rw [if_neg (show ¬ nI R ≤ nI r by rw [vt_leI (by omega) (by omega)]; omega), if_pos hrR, vt_1, nI_add]; rfl
      · rw [if_pos (show nI R ≤ nI r by rw [vt_leI (by omega) (by omega)]; omega), if_neg hrR]; rfl
    by_cases hy : y < 0 ∨ nI (c + 3) ≤ y
    · refine ⟨kb_p μ 0 1, 1, 0, 0, ?_, ?_, hh, Or.inr ⟨rfl, rfl⟩⟩
      · rw [h8]
        by_cases hy0 : y < 0
        · rw [if_pos hy0]
        · rw [if_neg hy0, if_neg (Int32.not_lt.mpr (hy.resolve_left hy0))]
      · rw [h9, if_pos (by rw [if_pos hy]), h53]
    · have hy0 : ¬ y < 0 := fun h => hy (Or.inl h)
      obtain ⟨v, hv0, rfl⟩ := vt_nat hy0
      have hv : v < c + 3 := by
        have : ¬ nI (c + 3) ≤ nI v := fun h => hy (Or.inr h)
        rw [vt_leI (by omega) hv0] at this; omega
      rw [if_neg (by rw [if_neg hy]; decide)] at h9
      rw [if_neg hy0, if_pos (by rw [vt_ltI (by omega) (by omega)]; exact hv)] at h8
      have h54 : ∀ z, fp_X9_loop_54 (nI j) z 1 μ = if z = 0 then some (kb_p μ 0 0, nI r) else if z = 1 then some (kb_p μ 0 0, nI (if r < R then r + 1 else 0)) else if z = 2 then some (kb_p μ 0 0, nI c) else if kb_in (nI 3 * nI j + z - 3) 1800 = true then some (kb_p μ 0 0, kb_a μ 5 (nI 3 * nI j + z - 3).toNatClampNeg) else none := by
        intro z
        unfold fp_X9_loop_54
        rw [vt_says1, Option.bind_some, if_neg (show ¬ (1 : Int32) = 0 by decide)]
        simp only [vt_ap]
        rw [if_pos (vt_in' (n := j) (m := 600) (by omega) (by omega)), if_pos (vt_in' (n := j) (m := 600) (by omega) (by omega)), if_pos (vt_in' (n := j) (m := 600) (by omega) (by omega)), nI_clamp (by omega), l1, l2, l8]
        rfl
      rw [h54] at h9
      have hv4 : v = 0 ∨ v = 1 ∨ v = 2 ∨ 3 ≤ v := by omega
      rcases hv4 with rfl | rfl | rfl | hv3
      · exact ⟨_, 0, _, _, h8, h9, hh0, Or.inl ⟨rfl, rfl, rfl⟩⟩
      · exact ⟨_, 0, _, _, h8, h9, hh0, Or.inl ⟨rfl, rfl, rfl⟩⟩
      · exact ⟨_, 0, _, _, h8, h9, hh0, Or.inl ⟨rfl, rfl, rfl⟩⟩
      · obtain ⟨y, y1, y2, y3, y4⟩ := l9 (v - 3) (by omega)
        have n0 : ¬ nI v = 0 := by rw [vt_0, vt_eqI (by omega) (by omega)]; omega
        have n1 : ¬ nI v = 1 := by rw [vt_1, vt_eqI (by omega) (by omega)]; omega
        have n2 : ¬ nI v = 2 := by rw [vt_2, vt_eqI (by omega) (by omega)]; omega
        rw [if_neg n0, if_neg n1, if_neg n2, vt_3, pk_sub hv3, y4] at h8
        rw [if_neg n0, if_neg n1, if_neg n2, vt_3, pk_mul, nI_add, pk_sub (by omega), if_pos (vt_in' (by omega) (by omega)), nI_clamp (by omega), show 3 * j + v - 3 = 3 * j + (v - 3) by omega, y3] at h9
        exact ⟨_, 0, _, _, h8, h9, hh0, Or.inl ⟨rfl, rfl, rfl⟩⟩
