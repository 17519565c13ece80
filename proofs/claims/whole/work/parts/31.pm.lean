/-- the reference's memory μ0 with the reader at s -/
def kq_m (μ0 : kb_S) (s : Nat × Nat) (μ : kb_S) : Prop :=
  (∀ j, j ≠ 5 → j ≠ 6 → j ≠ 7 → kb_g μ j = kb_g μ0 j) ∧ (∀ j, kb_a μ j = kb_a μ0 j) ∧ kb_g μ 6 = nI s.1 ∧ (s.1 = 0 → kb_g μ 5 = nI s.2) ∧ (s.1 ≠ 0 → kb_g μ 7 = nI s.2) ∧ s.1 ≤ 9 ∧ s.2 ≤ 200 ∧ ∃ p, p ≤ 210 ∧ kb_g μ 5 = nI p
theorem kq_m.tm {tl : Nat} {b : Nat → Nat} {μ0 μ : kb_S} {s : Nat × Nat} (h : kq_m μ0 s μ) (ht : kq_tm tl b μ0) : kq_tm tl b μ := by
  unfold kq_tm; rw [h.1 1 (by decide) (by decide) (by decide), h.2.1]; exact ht
theorem kq_inm {tl : Nat} {b : Nat → Nat} {μ : kb_S} (h : kq_tm tl b μ) {p : Nat} (hp : b p < 256) : p < tl := by
  rcases Nat.lt_or_ge p tl with h1 | h1
  · exact h1
  · have := h.2.2.2 p h1; omega
theorem kq_see9 {tl : Nat} {b : Nat → Nat} {μ : kb_S} (ht : kq_tm tl b μ) {p : Nat} (hp : p ≤ 1000) (h5 : kb_g μ 5 = nI p) : fn_X9_see μ = some (kq_see b p) := by
  have h1 := ht.1
  unfold fn_X9_see kq_see
  rw [ht.2.1, h5]
  by_cases h : p < tl
  · obtain ⟨h2, h3⟩ := ht.2.2.1 p h
    rw [if_neg (by rw [vt_leI (by omega) (by omega)]; omega), if_pos (vt_in' (by omega) (by omega)), nI_clamp (by omega), h3, if_pos h2]
  · rw [if_pos (by rw [vt_leI (by omega) (by omega)]; omega), ht.2.2.2 p (by omega), if_neg (by decide)]; rfl
theorem kq_seem {tl : Nat} {b : Nat → Nat} {μ0 μ : kb_S} (ht : kq_tm tl b μ0) {p : Nat} (h : kq_m μ0 (0, p) μ) : fn_X9_see μ = some (kq_see b p) := by
  have hp : p ≤ 200 := h.2.2.2.2.2.2.1
  exact kq_see9 (h.tm ht) (by omega) (h.2.2.2.1 rfl)
theorem kq_seem' {tl : Nat} {b : Nat → Nat} {μ0 μ : kb_S} (ht : kq_tm tl b μ0) {s : Nat × Nat} (h : kq_m μ0 s μ) : ∃ v, fn_X9_see μ = some v := by
  obtain ⟨p, hp, hp2⟩ := h.2.2.2.2.2.2.2
  exact ⟨_, kq_see9 (h.tm ht) (by omega) hp2⟩
theorem kq_m.f0 {μ0 μ : kb_S} {s : Nat × Nat} (h : kq_m μ0 s μ) : (kb_g μ 6 = 0) ↔ s.1 = 0 := by
  have := h.2.2.2.2.2.1
  rw [h.2.2.1, vt_0, vt_eqI (by omega) (by omega)]
theorem kq_m.fle {μ0 μ : kb_S} {s : Nat × Nat} (h : kq_m μ0 s μ) : (kb_g μ 6 ≤ 0) ↔ s.1 = 0 := by
  have := h.2.2.2.2.2.1
  rw [h.2.2.1, vt_0, vt_leI (by omega) (by omega)]; omega
theorem kq_m.go {μ0 μ : kb_S} {s : Nat × Nat} (h : kq_m μ0 s μ) (h0 : s.1 = 0) {p : Nat} (hp : p ≤ 200) : kq_m μ0 (0, p) (kb_p μ 5 (nI p)) := by
  refine ⟨fun j h1 h2 h3 => ?_, h.2.1, ?_, fun _ => rfl, fun h5 => absurd rfl h5, by simp, hp, p, by omega, rfl⟩
  · rw [vt_gp, if_neg h1]; exact h.1 j h1 h2 h3
  · rw [vt_gp, if_neg (by decide), h.2.2.1, h0]
theorem kq_m.at {μ0 μ : kb_S} {s : Nat × Nat} (h : kq_m μ0 s μ) (h0 : s.1 ≠ 0) {p : Nat} (hp : p ≤ 210) : kq_m μ0 s (kb_p μ 5 (nI p)) := by
  refine ⟨fun j h1 h2 h3 => ?_, h.2.1, h.2.2.1, fun h5 => absurd h5 h0, h.2.2.2.2.1, h.2.2.2.2.2.1, h.2.2.2.2.2.2.1, p, by omega, rfl⟩
  rw [vt_gp, if_neg h1]; exact h.1 j h1 h2 h3
theorem kq_wrong {μ0 μ : kb_S} {s : Nat × Nat} {k : Nat} (hk : 1 ≤ k ∧ k ≤ 9) (h : kq_m μ0 s μ) : ∃ μ2, fn_X9_wrong (nI k) μ = some μ2 ∧ kq_m μ0 (if s.1 = 0 then (k, s.2) else s) μ2 := by
  unfold fn_X9_wrong
  by_cases h1 : s.1 = 0
  · rw [if_pos (h.fle.mpr h1), if_pos h1]
    obtain ⟨p, hp, hp2⟩ := h.2.2.2.2.2.2.2
    refine ⟨_, rfl, fun j h2 h3 h4 => ?_, h.2.1, rfl, fun h2 => ?_, fun _ => ?_, hk.2, h.2.2.2.2.2.2.1, p, hp, hp2⟩
    · rw [vt_gp, if_neg h4, vt_gp, if_neg h3]; exact h.1 j h2 h3 h4
    · exact absurd h2 (by show ¬ k = 0; omega)
    · rw [vt_gp, if_pos rfl, h.2.2.2.1 h1]
  · rw [if_neg (fun h5 => h1 (h.fle.mp h5)), if_neg h1]
    exact ⟨μ, rfl, h⟩
theorem kq_need {tl : Nat} {b : Nat → Nat} {μ0 μ : kb_S} (ht : kq_tm tl b μ0) {c : Nat} (hc : c < 256) {s : Nat × Nat} (h : kq_m μ0 s μ) : ∃ μ2, fn_X9_need (nI c) μ = some μ2 ∧ kq_m μ0 (kq_w b [c] s) μ2 := by
  have htl := ht.1
  have e13 : ∀ {s : Nat × Nat} {μ : kb_S}, kq_m μ0 s μ → (s.1 = 0 → s.2 < tl) → ∃ μ2, fp_X9_need_13 μ = some μ2 ∧ kq_m μ0 (if s.1 = 0 then (0, s.2 + 1) else s) μ2 := by
    intro s μ h hs
    unfold fp_X9_need_13 fp_X9_need_34
    by_cases h1 : s.1 = 0
    · rw [if_pos (h.f0.mpr h1), if_pos h1, h.2.2.2.1 h1, vt_1, nI_add]
      exact ⟨_, rfl, h.go h1 (by have := hs h1; omega)⟩
    · rw [if_neg (fun h5 => h1 (h.f0.mp h5)), if_neg h1]
      obtain ⟨p, hp, hp2⟩ := h.2.2.2.2.2.2.2
      rw [hp2]
      exact ⟨_, rfl, h.at h1 hp⟩
  unfold fn_X9_need
  by_cases h1 : s.1 = 0
  · obtain ⟨f, p⟩ := s
    simp only at h1
    subst h1
    rw [kq_seem ht h, Option.bind_some, kq_w, kq_w, if_pos rfl]
    by_cases hb : b p = c
    · have hpt := kq_inm ht (p := p) (by omega)
      rw [if_pos ((kq_see_eq hc).mpr hb), if_pos hb]
      obtain ⟨μ2, r1, r2⟩ := e13 h (fun _ => hpt)
      exact ⟨μ2, r1, r2⟩
    · rw [if_neg (fun h5 => hb ((kq_see_eq hc).mp h5)), if_neg hb, vt_1]
      obtain ⟨μ1, q1, q2⟩ := kq_wrong (k := 1) ⟨by omega, by omega⟩ h
      rw [if_pos rfl] at q2
      obtain ⟨μ2, r1, r2⟩ := e13 q2 (fun h5 => absurd h5 (by simp))
      rw [q1, Option.bind_some]
      exact ⟨μ2, r1, r2⟩
  · obtain ⟨v, hv⟩ := kq_seem' ht h
    rw [hv, Option.bind_some, kq_w_wrong _ h1]
    obtain ⟨μ2, r1, r2⟩ := e13 h (fun h5 => absurd h5 h1)
    rw [if_neg h1] at r2
    by_cases hvc : v = nI c
    · rw [if_pos hvc]; exact ⟨μ2, r1, r2⟩
    · rw [if_neg hvc, vt_1]
      obtain ⟨μ1, q1, q2⟩ := kq_wrong (k := 1) ⟨by omega, by omega⟩ h
      rw [if_neg h1] at q2
      obtain ⟨μ3, r3, r4⟩ := e13 q2 (fun h5 => absurd h5 h1)
      rw [if_neg h1] at r4
      rw [q1, Option.bind_some]
      exact ⟨μ3, r3, r4⟩
theorem kq_seeW {tl : Nat} {b : Nat → Nat} {μ0 : kb_S} (ht : kq_tm tl b μ0) : ∀ (m fu p : Nat) (μ : kb_S), tl ≤ p + m → m < fu → kq_m μ0 (0, p) μ → ∃ μ2, fp_X9_seeWord_0 fu μ = some (μ2, kq_see b (kq_b b m p)) ∧ kq_m μ0 (0, kq_b b m p) μ2 := by
  have htl := ht.1
  intro m
  induction m with
  | zero =>
      intro fu p μ h1 h3 h
      obtain ⟨n, rfl⟩ : ∃ n, fu = n + 1 := ⟨fu - 1, by omega⟩
      refine ⟨μ, ?_, h⟩
      have h9 := ht.2.2.2 p (by omega)
      rw [fp_X9_seeWord_0_s, kq_seem ht h, Option.bind_some, show (32 : Int32) = nI 32 from rfl, if_neg (fun h5 => by have := (kq_see_eq (c := 32) (by omega)).mp h5; omega), Option.bind_some]; rfl
  | succ m ih =>
      intro fu p μ h1 h3 h
      obtain ⟨n, rfl⟩ : ∃ n, fu = n + 1 := ⟨fu - 1, by omega⟩
      rw [fp_X9_seeWord_0_s, kq_seem ht h, Option.bind_some, show (32 : Int32) = nI 32 from rfl, kq_b]
      by_cases hb : b p = 32
      · have hpt := kq_inm ht (p := p) (by omega)
        rw [if_pos ((kq_see_eq (c := 32) (by omega)).mpr hb), if_pos hb, h.2.2.2.1 rfl, vt_1, nI_add]
        exact ih n (p + 1) _ (by omega) (by omega) (h.go rfl (by omega))
      · rw [if_neg (fun h5 => hb ((kq_see_eq (c := 32) (by omega)).mp h5)), if_neg hb, Option.bind_some]
        exact ⟨μ, rfl, h⟩
theorem kq_seeWord {tl : Nat} {b : Nat → Nat} {μ0 μ : kb_S} (ht : kq_tm tl b μ0) {p : Nat} (h : kq_m μ0 (0, p) μ) : ∃ μ2, fn_X9_seeWord μ = some (μ2, kq_see b (kq_b b 201 p)) ∧ kq_m μ0 (0, kq_b b 201 p) μ2 := by
  have htl := ht.1
  exact kq_seeW ht 201 kb_FU p μ (by omega) (by rw [vt_fu]; omega) h
theorem kq_digit9 {tl : Nat} {b : Nat → Nat} {μ0 μ : kb_S} (ht : kq_tm tl b μ0) {low p : Nat} (hl : low ≤ 1) (h : kq_m μ0 (0, p) μ) : fn_X9_isDigit (nI low) μ = some (if 48 + low ≤ b p ∧ b p ≤ 57 then 1 else 0) := by
  unfold fn_X9_isDigit
  rw [kq_seem ht h, Option.bind_some, Option.bind_some, show (48 : Int32) = nI 48 from rfl, nI_add, show (57 : Int32) = nI 57 from rfl]
  by_cases h1 : kq_see b p < nI (48 + low)
  · rw [if_pos h1, if_neg]
    rw [kq_see_lt (by omega)] at h1; omega
  · rw [if_neg h1]
    rw [kq_see_lt (by omega)] at h1
    by_cases h2 : nI 57 < kq_see b p
    · rw [if_pos h2, if_neg]
      rw [kq_lt_see (by omega)] at h2; omega
    · rw [if_neg h2, if_pos]
      rw [kq_lt_see (by omega)] at h2; omega
theorem kq_n_bad {b : Nat → Nat} {least p : Nat} (h : ¬ (kq_isd b p = true ∧ ¬ (b p = 48 ∧ 0 < least))) : kq_n b least p = (1, p, 0) := by unfold kq_n; rw [if_neg h]
theorem kq_n_zero {b : Nat → Nat} {p : Nat} (h : b p = 48) : kq_n b 0 p = (0, p + 1, 0) := by
  unfold kq_n; rw [if_pos (show kq_isd b p = true ∧ ¬ (b p = 48 ∧ 0 < 0) from ⟨kq_isd_iff.mpr (by omega), by omega⟩), if_pos h]
theorem kq_n_two {b : Nat → Nat} {least p : Nat} (h : 49 ≤ b p ∧ b p ≤ 57) (h2 : kq_isd b (p + 1) = true) : kq_n b least p = (0, p + 2, 10 * (b p - 48) + (b (p + 1) - 48)) := by
  unfold kq_n; rw [if_pos (show kq_isd b p = true ∧ ¬ (b p = 48 ∧ 0 < least) from ⟨kq_isd_iff.mpr (by omega), by omega⟩), if_neg (show ¬ b p = 48 by omega), if_pos h2]
theorem kq_n_less {b : Nat → Nat} {least p : Nat} (h : 49 ≤ b p ∧ b p ≤ 57) (h2 : ¬ kq_isd b (p + 1) = true) (h3 : b p - 48 < least) : kq_n b least p = (1, p + 1, 0) := by
  unfold kq_n; rw [if_pos (show kq_isd b p = true ∧ ¬ (b p = 48 ∧ 0 < least) from ⟨kq_isd_iff.mpr (by omega), by omega⟩), if_neg (show ¬ b p = 48 by omega), if_neg h2, if_pos h3]
theorem kq_n_one {b : Nat → Nat} {least p : Nat} (h : 49 ≤ b p ∧ b p ≤ 57) (h2 : ¬ kq_isd b (p + 1) = true) (h3 : ¬ b p - 48 < least) : kq_n b least p = (0, p + 1, b p - 48) := by
  unfold kq_n; rw [if_pos (show kq_isd b p = true ∧ ¬ (b p = 48 ∧ 0 < least) from ⟨kq_isd_iff.mpr (by omega), by omega⟩), if_neg (show ¬ b p = 48 by omega), if_neg h2, if_neg h3]
theorem kq_count {tl : Nat} {b : Nat → Nat} {μ0 μ : kb_S} (ht : kq_tm tl b μ0) {least : Nat} (hl : least ≤ 2) {p : Nat} (h : kq_m μ0 (0, p) μ) : ∃ μ2 v, fn_X9_count (nI least) μ = some (μ2, v) ∧ kq_m μ0 ((kq_n b least p).1, (kq_n b least p).2.1) μ2 ∧ ((kq_n b least p).1 = 0 → v = nI (kq_n b least p).2.2) := by
  have htl := ht.1
  have hp : p ≤ 200 := h.2.2.2.2.2.2.1
  have h10 := h.2.2.2.1 rfl
  obtain ⟨μf, f1, f2⟩ := kq_wrong (k := 1) ⟨by omega, by omega⟩ h
  rw [if_pos rfl] at f2
  have hmain : fn_X9_count (nI least) μ = if least = 0 ∧ b p = 48 then some (kb_p μ 5 (nI (p + 1)), 0) else fp_X9_count_25 (nI least) μ := by
    unfold fn_X9_count
    by_cases hl0 : least = 0
    · rw [if_pos (show nI least = 0 by rw [hl0]; rfl), kq_seem ht h, Option.bind_some, show (48 : Int32) = nI 48 from rfl]
      by_cases hb : b p = 48
      · rw [if_pos ((kq_see_eq (by omega)).mpr hb), if_pos ⟨hl0, hb⟩, h10, vt_1, nI_add]
      · rw [if_neg (fun h5 => hb ((kq_see_eq (by omega)).mp h5)), if_neg (fun h5 => hb h5.2)]
    · rw [if_neg (show ¬ nI least = 0 by rw [vt_0, vt_eqI (by omega) (by omega)]; omega), if_neg (fun h5 => hl0 h5.1)]
  have h25 : fp_X9_count_25 (nI least) μ = if 49 ≤ b p ∧ b p ≤ 57 then (if nI least ≤ nI (b p - 48) then fp_X9_count_76 (nI (b p - 48)) (kb_p μ 5 (nI (p + 1))) else (fn_X9_isDigit (nI 0) (kb_p μ 5 (nI (p + 1)))).bind fun q5 => if q5 = 0 then (fn_X9_wrong (nI 1) (kb_p μ 5 (nI (p + 1)))).bind fun q7 => fp_X9_count_76 (nI (b p - 48)) q7 else fp_X9_count_76 (nI (b p - 48)) (kb_p μ 5 (nI (p + 1)))) else some (μf, 0) := by
    unfold fp_X9_count_25
    rw [vt_1, kq_digit9 ht (by omega) h, Option.bind_some, f1]
    by_cases hd : 49 ≤ b p ∧ b p ≤ 57
    · have e : kq_see b p - 48 = nI (b p - 48) := by
        unfold kq_see; rw [if_pos (by omega), show (48 : Int32) = nI 48 from rfl, pk_sub (by omega)]
      rw [if_neg (by rw [if_pos (by omega)]; decide), if_pos hd, kq_seem ht h, Option.bind_some, e, h10, nI_add]; rfl
    · rw [if_pos (by rw [if_neg (by omega)]), if_neg hd]; rfl
  rw [hmain, h25]
  by_cases hz : least = 0 ∧ b p = 48
  · rw [if_pos hz]
    have hpt := kq_inm ht (p := p) (by omega)
    rw [hz.1, kq_n_zero hz.2]
    exact ⟨_, _, rfl, h.go rfl (show p + 1 ≤ 200 by omega), fun _ => rfl⟩
  · rw [if_neg hz]
    by_cases hd : 49 ≤ b p ∧ b p ≤ 57
    · have hpt := kq_inm ht (p := p) (by omega)
      have g1 := h.go rfl (show p + 1 ≤ 200 by omega)
      rw [if_pos hd]
      have e76 : ∀ x, fp_X9_count_76 x (kb_p μ 5 (nI (p + 1))) = if kq_isd b (p + 1) = true then some (kb_p (kb_p μ 5 (nI (p + 1))) 5 (nI (p + 2)), nI 10 * x + kq_see b (p + 1) - nI 48) else some (kb_p μ 5 (nI (p + 1)), x) := by
        intro x
        unfold fp_X9_count_76
        rw [if_pos (g1.f0.mpr rfl), show (0 : Int32) = nI 0 from rfl, kq_digit9 ht (by omega) g1, Option.bind_some, kq_seem ht g1, Option.bind_some]
        by_cases hd3 : kq_isd b (p + 1) = true
        · have hd4 := kq_isd_iff.mp hd3
          rw [if_neg (by rw [if_pos (by omega)]; decide), if_pos hd3, vt_gp, if_pos rfl, vt_1, nI_add]; rfl
        · rw [if_pos (by rw [if_neg (fun h5 => hd3 (kq_isd_iff.mpr (by omega)))]; rfl), if_neg hd3]
      by_cases hd3 : kq_isd b (p + 1) = true
      · have hd4 := kq_isd_iff.mp hd3
        have hpt2 := kq_inm ht (p := p + 1) (by omega)
        rw [kq_n_two hd hd3]
        refine ⟨kb_p (kb_p μ 5 (nI (p + 1))) 5 (nI (p + 2)), nI 10 * nI (b p - 48) + kq_see b (p + 1) - nI 48, ?_, g1.go rfl (show p + 2 ≤ 200 by omega), fun _ => ?_⟩
        · by_cases hl2 : nI least ≤ nI (b p - 48)
          · rw [if_pos hl2, e76, if_pos hd3]
          · rw [if_neg hl2, kq_digit9 ht (by omega) g1, Option.bind_some, if_neg (by rw [if_pos (by omega)]; decide), e76, if_pos hd3]
        · unfold kq_see
          rw [if_pos (by omega), pk_mul, nI_add, pk_sub (by omega), show 10 * (b p - 48) + b (p + 1) - 48 = 10 * (b p - 48) + (b (p + 1) - 48) by omega]
      · have hnd : ¬ (48 + 0 ≤ b (p + 1) ∧ b (p + 1) ≤ 57) := fun h5 => hd3 (kq_isd_iff.mpr (by omega))
        by_cases hl2 : b p - 48 < least
        · rw [kq_n_less hd hd3 hl2, if_neg (show ¬ nI least ≤ nI (b p - 48) by rw [vt_leI (by omega) (by omega)]; omega), kq_digit9 ht (by omega) g1, Option.bind_some, if_pos (by rw [if_neg hnd])]
          obtain ⟨μg, k1, k2⟩ := kq_wrong (k := 1) ⟨by omega, by omega⟩ g1
          rw [if_pos rfl] at k2
          rw [k1, Option.bind_some]
          unfold fp_X9_count_76
          rw [if_neg (fun h5 => absurd (k2.f0.mp h5) (by simp))]
          exact ⟨_, _, rfl, k2, fun h5 => absurd h5 (by simp)⟩
        · rw [kq_n_one hd hd3 hl2, if_pos (show nI least ≤ nI (b p - 48) by rw [vt_leI (by omega) (by omega)]; omega), e76, if_neg hd3]
          exact ⟨_, _, rfl, g1, fun _ => rfl⟩
    · rw [if_neg hd, kq_n_bad (by rw [kq_isd_iff]; omega)]
      exact ⟨_, _, rfl, f2, fun h5 => absurd h5 (by simp)⟩
theorem kq_side {tl : Nat} {b : Nat → Nat} {μ0 μ : kb_S} (ht : kq_tm tl b μ0) {s : Nat × Nat} (h : kq_m μ0 s μ) : ∃ μ2 v, fn_X9_side μ = some (μ2, v) ∧ kq_m μ0 (kq_d b s) μ2 ∧ ((kq_d b s).1 = 0 → v = nI (b s.2 - 48)) := by
  have htl := ht.1
  unfold fn_X9_side kq_d
  by_cases h0 : s.1 = 0
  · obtain ⟨f, p⟩ := s
    simp only at h0
    subst h0
    have hp : p ≤ 200 := h.2.2.2.2.2.2.1
    rw [if_pos (h.fle.mpr rfl), if_pos rfl, kq_seem ht h, Option.bind_some, Option.bind_some, show (49 : Int32) = nI 49 from rfl, show (53 : Int32) = nI 53 from rfl]
    show ∃ μ2 v, _ ∧ kq_m μ0 (if 49 ≤ b p ∧ b p ≤ 53 then (0, p + 1) else (1, p)) μ2 ∧ ((if 49 ≤ b p ∧ b p ≤ 53 then (0, p + 1) else (1, p)).1 = 0 → v = nI (b p - 48))
    by_cases hd : 49 ≤ b p ∧ b p ≤ 53
    · have hpt := kq_inm ht (p := p) (by omega)
      have hsee : kq_see b p = nI (b p) := if_pos (by omega)
      rw [hsee, if_neg (by rw [vt_ltI (by omega) (by omega)]; omega), if_pos (by rw [vt_leI (by omega) (by omega)]; omega), if_pos hd]
      unfold fp_X9_side_32
      rw [if_pos (h.fle.mpr rfl), h.2.2.2.1 rfl, vt_1, nI_add, pk_sub (by omega), if_pos (vt_in' (by show p + 1 - 1 < _; omega) (by show p + 1 - 1 < _; omega)), nI_clamp (by show p + 1 - 1 < _; omega)]
      refine ⟨_, _, rfl, h.go rfl (by omega), fun _ => ?_⟩
      have e9 := ((h.tm ht).2.2.1 p hpt).2
      show kb_a μ 0 (p + 1 - 1) - 48 = _
      rw [Nat.add_sub_cancel, e9, show (48 : Int32) = nI 48 from rfl, pk_sub (by omega)]
    · rw [if_neg hd]
      have e27 : ∃ μ2, fp_X9_side_27 μ = some (μ2, 0) ∧ kq_m μ0 (1, p) μ2 := by
        obtain ⟨μf, f1, f2⟩ := kq_wrong (k := 1) ⟨by omega, by omega⟩ h
        rw [if_pos rfl] at f2
        unfold fp_X9_side_27 fp_X9_side_32
        rw [vt_1, f1, Option.bind_some, if_neg (fun h5 => absurd (f2.fle.mp h5) (by simp))]
        exact ⟨_, rfl, f2⟩
      obtain ⟨μ2, r1, r2⟩ := e27
      refine ⟨μ2, 0, ?_, r2, fun h5 => absurd h5 (by simp)⟩
      by_cases h1 : kq_see b p < nI 49
      · rw [if_pos h1, r1]
      · rw [if_neg h1, if_neg, r1]
        rw [kq_see_lt (by omega)] at h1
        unfold kq_see
        rw [if_pos (by omega), vt_leI (by omega) (by omega)]; omega
  · rw [if_neg (fun h5 => h0 (h.fle.mp h5)), if_neg h0]
    exact ⟨_, _, rfl, h, fun h5 => absurd h5 h0⟩
