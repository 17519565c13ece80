def kq_pm (μ0 : kb_S) (p n K N pl : Nat) (μ : kb_S) : Prop :=
  kb_g μ 5 = nI p ∧ kb_g μ 6 = 0 ∧ kb_g μ 9 = nI (n + 1) ∧ (∀ j, j ≠ 5 → j ≠ 6 → j ≠ 7 → j ≠ 9 → kb_g μ j = kb_g μ0 j) ∧
  (∀ j x, kb_a μ j x = if j = 11 ∧ x = n then nI pl else if j = 10 ∧ x = n then nI N else if j = 9 ∧ x = n then nI K else kb_a μ0 j x)
def kq_rm (μ0 : kb_S) (n pl : Nat) (r : Nat × Nat × Nat × Nat) (μ : kb_S) : Prop := (r.1 = 0 → kq_pm μ0 r.2.1 n r.2.2.1 r.2.2.2 pl μ) ∧ (r.1 ≠ 0 → kq_m μ0 (r.1, r.2.1) μ)
theorem kq_addm {μ0 μ : kb_S} {n K N pl f p : Nat} {v : Int32} (hn : kb_g μ0 9 = nI n) (hn2 : n < 220) (h : kq_m μ0 (f, p) μ) (hv : f = 0 → v = nI N) : ∃ μ2, fn_X9_add (nI K) v (nI pl) μ = some μ2 ∧ kq_rm μ0 n pl (f, p, K, N) μ2 := by
  unfold fn_X9_add
  by_cases h0 : f = 0
  · have hv2 := hv h0
    subst h0
    have e9 : kb_g μ 9 = nI n := by rw [h.1 9 (by decide) (by decide) (by decide)]; exact hn
    have i1 : kb_in (nI n) 220 = true := vt_in' (by omega) (by omega)
    rw [if_pos (h.fle.mpr rfl), e9]
    simp only [if_pos i1]
    rw [nI_clamp (by omega), vt_1, nI_add]
    refine ⟨_, rfl, fun _ => ⟨?_, ?_, rfl, fun j a1 a2 a3 a4 => ?_, fun j x => ?_⟩, fun h5 => absurd rfl h5⟩
    · exact h.2.2.2.1 rfl
    · exact h.2.2.1
    · simp only [vt_gp, vt_ga, if_neg a4]; exact h.1 j a1 a2 a3
    · simp only [vt_ap, vt_aax, h.2.1, hv2]
  · rw [if_neg (fun h5 => h0 (h.fle.mp h5))]
    exact ⟨μ, rfl, fun h5 => absurd h5 h0, fun _ => h⟩
section KQM
variable {tl : Nat} {b : Nat → Nat} {μ0 : kb_S} {n pl : Nat}
theorem kq_plain (ht : kq_tm tl b μ0) (hn : kb_g μ0 9 = nI n) (hn2 : n < 220) {s : Nat} {q : Nat × Nat} {μ : kb_S} (h : kq_m μ0 q μ) : ∃ μ2, fn_X9_plain (nI s) (nI pl) μ = some μ2 ∧ kq_rm μ0 n pl (kq_pl b q s) μ2 := by
  obtain ⟨f, q⟩ := q
  unfold fn_X9_plain fp_X9_plain_23 fp_X9_plain_24 kq_pl
  simp only
  by_cases h0 : f = 0
  · subst h0
    rw [if_pos (h.f0.mpr rfl), if_pos rfl, show (0 : Int32) = nI 0 from rfl, kq_digit9 ht (by omega) h, Option.bind_some]
    by_cases hd : kq_isd b q = true
    · have hd2 := kq_isd_iff.mp hd
      rw [if_neg (by rw [if_pos (by omega)]; decide), if_pos hd]
      obtain ⟨μ3, v, u1, u2, u3⟩ := kq_count (least := 1) ht (by omega) h
      rw [show (1 : Int32) = nI 1 from rfl, u1, Option.bind_some]
      obtain ⟨μ4, w1, w2⟩ := kq_addm (pl := pl) (K := s) hn hn2 u2 u3
      rw [w1]; exact ⟨_, rfl, w2⟩
    · rw [if_pos (by rw [if_neg (fun h5 => hd (kq_isd_iff.mpr (by omega)))]; rfl), if_neg hd]
      obtain ⟨μ4, w1, w2⟩ := kq_addm (pl := pl) (K := s) (N := 1) (v := 1) hn hn2 h (fun _ => rfl)
      rw [w1]; exact ⟨_, rfl, w2⟩
  · rw [if_neg (fun h5 => h0 (h.f0.mp h5)), if_neg h0]
    obtain ⟨μ4, w1, w2⟩ := kq_addm (pl := pl) (K := s) (N := 1) (v := 1) hn hn2 h (fun _ => rfl)
    rw [w1]; exact ⟨_, rfl, w2⟩
theorem kq_w1 {b : Nat → Nat} {c p : Nat} : kq_w b [c] (0, p) = if b p = c then (0, p + 1) else (1, p) := by rw [kq_w, if_pos rfl, kq_w]
theorem kq_cx_r3 {b : Nat → Nat} {q0 : Nat × Nat} {p : Nat} (h : kq_d b (kq_w b [47] (kq_d b q0)) = (0, p)) : ((b p = 102 ∨ b p = 98) → (kq_cx b q0).1 = 0) ∧ (¬ (b p = 102 ∨ b p = 98) → (kq_cx b q0).1 = 1 ∧ (kq_cx b q0).2.1 = p) := by
  unfold kq_cx
  simp only [h, kq_w1]
  by_cases h1 : b p = 102
  · simp [h1]
  · by_cases h2 : b p = 98
    · simp [h2]
    · simp [h1, h2]
theorem kq_cablem (ht : kq_tm tl b μ0) (hn : kb_g μ0 9 = nI n) (hn2 : n < 220) {q0 : Nat × Nat} {μ : kb_S} (h : kq_m μ0 q0 μ) : ∃ μ2, fn_X9_cable (nI pl) μ = some μ2 ∧ kq_rm μ0 n pl (kq_cx b q0) μ2 := by
  have htl := ht.1
  obtain ⟨μ2, v2, s1, s2, s3⟩ := kq_side ht h
  unfold fn_X9_cable
  rw [s1, Option.bind_some]
  obtain ⟨μ3, t1, t2⟩ := kq_need (c := 47) ht (by decide) s2
  simp only
  rw [show (47 : Int32) = nI 47 from rfl, t1, Option.bind_some]
  obtain ⟨μ4, v4, u1, u2, u3⟩ := kq_side ht t2
  rw [u1, Option.bind_some]
  simp only
  by_cases hr : (kq_d b (kq_w b [47] (kq_d b q0))).1 = 0
  · have hs : kq_d b (kq_w b [47] (kq_d b q0)) = (0, (kq_d b (kq_w b [47] (kq_d b q0))).2) := by rw [← hr]
    have u2' := u2
    rw [hs] at u2'
    rw [if_pos (u2'.f0.mpr rfl), kq_seem ht u2', Option.bind_some, Option.bind_some, show (102 : Int32) = nI 102 from rfl, show (98 : Int32) = nI 98 from rfl]
    have ok46 : ∀ (hb : b (kq_d b (kq_w b [47] (kq_d b q0))).2 = 102 ∨ b (kq_d b (kq_w b [47] (kq_d b q0))).2 = 98), ∃ μ9, fp_X9_cable_46 (nI pl) v2 v4 μ4 = some μ9 ∧ kq_rm μ0 n pl (kq_cx b q0) μ9 := by
      intro hb
      have hcx0 : (kq_cx b q0).1 = 0 := (kq_cx_r3 hs).1 hb
      obtain ⟨a0, a1, a2, a3, a4, a5, a6, a7⟩ := kq_cx_ok hcx0
      have d1 : kq_d b q0 = (0, q0.2 + 1) := by unfold kq_d; rw [if_pos a0, if_pos ⟨a1, a2⟩]
      have d2 : kq_w b [47] (kq_d b q0) = (0, q0.2 + 2) := by rw [d1]; simp [kq_w, a3]
      have d3 : kq_d b (kq_w b [47] (kq_d b q0)) = (0, q0.2 + 3) := by rw [d2]; simp [kq_d, a4, a5]
      have v2e := s3 (by rw [d1])
      have v4e := u3 (by rw [d3])
      rw [d2] at v4e
      rw [d3] at u2' hb
      simp only at u2' hb v4e
      have hpt := kq_inm ht (p := q0.2 + 3) (by omega)
      have ecab : ∀ z, nI z + 100 * v2 + 10 * v4 = nI (100 * (b q0.2 - 48) + 10 * (b (q0.2 + 2) - 48) + z) := by
        intro z
        rw [v2e, v4e, show (100 : Int32) = nI 100 from rfl, show (10 : Int32) = nI 10 from rfl, pk_mul, pk_mul, nI_add, nI_add]
        congr 1; omega
      unfold fp_X9_cable_46 fp_X9_cable_71
      rw [if_pos (u2'.fle.mpr rfl), kq_seem ht u2', Option.bind_some, show (102 : Int32) = nI 102 from rfl, show (10 : Int32) = nI 10 from rfl, show (11 : Int32) = nI 11 from rfl]
      have fin : ∀ z, (kq_cx b q0).2.2.1 = 100 * (b q0.2 - 48) + 10 * (b (q0.2 + 2) - 48) + z → ∃ μ9, ((fn_X9_add (nI z + 100 * v2 + nI 10 * v4) 1 (nI pl) μ4).bind fun q1 => some (kb_p q1 5 (kb_g q1 5 + 1))) = some μ9 ∧ kq_rm μ0 n pl (kq_cx b q0) μ9 := by
        intro z hz
        have ez : nI z + 100 * v2 + nI 10 * v4 = nI (100 * (b q0.2 - 48) + 10 * (b (q0.2 + 2) - 48) + z) := ecab z
        rw [ez]
        obtain ⟨μ6, w1, w2⟩ := kq_addm (pl := pl) (K := 100 * (b q0.2 - 48) + 10 * (b (q0.2 + 2) - 48) + z) (N := 1) (v := 1) hn hn2 u2' (fun _ => rfl)
        obtain ⟨x1, x2, x3, x4, x5⟩ := w2.1 rfl
        rw [w1, Option.bind_some, x1, vt_1, nI_add]
        refine ⟨_, rfl, fun _ => ?_, fun h5 => absurd hcx0 h5⟩
        rw [hz, show (kq_cx b q0).2.1 = q0.2 + 4 by rw [a7], show (kq_cx b q0).2.2.2 = 1 by rw [a7]]
        exact ⟨rfl, x2, x3, fun j h1 h2 h3 h4 => by rw [vt_gp, if_neg h1]; exact x4 j h1 h2 h3 h4, fun j x => x5 j x⟩
      by_cases h102 : b (q0.2 + 3) = 102
      · rw [if_pos ((kq_see_eq (by decide)).mpr h102)]
        exact fin 10 (by rw [a7, if_pos h102])
      · rw [if_neg (fun h5 => h102 ((kq_see_eq (by decide)).mp h5))]
        exact fin 11 (by rw [a7, if_neg h102])
    by_cases h102 : b (kq_d b (kq_w b [47] (kq_d b q0))).2 = 102
    · rw [if_pos ((kq_see_eq (by decide)).mpr h102)]; exact ok46 (Or.inl h102)
    · rw [if_neg (fun h5 => h102 ((kq_see_eq (by decide)).mp h5))]
      by_cases h98 : b (kq_d b (kq_w b [47] (kq_d b q0))).2 = 98
      · rw [if_pos ((kq_see_eq (by decide)).mpr h98)]; exact ok46 (Or.inr h98)
      · rw [if_neg (fun h5 => h98 ((kq_see_eq (by decide)).mp h5))]
        obtain ⟨μf, f1, f2⟩ := kq_wrong (k := 1) ⟨by omega, by omega⟩ u2'
        rw [if_pos rfl] at f2
        rw [show (1 : Int32) = nI 1 from rfl, f1, Option.bind_some]
        unfold fp_X9_cable_46
        rw [if_neg (fun h5 => absurd (f2.fle.mp h5) (by simp))]
        have hcx := (kq_cx_r3 hs).2 (fun h5 => h5.elim h102 h98)
        refine ⟨μf, rfl, fun h5 => ?_, fun _ => ?_⟩
        · rw [hcx.1] at h5; exact absurd h5 (by decide)
        · rw [hcx.1, hcx.2]; exact f2
  · rw [if_neg (fun h5 => hr (u2.f0.mp h5))]
    unfold fp_X9_cable_46
    rw [if_neg (fun h5 => hr (u2.fle.mp h5))]
    have hcx := kq_cx_w3 (b := b) (q0 := q0) hr rfl
    refine ⟨μ4, rfl, fun h5 => ?_, fun _ => ?_⟩
    · rw [hcx.1] at h5; exact absurd h5 hr
    · rw [hcx.1, hcx.2]; exact u2
theorem kq_w_hd {b : Nat → Nat} {c p : Nat} {cs : List Nat} (h : b p = c) : kq_w b (c :: cs) (0, p) = kq_w b cs (0, p + 1) := by rw [kq_w, if_pos rfl, if_pos h]
theorem kq_namedm (ht : kq_tm tl b μ0) (hn : kb_g μ0 9 = nI n) (hn2 : n < 220) {fst : Int32} {fb : Bool} (hf : fst = 0 ↔ fb = false) {p : Nat} {μ : kb_S} (hb : ¬ (b p = 40)) (h : kq_m μ0 (0, p) μ) : ∃ μ2, fn_X9_named (kq_see b p) (nI pl) fst μ = some μ2 ∧ (¬ b p = 114 → kq_rm μ0 n pl (kq_st b fb p) μ2) ∧ (b p = 114 → kq_m μ0 (1, p) μ2) := by
  have htl := ht.1
  have hpos := h.2.2.2.1 rfl
  have bs : ∀ o : Option kb_S, (o.bind fun q => some q) = o := fun o => by cases o <;> rfl
  have e : ∀ q c, c < 256 → (kq_see b q = nI c ↔ b q = c) := fun q c hc => kq_see_eq hc
  have hmain : fn_X9_named (kq_see b p) (nI pl) fst μ = if b p = 107 ∨ b p = 112 ∨ b p = 115 ∨ b p = 121 ∨ b p = 98 ∨ b p = 99 then fp_X9_named_42 (kq_see b p) (nI pl) fst μ else fn_X9_wrong 1 μ := by
    unfold fn_X9_named
    rw [show (107 : Int32) = nI 107 from rfl, show (112 : Int32) = nI 112 from rfl, show (115 : Int32) = nI 115 from rfl, show (121 : Int32) = nI 121 from rfl, show (98 : Int32) = nI 98 from rfl, show (99 : Int32) = nI 99 from rfl]
    simp only [e _ 107 (by decide), e _ 112 (by decide), e _ 115 (by decide), e _ 121 (by decide), e _ 98 (by decide), e _ 99 (by decide), bs]
    by_cases h1 : b p = 107
    · rw [if_pos h1, if_pos (Or.inl h1)]
    · by_cases h2 : b p = 112
      · rw [if_neg h1, if_pos h2, if_pos (Or.inr (Or.inl h2))]
      · by_cases h3 : b p = 115
        · rw [if_neg h1, if_neg h2, if_pos h3, if_pos (Or.inr (Or.inr (Or.inl h3)))]
        · by_cases h4 : b p = 121
          · rw [if_neg h1, if_neg h2, if_neg h3, if_pos h4, if_pos (by omega)]
          · by_cases h5 : b p = 98
            · rw [if_neg h1, if_neg h2, if_neg h3, if_neg h4, if_pos h5, if_pos (by omega)]
            · by_cases h6 : b p = 99
              · rw [if_neg h1, if_neg h2, if_neg h3, if_neg h4, if_neg h5, if_pos h6, if_pos (by omega)]
              · rw [if_neg h1, if_neg h2, if_neg h3, if_neg h4, if_neg h5, if_neg h6, if_neg (by omega)]
  rw [hmain]
  by_cases hl : b p = 107 ∨ b p = 112 ∨ b p = 115 ∨ b p = 121 ∨ b p = 98 ∨ b p = 99
  · rw [if_pos hl]
    have h114 : ¬ b p = 114 := by omega
    have hpt := kq_inm ht (p := p) (by omega)
    have g1 : kq_m μ0 (0, p + 1) (kb_p μ 5 (kb_g μ 5 + 1)) := by rw [hpos, vt_1, nI_add]; exact h.go rfl (show p + 1 ≤ 200 by omega)
    have suff : (∃ μ2, fp_X9_named_42 (kq_see b p) (nI pl) fst μ = some μ2 ∧ kq_rm μ0 n pl (kq_st b fb p) μ2) → ∃ μ2, fp_X9_named_42 (kq_see b p) (nI pl) fst μ = some μ2 ∧ (¬ b p = 114 → kq_rm μ0 n pl (kq_st b fb p) μ2) ∧ (b p = 114 → kq_m μ0 (1, p) μ2) := by
      rintro ⟨μ2, r1, r2⟩; exact ⟨μ2, r1, fun _ => r2, fun h5 => absurd h5 h114⟩
    apply suff
    unfold fp_X9_named_42
    rw [kq_seem ht g1, Option.bind_some]
    rw [show (112 : Int32) = nI 112 from rfl, show (121 : Int32) = nI 121 from rfl, show (98 : Int32) = nI 98 from rfl, show (115 : Int32) = nI 115 from rfl, show (107 : Int32) = nI 107 from rfl, show (108 : Int32) = nI 108 from rfl, show (97 : Int32) = nI 97 from rfl]
    simp only [e _ 112 (by decide), e _ 121 (by decide), e _ 98 (by decide), e _ 115 (by decide), e _ 107 (by decide), e _ 108 (by decide), e _ 97 (by decide), bs]
    unfold kq_st
    by_cases h112 : b p = 112
    · rw [if_pos h112, if_neg (show ¬ b p = 107 by omega), if_pos h112]
      unfold kq_nm; rw [kq_w_hd h112]
      exact kq_plain ht hn hn2 (s := 1) g1
    rw [if_neg h112]
    by_cases h121 : b p = 121
    · rw [if_pos h121, if_neg (show ¬ b p = 107 by omega), if_neg h112, if_neg (show ¬ b p = 115 by omega), if_pos h121]
      unfold kq_nm; rw [kq_w_hd h121]
      obtain ⟨μ1, r1, r2⟩ := kq_need (c := 111) ht (by decide) g1
      rw [show (111 : Int32) = nI 111 from rfl, r1, Option.bind_some]
      exact kq_plain ht hn hn2 (s := 7) r2
    rw [if_neg h121]
    by_cases h98 : b p = 98
    · rw [if_pos h98, if_neg (show ¬ b p = 107 by omega), if_neg h112, if_neg (show ¬ b p = 115 by omega), if_neg h121, if_pos h98]
      unfold kq_nm; rw [kq_w_hd h98]
      obtain ⟨μ1, r1, r2⟩ := kq_need (c := 105) ht (by decide) g1
      rw [show (105 : Int32) = nI 105 from rfl, r1, Option.bind_some]
      obtain ⟨μ2, s1, s2⟩ := kq_need (c := 110) ht (by decide) r2
      rw [show (110 : Int32) = nI 110 from rfl, s1, Option.bind_some]
      obtain ⟨μ3, t1, t2⟩ := kq_need (c := 100) ht (by decide) s2
      rw [show (100 : Int32) = nI 100 from rfl, t1, Option.bind_some]
      rw [show kq_w b [105, 110, 100] (0, p + 1) = kq_w b [100] (kq_w b [110] (kq_w b [105] (0, p + 1))) from rfl]
      exact kq_plain ht hn hn2 (s := 8) t2
    rw [if_neg h98]
    by_cases h115 : b p = 115
    · rw [if_pos h115, if_neg (show ¬ b p = 107 by omega), if_neg h112, if_pos h115]
      by_cases h5 : b (p + 1) = 115
      · rw [if_pos h5, if_pos h5]
        have hpt2 := kq_inm ht (p := p + 1) (by omega)
        have g2 : kq_m μ0 (0, p + 2) (kb_p (kb_p μ 5 (kb_g μ 5 + 1)) 5 (kb_g μ 5 + 1 + 1)) := by rw [hpos, vt_1, nI_add, nI_add]; rw [hpos, vt_1, nI_add] at g1; exact g1.go rfl (show p + 2 ≤ 200 by omega)
        obtain ⟨μ1, r1, r2⟩ := kq_need (c := 107) ht (by decide) g2
        rw [r1, Option.bind_some]
        unfold kq_sg; rw [kq_w_hd h115, kq_w_hd h5]
        exact kq_addm (K := 4) (N := 1) (v := 1) hn hn2 r2 (fun _ => rfl)
      · rw [if_neg h5, if_neg h5]
        unfold kq_nm; rw [kq_w_hd h115]
        by_cases h8 : b (p + 1) = 108
        · rw [if_pos h8, kq_w_hd h8]
          have hpt2 := kq_inm ht (p := p + 1) (by omega)
          have g2 : kq_m μ0 (0, p + 2) (kb_p (kb_p μ 5 (kb_g μ 5 + 1)) 5 (kb_g μ 5 + 1 + 1)) := by rw [hpos, vt_1, nI_add, nI_add]; rw [hpos, vt_1, nI_add] at g1; exact g1.go rfl (show p + 2 ≤ 200 by omega)
          exact kq_plain ht hn hn2 (s := 2) g2
        · rw [if_neg h8]
          have g3 : kq_m μ0 (0, p + 1) (kb_p (kb_p (kb_p μ 5 (kb_g μ 5 + 1)) 5 (kb_g μ 5 + 1 + 1)) 5 (kb_g μ 5 + 1 + 1 - 1)) := by
            rw [hpos, vt_1, nI_add, nI_add, pk_sub (by omega)]
            rw [hpos, vt_1, nI_add] at g1
            refine ⟨fun j a1 a2 a3 => ?_, g1.2.1, ?_, fun _ => rfl, fun h5 => absurd rfl h5, by simp, g1.2.2.2.2.2.2.1, p + 1, by omega, rfl⟩
            · simp only [vt_gp, if_neg a1]; exact h.1 j a1 a2 a3
            · simp only [vt_gp, Nat.reduceEqDiff, if_false]; exact h.2.2.1
          obtain ⟨μf, f1, f2⟩ := kq_wrong (k := 1) ⟨by omega, by omega⟩ g3
          rw [if_pos rfl] at f2
          rw [show (1 : Int32) = nI 1 from rfl] at *
          refine ⟨μf, f1, ?_⟩
          have ew : kq_w b [108] (0, p + 1) = (1, p + 1) := by rw [kq_w, if_pos rfl, if_neg h8, kq_w]
          rw [ew]; unfold kq_pl
          rw [if_neg (by simp)]
          exact ⟨fun h5 => absurd h5 (by simp), fun _ => f2⟩
    rw [if_neg h115]
    by_cases h107 : b p = 107
    · rw [if_pos h107, if_pos h107]
      unfold fn_X9_knit fp_X9_knit_39 fp_X9_knit_72 fp_X9_knit_73 fp_X9_knit_119
      rw [show (102 : Int32) = nI 102 from rfl, show (50 : Int32) = nI 50 from rfl, show (51 : Int32) = nI 51 from rfl]
      simp only [e _ 102 (by decide), e _ 50 (by decide), e _ 51 (by decide), bs]
      by_cases h102 : b (p + 1) = 102
      · rw [if_pos h102, if_pos h102]
        obtain ⟨μ1, r1, r2⟩ := kq_need (c := 102) ht (by decide) g1
        rw [r1, Option.bind_some]
        obtain ⟨μ2, s1, s2⟩ := kq_need (c := 98) ht (by decide) r2
        rw [show (98 : Int32) = nI 98 from rfl, s1, Option.bind_some]
        unfold kq_sg; rw [kq_w_hd h107]
        rw [show kq_w b [102, 98] (0, p + 1) = kq_w b [98] (kq_w b [102] (0, p + 1)) from rfl]
        exact kq_addm (K := 6) (N := 1) (v := 1) hn hn2 s2 (fun _ => rfl)
      rw [if_neg h102, if_neg h102]
      have pl0 : ∃ μ2, fn_X9_plain 0 (nI pl) (kb_p μ 5 (kb_g μ 5 + 1)) = some μ2 ∧ kq_rm μ0 n pl (kq_nm b [107] 0 p) μ2 := by
        unfold kq_nm; rw [kq_w_hd h107]
        exact kq_plain ht hn hn2 (s := 0) g1
      have e5 : kb_g (kb_p μ 5 (kb_g μ 5 + 1)) 5 + 1 = nI (p + 2) := by rw [g1.2.2.2.1 rfl, vt_1, nI_add]
      have tm := g1.tm ht
      have hq1 : ((1 : Int32) = 0) = False := eq_false (by decide)
      rw [e5, tm.2.1]
      by_cases h23 : b (p + 1) = 50 ∨ b (p + 1) = 51
      · by_cases h116 : b (p + 2) = 116
        · have hpt2 := kq_inm ht (p := p + 2) (by omega)
          have hpt3 := kq_inm ht (p := p + 1) (by omega)
          obtain ⟨t1, t2⟩ := tm.2.2.1 (p + 2) hpt2
          have c1 : ¬ nI tl ≤ nI (p + 2) := by rw [vt_leI (by omega) (by omega)]; omega
          have c2 : kb_in (nI (p + 2)) 200 = true := vt_in' (by omega) (by omega)
          have c3 : kb_a (kb_p μ 5 (kb_g μ 5 + 1)) 0 (nI (p + 2)).toNatClampNeg = 116 := by rw [nI_clamp (by omega), t2, h116]; rfl
          simp only [if_neg c1, if_pos c2, if_pos c3, hq1, if_false]
          have g4 : kq_m μ0 (0, p + 3) (kb_p (kb_p μ 5 (kb_g μ 5 + 1)) 5 (kb_g (kb_p μ 5 (kb_g μ 5 + 1)) 5 + 2)) := by
            rw [g1.2.2.2.1 rfl, vt_2, nI_add]; exact g1.go rfl (show p + 3 ≤ 200 by omega)
          obtain ⟨μ1, r1, r2⟩ := kq_need (c := 111) ht (by decide) g4
          obtain ⟨μ2, s1, s2⟩ := kq_need (c := 103) ht (by decide) r2
          rw [show (111 : Int32) = nI 111 from rfl, show (103 : Int32) = nI 103 from rfl, r1, Option.bind_some, s1, Option.bind_some]
          rcases h23 with h50 | h51
          · rw [if_pos h50, if_pos h50, if_pos ⟨h50, h116⟩]
            unfold kq_sg; rw [kq_w_hd h107, kq_w_hd h50, kq_w_hd h116]
            rw [show kq_w b [111, 103] (0, p + 1 + 1 + 1) = kq_w b [103] (kq_w b [111] (0, p + 3)) from rfl]
            exact kq_addm (K := 3) (N := 1) (v := 1) hn hn2 s2 (fun _ => rfl)
          · have h50 : ¬ b (p + 1) = 50 := by omega
            rw [if_neg h50, if_pos h51, if_neg h50, if_neg (fun h5 => h50 h5.1), if_pos ⟨h51, h116⟩]
            unfold kq_sg; rw [kq_w_hd h107, kq_w_hd h51, kq_w_hd h116]
            rw [show kq_w b [111, 103] (0, p + 1 + 1 + 1) = kq_w b [103] (kq_w b [111] (0, p + 3)) from rfl]
            exact kq_addm (K := 5) (N := 1) (v := 1) hn hn2 s2 (fun _ => rfl)
        · rw [if_neg (show ¬ (b (p + 1) = 50 ∧ b (p + 2) = 116) from fun h5 => h116 h5.2), if_neg (show ¬ (b (p + 1) = 51 ∧ b (p + 2) = 116) from fun h5 => h116 h5.2)]
          by_cases hp2 : p + 2 < tl
          · obtain ⟨t1, t2⟩ := tm.2.2.1 (p + 2) hp2
            have c1 : ¬ nI tl ≤ nI (p + 2) := by rw [vt_leI (by omega) (by omega)]; omega
            have c2 : kb_in (nI (p + 2)) 200 = true := vt_in' (by omega) (by omega)
            have c3 : ¬ kb_a (kb_p μ 5 (kb_g μ 5 + 1)) 0 (nI (p + 2)).toNatClampNeg = 116 := by
              rw [nI_clamp (by omega), t2, show (116 : Int32) = nI 116 from rfl, vt_eqI (by omega) (by omega)]; exact h116
            simp only [if_neg c1, if_pos c2, if_neg c3, if_true, ite_self]
            exact pl0
          · have c1 : nI tl ≤ nI (p + 2) := by rw [vt_leI (by omega) (by omega)]; omega
            simp only [if_pos c1, if_true, ite_self]
            exact pl0
      · have h50 : ¬ b (p + 1) = 50 := fun h5 => h23 (Or.inl h5)
        have h51 : ¬ b (p + 1) = 51 := fun h5 => h23 (Or.inr h5)
        rw [if_neg h50, if_neg h51, if_neg (show ¬ (b (p + 1) = 50 ∧ b (p + 2) = 116) from fun h5 => h50 h5.1), if_neg (show ¬ (b (p + 1) = 51 ∧ b (p + 2) = 116) from fun h5 => h51 h5.1)]
        simp only [if_true]
        exact pl0
    have h99 : b p = 99 := by omega
    rw [if_neg h107, if_neg h107, if_neg h112, if_neg h115, if_neg h121, if_neg h98, if_pos h99]
    have cabl : ∃ μ2, fp_X9_named_277 (nI pl) (kb_p μ 5 (kb_g μ 5 + 1)) = some μ2 ∧ kq_rm μ0 n pl (kq_cb b p) μ2 := by
      unfold fp_X9_named_277 kq_cb
      simp only [bs]
      rw [kq_w_hd h99]
      exact kq_cablem ht hn hn2 g1
    by_cases h97 : b (p + 1) = 97
    · rw [if_pos h97]
      by_cases hfb : fb = false
      · rw [if_pos (hf.mpr hfb), if_neg (fun h5 => by rw [hfb] at h5; exact absurd h5.1 (by decide))]
        exact cabl
      · rw [if_neg (fun h5 => hfb (hf.mp h5)), if_pos ⟨by simpa using hfb, h97⟩]
        obtain ⟨μ1, r1, r2⟩ := kq_need (c := 97) ht (by decide) g1
        rw [r1, Option.bind_some]
        obtain ⟨μ2, s1, s2⟩ := kq_need (c := 115) ht (by decide) r2
        rw [s1, Option.bind_some]
        obtain ⟨μ3, t1, t2⟩ := kq_need (c := 116) ht (by decide) s2
        rw [show (116 : Int32) = nI 116 from rfl, t1, Option.bind_some]
        unfold kq_ct; rw [kq_w_hd h99]
        rw [show kq_w b [97, 115, 116] (0, p + 1) = kq_w b [116] (kq_w b [115] (kq_w b [97] (0, p + 1))) from rfl]
        generalize kq_w b [116] (kq_w b [115] (kq_w b [97] (0, p + 1))) = q at t2
        obtain ⟨f, q⟩ := q
        unfold fp_X9_named_267
        simp only [bs]
        by_cases h0 : f = 0
        · subst h0
          rw [if_pos (t2.f0.mpr rfl), show (1 : Int32) = nI 1 from rfl, kq_digit9 ht (by omega) t2, Option.bind_some]
          by_cases hd : 48 + 1 ≤ b q ∧ b q ≤ 57
          · rw [if_neg (by rw [if_pos hd]; decide)]
            obtain ⟨μ4, w1, w2⟩ := kq_plain (pl := pl) ht hn hn2 (s := 9) t2
            refine ⟨μ4, w1, ?_⟩
            unfold kq_pl at w2
            unfold kq_cn
            rw [if_pos rfl, if_pos (kq_isd_iff.mpr (by show 48 ≤ b q ∧ b q ≤ 57; omega))] at w2
            rw [if_pos rfl]
            exact w2
          · rw [if_pos (by rw [if_neg hd])]
            have hbad : ¬ (kq_isd b q = true ∧ ¬ (b q = 48 ∧ 0 < 1)) := by rw [kq_isd_iff]; omega
            obtain ⟨μf, f1, f2⟩ := kq_wrong (k := 1) ⟨by omega, by omega⟩ t2
            rw [if_pos rfl] at f2
            rw [f1, Option.bind_some]
            obtain ⟨μ4, w1, w2⟩ := kq_plain (pl := pl) ht hn hn2 (s := 9) f2
            refine ⟨μ4, w1, ?_⟩
            unfold kq_pl at w2
            unfold kq_cn
            rw [if_neg (by simp)] at w2
            rw [if_pos rfl]
            simp only
            rw [kq_n_bad hbad]
            exact ⟨fun h5 => absurd h5 (by simp), fun _ => w2.2 (by simp)⟩
        · rw [if_neg (fun h5 => h0 (t2.f0.mp h5))]
          obtain ⟨μ4, w1, w2⟩ := kq_plain (pl := pl) ht hn hn2 (s := 9) t2
          refine ⟨μ4, w1, ?_⟩
          unfold kq_pl at w2
          unfold kq_cn
          rw [if_neg h0] at w2
          rw [if_neg h0]
          exact w2
    · rw [if_neg h97, if_neg (fun h5 => h97 h5.2)]
      exact cabl
  · rw [if_neg hl, show (1 : Int32) = nI 1 from rfl]
    obtain ⟨μf, f1, f2⟩ := kq_wrong (k := 1) ⟨by omega, by omega⟩ h
    rw [if_pos rfl] at f2
    refine ⟨μf, f1, fun _ => ?_, fun _ => f2⟩
    unfold kq_st
    rw [if_neg (by omega), if_neg (by omega), if_neg (by omega), if_neg (by omega), if_neg (by omega), if_neg (by omega)]
    exact ⟨fun h5 => absurd h5 (by simp), fun _ => f2⟩
end KQM
