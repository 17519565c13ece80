/-- a bracket is put to the plan: k 1 of a group, 2 of a repeat -/
def kq_oc (σ0 : kb_S) (p n k pl d : Nat) (σ : kb_S) : Prop :=
  kb_g σ 10 = nI p ∧ kb_g σ 11 = 0 ∧ kb_g σ 9 = nI (d + 1) ∧ kb_g σ 16 = nI (n + 1) ∧ (∀ j, j ≠ 10 → j ≠ 11 → j ≠ 9 → j ≠ 16 → kb_g σ j = kb_g σ0 j) ∧
  (∀ j x, kb_a σ j x = if j = 8 ∧ x = n then nI pl else if j = 9 ∧ x = n then 0 else if j = 10 ∧ x = n then 0 else if j = 7 ∧ x = n then nI k else if j = 6 ∧ x = d + 1 then nI n else kb_a σ0 j x) ∧
  (∀ j x, kb_b σ j x = if j = 2 ∧ x = n then 0 else if j = 0 ∧ x = d + 1 then 0 else kb_b σ0 j x)
/-- reading a bracket: (fault, place, 1 or 2) -/
def kq_op (b : Nat → Nat) (d p : Nat) : Nat × Nat × Nat :=
  if b p = 40 then (if d < 4 then (0, p + 1, 1) else (2, p, 1))
  else if d = 0 then
    (let q := kq_bl b (kq_w b [114, 101, 112] (0, p))
     if q.1 = 0 then (if b q.2 = 40 then (0, q.2 + 1, 2) else (1, q.2, 2)) else (q.1, q.2, 2))
  else (1, p, 2)
def kq_roc (σ0 : kb_S) (n d pl : Nat) (r : Nat × Nat × Nat) (σ : kb_S) : Prop := (r.1 = 0 → kq_oc σ0 r.2.1 n r.2.2 pl d σ) ∧ (r.1 ≠ 0 → kq_c σ0 (r.1, r.2.1) σ)
section KQC2
variable {tl : Nat} {b : Nat → Nat} {σ0 : kb_S} {n d pl : Nat}
theorem kq_openc (hn : kb_g σ0 16 = nI n) (hn2 : n < 200) (hd : kb_g σ0 9 = nI d) (hd2 : d ≤ 4) {k : Nat} {s : Nat × Nat} {σ : kb_S} (hs : s.1 = 0 → s.2 + 1 ≤ 200) (h : kq_c σ0 s σ) : ∃ σ2, fn_X4_openBracket (nI k) (nI pl) σ = some σ2 ∧ kq_roc σ0 n d pl (if s.1 = 0 then (if d < 4 then (0, s.2 + 1, k) else (2, s.2, k)) else (s.1, s.2, k)) σ2 := by
  have e16 : kb_g σ 16 = nI n := by rw [h.1 16 (by decide) (by decide)]; exact hn
  have e9 : kb_g σ 9 = nI d := by rw [h.1 9 (by decide) (by decide)]; exact hd
  have w13 : ∀ {s : Nat × Nat} {σ : kb_S}, s.1 ≠ 0 → kq_c σ0 s σ → fp_X4_openBracket_13 (nI k) (nI pl) σ = some σ := by
    intro s σ h0 h
    unfold fp_X4_openBracket_13
    rw [kq_right h, if_neg h0, if_pos rfl]
  unfold fn_X4_openBracket
  rw [e9]
  by_cases h0 : s.1 = 0
  · rw [if_pos h0]
    by_cases hd4 : d < 4
    · rw [if_pos (show nI d < 4 by rw [vt_4, vt_ltI (by omega) (by omega)]; exact hd4), if_pos hd4]
      unfold fp_X4_openBracket_13
      have i1 : kb_in (nI n) 200 = true := vt_in' (by omega) (by omega)
      have i2 : kb_in (nI (d + 1)) 5 = true := vt_in' (by omega) (by omega)
      rw [kq_right h, if_pos h0, if_neg (show ¬ (1 : Int32) = 0 by decide), e9, vt_1, nI_add, if_pos i2, if_pos i2, h.2.2.2.2.1 h0, nI_add]
      unfold fn_X3_addOpen fn_X3_add fn_X3_size
      simp only [vt_gp, vt_ga, vt_gb, Nat.reduceEqDiff, if_false, e16]
      rw [if_neg (by rw [vt_200, vt_leI (by omega) (by omega)]; omega)]
      simp only [if_pos i1, Option.bind_some]
      rw [nI_clamp (by omega), nI_clamp (by omega), vt_1, nI_add]
      refine ⟨_, rfl, fun _ => ⟨rfl, ?_, rfl, rfl, fun j a1 a2 a3 a4 => ?_, fun j x => ?_, fun j x => ?_⟩, fun h5 => absurd rfl h5⟩
      · simp only [vt_gp, vt_ga, vt_gb, Nat.reduceEqDiff, if_false]; rw [h.2.2.2.1]; exact (kq_code0 h.2.2.2.2.2.1 h.2.2.2.2.2.2.1).mpr h0
      · simp only [vt_gp, vt_ga, vt_gb, if_neg a1, if_neg a3, if_neg a4]; exact h.1 j a1 a2
      · simp only [vt_ap, vt_ab, vt_aax, h.2.1]
      · simp only [vt_bp, vt_ba, vt_bbx, h.2.2.1]
    · rw [if_neg (show ¬ nI d < 4 by rw [vt_4, vt_ltI (by omega) (by omega)]; exact hd4), if_neg hd4]
      obtain ⟨σ2, r1, r2⟩ := kq_fail (k := 2) ⟨by omega, by omega⟩ h
      rw [if_pos h0] at r2
      rw [show (2 : Int32) = nI 2 from rfl, r1, Option.bind_some, w13 (s := (2, s.2)) (by simp) r2]
      exact ⟨σ2, rfl, fun h5 => absurd h5 (by simp), fun _ => r2⟩
  · rw [if_neg h0]
    obtain ⟨σ2, r1, r2⟩ := kq_fail (k := 2) ⟨by omega, by omega⟩ h
    rw [if_neg h0] at r2
    rw [show (2 : Int32) = nI 2 from rfl, r1, Option.bind_some, w13 h0 r2, w13 h0 h]
    by_cases hd4 : nI d < 4
    · exact ⟨σ, by rw [if_pos hd4], fun h5 => absurd h5 h0, fun _ => h⟩
    · exact ⟨σ2, by rw [if_neg hd4], fun h5 => absurd h5 h0, fun _ => r2⟩
theorem kq_w_le {b : Nat → Nat} (ht : kq_tc tl b σ0) : ∀ (cs : List Nat) (hc : ∀ c ∈ cs, c < 256) (s : Nat × Nat), s.2 ≤ tl → (kq_w b cs s).2 ≤ tl
  | [], _, s, h => h
  | c :: cs, hc, s, h => by
      rw [kq_w]
      refine kq_w_le ht cs (fun x hx => hc x (List.mem_cons_of_mem _ hx)) _ ?_
      by_cases h0 : s.1 = 0
      · rw [if_pos h0]
        by_cases hb : b s.2 = c
        · rw [if_pos hb]
          have := kq_inb ht (p := s.2) (by rw [hb]; exact hc c (List.mem_cons_self ..))
          show s.2 + 1 ≤ tl
          omega
        · rw [if_neg hb]; exact h
      · rw [if_neg h0]; exact h
theorem kq_b_le {b : Nat → Nat} (ht : kq_tc tl b σ0) : ∀ (m p : Nat), p ≤ tl → kq_b b m p ≤ tl ∧ p ≤ kq_b b m p
  | 0, p, h => ⟨h, Nat.le_refl _⟩
  | m + 1, p, h => by
      rw [kq_b]
      by_cases hb : b p = 32
      · rw [if_pos hb]
        have h1 := kq_inb ht (p := p) (by omega)
        have h2 := kq_b_le ht m (p + 1) (by omega)
        omega
      · rw [if_neg hb]; omega
theorem kq_repc (ht : kq_tc tl b σ0) (hn : kb_g σ0 16 = nI n) (hn2 : n < 200) (hd : kb_g σ0 9 = nI d) (hd2 : d ≤ 4) {p : Nat} {σ : kb_S} (hb : ¬ b p = 40) (hp : p ≤ tl) (h : kq_c σ0 (0, p) σ) : ∃ σ2, fn_X4_readRepeat (nI pl) σ = some σ2 ∧ kq_roc σ0 n d pl (kq_op b d p) σ2 := by
  have htl := ht.1
  have e9 : kb_g σ 9 = nI d := by rw [h.1 9 (by decide) (by decide)]; exact hd
  unfold fn_X4_readRepeat kq_op
  rw [e9, if_neg hb]
  by_cases h0 : d = 0
  · rw [if_pos (show nI d ≤ 0 by rw [h0]; decide), if_pos h0]
    obtain ⟨σ1, r1, r2⟩ := kq_word (cs := [114, 101, 112]) ht (w := 14) (by decide) (by decide) (by decide) h
    obtain ⟨σ2, s1, s2⟩ := kq_skip ht r2
    obtain ⟨v, hv⟩ := kq_next' ht s2
    have hq : (kq_bl b (kq_w b [114, 101, 112] (0, p))).2 ≤ tl := by
      have h1 := kq_w_le ht [114, 101, 112] (by decide) (0, p) hp
      unfold kq_bl
      split
      · exact (kq_b_le ht 201 _ h1).1
      · exact h1
    rw [r1, Option.bind_some, s1, Option.bind_some, hv, Option.bind_some]
    generalize kq_bl b (kq_w b [114, 101, 112] (0, p)) = q at s2 hq
    obtain ⟨f, q⟩ := q
    simp only at hq
    simp only
    by_cases hf : f = 0
    · subst hf
      rw [kq_next ht s2] at hv
      have hv6 : v = kq_see b q := (Option.some.inj hv).symm
      rw [if_pos rfl]
      by_cases hb4 : b q = 40
      · have hqt := kq_inb ht (p := q) (by omega)
        rw [if_pos (show v = 40 by rw [hv6]; exact (kq_see_eq (c := 40) (by omega)).mpr hb4), if_pos hb4]
        obtain ⟨σ3, u1, u2⟩ := kq_openc (pl := pl) (k := 2) hn hn2 hd hd2 (fun _ => by show q + 1 ≤ 200; omega) s2
        rw [if_pos rfl, if_pos (by omega)] at u2
        rw [show (2 : Int32) = nI 2 from rfl, u1]
        exact ⟨σ3, rfl, u2⟩
      · rw [if_neg (show ¬ v = 40 by rw [hv6]; exact fun h5 => hb4 ((kq_see_eq (c := 40) (by omega)).mp h5)), if_neg hb4]
        obtain ⟨σ3, u1, u2⟩ := kq_fail (k := 1) ⟨by omega, by omega⟩ s2
        rw [if_pos rfl] at u2
        rw [show (1 : Int32) = nI 1 from rfl, u1]
        exact ⟨σ3, rfl, fun h5 => absurd h5 (by simp), fun _ => u2⟩
    · rw [if_neg hf]
      by_cases hv4 : v = 40
      · rw [if_pos hv4]
        obtain ⟨σ3, u1, u2⟩ := kq_openc (pl := pl) (k := 2) hn hn2 hd hd2 (fun h5 => absurd h5 hf) s2
        rw [if_neg hf] at u2
        rw [show (2 : Int32) = nI 2 from rfl, u1]
        exact ⟨σ3, rfl, u2⟩
      · rw [if_neg hv4]
        obtain ⟨σ3, u1, u2⟩ := kq_fail (k := 1) ⟨by omega, by omega⟩ s2
        rw [if_neg hf] at u2
        rw [show (1 : Int32) = nI 1 from rfl, u1]
        exact ⟨σ3, rfl, fun h5 => absurd h5 hf, fun _ => u2⟩
  · rw [if_neg (show ¬ nI d ≤ 0 by rw [vt_0, vt_leI (by omega) (by omega)]; omega), if_neg h0]
    obtain ⟨σ3, u1, u2⟩ := kq_fail (k := 1) ⟨by omega, by omega⟩ h
    rw [if_pos rfl] at u2
    rw [show (1 : Int32) = nI 1 from rfl, u1]
    exact ⟨σ3, rfl, fun h5 => absurd h5 (by simp), fun _ => u2⟩
theorem kq_itemc (ht : kq_tc tl b σ0) (hn : kb_g σ0 16 = nI n) (hn2 : n < 200) (hd : kb_g σ0 9 = nI d) (hd2 : d ≤ 4) {p : Nat} {σ : kb_S} (hp : p ≤ tl) (h : kq_c σ0 (0, p) σ) :
    (b p = 40 ∨ b p = 114 → ∃ σ2, fn_X4_readItem σ = some σ2 ∧ kq_roc σ0 n d p (kq_op b d p) σ2) ∧ (¬ (b p = 40 ∨ b p = 114) → ∃ σ2, fn_X4_readItem σ = some σ2 ∧ kq_rc σ0 n d p (kq_st b (decide (n = 0)) p) σ2) := by
  have htl := ht.1
  have hpos := h.2.2.2.2.1 rfl
  have htσ := h.tc ht
  have hmain : fn_X4_readItem σ = if b p = 40 then fn_X4_openBracket (nI 1) (nI p) σ else if b p = 98 then fn_X4_readNamed 8 (nI 8) (nI p) σ else if b p = 99 then fn_X4_readCastOrCable (nI p) σ else if b p = 107 then fn_X4_readKnit (nI p) σ else if b p = 112 then fn_X4_readNamed 4 (nI 1) (nI p) σ else if b p = 114 then fn_X4_readRepeat (nI p) σ else if b p = 115 then fn_X4_readSlipOrSsk (nI p) σ else if b p = 121 then fn_X4_readNamed 7 (nI 7) (nI p) σ else fn_X4_fail (nI 1) σ := by
    have e : ∀ c, c < 256 → (kq_see b p = nI c ↔ b p = c) := fun c hc => kq_see_eq hc
    unfold fn_X4_readItem
    rw [kq_next ht h, Option.bind_some, hpos]
    have bs : ∀ o : Option kb_S, (o.bind fun q => some q) = o := fun o => by cases o <;> rfl
    simp only [bs]
    rw [show (40 : Int32) = nI 40 from rfl, show (98 : Int32) = nI 98 from rfl, show (99 : Int32) = nI 99 from rfl, show (107 : Int32) = nI 107 from rfl, show (112 : Int32) = nI 112 from rfl, show (114 : Int32) = nI 114 from rfl, show (115 : Int32) = nI 115 from rfl, show (121 : Int32) = nI 121 from rfl]
    simp only [e 40 (by decide), e 98 (by decide), e 99 (by decide), e 107 (by decide), e 112 (by decide), e 114 (by decide), e 115 (by decide), e 121 (by decide)]
    rfl
  have b1 : fn_X7_byteAt (kb_g σ 10 + 1) σ = some (kq_see b (p + 1)) := by rw [hpos, vt_1, nI_add]; exact kq_byte htσ (by show p + 1 ≤ 1000; omega)
  have b2 : fn_X7_byteAt (kb_g σ 10 + 2) σ = some (kq_see b (p + 2)) := by rw [hpos, vt_2, nI_add]; exact kq_byte htσ (by show p + 2 ≤ 1000; omega)
  have bs : ∀ o : Option kb_S, (o.bind fun q => some q) = o := fun o => by cases o <;> rfl
  constructor
  · intro hb
    rw [hmain]
    by_cases h40 : b p = 40
    · rw [if_pos h40]
      have hpt := kq_inb ht (p := p) (by omega)
      obtain ⟨σ3, u1, u2⟩ := kq_openc (pl := p) (k := 1) hn hn2 hd hd2 (fun _ => by show p + 1 ≤ 200; omega) h
      rw [if_pos rfl] at u2
      refine ⟨σ3, u1, ?_⟩
      unfold kq_op; rw [if_pos h40]; exact u2
    · have h114 : b p = 114 := hb.resolve_left h40
      rw [if_neg h40, if_neg (by omega), if_neg (by omega), if_neg (by omega), if_neg (by omega), if_pos h114]
      exact kq_repc ht hn hn2 hd hd2 h40 hp h
  · intro hb
    have h40 : ¬ b p = 40 := fun h5 => hb (Or.inl h5)
    have h114 : ¬ b p = 114 := fun h5 => hb (Or.inr h5)
    rw [hmain, if_neg h40, if_neg h114]
    unfold kq_st
    by_cases h98 : b p = 98
    · rw [if_pos h98, if_neg (by omega), if_neg (by omega), if_neg (by omega), if_neg (by omega), if_pos h98]
      exact kq_named ht hn hn2 hd hd2 (by decide) (by decide) (by decide) (by decide) h
    rw [if_neg h98]
    by_cases h99 : b p = 99
    · rw [if_pos h99, if_neg (show ¬ b p = 107 by omega), if_neg (show ¬ b p = 112 by omega), if_neg (show ¬ b p = 115 by omega), if_neg (show ¬ b p = 121 by omega), if_neg h98, if_pos h99]
      unfold fn_X4_readCastOrCable fp_X4_readCastOrCable_15 fp_X4_readCastOrCable_59 fn_X3_size
      have e16 : kb_g σ 16 = nI n := by rw [h.1 16 (by decide) (by decide)]; exact hn
      rw [e16, b1, Option.bind_some, if_pos (show (0 : Int32) = 0 from rfl), if_neg (show ¬ (1 : Int32) = 0 by decide)]
      simp only [bs]
      by_cases hn0 : n = 0
      · rw [if_pos (show nI n = 0 by rw [hn0]; rfl)]
        by_cases h97 : b (p + 1) = 97
        · rw [if_pos (show kq_see b (p + 1) = 97 from (kq_see_eq (c := 97) (by omega)).mpr h97), if_pos ⟨by simp [hn0], h97⟩]
          have := kq_castc (pl := p) ht hn hn2 hd hd2 h
          simp only [bs] at this
          exact this
        · rw [if_neg (show ¬ kq_see b (p + 1) = 97 from fun h5 => h97 ((kq_see_eq (c := 97) (by omega)).mp h5)), if_neg (fun h5 => h97 h5.2)]
          exact kq_cablec ht hn hn2 hd hd2 h
      · rw [if_neg (show ¬ nI n = 0 by rw [vt_0, vt_eqI (by omega) (by omega)]; exact hn0), if_neg (fun h5 => hn0 (by simpa using h5.1))]
        exact kq_cablec ht hn hn2 hd hd2 h
    rw [if_neg h99]
    by_cases h107 : b p = 107
    · rw [if_pos h107, if_pos h107]
      unfold fn_X4_readKnit fp_X4_readKnit_37 fp_X4_readKnit_77 fp_X4_readKnit_98
      rw [b1, Option.bind_some, b2, Option.bind_some]
      simp only [bs]
      have e : ∀ q c, c < 256 → (kq_see b q = nI c ↔ b q = c) := fun q c hc => kq_see_eq hc
      rw [show (116 : Int32) = nI 116 from rfl, show (102 : Int32) = nI 102 from rfl, show (50 : Int32) = nI 50 from rfl, show (51 : Int32) = nI 51 from rfl]
      simp only [e _ 116 (by decide), e _ 102 (by decide), e _ 50 (by decide), e _ 51 (by decide)]
      by_cases h102 : b (p + 1) = 102
      · rw [if_pos h102, if_pos h102, if_pos h102, ite_self]
        exact kq_single ht hn hn2 hd hd2 (by decide) (by decide) (by decide) (s := 6) (by decide) h
      rw [if_neg h102, if_neg h102, if_neg h102]
      have hq1 : ((1 : Int32) = 0) = False := eq_false (by decide)
      by_cases h116 : b (p + 2) = 116
      · by_cases h50 : b (p + 1) = 50
        · have := kq_single (pl := p) ht hn hn2 hd hd2 (w := 1) (by decide) (cs := [107, 50, 116, 111, 103]) (by decide) (by decide) (s := 3) (by decide) h
          simp only [h116, h50, hq1, if_true, if_false, and_self]
          exact this
        · by_cases h51 : b (p + 1) = 51
          · have := kq_single (pl := p) ht hn hn2 hd hd2 (w := 2) (by decide) (cs := [107, 51, 116, 111, 103]) (by decide) (by decide) (s := 5) (by decide) h
            simp only [h116, h51, hq1, if_true, if_false, and_self, Nat.reduceEqDiff, false_and]
            exact this
          · have := kq_named (pl := p) ht hn hn2 hd hd2 (w := 3) (by decide) (cs := [107]) (by decide) (by decide) (s := 0) (by decide) h
            simp only [h116, h50, h51, hq1, if_true, if_false, and_self, Nat.reduceEqDiff, false_and]
            exact this
      · have := kq_named (pl := p) ht hn hn2 hd hd2 (w := 3) (by decide) (cs := [107]) (by decide) (by decide) (s := 0) (by decide) h
        simp only [h116, and_false, if_false, if_true, ite_self]
        exact this
    rw [if_neg h107, if_neg h107]
    by_cases h112 : b p = 112
    · rw [if_pos h112, if_pos h112]
      exact kq_named ht hn hn2 hd hd2 (by decide) (by decide) (by decide) (by decide) h
    rw [if_neg h112, if_neg h112]
    by_cases h115 : b p = 115
    · rw [if_pos h115, if_pos h115]
      unfold fn_X4_readSlipOrSsk
      rw [b1, Option.bind_some]
      simp only [bs]
      by_cases h5 : b (p + 1) = 115
      · rw [if_pos (show kq_see b (p + 1) = 115 from (kq_see_eq (c := 115) (by omega)).mpr h5), if_pos h5]
        exact kq_single ht hn hn2 hd hd2 (by decide) (by decide) (by decide) (s := 4) (by decide) h
      · rw [if_neg (show ¬ kq_see b (p + 1) = 115 from fun h6 => h5 ((kq_see_eq (c := 115) (by omega)).mp h6)), if_neg h5]
        exact kq_named ht hn hn2 hd hd2 (by decide) (by decide) (by decide) (s := 2) (by decide) h
    rw [if_neg h115, if_neg h115]
    by_cases h121 : b p = 121
    · rw [if_pos h121, if_pos h121]
      exact kq_named ht hn hn2 hd hd2 (by decide) (by decide) (by decide) (by decide) h
    rw [if_neg h121, if_neg h121, if_neg h98, if_neg h99]
    obtain ⟨σ3, u1, u2⟩ := kq_fail (k := 1) ⟨by omega, by omega⟩ h
    rw [if_pos rfl] at u2
    exact ⟨σ3, u1, fun h5 => absurd h5 (by simp), fun _ => u2⟩
end KQC2
