/-! the reference's brackets -/
def kq_om (μ0 : kb_S) (p n K pl d : Nat) (μ : kb_S) : Prop :=
  kb_g μ 5 = nI p ∧ kb_g μ 6 = 0 ∧ kb_g μ 8 = nI (d + 1) ∧ kb_g μ 9 = nI (n + 1) ∧ (∀ j, j ≠ 5 → j ≠ 6 → j ≠ 7 → j ≠ 8 → j ≠ 9 → kb_g μ j = kb_g μ0 j) ∧
  (∀ j x, kb_a μ j x = if j = 11 ∧ x = n then nI pl else if j = 10 ∧ x = n then 0 else if j = 9 ∧ x = n then nI K else if j = 17 ∧ x = d + 1 then nI n else kb_a μ0 j x)
def kq_rom (μ0 : kb_S) (n d pl : Nat) (r : Nat × Nat × Nat) (μ : kb_S) : Prop := (r.1 = 0 → kq_om μ0 r.2.1 n (18 + 2 * r.2.2) pl d μ) ∧ (r.1 ≠ 0 → kq_m μ0 (r.1, r.2.1) μ)
section KQM2
variable {tl : Nat} {b : Nat → Nat} {μ0 : kb_S} {n d pl : Nat}
theorem kq_op49 (hn : kb_g μ0 9 = nI n) (hn2 : n < 220) (hd : kb_g μ0 8 = nI d) (hd2 : d ≤ 4) {k : Nat} (hk : k = 1 ∨ k = 2) {s : Nat × Nat} {μ : kb_S} (hs : s.1 = 0 → s.2 + 1 ≤ 200) (h : kq_m μ0 s μ) : ∃ μ2, fp_X9_opens_49 (if k = 2 then 114 else 40) (nI pl) μ = some μ2 ∧ kq_rom μ0 n d pl (if s.1 = 0 then (if d < 4 then (0, s.2 + 1, k) else (2, s.2, k)) else (s.1, s.2, k)) μ2 := by
  have e8 : kb_g μ 8 = nI d := by rw [h.1 8 (by decide) (by decide) (by decide)]; exact hd
  have e9 : kb_g μ 9 = nI n := by rw [h.1 9 (by decide) (by decide) (by decide)]; exact hn
  have w62 : ∀ {s : Nat × Nat} {μ : kb_S} {x : Int32}, s.1 ≠ 0 → kq_m μ0 s μ → fp_X9_opens_62 x (nI pl) μ = some μ := by
    intro s μ x h0 h
    unfold fp_X9_opens_62
    rw [if_neg (fun h5 => h0 (h.fle.mp h5))]
  unfold fp_X9_opens_49
  rw [e8]
  by_cases h0 : s.1 = 0
  · rw [if_pos h0]
    by_cases hd4 : d < 4
    · rw [if_neg (show ¬ nI d = 4 by rw [vt_4, vt_eqI (by omega) (by omega)]; omega), if_pos hd4]
      unfold fp_X9_opens_62
      have i1 : kb_in (nI n) 220 = true := vt_in' (by omega) (by omega)
      have i2 : kb_in (nI (d + 1)) 5 = true := vt_in' (by omega) (by omega)
      rw [if_pos (h.fle.mpr h0), e8, vt_1, nI_add, if_pos i2, h.2.2.2.1 h0, nI_add, e9, nI_clamp (by omega)]
      have fin : ∀ K : Nat, ∃ μ2, fp_X9_opens_117 (nI pl) (nI K) (kb_ap (kb_p (kb_p μ 8 (nI (d + 1))) 5 (nI (s.2 + 1))) 17 (d + 1) (nI n)) = some μ2 ∧ kq_om μ0 (s.2 + 1) n K pl d μ2 := by
        intro K
        unfold fp_X9_opens_117 fn_X9_add
        simp only [vt_gp, vt_ga, Nat.reduceEqDiff, if_false, e9]
        rw [if_pos (h.fle.mpr h0)]
        simp only [if_pos i1, Option.bind_some]
        rw [nI_clamp (by omega), vt_1, nI_add]
        refine ⟨_, rfl, rfl, ?_, rfl, rfl, fun j a1 a2 a3 a4 a5 => ?_, fun j x => ?_⟩
        · simp only [vt_gp, vt_ga, Nat.reduceEqDiff, if_false]; rw [h.2.2.1, h0]; rfl
        · simp only [vt_gp, vt_ga, if_neg a1, if_neg a4, if_neg a5]; exact h.1 j a1 a2 a3
        · simp only [vt_ap, vt_aax, h.2.1]
      rcases hk with rfl | rfl
      · obtain ⟨μ2, r1, r2⟩ := fin 20
        rw [if_neg (show ¬ (if 1 = 2 then (114 : Int32) else 40) = 114 by decide)]
        exact ⟨μ2, r1, fun _ => r2, fun h5 => absurd rfl h5⟩
      · obtain ⟨μ2, r1, r2⟩ := fin 22
        rw [if_pos (show (if 2 = 2 then (114 : Int32) else 40) = 114 by decide)]
        exact ⟨μ2, r1, fun _ => r2, fun h5 => absurd rfl h5⟩
    · rw [if_pos (show nI d = 4 by rw [show d = 4 by omega]; rfl), if_neg hd4]
      obtain ⟨μ2, r1, r2⟩ := kq_wrong (k := 2) ⟨by omega, by omega⟩ h
      rw [if_pos h0] at r2
      rw [show (2 : Int32) = nI 2 from rfl, r1, Option.bind_some, w62 (s := (2, s.2)) (by simp) r2]
      exact ⟨μ2, rfl, fun h5 => absurd h5 (by simp), fun _ => r2⟩
  · rw [if_neg h0]
    obtain ⟨μ2, r1, r2⟩ := kq_wrong (k := 2) ⟨by omega, by omega⟩ h
    rw [if_neg h0] at r2
    rw [show (2 : Int32) = nI 2 from rfl, r1, Option.bind_some, w62 h0 r2, w62 h0 h]
    by_cases hd4 : nI d = 4
    · exact ⟨μ2, by rw [if_pos hd4], fun h5 => absurd h5 h0, fun _ => r2⟩
    · exact ⟨μ, by rw [if_neg hd4], fun h5 => absurd h5 h0, fun _ => h⟩
theorem kq_inb' (ht : kq_tm tl b μ0) {cs : List Nat} (hc : ∀ c ∈ cs, c < 256) {s : Nat × Nat} (h : s.2 ≤ tl) : (kq_w b cs s).2 ≤ tl := by
  have : ∀ (cs : List Nat) (hc : ∀ c ∈ cs, c < 256) (s : Nat × Nat), s.2 ≤ tl → (kq_w b cs s).2 ≤ tl := by
    intro cs
    induction cs with
    | nil => intro _ s h; exact h
    | cons c cs ih =>
        intro hc s h
        rw [kq_w]
        refine ih (fun x hx => hc x (List.mem_cons_of_mem _ hx)) _ ?_
        by_cases h0 : s.1 = 0
        · rw [if_pos h0]
          by_cases hb : b s.2 = c
          · rw [if_pos hb]
            have := kq_inm ht (p := s.2) (by rw [hb]; exact hc c (List.mem_cons_self ..))
            show s.2 + 1 ≤ tl
            omega
          · rw [if_neg hb]; exact h
        · rw [if_neg h0]; exact h
  exact this cs hc s h
theorem kq_opm (ht : kq_tm tl b μ0) (hn : kb_g μ0 9 = nI n) (hn2 : n < 220) (hd : kb_g μ0 8 = nI d) (hd2 : d ≤ 4) {p : Nat} {μ : kb_S} (hp : p ≤ tl) (hb : b p = 40 ∨ (b p = 114 ∧ d = 0)) (h : kq_m μ0 (0, p) μ) : ∃ μ2, fn_X9_opens (kq_see b p) (nI pl) μ = some μ2 ∧ kq_rom μ0 n d pl (kq_op b d p) μ2 := by
  have htl := ht.1
  have hpt := kq_inm ht (p := p) (by omega)
  unfold fn_X9_opens kq_op
  by_cases h40 : b p = 40
  · have e1 : kq_see b p = 40 := (kq_see_eq (c := 40) (by omega)).mpr h40
    rw [e1, if_neg (by decide), if_pos h40]
    obtain ⟨μ2, r1, r2⟩ := kq_op49 (pl := pl) hn hn2 hd hd2 (k := 1) (Or.inl rfl) (fun _ => by show p + 1 ≤ 200; omega) h
    rw [if_pos rfl] at r2
    exact ⟨μ2, r1, r2⟩
  · obtain ⟨h114, hd0⟩ := hb.resolve_left h40
    have e1 : kq_see b p = 114 := (kq_see_eq (c := 114) (by omega)).mpr h114
    rw [e1, if_pos rfl, if_neg h40, if_pos hd0]
    have g1 : kq_m μ0 (0, p + 1) (kb_p μ 5 (kb_g μ 5 + 1)) := by rw [h.2.2.2.1 rfl, vt_1, nI_add]; exact h.go rfl (show p + 1 ≤ 200 by omega)
    obtain ⟨μ1, r1, r2⟩ := kq_need (c := 101) ht (by decide) g1
    obtain ⟨μ2, s1, s2⟩ := kq_need (c := 112) ht (by decide) r2
    rw [show (101 : Int32) = nI 101 from rfl, r1, Option.bind_some, show (112 : Int32) = nI 112 from rfl, s1, Option.bind_some, kq_w_hd h114, show kq_w b [101, 112] (0, p + 1) = kq_w b [112] (kq_w b [101] (0, p + 1)) from rfl]
    have hq : (kq_w b [112] (kq_w b [101] (0, p + 1))).2 ≤ tl := kq_inb' ht (by decide) (kq_inb' ht (by decide) (show p + 1 ≤ tl by omega))
    generalize kq_w b [112] (kq_w b [101] (0, p + 1)) = q at s2 hq
    obtain ⟨f, q⟩ := q
    unfold kq_bl
    simp only at hq
    by_cases hf : f = 0
    · subst hf
      rw [if_pos (s2.f0.mpr rfl), if_pos rfl]
      obtain ⟨μ3, t1, t2⟩ := kq_seeWord ht s2
      rw [t1, Option.bind_some]
      simp only
      rw [if_pos trivial]
      by_cases hb4 : b (kq_b b 201 q) = 40
      · have hqt := kq_inm ht (p := kq_b b 201 q) (by omega)
        rw [if_pos (show kq_see b (kq_b b 201 q) = 40 from (kq_see_eq (c := 40) (by omega)).mpr hb4), if_pos hb4]
        obtain ⟨μ4, u1, u2⟩ := kq_op49 (pl := pl) hn hn2 hd hd2 (k := 2) (Or.inr rfl) (fun _ => by show kq_b b 201 q + 1 ≤ 200; omega) t2
        rw [if_pos rfl, if_pos (by omega)] at u2
        exact ⟨μ4, u1, u2⟩
      · rw [if_neg (show ¬ kq_see b (kq_b b 201 q) = 40 from fun h5 => hb4 ((kq_see_eq (c := 40) (by omega)).mp h5)), if_neg hb4]
        obtain ⟨μf, f1, f2⟩ := kq_wrong (k := 1) ⟨by omega, by omega⟩ t2
        rw [if_pos rfl] at f2
        rw [show (1 : Int32) = nI 1 from rfl, f1, Option.bind_some]
        obtain ⟨μ4, u1, u2⟩ := kq_op49 (pl := pl) hn hn2 hd hd2 (k := 2) (Or.inr rfl) (fun h5 => absurd h5 (by simp)) f2
        rw [if_neg (by simp)] at u2
        exact ⟨μ4, u1, u2⟩
    · rw [if_neg (fun h5 => hf (s2.f0.mp h5)), if_neg hf]
      simp only
      rw [if_neg hf]
      obtain ⟨μ4, u1, u2⟩ := kq_op49 (pl := pl) hn hn2 hd hd2 (k := 2) (Or.inr rfl) (fun h5 => absurd h5 hf) s2
      rw [if_neg hf] at u2
      exact ⟨μ4, u1, u2⟩
end KQM2
/-! what stands behind a closing bracket: (fault, place, number) -/
def kq_nn (b : Nat → Nat) (least : Nat) (q : Nat × Nat) : Nat × Nat × Nat := if q.1 = 0 then kq_n b least q.2 else (q.1, q.2, 0)
def kq_cl (b : Nat → Nat) (rep : Bool) (p : Nat) : Nat × Nat × Nat :=
  if rep = true then kq_nn b 0 (kq_bl b (kq_w b [108, 97, 115, 116] (kq_bl b (kq_w b [116, 111] (kq_bl b (0, p + 1))))))
  else kq_nn b 2 (kq_w b [120] (kq_bl b (0, p + 1)))
theorem kq_numc {tl : Nat} {b : Nat → Nat} {σ0 σ : kb_S} (ht : kq_tc tl b σ0) {least : Nat} (hl : least ≤ 2) {q : Nat × Nat} (h : kq_c σ0 q σ) : ∃ σ2 v, fn_X4_readNumber (nI least) σ = some (σ2, v) ∧ kq_c σ0 ((kq_nn b least q).1, (kq_nn b least q).2.1) σ2 ∧ ((kq_nn b least q).1 = 0 → v = nI (kq_nn b least q).2.2) := by
  obtain ⟨f, q⟩ := q
  unfold kq_nn
  by_cases h0 : f = 0
  · subst h0
    rw [if_pos rfl]
    exact kq_num ht hl h
  · rw [if_neg h0]
    obtain ⟨σ2, v, r1, r2⟩ := kq_num' (least := nI least) ht (s := (f, q)) h0 h
    exact ⟨σ2, v, r1, r2, fun h5 => absurd h5 h0⟩
theorem kq_toLast {tl : Nat} {b : Nat → Nat} {σ0 σ : kb_S} (ht : kq_tc tl b σ0) {q : Nat × Nat} (h : kq_c σ0 q σ) : ∃ σ2 v, fn_X4_readToLast σ = some (σ2, v) ∧ kq_c σ0 ((kq_nn b 0 (kq_bl b (kq_w b [108, 97, 115, 116] (kq_bl b (kq_w b [116, 111] q))))).1, (kq_nn b 0 (kq_bl b (kq_w b [108, 97, 115, 116] (kq_bl b (kq_w b [116, 111] q))))).2.1) σ2 ∧ ((kq_nn b 0 (kq_bl b (kq_w b [108, 97, 115, 116] (kq_bl b (kq_w b [116, 111] q))))).1 = 0 → v = nI (kq_nn b 0 (kq_bl b (kq_w b [108, 97, 115, 116] (kq_bl b (kq_w b [116, 111] q))))).2.2) := by
  unfold fn_X4_readToLast
  obtain ⟨σ1, r1, r2⟩ := kq_word (cs := [116, 111]) ht (w := 15) (by decide) (by decide) (by decide) h
  obtain ⟨σ2, s1, s2⟩ := kq_skip ht r2
  obtain ⟨σ3, t1, t2⟩ := kq_word (cs := [108, 97, 115, 116]) ht (w := 16) (by decide) (by decide) (by decide) s2
  obtain ⟨σ4, u1, u2⟩ := kq_skip ht t2
  obtain ⟨σ5, v, w1, w2, w3⟩ := kq_numc (least := 0) ht (by omega) u2
  rw [r1, Option.bind_some, s1, Option.bind_some, t1, Option.bind_some, u1, Option.bind_some, show (0 : Int32) = nI 0 from rfl, w1]
  exact ⟨σ5, v, rfl, w2, w3⟩
theorem kq_countm {tl : Nat} {b : Nat → Nat} {μ0 μ : kb_S} (ht : kq_tm tl b μ0) {p : Nat} (hp : p ≤ tl) (h : kq_m μ0 (0, p) μ) : ∃ μ2 v, fn_X9_times μ = some (μ2, v) ∧ kq_m μ0 ((kq_nn b 2 (kq_w b [120] (kq_bl b (0, p)))).1, (kq_nn b 2 (kq_w b [120] (kq_bl b (0, p)))).2.1) μ2 ∧ ((kq_nn b 2 (kq_w b [120] (kq_bl b (0, p)))).1 = 0 → v = nI (kq_nn b 2 (kq_w b [120] (kq_bl b (0, p)))).2.2) := by
  have htl := ht.1
  unfold fn_X9_times fp_X9_times_14
  obtain ⟨μ1, r1, r2⟩ := kq_seeWord ht h
  have e : kq_bl b (0, p) = (0, kq_b b 201 p) := by unfold kq_bl; rw [if_pos rfl]
  rw [r1, Option.bind_some, e, kq_w1]
  simp only
  by_cases h120 : b (kq_b b 201 p) = 120
  · have hqt := kq_inm ht (p := kq_b b 201 p) (by omega)
    rw [if_pos (show kq_see b (kq_b b 201 p) = 120 from (kq_see_eq (c := 120) (by omega)).mpr h120), if_pos h120, if_pos (r2.fle.mpr rfl)]
    have g1 : kq_m μ0 (0, kq_b b 201 p + 1) (kb_p μ1 5 (kb_g μ1 5 + 1)) := by rw [r2.2.2.2.1 rfl, vt_1, nI_add]; exact r2.go rfl (show kq_b b 201 p + 1 ≤ 200 by omega)
    obtain ⟨μ3, v, u1, u2, u3⟩ := kq_count (least := 2) ht (by omega) g1
    rw [show (2 : Int32) = nI 2 from rfl, u1]
    unfold kq_nn
    rw [if_pos rfl]
    exact ⟨μ3, v, rfl, u2, u3⟩
  · rw [if_neg (show ¬ kq_see b (kq_b b 201 p) = 120 from fun h5 => h120 ((kq_see_eq (c := 120) (by omega)).mp h5)), if_neg h120]
    obtain ⟨μf, f1, f2⟩ := kq_wrong (k := 1) ⟨by omega, by omega⟩ r2
    rw [if_pos rfl] at f2
    rw [show (1 : Int32) = nI 1 from rfl, f1, Option.bind_some, if_neg (fun h5 => absurd (f2.fle.mp h5) (by simp))]
    unfold kq_nn
    rw [if_neg (by simp)]
    exact ⟨μf, _, rfl, f2, fun h5 => absurd h5 (by simp)⟩
theorem kq_lastm {tl : Nat} {b : Nat → Nat} {μ0 μ : kb_S} (ht : kq_tm tl b μ0) {p : Nat} (h : kq_m μ0 (0, p) μ) : ∃ μ2 v, fn_X9_last μ = some (μ2, v) ∧ kq_m μ0 ((kq_nn b 0 (kq_bl b (kq_w b [108, 97, 115, 116] (kq_bl b (kq_w b [116, 111] (kq_bl b (0, p))))))).1, (kq_nn b 0 (kq_bl b (kq_w b [108, 97, 115, 116] (kq_bl b (kq_w b [116, 111] (kq_bl b (0, p))))))).2.1) μ2 ∧ ((kq_nn b 0 (kq_bl b (kq_w b [108, 97, 115, 116] (kq_bl b (kq_w b [116, 111] (kq_bl b (0, p))))))).1 = 0 → v = nI (kq_nn b 0 (kq_bl b (kq_w b [108, 97, 115, 116] (kq_bl b (kq_w b [116, 111] (kq_bl b (0, p))))))).2.2) := by
  unfold fn_X9_last
  obtain ⟨μ1, r1, r2⟩ := kq_seeWord ht h
  have e : kq_bl b (0, p) = (0, kq_b b 201 p) := by unfold kq_bl; rw [if_pos rfl]
  rw [r1, Option.bind_some, e]
  simp only
  obtain ⟨μ2, s1, s2⟩ := kq_need (c := 116) ht (by decide) r2
  obtain ⟨μ3, t1, t2⟩ := kq_need (c := 111) ht (by decide) s2
  rw [show (116 : Int32) = nI 116 from rfl, s1, Option.bind_some, show (111 : Int32) = nI 111 from rfl, t1, Option.bind_some, show kq_w b [116, 111] (0, kq_b b 201 p) = kq_w b [111] (kq_w b [116] (0, kq_b b 201 p)) from rfl]
  generalize kq_w b [111] (kq_w b [116] (0, kq_b b 201 p)) = q at t2
  have f29 : ∀ (q : Nat × Nat) (μ : kb_S), kq_m μ0 q μ → ∃ μ2 v, fp_X9_last_29 μ = some (μ2, v) ∧ kq_m μ0 ((kq_nn b 0 (kq_bl b (kq_w b [108, 97, 115, 116] q))).1, (kq_nn b 0 (kq_bl b (kq_w b [108, 97, 115, 116] q))).2.1) μ2 ∧ ((kq_nn b 0 (kq_bl b (kq_w b [108, 97, 115, 116] q))).1 = 0 → v = nI (kq_nn b 0 (kq_bl b (kq_w b [108, 97, 115, 116] q))).2.2) := by
    intro q μ h
    unfold fp_X9_last_29
    obtain ⟨μ1, a1, a2⟩ := kq_need (c := 108) ht (by decide) h
    obtain ⟨μ2, b1, b2⟩ := kq_need (c := 97) ht (by decide) a2
    obtain ⟨μ3, c1, c2⟩ := kq_need (c := 115) ht (by decide) b2
    obtain ⟨μ4, d1, d2⟩ := kq_need (c := 116) ht (by decide) c2
    rw [show (108 : Int32) = nI 108 from rfl, a1, Option.bind_some, show (97 : Int32) = nI 97 from rfl, b1, Option.bind_some, show (115 : Int32) = nI 115 from rfl, c1, Option.bind_some, show (116 : Int32) = nI 116 from rfl, d1, Option.bind_some, show kq_w b [108, 97, 115, 116] q = kq_w b [116] (kq_w b [115] (kq_w b [97] (kq_w b [108] q))) from rfl]
    generalize kq_w b [116] (kq_w b [115] (kq_w b [97] (kq_w b [108] q))) = q4 at d2
    obtain ⟨f, q4⟩ := q4
    unfold kq_bl
    by_cases hf : f = 0
    · subst hf
      obtain ⟨μ5, t1, t2⟩ := kq_seeWord ht d2
      rw [if_pos (d2.fle.mpr rfl), t1, Option.bind_some, if_pos rfl]
      simp only
      obtain ⟨μ6, v, u1, u2, u3⟩ := kq_count (least := 0) ht (by omega) t2
      rw [show (0 : Int32) = nI 0 from rfl, u1]
      unfold kq_nn
      rw [if_pos rfl]
      exact ⟨μ6, v, rfl, u2, u3⟩
    · rw [if_neg (fun h5 => hf (d2.fle.mp h5)), if_neg hf]
      unfold kq_nn
      rw [if_neg hf]
      exact ⟨μ4, _, rfl, d2, fun h5 => absurd h5 hf⟩
  obtain ⟨f, q⟩ := q
  by_cases hf : f = 0
  · subst hf
    obtain ⟨μ5, u1, u2⟩ := kq_seeWord ht t2
    have e2 : kq_bl b (0, q) = (0, kq_b b 201 q) := by unfold kq_bl; rw [if_pos rfl]
    rw [if_pos (t2.f0.mpr rfl), u1, Option.bind_some, e2]
    exact f29 _ _ u2
  · have e2 : kq_bl b (f, q) = (f, q) := by unfold kq_bl; rw [if_neg hf]
    rw [if_neg (fun h5 => hf (t2.f0.mp h5)), e2]
    exact f29 _ _ t2
