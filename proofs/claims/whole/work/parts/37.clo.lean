/-! closing a bracket, in both memories -/
theorem kq_addClose {σ : kb_S} {n o : Nat} (hn : kb_g σ 16 = nI n) (hn2 : n < 200) (ho : o < n) (v pl : Int32) (T : Int64) : ∃ σ2, fn_X3_addClose (nI o) v pl T σ = some σ2 ∧ (∀ j, j ≠ 16 → kb_g σ2 j = kb_g σ j) ∧ kb_g σ2 16 = nI (n + 1) ∧
    (∀ j x, kb_a σ2 j x = if j = 8 ∧ x = n then pl else if j = 9 ∧ x = n then 0 else if j = 10 ∧ x = n then nI o else if j = 7 ∧ x = n then 3 else if j = 9 ∧ x = o then v else if j = 10 ∧ x = o then nI n else kb_a σ j x) ∧
    (∀ j x, kb_b σ2 j x = if j = 2 ∧ x = n then 0 else if j = 2 ∧ x = o then T else kb_b σ j x) := by
  unfold fn_X3_addClose fp_X3_addClose_37 fn_X3_add
  have i1 : kb_in (nI n) 200 = true := vt_in' (by omega) (by omega)
  have i2 : kb_in (nI o) 200 = true := vt_in' (by omega) (by omega)
  rw [if_neg (vt_neg (by omega)), hn, if_neg (by rw [vt_leI (by omega) (by omega)]; omega)]
  simp only [if_pos i2, vt_gp, vt_ga, vt_gb, hn]
  rw [if_neg (by rw [vt_200, vt_leI (by omega) (by omega)]; omega)]
  simp only [if_pos i1, Option.bind_some]
  rw [nI_clamp (by omega), nI_clamp (by omega), vt_1, nI_add]
  refine ⟨_, rfl, fun j hj => ?_, rfl, fun j x => ?_, fun j x => ?_⟩
  · simp only [vt_gp, vt_ga, vt_gb, if_neg hj]
  · simp only [vt_ap, vt_ab, vt_aax]
  · simp only [vt_bp, vt_ba, vt_bbx]
/-- the class has closed the bracket o at p -/
def kq_cc (σ0 : kb_S) (p0 p n o v d : Nat) (rep : Bool) (σ : kb_S) : Prop :=
  kb_g σ 10 = nI p ∧ kb_g σ 11 = 0 ∧ kb_g σ 9 = nI (d - 1) ∧ kb_g σ 16 = nI (n + 1) ∧ (∀ j, j ≠ 10 → j ≠ 11 → j ≠ 9 → j ≠ 16 → kb_g σ j = kb_g σ0 j) ∧
  (∀ j x, kb_a σ j x = if j = 8 ∧ x = n then nI p0 else if j = 9 ∧ x = n then 0 else if j = 10 ∧ x = n then nI o else if j = 7 ∧ x = n then 3 else if j = 9 ∧ x = o then nI v else if j = 10 ∧ x = o then nI n else kb_a σ0 j x) ∧
  (∀ j x, kb_b σ j x = if rep = false ∧ j = 0 ∧ x = d - 1 then kb_b σ0 0 (d - 1) + (nI v).toInt64 * kb_b σ0 0 d else if j = 2 ∧ x = n then 0 else if j = 2 ∧ x = o then kb_b σ0 0 d else kb_b σ0 j x)
/-- the class stands at a fault: what is left of σ0 -/
def kq_fc (σ0 : kb_S) (s : Nat × Nat) (σ : kb_S) : Prop := (∀ j, j ≤ 8 → kb_g σ j = kb_g σ0 j) ∧ (∀ j, j ≤ 5 → kb_a σ j = kb_a σ0 j) ∧ kb_g σ 11 = kq_code s
theorem kq_c.fc {σ0 σ : kb_S} {s : Nat × Nat} (h : kq_c σ0 s σ) : kq_fc σ0 s σ := ⟨fun j hj => h.1 j (by omega) (by omega), fun j _ => h.2.1 j, h.2.2.2.1⟩
theorem kq_closec {tl : Nat} {b : Nat → Nat} {σ : kb_S} (ht : kq_tc tl b σ) {p n d o : Nat} (rep : Bool) (h : kq_c σ (0, p) σ) (hp : p < tl) (hn : kb_g σ 16 = nI n) (hn2 : n < 200) (hd : kb_g σ 9 = nI d) (hd1 : 1 ≤ d) (hd2 : d ≤ 4) (ho : o < n) (h6 : kb_a σ 6 d = nI o) (h7 : kb_a σ 7 o = nI (if rep = true then 2 else 1)) :
    ∃ σ2, fn_X4_closeBracket σ = some σ2 ∧ ((kq_cl b (rep) p).1 = 0 → kq_cc σ p (kq_cl b (rep) p).2.1 n o (kq_cl b (rep) p).2.2 d (rep) σ2) ∧ ((kq_cl b (rep) p).1 ≠ 0 → kq_fc σ ((kq_cl b (rep) p).1, (kq_cl b (rep) p).2.1) σ2) := by
  have htl := ht.1
  have i1 : kb_in (nI d) 5 = true := vt_in' (by omega) (by omega)
  have i3 : kb_in (nI o) 200 = true := vt_in' (by omega) (by omega)
  have i4 : kb_in (nI (d - 1)) 5 = true := vt_in' (by omega) (by omega)
  have hpos := h.2.2.2.2.1 rfl
  have g1 : kq_c σ (0, p + 1) (kb_p σ 10 (nI (p + 1))) := h.go rfl (by omega)
  obtain ⟨σ3, r1, r2⟩ := kq_skip ht g1
  unfold fn_X4_closeBracket
  rw [hd, if_pos i1, if_pos i1, hpos, vt_1, nI_add, r1, Option.bind_some, nI_clamp (by omega), h6]
  have e16 : kb_g σ3 16 = nI n := by rw [r2.1 16 (by decide) (by decide)]; exact hn
  have ek : fn_X3_kind (nI o) σ3 = some (nI (if rep = true then 2 else 1)) := by
    unfold fn_X3_kind fn_X3_has
    rw [if_neg (vt_neg (by omega)), e16, if_neg (by rw [if_neg (by rw [vt_leI (by omega) (by omega)]; omega)]; decide), if_pos i3, nI_clamp (by omega), r2.2.1, h7]
  rw [ek, Option.bind_some]
  cases rep with
  | false =>
    rw [if_neg (show ¬ nI (if false = true then 2 else 1) = 2 by decide)]
    obtain ⟨σ4, s1, s2⟩ := kq_word (cs := [120]) ht (w := 17) (by decide) (by decide) (by decide) r2
    obtain ⟨σ5, v, t1, t2, t3⟩ := kq_numc (least := 2) ht (by omega) s2
    rw [s1, Option.bind_some, show (2 : Int32) = nI 2 from rfl, t1, Option.bind_some]
    have e16' : kb_g σ5 16 = nI n := by rw [t2.1 16 (by decide) (by decide)]; exact hn
    obtain ⟨σ6, a1, a2, a3, a4, a5⟩ := kq_addClose e16' hn2 ho v (nI p) (kb_b σ 0 d)
    simp only
    rw [a1, Option.bind_some]
    have e9 : kb_g σ6 9 - nI 1 = nI (d - 1) := by rw [a2 9 (by decide), t2.1 9 (by decide) (by decide), hd, pk_sub (by omega)]
    rw [e9, if_pos i4, if_pos i4, nI_clamp (by omega)]
    have ecl : kq_cl b false p = kq_nn b 2 (kq_w b [120] (kq_bl b (0, p + 1))) := by unfold kq_cl; rw [if_neg (by decide)]
    rw [ecl]
    clear ecl
    generalize kq_nn b 2 (kq_w b [120] (kq_bl b (0, p + 1))) = r at t2 t3 ⊢
    obtain ⟨f, q, rv⟩ := r
    dsimp only at t2 t3 ⊢
    refine ⟨_, rfl, fun h0 => ?_, fun h0 => ⟨fun j hj => ?_, fun j hj => ?_, ?_⟩⟩
    · refine ⟨?_, ?_, rfl, ?_, fun j b1 b2 b3 b4 => ?_, fun j x => ?_, fun j x => ?_⟩
      · simp only [vt_gp, vt_gb, Nat.reduceEqDiff, if_false]; rw [a2 10 (by decide)]; exact t2.2.2.2.2.1 h0
      · simp only [vt_gp, vt_gb, Nat.reduceEqDiff, if_false]; rw [a2 11 (by decide), t2.2.2.2.1]; exact (kq_code0 t2.2.2.2.2.2.1 t2.2.2.2.2.2.2.1).mpr h0
      · simp only [vt_gp, vt_gb, Nat.reduceEqDiff, if_false]; exact a3
      · simp only [vt_gp, vt_gb, if_neg b3]; rw [a2 j b4]; exact t2.1 j b1 b2
      · simp only [vt_ap, vt_ab]; rw [a4, t2.2.1, t3 h0]
      · rw [vt_bbx, vt_bp, a5, t2.2.2.1, a5, t2.2.2.1, t3 h0, if_neg (show ¬ (0 = 2 ∧ d - 1 = n) from fun h5 => absurd h5.1 (by decide)), if_neg (show ¬ (0 = 2 ∧ d - 1 = o) from fun h5 => absurd h5.1 (by decide))]
        by_cases hj : j = 0 ∧ x = d - 1
        · rw [if_pos hj, if_pos (show false = false ∧ j = 0 ∧ x = d - 1 from ⟨rfl, hj⟩)]
        · rw [if_neg hj, if_neg (show ¬ (false = false ∧ j = 0 ∧ x = d - 1) from fun h5 => hj h5.2)]
    · simp only [vt_gp, vt_gb, if_neg (show ¬ j = 9 by omega)]; rw [a2 j (by omega)]; exact t2.1 j (by omega) (by omega)
    · funext x; simp only [vt_ap, vt_ab]; rw [a4, if_neg (by omega), if_neg (by omega), if_neg (by omega), if_neg (by omega), if_neg (by omega), if_neg (by omega), t2.2.1]
    · simp only [vt_gp, vt_gb, Nat.reduceEqDiff, if_false]; rw [a2 11 (by decide), t2.2.2.2.1]
  | true =>
    rw [if_pos (show nI (if true = true then 2 else 1) = 2 from rfl)]
    obtain ⟨σ5, v, t1, t2, t3⟩ := kq_toLast ht r2
    rw [t1, Option.bind_some]
    have e16' : kb_g σ5 16 = nI n := by rw [t2.1 16 (by decide) (by decide)]; exact hn
    obtain ⟨σ6, a1, a2, a3, a4, a5⟩ := kq_addClose e16' hn2 ho v (nI p) (kb_b σ 0 d)
    simp only
    rw [a1, Option.bind_some]
    have e9 : kb_g σ6 9 - nI 1 = nI (d - 1) := by rw [a2 9 (by decide), t2.1 9 (by decide) (by decide), hd, pk_sub (by omega)]
    rw [e9]
    have ecl : kq_cl b true p = kq_nn b 0 (kq_bl b (kq_w b [108, 97, 115, 116] (kq_bl b (kq_w b [116, 111] (kq_bl b (0, p + 1)))))) := by unfold kq_cl; rw [if_pos (by decide)]
    rw [ecl]
    clear ecl
    generalize kq_nn b 0 (kq_bl b (kq_w b [108, 97, 115, 116] (kq_bl b (kq_w b [116, 111] (kq_bl b (0, p + 1)))))) = r at t2 t3 ⊢
    obtain ⟨f, q, rv⟩ := r
    dsimp only at t2 t3 ⊢
    refine ⟨_, rfl, fun h0 => ?_, fun h0 => ⟨fun j hj => ?_, fun j hj => ?_, ?_⟩⟩
    · refine ⟨?_, ?_, rfl, ?_, fun j b1 b2 b3 b4 => ?_, fun j x => ?_, fun j x => ?_⟩
      · simp only [vt_gp, Nat.reduceEqDiff, if_false]; rw [a2 10 (by decide)]; exact t2.2.2.2.2.1 h0
      · simp only [vt_gp, Nat.reduceEqDiff, if_false]; rw [a2 11 (by decide), t2.2.2.2.1]; exact (kq_code0 t2.2.2.2.2.2.1 t2.2.2.2.2.2.2.1).mpr h0
      · simp only [vt_gp, Nat.reduceEqDiff, if_false]; exact a3
      · simp only [vt_gp, if_neg b3]; rw [a2 j b4]; exact t2.1 j b1 b2
      · simp only [vt_ap]; rw [a4, t2.2.1, t3 h0]
      · simp only [vt_bp, a5, t2.2.2.1]
        rw [if_neg (show ¬ (true = false ∧ j = 0 ∧ x = d - 1) from fun h5 => absurd h5.1 (by decide))]
    · simp only [vt_gp, if_neg (show ¬ j = 9 by omega)]; rw [a2 j (by omega)]; exact t2.1 j (by omega) (by omega)
    · funext x; simp only [vt_ap]; rw [a4, if_neg (by omega), if_neg (by omega), if_neg (by omega), if_neg (by omega), if_neg (by omega), if_neg (by omega), t2.2.1]
    · simp only [vt_gp, Nat.reduceEqDiff, if_false]; rw [a2 11 (by decide), t2.2.2.2.1]
/-- the reference has closed it -/
def kq_cm (μ0 : kb_S) (p n o v d : Nat) (μ : kb_S) : Prop :=
  kb_g μ 5 = nI p ∧ kb_g μ 6 = 0 ∧ kb_g μ 8 = nI (d - 1) ∧ kb_g μ 9 = nI (n + 1) ∧ (∀ j, j ≠ 5 → j ≠ 6 → j ≠ 7 → j ≠ 8 → j ≠ 9 → kb_g μ j = kb_g μ0 j) ∧
  (∀ j x, kb_a μ j x = if j = 11 ∧ x = n then kb_a μ0 11 o else if j = 10 ∧ x = n then 0 else if j = 9 ∧ x = n then 21 else if j = 12 ∧ x = n then nI o else if j = 10 ∧ x = o then nI v else if j = 12 ∧ x = o then nI n else kb_a μ0 j x)
def kq_fm (μ0 : kb_S) (s : Nat × Nat) (μ : kb_S) : Prop := (∀ j, (j ≤ 4 ∨ 10 ≤ j) → kb_g μ j = kb_g μ0 j) ∧ (∀ j, (j ≤ 8 ∨ 13 ≤ j ∧ j ≠ 17) → kb_a μ j = kb_a μ0 j) ∧ kb_g μ 6 = nI s.1 ∧ kb_g μ 7 = nI s.2
theorem kq_m.fm {μ0 μ : kb_S} {s : Nat × Nat} (h : kq_m μ0 s μ) (h0 : s.1 ≠ 0) : kq_fm μ0 s μ := ⟨fun j hj => h.1 j (by omega) (by omega) (by omega), fun j _ => h.2.1 j, h.2.2.1, h.2.2.2.2.1 h0⟩
theorem kq_shuts {tl : Nat} {b : Nat → Nat} {μ : kb_S} (ht : kq_tm tl b μ) {p n d o : Nat} (rep : Bool) (h : kq_m μ (0, p) μ) (hp : p < tl) (hn : kb_g μ 9 = nI n) (hn2 : n < 200) (hd : kb_g μ 8 = nI d) (hd1 : 1 ≤ d) (hd2 : d ≤ 4) (ho : o < n) (h17 : kb_a μ 17 d = nI o) (h9 : kb_a μ 9 o = nI (if rep = true then 22 else 20)) :
    ∃ μ2, fn_X9_shuts μ = some μ2 ∧ ((kq_cl b (rep) p).1 = 0 → kq_cm μ (kq_cl b (rep) p).2.1 n o (kq_cl b (rep) p).2.2 d μ2) ∧ ((kq_cl b (rep) p).1 ≠ 0 → kq_fm μ ((kq_cl b (rep) p).1, (kq_cl b (rep) p).2.1) μ2) := by
  have htl := ht.1
  have i1 : kb_in (nI d) 5 = true := vt_in' (by omega) (by omega)
  have i2 : kb_in (nI o) 220 = true := vt_in' (by omega) (by omega)
  have i3 : kb_in (nI n) 220 = true := vt_in' (by omega) (by omega)
  have hpos := h.2.2.2.1 rfl
  -- the base with depth one less
  have g1 : kq_m (kb_p μ 8 (nI (d - 1))) (0, p + 1) (kb_p (kb_p μ 5 (nI (p + 1))) 8 (nI (d - 1))) := by
    refine ⟨fun j a1 a2 a3 => ?_, fun j => rfl, h.2.2.1, fun _ => rfl, fun h5 => absurd rfl h5, by simp, by show p + 1 ≤ 200; omega, p + 1, by omega, rfl⟩
    simp only [vt_gp, if_neg a1]
  have ht1 : kq_tm tl b (kb_p μ 8 (nI (d - 1))) := ht
  unfold fn_X9_shuts
  rw [hd, if_pos i1, nI_clamp (by omega), h17, if_pos i2, nI_clamp (by omega), hpos, vt_1, nI_add, pk_sub (by omega), h9]
  have f52 : ∀ (s : Nat × Nat) (v : Nat) (vv : Int32) (μ4 : kb_S), kq_m (kb_p μ 8 (nI (d - 1))) s μ4 → (s.1 = 0 → vv = nI v) → ∃ μ2, fp_X9_shuts_52 (nI o) vv μ4 = some μ2 ∧ (s.1 = 0 → kq_cm μ s.2 n o v d μ2) ∧ (s.1 ≠ 0 → kq_fm μ s μ2) := by
    intro s v vv μ4 g gv
    unfold fp_X9_shuts_52
    have e9 : kb_g μ4 9 = nI n := by rw [g.1 9 (by decide) (by decide) (by decide)]; exact hn
    rw [e9, if_pos i2, if_pos i2, if_pos i3, if_pos i2, nI_clamp (by omega), nI_clamp (by omega)]
    unfold fn_X9_add
    simp only [vt_ga, e9]
    by_cases h0 : s.1 = 0
    · rw [if_pos (g.fle.mpr h0)]
      simp only [if_pos i3, Option.bind_some]
      rw [nI_clamp (by omega), vt_1, nI_add]
      refine ⟨_, rfl, fun _ => ⟨?_, ?_, ?_, rfl, fun j a1 a2 a3 a4 a5 => ?_, fun j x => ?_⟩, fun h5 => absurd h0 h5⟩
      · exact g.2.2.2.1 h0
      · have := g.2.2.1; rw [h0] at this; exact this
      · show kb_g μ4 8 = _
        rw [g.1 8 (by decide) (by decide) (by decide)]; rfl
      · simp only [vt_gp, vt_ga, if_neg a5]; rw [g.1 j a1 a2 a3, vt_gp, if_neg a4]
      · simp only [vt_ap, vt_aax, g.2.1, gv h0]
    · rw [if_neg (fun h5 => h0 (g.fle.mp h5))]
      refine ⟨_, rfl, fun h5 => absurd h5 h0, fun _ => ⟨fun j hj => ?_, fun j hj => ?_, g.2.2.1, g.2.2.2.2.1 h0⟩⟩
      · simp only [vt_ga]; rw [g.1 j (by omega) (by omega) (by omega), vt_gp, if_neg (by omega)]
      · simp only [vt_aa]; rw [if_neg (by omega), if_neg (by omega), if_neg (by omega), g.2.1]; rfl
  cases rep with
  | false =>
    rw [if_pos (show nI (if false = true then 22 else 20) = 20 from rfl)]
    obtain ⟨μ4, v, t1, t2, t3⟩ := kq_countm ht1 (show p + 1 ≤ tl by omega) g1
    rw [t1, Option.bind_some]
    have ecl : kq_cl b false p = kq_nn b 2 (kq_w b [120] (kq_bl b (0, p + 1))) := by unfold kq_cl; rw [if_neg (by decide)]
    rw [ecl]
    clear ecl
    generalize kq_nn b 2 (kq_w b [120] (kq_bl b (0, p + 1))) = r at t2 t3 ⊢
    obtain ⟨f, q, rv⟩ := r
    dsimp only at t2 t3 ⊢
    exact f52 (f, q) rv v μ4 t2 t3
  | true =>
    rw [if_neg (show ¬ nI (if true = true then 22 else 20) = 20 by decide)]
    obtain ⟨μ4, v, t1, t2, t3⟩ := kq_lastm ht1 g1
    rw [t1, Option.bind_some]
    have ecl : kq_cl b true p = kq_nn b 0 (kq_bl b (kq_w b [108, 97, 115, 116] (kq_bl b (kq_w b [116, 111] (kq_bl b (0, p + 1)))))) := by unfold kq_cl; rw [if_pos (by decide)]
    rw [ecl]
    clear ecl
    generalize kq_nn b 0 (kq_bl b (kq_w b [108, 97, 115, 116] (kq_bl b (kq_w b [116, 111] (kq_bl b (0, p + 1)))))) = r at t2 t3 ⊢
    obtain ⟨f, q, rv⟩ := r
    dsimp only at t2 t3 ⊢
    exact f52 (f, q) rv v μ4 t2 t3
