/-! a row being worked: the class works, the reference lists -/
def kq_U (S : Nat → Nat) (g c : Nat) : Nat := vt_sum (fun i => vt_tk (S i)) g c
def kq_M (S : Nat → Nat) (g c : Nat) : Nat := vt_sum (fun i => vt_mk (S i)) g c
theorem kq_U_s (S : Nat → Nat) (g c : Nat) : kq_U S g (c + 1) = kq_U S g c + vt_tk (S (g + c)) := rfl
theorem kq_M_s (S : Nat → Nat) (g c : Nat) : kq_M S g (c + 1) = kq_M S g c + vt_mk (S (g + c)) := rfl
theorem kq_U_eq {S S2 : Nat → Nat} {g c : Nat} (h : ∀ i, i < c → S2 (g + i) = S (g + i)) : kq_U S2 g c = kq_U S g c := vt_sum_congr c (fun i hi => by show vt_tk _ = vt_tk _; rw [h i hi])
theorem kq_M_eq {S S2 : Nat → Nat} {g c : Nat} (h : ∀ i, i < c → S2 (g + i) = S (g + i)) : kq_M S2 g c = kq_M S g c := vt_sum_congr c (fun i hi => by show vt_mk _ = vt_mk _; rw [h i hi])
theorem kq_sumc {S : Nat → Nat} {g : Nat} : ∀ c, (∀ i, i < c → vt_vs (S (g + i)) = true) → c ≤ kq_U S g c + kq_M S g c
  | 0, _ => Nat.zero_le _
  | c + 1, h => by
      have h1 := kq_sumc c (fun i hi => h i (by omega))
      have h2 := (vt_st (h c (by omega))).2.2.2.2.2.2.2.2.1
      rw [kq_U_s, kq_M_s]; omega
theorem kq_mono {S : Nat → Nat} {g c d : Nat} (h : c ≤ d) : kq_U S g c ≤ kq_U S g d ∧ kq_M S g c ≤ kq_M S g d := ⟨vt_sum_mono h, vt_sum_mono h⟩
def kq_cf (R : Nat) (F G : Nat → Nat) (σp σ : kb_S) : Prop := (∀ j, j ≠ 6 → j ≠ 7 → j ≠ 8 → j ≠ 14 → j ≠ 15 → kb_g σ j = kb_g σp j) ∧ (∀ j, j ≠ 3 → j ≠ 4 → j ≠ 5 → kb_a σ j = kb_a σp j) ∧ (∀ j, j ≠ 1 → kb_b σ j = kb_b σp j) ∧ (∀ x, x < G (R + 1) → kb_a σ 3 x = kb_a σp 3 x) ∧ (∀ x, x < F (R + 1) → kb_a σ 4 x = kb_a σp 4 x ∧ kb_a σ 5 x = kb_a σp 5 x)
def kq_mf (μp μ : kb_S) : Prop := (∀ j, j ≠ 6 → j ≠ 7 → j ≠ 10 → kb_g μ j = kb_g μp j) ∧ (∀ j, j ≠ 13 → j ≠ 18 → kb_a μ j = kb_a μp j)
/-- c stitches of the row are worked -/
def kq_rw (w : Int32) (R : Nat) (F G : Nat → Nat) (σp μp : kb_S) (S : Nat → Nat) (c : Nat) (σ μ : kb_S) : Prop :=
  (kb_g σ 6 = nI (kq_U S (G (R + 1)) c) ∧ kb_g σ 7 = nI (F (R + 1) + kq_M S (G (R + 1)) c) ∧ kb_g σ 8 = nI (G (R + 1) + c) ∧ kb_g μ 10 = nI c) ∧
  (kq_U S (G (R + 1)) c ≤ F (R + 1) - F R ∧ F (R + 1) + kq_M S (G (R + 1)) c ≤ 600 ∧ 1 ≤ F (R + 1) - F R - kq_U S (G (R + 1)) c + kq_M S (G (R + 1)) c) ∧
  (∀ i, i < c → vt_vs (S (G (R + 1) + i)) = true ∧ kb_a σ 3 (G (R + 1) + i) = nI (S (G (R + 1) + i)) ∧ kb_a μ 13 i = nI (S (G (R + 1) + i))) ∧
  (∀ i, i < c → ∀ y, y < vt_mk (S (G (R + 1) + i)) → kb_a σ 4 (F (R + 1) + kq_M S (G (R + 1)) i + y) = nI (kq_pn (S (G (R + 1) + i))) ∧ (0 < kq_pn (S (G (R + 1) + i)) → kb_a σ 5 (F (R + 1) + kq_M S (G (R + 1)) i + y) = nI (vt_nd w R F (kq_U S (G (R + 1)) i + kq_po (S (G (R + 1) + i)) y)))) ∧
  kq_cf R F G σp σ ∧ kq_mf μp μ
/-- what is fixed while a row is worked -/
def kq_ev (w : Int32) (R : Nat) (F G : Nat → Nat) (n : Nat) (K N O Wh : Nat → Nat) (sk : Nat → List Nat) (σp μp : kb_S) : Prop :=
  (kq_ne w R F σp ∧ kb_g σp 2 = nI R ∧ R ≤ 30 ∧ kb_a σp 1 (R + 1) = nI (F (R + 1)) ∧ kb_g μp 3 = nI (F (R + 1)) ∧ G (R + 1) ≤ F (R + 1) + F R ∧ F (R + 1) - F R ≤ 40) ∧
  (n ≤ 200 ∧ kb_g σp 16 = nI n ∧ kb_g μp 9 = nI n) ∧ kq_ok n K N O sk ∧ (∀ k, k < n → kq_mk1 K N O Wh σp μp k) ∧ kq_rp n K N O σp ∧ sk n = []
def kq_kf (R : Nat) (F G : Nat → Nat) (σp μp σ μ : kb_S) : Prop := ∃ f pl, 1 ≤ f ∧ f ≤ 9 ∧ pl ≤ 200 ∧ kb_g σ 15 = -(nI (1000 * f + pl)) ∧ kb_g μ 6 = nI f ∧ kb_g μ 7 = nI pl ∧ kq_cf R F G σp σ ∧ kq_mf μp μ
theorem kq_mk0 {s : Nat} (hs : vt_vs s = true) : 1 ≤ vt_mk s ∨ (s = 8 ∧ vt_tk s = 1 ∧ vt_mk s = 0) := by
  have h0 := vt_vs_lt hs
  have h : ∀ s, s < 600 → vt_vs s = true → (1 ≤ vt_mk s ∨ (s = 8 ∧ vt_tk s = 1 ∧ vt_mk s = 0)) := by decide +kernel
  exact h s h0 hs
theorem kq_rw_push {w : Int32} {R : Nat} {F G : Nat → Nat} {n : Nat} {K N O Wh : Nat → Nat} {sk : Nat → List Nat} {σp μp : kb_S} (he : kq_ev w R F G n K N O Wh sk σp μp) {S : Nat → Nat} {c s : Nat} {σ μ : kb_S} (h : kq_rw w R F G σp μp S c σ μ) (hs : vt_vs s = true) (h1 : kq_U S (G (R + 1)) c + vt_tk s ≤ F (R + 1) - F R) (h2 : F (R + 1) + kq_M S (G (R + 1)) c + vt_mk s ≤ 600) (h3 : ¬ (s = 8 ∧ F (R + 1) - F R - kq_U S (G (R + 1)) c + kq_M S (G (R + 1)) c = 1)) :
    ∃ S2 σ2, fn_X0_addStitch (nI s) σ = some σ2 ∧ kq_rw w R F G σp μp S2 (c + 1) σ2 (kb_p (kb_ap μ 13 c (nI s)) 10 (nI (c + 1))) ∧ kb_g σ2 14 = kb_g σ 14 ∧ kb_g σ2 15 = kb_g σ 15 ∧ kb_b σ2 1 = kb_b σ 1 ∧ kq_U S2 (G (R + 1)) (c + 1) = kq_U S (G (R + 1)) c + vt_tk s ∧ kq_M S2 (G (R + 1)) (c + 1) = kq_M S (G (R + 1)) c + vt_mk s ∧ (∀ x, x < G (R + 1) → S2 x = S x) := by
  obtain ⟨⟨e1, e2, e3, e4, e5, e6, e7⟩, _⟩ := he
  obtain ⟨⟨a1, a2, a3, a4⟩, ⟨b1, b2, b3⟩, c1, d1, ⟨f1, f2, f3, f4, f5⟩, ⟨g1, g2⟩⟩ := h
  have hsc := kq_sumc c (fun i hi => (c1 i hi).1)
  have hst := vt_st hs
  have hne : kq_ne w R F σ := by
    unfold kq_ne at *; rw [f1 3 (by decide) (by decide) (by decide) (by decide) (by decide), f1 4 (by decide) (by decide) (by decide) (by decide) (by decide), f1 5 (by decide) (by decide) (by decide) (by decide) (by decide)]; exact e1
  have hF := e1.1
  have hF2 := e1.2.1
  obtain ⟨σ1, σ2, r1, r2, r3⟩ := kq_adds hne hs a1 h1 a2 h2 a3 (by omega)
  obtain ⟨S2, s1, s2⟩ := kq_fup S (G (R + 1) + c) s
  have hS : ∀ i, i < c → S2 (G (R + 1) + i) = S (G (R + 1) + i) := fun i hi => s2 _ (by omega)
  have hS' : ∀ i, i ≤ c → kq_U S2 (G (R + 1)) i = kq_U S (G (R + 1)) i ∧ kq_M S2 (G (R + 1)) i = kq_M S (G (R + 1)) i := fun i hi => ⟨kq_U_eq (fun k hk => hS k (by omega)), kq_M_eq (fun k hk => hS k (by omega))⟩
  have hU : kq_U S2 (G (R + 1)) (c + 1) = kq_U S (G (R + 1)) c + vt_tk s := by rw [kq_U_s, (hS' c (Nat.le_refl c)).1, s1]
  have hM : kq_M S2 (G (R + 1)) (c + 1) = kq_M S (G (R + 1)) c + vt_mk s := by rw [kq_M_s, (hS' c (Nat.le_refl c)).2, s1]
  obtain ⟨m1, m2, m3, m4, m5, m6⟩ := r2
  have x1 : ∀ j, j ≠ 6 → j ≠ 7 → j ≠ 8 → kb_g σ2 j = kb_g σ j := fun j h6 h7 h8 => by rw [r3, vt_gp, if_neg h8, vt_ga, vt_gp, if_neg h6]; exact m1 j h7
  have x2 : ∀ j x, j ≠ 3 → kb_a σ2 j x = kb_a σ1 j x := fun j x hj => by rw [r3, vt_ap, vt_aax, if_neg (by omega), vt_ap]
  refine ⟨S2, σ2, r1, ⟨⟨?_, ?_, ?_, ?_⟩, ⟨by omega, by omega, by rw [hU, hM]; have := kq_mk0 hs; omega⟩, fun i hi => ?_, fun i hi y hy => ?_, ⟨fun j h6 h7 h8 h14 h15 => ?_, fun j h3 h4 h5 => ?_, fun j hj => ?_, fun x hx => ?_, fun x hx => ?_⟩, ⟨fun j h6 h7 h10 => ?_, fun j h13 h18 => ?_⟩⟩, x1 14 (by decide) (by decide) (by decide), x1 15 (by decide) (by decide) (by decide), ?_, hU, hM, fun x hx => s2 x (by omega)⟩
  · rw [r3, hU]; rfl
  · rw [r3, hM]; show kb_g σ1 7 = _; rw [m2, Nat.add_assoc]
  · rw [r3]; rfl
  · rfl
  · by_cases hic : i = c
    · subst hic
      refine ⟨by rw [s1]; exact hs, ?_, ?_⟩
      · rw [r3, s1, vt_ap, vt_aax, if_pos ⟨rfl, rfl⟩]
      · rw [s1, vt_ap, vt_aax, if_pos ⟨rfl, rfl⟩]
    · obtain ⟨c2, c3, c4⟩ := c1 i (by omega)
      rw [hS i (by omega)]
      refine ⟨c2, ?_, ?_⟩
      · rw [r3, vt_ap, vt_aax, if_neg (by omega), vt_ap, m3 3 (by decide) (by decide)]; exact c3
      · rw [vt_ap, vt_aax, if_neg (by omega)]; exact c4
  · rw [(hS' i (by omega)).1, (hS' i (by omega)).2, x2 4 _ (by decide), x2 5 _ (by decide)]
    by_cases hic : i = c
    · subst hic
      rw [s1] at hy ⊢
      exact m6 y hy
    · rw [hS i (by omega)] at hy ⊢
      have hmm := (kq_mono (S := S) (g := G (R + 1)) (show i + 1 ≤ c by omega)).2
      rw [kq_M_s] at hmm
      obtain ⟨q1, q2⟩ := m5 (F (R + 1) + kq_M S (G (R + 1)) i + y) (by omega)
      rw [q1, q2]
      exact d1 i (by omega) y hy
  · rw [x1 j h6 h7 h8]; exact f1 j h6 h7 h8 h14 h15
  · rw [← f2 j h3 h4 h5, ← m3 j h4 h5]; funext x; exact x2 j x h3
  · rw [← f3 j hj, ← m4 j, r3]; rfl
  · rw [r3, vt_ap, vt_aax, if_neg (by omega), vt_ap, m3 3 (by decide) (by decide)]; exact f4 x hx
  · obtain ⟨q1, q2⟩ := m5 x (by omega)
    rw [x2 4 _ (by decide), x2 5 _ (by decide), q1, q2]; exact f5 x hx
  · rw [vt_gp, if_neg h10, vt_ga]; exact g1 j h6 h7 h10
  · rw [vt_ap, vt_aa, if_neg h13]; exact g2 j h13 h18
  · rw [← m4 1, r3]; rfl
/-- what hinders a stitch -/
def kq_fs (L u m f1 s : Nat) : Nat := if vt_tk s ≤ L - u then (if s = 8 ∧ L - u + m = 1 then 5 else if f1 + m + vt_mk s ≤ 600 then 0 else 6) else 4
theorem kq_fault0 {w : Int32} {R : Nat} {F G : Nat → Nat} {n : Nat} {K N O Wh : Nat → Nat} {sk : Nat → List Nat} {σp μp : kb_S} (he : kq_ev w R F G n K N O Wh sk σp μp) {S : Nat → Nat} {c s : Nat} {σ μ : kb_S} (h : kq_rw w R F G σp μp S c σ μ) (hs : vt_vs s = true) : fn_X0_faultOfStitch (nI s) σ = some (nI (kq_fs (F (R + 1) - F R) (kq_U S (G (R + 1)) c) (kq_M S (G (R + 1)) c) (F (R + 1)) s)) := by
  obtain ⟨⟨e1, e2, e3, e4, e5, e6, e7⟩, _⟩ := he
  obtain ⟨⟨a1, a2, a3, a4⟩, ⟨b1, b2, b3⟩, c1, d1, ⟨f1, f2, f3, f4, f5⟩, ⟨g1, g2⟩⟩ := h
  have hst := vt_st hs
  have hlt := vt_vs_lt hs
  have hF2 := e1.2.1
  have hleft : fn_X0_leftCount σ = nI (F (R + 1) - F R - kq_U S (G (R + 1)) c) := by
    unfold fn_X0_leftCount
    rw [a1, f1 3 (by decide) (by decide) (by decide) (by decide) (by decide), e1.2.2.1, pk_sub b1]
  have hmade : fn_X0_madeSoFar σ = some (nI (kq_M S (G (R + 1)) c)) := by
    unfold fn_X0_madeSoFar fn_X0_loopCount
    rw [f1 2 (by decide) (by decide) (by decide) (by decide) (by decide), e2, vt_1, nI_add, if_pos (vt_in' (by omega) (by omega)), nI_clamp (by omega), f2 1 (by decide) (by decide) (by decide), e4, Option.bind_some, a2, pk_sub (by omega), Nat.add_sub_cancel_left]
  have h34 : fp_X0_faultOfStitch_34 (nI s) σ = some (nI (if F (R + 1) + kq_M S (G (R + 1)) c + vt_mk s ≤ 600 then 0 else 6)) := by
    unfold fp_X0_faultOfStitch_34
    rw [hst.2.1, Option.bind_some, a2, nI_add, vt_600]
    by_cases h3 : F (R + 1) + kq_M S (G (R + 1)) c + vt_mk s ≤ 600
    · rw [if_pos (by rw [vt_leI (by omega) (by omega)]; exact h3), if_pos h3]; rfl
    · rw [if_neg (by rw [vt_leI (by omega) (by omega)]; exact h3), if_neg h3]; rfl
  unfold fn_X0_faultOfStitch kq_fs
  rw [hst.1, Option.bind_some, hleft, hmade, Option.bind_some, h34, nI_add, vt_1, vt_8]
  by_cases h3 : vt_tk s ≤ F (R + 1) - F R - kq_U S (G (R + 1)) c
  · rw [if_pos (by rw [vt_leI (by omega) (by omega)]; exact h3), if_pos h3]
    by_cases h4 : s = 8
    · rw [if_pos (by rw [h4])]
      by_cases h5 : F (R + 1) - F R - kq_U S (G (R + 1)) c + kq_M S (G (R + 1)) c = 1
      · rw [if_pos (by rw [h5]), if_pos ⟨h4, h5⟩]; rfl
      · rw [if_neg (by rw [vt_eqI (by omega) (by omega)]; exact h5), if_neg (show ¬ (s = 8 ∧ F (R + 1) - F R - kq_U S (G (R + 1)) c + kq_M S (G (R + 1)) c = 1) from fun h6 => h5 h6.2)]
    · rw [if_neg (by rw [vt_eqI (by omega) (by omega)]; exact h4), if_neg (show ¬ (s = 8 ∧ F (R + 1) - F R - kq_U S (G (R + 1)) c + kq_M S (G (R + 1)) c = 1) from fun h6 => h4 h6.1)]
  · rw [if_neg (by rw [vt_leI (by omega) (by omega)]; exact h3), if_neg h3]; rfl
theorem kq_fault9 {w : Int32} {R : Nat} {F G : Nat → Nat} {n : Nat} {K N O Wh : Nat → Nat} {sk : Nat → List Nat} {σp μp : kb_S} (he : kq_ev w R F G n K N O Wh sk σp μp) {S : Nat → Nat} {c s k i : Nat} {σ μ : kb_S} (h : kq_rw w R F G σp μp S c σ μ) (hs : vt_vs s = true) (hk : k < n) (hK : K k = s) (hi : i < N k) (hN : N k ≤ 99) (h6 : kb_g μ 6 = 0) (kc12 : Int32 → Int32 → Int32 → kb_S → Option kb_S) (fm : Nat) :
    ∀ f, f = kq_fs (F (R + 1) - F R) (kq_U S (G (R + 1)) c) (kq_M S (G (R + 1)) c) (F (R + 1)) s → fp_X9_flatten_254 kc12 (fm + 1) (nI (F (R + 1) - F R - kq_U S (G (R + 1)) c)) (nI (kq_M S (G (R + 1)) c)) (nI k) (nI s) (nI i) μ =
      fp_X9_flatten_254 kc12 fm (nI (F (R + 1) - F R - kq_U S (G (R + 1)) c) - nI (vt_tk s)) (nI (kq_M S (G (R + 1)) c + vt_mk s)) (nI k) (nI s) (nI (i + 1)) (kb_p (kb_ap (if f = 0 then μ else kb_p (kb_p μ 6 (nI f)) 7 (nI (Wh k))) 13 c (nI s)) 10 (nI (c + 1))) := by
  intro f hf
  obtain ⟨⟨e1, e2, e3, e4, e5, e6, e7⟩, ⟨n1, n2, n3⟩, _, n5, _, _⟩ := he
  obtain ⟨⟨a1, a2, a3, a4⟩, ⟨b1, b2, b3⟩, c1, d1, ⟨f1, f2, f3, f4, f5⟩, ⟨g1, g2⟩⟩ := h
  have hst := vt_st hs
  have hlt := vt_vs_lt hs
  have hF2 := e1.2.1
  have v3 := kq_vs3 hs
  have hsc := kq_sumc c (fun i hi => (c1 i hi).1)
  obtain ⟨k1, k2, k3, k4, k5, k6, k7⟩ := n5 k hk
  have k5' := k5 (by omega)
  have hin : kb_in (nI k) 220 = true := vt_in' (by omega) (by omega)
  have hstop : ∀ x, fn_X9_stops (nI x) (kb_a μ 11 k) μ = some (kb_p (kb_p μ 6 (nI x)) 7 (nI (Wh k))) := fun x => by
    unfold fn_X9_stops
    rw [if_pos (by rw [h6]; decide), g2 11 (by decide) (by decide), k5'.2.2]
  have h357 : ∀ μ1 : kb_S, kb_g μ1 10 = nI c → fp_X9_flatten_357 kc12 (fp_X9_flatten_254 kc12 fm) (nI (F (R + 1) - F R - kq_U S (G (R + 1)) c)) (nI (kq_M S (G (R + 1)) c)) (nI k) (nI s) (nI i) μ1 = fp_X9_flatten_254 kc12 fm (nI (F (R + 1) - F R - kq_U S (G (R + 1)) c) - nI (vt_tk s)) (nI (kq_M S (G (R + 1)) c + vt_mk s)) (nI k) (nI s) (nI (i + 1)) (kb_p (kb_ap μ1 13 c (nI s)) 10 (nI (c + 1))) := by
    intro μ1 h1
    unfold fp_X9_flatten_357
    rw [h1, if_pos (vt_in' (by omega) (by omega)), nI_clamp (by omega), hst.2.2.1, hst.2.2.2.1, nI_add, vt_1, nI_add, nI_add]
  have h326 : fp_X9_flatten_326 kc12 (fp_X9_flatten_254 kc12 fm) (nI (F (R + 1) - F R - kq_U S (G (R + 1)) c)) (nI (kq_M S (G (R + 1)) c)) (nI k) (nI s) (nI i) μ = fp_X9_flatten_254 kc12 fm (nI (F (R + 1) - F R - kq_U S (G (R + 1)) c) - nI (vt_tk s)) (nI (kq_M S (G (R + 1)) c + vt_mk s)) (nI k) (nI s) (nI (i + 1)) (kb_p (kb_ap (if F (R + 1) + kq_M S (G (R + 1)) c + vt_mk s ≤ 600 then μ else kb_p (kb_p μ 6 (nI 6)) 7 (nI (Wh k))) 13 c (nI s)) 10 (nI (c + 1))) := by
    unfold fp_X9_flatten_326
    rw [g1 3 (by decide) (by decide) (by decide), e5, hst.2.2.2.1, nI_add, nI_add, vt_600]
    by_cases h3 : F (R + 1) + kq_M S (G (R + 1)) c + vt_mk s ≤ 600
    · rw [if_pos (by rw [vt_leI (by omega) (by omega)]; exact h3), if_pos h3]; exact h357 μ a4
    · rw [if_neg (by rw [vt_leI (by omega) (by omega)]; exact h3), if_neg h3, if_pos hin, nI_clamp (by omega), vt_6, hstop, Option.bind_some]
      exact h357 _ a4
  rw [fp_X9_flatten_254_s]
  simp only [if_pos hin]
  rw [nI_clamp (by omega), g2 10 (by decide) (by decide), k2, if_neg (by rw [vt_leI (by omega) (by omega)]; omega), if_pos h6, hst.2.2.1, hf, vt_4, vt_5, hstop, hstop, h326, Option.bind_some, Option.bind_some, vt_8, nI_add, vt_1]
  unfold kq_fs
  by_cases h3 : vt_tk s ≤ F (R + 1) - F R - kq_U S (G (R + 1)) c
  · simp only [if_pos h3]
    rw [if_pos (by rw [vt_leI (by omega) (by omega)]; exact h3)]
    by_cases h4 : s = 8
    · rw [if_pos (by rw [h4])]
      by_cases h5 : F (R + 1) - F R - kq_U S (G (R + 1)) c + kq_M S (G (R + 1)) c = 1
      · rw [if_pos (by rw [h5])]
        simp only [if_pos (show s = 8 ∧ F (R + 1) - F R - kq_U S (G (R + 1)) c + kq_M S (G (R + 1)) c = 1 from ⟨h4, h5⟩)]
        rw [if_neg (by decide)]
        exact h357 _ a4
      · rw [if_neg (by rw [vt_eqI (by omega) (by omega)]; exact h5)]
        simp only [if_neg (show ¬ (s = 8 ∧ F (R + 1) - F R - kq_U S (G (R + 1)) c + kq_M S (G (R + 1)) c = 1) from fun h7 => h5 h7.2)]
        by_cases h7 : F (R + 1) + kq_M S (G (R + 1)) c + vt_mk s ≤ 600
        · simp only [if_pos h7]; rfl
        · simp only [if_neg h7]; rfl
    · rw [if_neg (by rw [vt_eqI (by omega) (by omega)]; exact h4)]
      simp only [if_neg (show ¬ (s = 8 ∧ F (R + 1) - F R - kq_U S (G (R + 1)) c + kq_M S (G (R + 1)) c = 1) from fun h7 => h4 h7.1)]
      by_cases h7 : F (R + 1) + kq_M S (G (R + 1)) c + vt_mk s ≤ 600
      · simp only [if_pos h7]; rfl
      · simp only [if_neg h7]; rfl
  · simp only [if_neg h3]
    rw [if_neg (by rw [vt_leI (by omega) (by omega)]; exact h3), if_neg (by decide)]
    exact h357 _ a4
