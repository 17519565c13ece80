/-! work -/
theorem kq_406f {μ : kb_S} {f : Nat} (h1 : 1 ≤ f) (h2 : f ≤ 9) (h : kb_g μ 6 = nI f) (x2 x3 : Int32) : fp_X9_flatten_406 x2 x3 μ = some μ := by
  have hs : ∀ a b, fn_X9_stops a b μ = some μ := fun a b => by
    unfold fn_X9_stops
    rw [h, if_neg (by rw [vt_0, vt_leI (by omega) (by omega)]; omega)]
  unfold fp_X9_flatten_406 fp_X9_flatten_420 fp_X9_flatten_436
  simp only [hs, Option.bind_some, ite_self]
/-- what hinders the row as a whole -/
def kq_fw (L m R : Nat) : Nat := if 0 < L then 7 else if 40 < m then 8 else if R = 30 then 9 else 0
theorem kq_406g {μ : kb_S} {L m R tl : Nat} (hL : L ≤ 1000) (hm : m ≤ 1000) (hR : R ≤ 30) (h6 : kb_g μ 6 = 0) (h1 : kb_g μ 1 = nI tl) (h4 : kb_g μ 4 = nI R) : fp_X9_flatten_406 (nI L) (nI m) μ = some (if kq_fw L m R = 0 then μ else kb_p (kb_p μ 6 (nI (kq_fw L m R))) 7 (nI tl)) := by
  have hs : ∀ a, fn_X9_stops (nI a) (nI tl) μ = some (kb_p (kb_p μ 6 (nI a)) 7 (nI tl)) := fun a => by
    unfold fn_X9_stops
    rw [h6, if_pos (by decide)]
  have hs2 : ∀ a b, 1 ≤ b → b ≤ 9 → fn_X9_stops (nI a) (nI tl) (kb_p (kb_p μ 6 (nI b)) 7 (nI tl)) = some (kb_p (kb_p μ 6 (nI b)) 7 (nI tl)) := fun a b hb1 hb2 => by
    unfold fn_X9_stops
    rw [show kb_g (kb_p (kb_p μ 6 (nI b)) 7 (nI tl)) 6 = nI b from rfl, if_neg (by rw [vt_0, vt_leI (by omega) (by omega)]; omega)]
  have g1 : ∀ b : Nat, kb_g (kb_p (kb_p μ 6 (nI b)) 7 (nI tl)) 1 = nI tl := fun b => h1
  have g4 : ∀ b : Nat, kb_g (kb_p (kb_p μ 6 (nI b)) 7 (nI tl)) 4 = nI R := fun b => h4
  have e0 : (nI L ≤ (0 : Int32)) = (L ≤ 0) := vt_leI (b := 0) (by omega) (by omega)
  have e40 : (nI m ≤ (40 : Int32)) = (m ≤ 40) := vt_leI (b := 40) (by omega) (by omega)
  have e30 : (nI R = (30 : Int32)) = (R = 30) := vt_eqI (b := 30) (by omega) (by omega)
  unfold fp_X9_flatten_406 fp_X9_flatten_420 fp_X9_flatten_436 kq_fw
  rw [vt_7, vt_8, vt_9]
  by_cases c1 : 0 < L
  · rw [if_neg (by rw [e0]; omega), h1, hs, Option.bind_some]
    simp only [if_pos c1, g1, g4, hs2 8 7 (by omega) (by omega), hs2 9 7 (by omega) (by omega), Option.bind_some, ite_self]
    rw [if_neg (by decide)]
  · rw [if_pos (by rw [e0]; omega)]
    simp only [if_neg c1]
    by_cases c2 : 40 < m
    · rw [if_neg (by rw [e40]; omega), h1, hs, Option.bind_some]
      simp only [if_pos c2, g1, g4, hs2 9 8 (by omega) (by omega), Option.bind_some, ite_self]
      rw [if_neg (by decide)]
    · rw [if_pos (by rw [e40]; omega)]
      simp only [if_neg c2]
      rw [h4, h1]
      by_cases c3 : R = 30
      · rw [if_pos (by rw [e30]; exact c3), hs, Option.bind_some]
        simp only [if_pos c3]
        rw [if_neg (by decide)]
      · rw [if_neg (by rw [e30]; exact c3)]
        simp only [if_neg c3]
        rw [if_pos trivial]
theorem kq_work_eq (μ : kb_S) : fn_X9_work μ = (fn_X9_line (kb_p (kb_p (kb_p (kb_p (kb_p μ 0 0) 5 0) 6 0) 8 0) 9 0)).bind fun q1 => (kq_tail q1).bind fp_X9_work_48 := by
  unfold fn_X9_work kq_tail
  congr 1; funext q1
  by_cases h : kb_g q1 6 = 0
  · rw [if_pos h, if_pos h]
    cases fn_X9_seeWord q1 with
    | none => rfl
    | some q3 =>
        rw [Option.bind_some, Option.bind_some]
        by_cases h2 : q3.2 < 0
        · rw [if_pos h2, if_pos h2]; rfl
        · rw [if_neg h2, if_neg h2]
  · rw [if_neg h, if_neg h]; rfl
theorem kq_fault_I {σ μ σ2 μ2 : kb_S} {T : Option kb_S} (h : vt_I σ T μ) (hF : ∀ w R F G S, vt_K R F G S → vt_F w R F G S σ μ → vt_F w R F G S (kb_p σ2 0 0) (kb_p μ2 1 0)) (h11 : kb_g μ2 11 = kb_g μ 11) (h14 : kb_a μ2 14 = kb_a μ 14) : vt_I (kb_p σ2 0 0) T (kb_p μ2 1 0) := by
  obtain ⟨⟨tl, tp, hT⟩, ⟨w, R, F, G, S, hK, hFF⟩, hO⟩ := h
  exact ⟨⟨0, tp, by omega, rfl, rfl, fun i hi => absurd hi (by omega)⟩, ⟨w, R, F, G, S, hK, hF w R F G S hK hFF⟩, hO.mu h11 h14⟩
theorem kq_big {n : Nat} (h : n ≤ 200) : (640 - 0) * 402 + (n - 0) + 201 * 1 ≤ 300000 := by
  have : (640 - 0) * 402 = 257280 := rfl
  rw [this]; omega
theorem vt_ok_work : ok_work vt_I := by
  intro σ T μ hI
  have hI0 := hI
  obtain ⟨⟨tl, tp, hT⟩, ⟨w, R, F, G, S, hK, hF⟩, hO⟩ := hI
  have htl := hT.1
  obtain ⟨b, hb1, hb2⟩ : ∃ b : Nat → Nat, (∀ i, i < tl → b i = tp i) ∧ ∀ i, tl ≤ i → b i = 300 := ⟨fun i => if i < tl then tp i else 300, fun i hi => if_pos hi, fun i hi => if_neg (by omega)⟩
  have htc : kq_tc tl b σ := ⟨htl, hT.2.1, fun i hi => by rw [hb1 i hi]; exact ⟨(hT.2.2.2 i hi).1, (hT.2.2.2 i hi).2.1⟩, hb2⟩
  have htm : kq_tm tl b (kb_p μ 0 0) := ⟨htl, hT.2.2.1, fun i hi => by rw [hb1 i hi]; exact ⟨(hT.2.2.2 i hi).1, (hT.2.2.2 i hi).2.2⟩, hb2⟩
  have hread := kq_read htc htm (tl - 0) 0 0 true (fun _ => 0) (fun _ => 0) (fun _ => 0) (fun _ => 0) (fun _ => []) (kb_p (kb_p (kb_p (kb_p (kb_bp (kb_p (kb_p σ 16 0) 9 0) 0 0 0) 10 0) 11 0) 12 1) 13 0) (kb_p (kb_p (kb_p (kb_p (kb_p μ 0 0) 5 0) 6 0) 8 0) 9 0) 0 kb_FU kb_FU kb_FU 1 rfl
    ⟨⟨fun j hj => by rw [vt_gp, if_neg (by omega), vt_gp, if_neg (by omega), vt_gp, if_neg (by omega), vt_gp, if_neg (by omega), vt_gb, vt_gp, if_neg (by omega), vt_gp, if_neg (by omega)], fun j hj => rfl, fun j hj => by rw [vt_gp, if_neg (by omega), vt_gp, if_neg (by omega), vt_gp, if_neg (by omega), vt_gp, if_neg (by omega)], fun j hj => rfl⟩, ⟨rfl, rfl, by omega, fun _ => by simp, by simp⟩, ⟨rfl, rfl, rfl, rfl⟩, ⟨rfl, rfl, by simp⟩, ⟨rfl, rfl⟩, ⟨rfl, fun o ho => absurd ho (by simp), fun k hk => absurd hk (by omega)⟩, fun k hk => absurd hk (by omega), trivial, fun k hk => absurd hk (by omega), fun h => absurd h (by decide)⟩ (by omega) (by rw [vt_fu]; omega) (by rw [vt_fu]; omega) (by rw [vt_fu]; omega) (by decide)
  obtain ⟨σ2, v, μ2, μ3, r1, r2, r3, r4⟩ := hread
  rw [if_pos rfl] at r2
  have hC : fn_X4_readTape σ = some (σ2, v) := by
    unfold fn_X4_readTape fn_X3_clear
    rw [Option.bind_some, if_pos (by decide)]
    exact r1
  have hR : fn_X9_work μ = fp_X9_work_48 μ3 := by
    rw [kq_work_eq]
    unfold fn_X9_line
    rw [r2, Option.bind_some, r3, Option.bind_some]
  rw [hR]
  unfold fn_X8_work
  rw [hC, Option.bind_some]
  rcases r4 with ⟨s, s1, s2, s3, s4, s5, s6⟩ | ⟨hv, n, K, N, O, Wh, sk, hfin⟩
  · -- a fault of the text
    simp only
    rw [if_neg (by rw [s4]; exact fun h => s1 ((kq_code0 s2 s3).mp h))]
    have h6 : ¬ kb_g μ3 6 = 0 := by rw [s6.2.2.1, vt_0, vt_eqI (by omega) (by omega)]; exact s1
    refine ⟨kb_p σ2 0 0, kb_p μ3 1 0, v, rfl, ?_, kq_fault_I hI0 (fun w R F G S hK hF => ?_) ?_ ?_⟩
    · unfold fp_X9_work_48 fp_X9_work_63
      rw [if_neg h6, if_neg (by rw [s6.2.2.1, vt_0, vt_leI (by omega) (by omega)]; omega), s6.2.2.1, s6.2.2.2, show (1000 : Int32) = nI 1000 from rfl, pk_mul, nI_add, s4]
      unfold kq_code; rw [if_neg s1]
    · refine kq_F_cf hK hF (fun k k1 k2 => ?_) (fun k k1 k2 => s5.2.1 k (by omega)) (fun x _ => by rw [vt_ap, s5.2.1 3 (by omega)]) (fun x _ => by rw [vt_ap, vt_ap, s5.2.1 4 (by omega), s5.2.1 5 (by omega)]; exact ⟨rfl, rfl⟩) (fun k k1 k2 => ?_) (fun k k1 k2 => ?_)
      · rw [vt_gp, if_neg (by omega)]; exact s5.1 k (by omega)
      · rw [vt_gp, if_neg (by omega), s6.1 k (by omega), vt_gp, if_neg (by omega)]
      · rw [vt_ap, s6.2.1 k (by omega)]; rfl
    · rw [s6.1 11 (by omega)]; rfl
    · rw [s6.2.1 14 (by omega)]; rfl
  · -- the text is right
    obtain ⟨⟨f1, f2, f3, f4⟩, ⟨n1, n2, n3, n4, n5⟩, hok, hmk, hrp, hsk⟩ := hfin
    simp only
    rw [if_pos hv]
    have hKK := hK
    have hFF := hF
    obtain ⟨k1, k2, k3, k4, k5, k6, k7, k8⟩ := hK
    obtain ⟨b1, b2, b3, b4, b5, b6, b7, b8, b9, b10, b11, b12, b13⟩ := hF
    have hFR := k6 R (Nat.le_refl R)
    have hrow := b10 (R + 1) (by omega)
    obtain ⟨σs, hσs⟩ : ∃ σs, σs = kb_p (kb_p (kb_p (kb_p (kb_p σ2 14 0) 15 0) 6 0) 7 (nI (F (R + 1)))) 8 (nI (G (R + 1))) := ⟨_, rfl⟩
    obtain ⟨μs, hμs⟩ : ∃ μs, μs = kb_p μ3 10 0 := ⟨_, rfl⟩
    have hstart : fn_X0_startRow (kb_p (kb_p σ2 14 0) 15 0) = some σs := by
      unfold fn_X0_startRow fn_X0_loopCount
      rw [show kb_g (kb_p (kb_p (kb_p σ2 14 0) 15 0) 6 0) 2 = nI R by show kb_g σ2 2 = _; rw [f1 2 (by omega)]; exact b4, show kb_g (kb_p (kb_p σ2 14 0) 15 0) 2 = nI R by show kb_g σ2 2 = _; rw [f1 2 (by omega)]; exact b4, vt_1, nI_add]
      simp only [if_pos (vt_in' (n := R + 1) (m := 32) (by omega) (by omega)), nI_clamp (show R + 1 < 2 ^ 31 by omega), Option.bind_some]
      rw [vt_ap, vt_ap, vt_ap, vt_ap, vt_ap, f2 1 (by omega), f2 2 (by omega), hrow.1, hrow.2.1, hσs]
    have gσ : ∀ j, j ≠ 6 → j ≠ 7 → j ≠ 8 → j ≠ 14 → j ≠ 15 → kb_g σs j = kb_g σ2 j := fun j h6 h7 h8 h14 h15 => by rw [hσs, vt_gp, if_neg h8, vt_gp, if_neg h7, vt_gp, if_neg h6, vt_gp, if_neg h15, vt_gp, if_neg h14]
    have aσ : ∀ j, kb_a σs j = kb_a σ2 j := fun j => by rw [hσs]; rfl
    have gμ : ∀ j, j ≠ 10 → kb_g μs j = kb_g μ3 j := fun j hj => by rw [hμs, vt_gp, if_neg hj]
    have aμ : ∀ j, kb_a μs j = kb_a μ3 j := fun j => by rw [hμs]; rfl
    have hFs : vt_F w R F G S σs μs := by
      refine kq_F_cf hKK hFF (fun k k1 k2 => ?_) (fun k k1 k2 => ?_) (fun x _ => ?_) (fun x _ => ?_) (fun k k1 k2 => ?_) (fun k k1 k2 => ?_)
      · rw [gσ k (by omega) (by omega) (by omega) (by omega) (by omega)]; exact f1 k (by omega)
      · rw [aσ]; exact f2 k (by omega)
      · rw [aσ, f2 3 (by omega)]
      · rw [aσ, aσ, f2 4 (by omega), f2 5 (by omega)]; exact ⟨rfl, rfl⟩
      · rw [gμ k (by omega), f3 k (by omega), vt_gp, if_neg (by omega)]
      · rw [aμ, f4 k (by omega)]; rfl
    have hFs' := hFs
    obtain ⟨c1, c2, c3, c4, c5, c6, c7, c8, c9, c10, c11, c12, c13⟩ := hFs
    have hGle := vt_G_le hKK (R + 1) (Nat.le_refl _)
    rw [Nat.add_sub_cancel] at hGle
    have hev : kq_ev w R F G n K N O Wh sk σs μs := ⟨⟨⟨Nat.le_of_lt hFR.1, k5, c7, c8, c9⟩, c4, k1, (c10 (R + 1) (by omega)).1, c6, hGle, hFR.2.1⟩, ⟨n1, by rw [gσ 16 (by decide) (by decide) (by decide) (by decide) (by decide)]; exact n2, by rw [gμ 9 (by decide)]; exact n3⟩, hok, fun k hk => (hmk k hk).same rfl rfl rfl rfl (fun j _ _ => by rw [aσ]) (fun j _ _ => by rw [aμ]), fun k hk h22 hO2 => by
      obtain ⟨h, T, W, B, t1, t2, t3, t4⟩ := hrp k hk h22 hO2
      exact ⟨h, T, W, B, t1, t2, t3, by rw [hσs]; exact t4⟩, hsk⟩
    have hrw : kq_rw w R F G σs μs S 0 σs μs := ⟨⟨by rw [hσs]; rfl, by rw [hσs]; rfl, by rw [hσs]; rfl, by rw [hμs]; rfl⟩, ⟨by show 0 ≤ _; omega, by show F (R + 1) + 0 ≤ 600; omega, by show 1 ≤ F (R + 1) - F R - 0 + 0; omega⟩, fun i hi => absurd hi (by omega), fun i hi => absurd hi (by omega), ⟨fun _ _ _ _ _ _ => rfl, fun _ _ _ _ => rfl, fun _ _ => rfl, fun _ _ => rfl, fun _ _ => ⟨rfl, rfl⟩⟩, ⟨fun _ _ _ _ => rfl, fun _ _ _ => rfl⟩⟩
    have hlen : fn_X7_length σ2 = nI tl := by unfold fn_X7_length; rw [f1 0 (by omega)]; exact hT.2.1
    have hok0 : sk 0 = [] := hok.1
    have hknit := kq_knit hev (nI tl) 300000 S 0 0 1 σs μs 0 kb_FU kb_FU ⟨hrw, by omega, by rw [hok0, hσs]; rfl, by rw [hok0]; trivial, by rw [hσs]; rfl, by rw [gμ 6 (by decide)]; exact n5, fun h => absurd h (by decide)⟩ (by omega) (kq_big n1) (by omega) (by rw [vt_fu]; omega) (by rw [vt_fu]; omega)
    obtain ⟨σ4, μ4, x2, x3, j1, j2, j3⟩ := hknit
    have hkp : fn_X2_knitPlan (fn_X7_length σ2) σ2 = fp_X2_knitPlan_57 (nI tl) σ4 := by
      unfold fn_X2_knitPlan
      rw [hstart, Option.bind_some, hlen]; exact j1
    have hlive : fn_X9_liveLoops μ3 = some (nI (F (R + 1) - F R)) := by
      have := vt_live9 hKK hFs'
      rw [← this]
      unfold fn_X9_liveLoops
      rw [gμ 4 (by decide), gμ 3 (by decide), aμ]
    have hfl : fp_X9_work_48 μ3 = (fp_X9_flatten_406 x2 x3 μ4).bind fp_X9_work_63 := by
      unfold fp_X9_work_48
      rw [if_pos n5, hlive, Option.bind_some]
      unfold fn_X9_flatten
      rw [← hμs]
      have j2' : fp_X9_flatten_12 kb_FU (nI (F (R + 1) - F R)) 0 0 μs = fp_X9_flatten_406 x2 x3 μ4 := j2
      rw [j2']
    rw [hkp, hfl]
    have hmem : ∀ σ5 μ5, kq_cf R F G σs σ5 → kq_mf μs μ5 → vt_I (kb_p σ5 0 0) T (kb_p μ5 1 0) := by
      intro σ5 μ5 hcf hmf
      refine ⟨⟨0, tp, by omega, rfl, rfl, fun i hi => absurd hi (by omega)⟩, ⟨w, R, F, G, S, hKK, ?_⟩, hO.mu ?_ ?_⟩
      · refine kq_F_cf hKK hFs' (fun k k1 k2 => ?_) (fun k k1 k2 => hcf.2.1 k (by omega) (by omega) (by omega)) hcf.2.2.2.1 hcf.2.2.2.2 (fun k k1 k2 => ?_) (fun k k1 k2 => hmf.2 k (by omega) (by omega))
        · rw [vt_gp, if_neg (by omega)]; exact hcf.1 k (by omega) (by omega) (by omega) (by omega) (by omega)
        · rw [vt_gp, if_neg (by omega)]; exact hmf.1 k (by omega) (by omega) (by omega)
      · show kb_g μ5 11 = _; rw [hmf.1 11 (by decide) (by decide) (by decide), gμ 11 (by decide), f3 11 (by omega)]; rfl
      · show kb_a μ5 14 = _; rw [hmf.2 14 (by decide) (by decide), aμ, f4 14 (by omega)]; rfl
    have hans : ∀ f pl : Nat, 1 ≤ f → f ≤ 9 → pl ≤ 200 → ¬ (-(nI (1000 * f + pl)) = (0 : Int32)) := by
      intro f pl h1 h2 h3 h4
      have h5 := congrArg (fun z : Int32 => -z) h4
      simp only [Int32.neg_neg, Int32.neg_zero] at h5
      rw [vt_0, vt_eqI (by omega) (by omega)] at h5
      omega
    have hbad : ∀ (σ5 μ5 : kb_S) (f pl : Nat), 1 ≤ f → f ≤ 9 → pl ≤ 200 → kb_g σ5 15 = -(nI (1000 * f + pl)) → kb_g μ5 6 = nI f → kb_g μ5 7 = nI pl → fp_X2_knitPlan_76 σ5 = some (σ5, -(nI (1000 * f + pl))) ∧ fp_X9_work_63 μ5 = some (kb_p μ5 1 0, -(nI (1000 * f + pl))) := by
      intro σ5 μ5 f pl h1 h2 h3 h4 h5 h6
      constructor
      · unfold fp_X2_knitPlan_76
        rw [h4, if_neg (hans f pl h1 h2 h3)]
      · unfold fp_X9_work_63
        rw [h5, if_neg (by rw [vt_0, vt_leI (by omega) (by omega)]; omega), h6, show (1000 : Int32) = nI 1000 from rfl, pk_mul, nI_add]
    rcases j3 with ⟨S2, c, y1, y2, y3, y4, y5, y6⟩ | ⟨f, pl, h1, h2, h3, h4, h5, h6, h7, h8⟩
    · -- the plan is worked
      have hcf := y1.2.2.2.2.1
      have hmf := y1.2.2.2.2.2
      have hu := y1.2.1
      have hcs := kq_sumc c (fun i hi => (y1.2.2.1 i hi).1)
      have hleft : fn_X0_leftCount σ4 = nI (F (R + 1) - F R - kq_U S2 (G (R + 1)) c) := by
        unfold fn_X0_leftCount
        rw [y1.1.1, hcf.1 3 (by decide) (by decide) (by decide) (by decide) (by decide), c7, pk_sub hu.1]
      have hmade : fn_X0_madeSoFar σ4 = some (nI (kq_M S2 (G (R + 1)) c)) := by
        unfold fn_X0_madeSoFar fn_X0_loopCount
        rw [hcf.1 2 (by decide) (by decide) (by decide) (by decide) (by decide), c4, vt_1, nI_add, if_pos (vt_in' (by omega) (by omega)), nI_clamp (by omega), hcf.2.1 1 (by decide) (by decide) (by decide), (c10 (R + 1) (by omega)).1, Option.bind_some, y1.1.2.1, pk_sub (by omega), Nat.add_sub_cancel_left]
      have hfr : fn_X0_faultOfRow σ4 = some (nI (kq_fw (F (R + 1) - F R - kq_U S2 (G (R + 1)) c) (kq_M S2 (G (R + 1)) c) R)) := by
        unfold fn_X0_faultOfRow kq_fw
        rw [hleft, hmade, Option.bind_some, hcf.1 2 (by decide) (by decide) (by decide) (by decide) (by decide), c4]
        by_cases d1 : 0 < F (R + 1) - F R - kq_U S2 (G (R + 1)) c
        · rw [if_neg (by rw [vt_0, vt_leI (by omega) (by omega)]; omega), if_pos d1]; rfl
        · rw [if_pos (by rw [vt_0, vt_leI (by omega) (by omega)]; omega), if_neg d1]
          by_cases d2 : 40 < kq_M S2 (G (R + 1)) c
          · rw [if_neg (by rw [vt_40, vt_leI (by omega) (by omega)]; omega), if_pos d2]; rfl
          · rw [if_pos (by rw [vt_40, vt_leI (by omega) (by omega)]; omega), if_neg d2]
            by_cases d3 : R = 30
            · rw [if_neg (by rw [vt_30, vt_ltI (by omega) (by omega)]; omega), if_pos d3]; rfl
            · rw [if_pos (by rw [vt_30, vt_ltI (by omega) (by omega)]; omega), if_neg d3]; rfl
      have h406 := kq_406g (μ := μ4) (L := F (R + 1) - F R - kq_U S2 (G (R + 1)) c) (m := kq_M S2 (G (R + 1)) c) (R := R) (tl := tl) (by omega) (by omega) k1 y5 (by rw [hmf.1 1 (by decide) (by decide) (by decide), gμ 1 (by decide), f3 1 (by omega)]; exact hT.2.2.1) (by rw [hmf.1 4 (by decide) (by decide) (by decide)]; exact c5)
      rw [y2, y3, h406, Option.bind_some]
      unfold fp_X2_knitPlan_57
      rw [if_pos y4, hfr, Option.bind_some]
      have hfw9 : kq_fw (F (R + 1) - F R - kq_U S2 (G (R + 1)) c) (kq_M S2 (G (R + 1)) c) R ≤ 9 ∧ (kq_fw (F (R + 1) - F R - kq_U S2 (G (R + 1)) c) (kq_M S2 (G (R + 1)) c) R = 0 → ¬ 0 < F (R + 1) - F R - kq_U S2 (G (R + 1)) c ∧ ¬ 40 < kq_M S2 (G (R + 1)) c ∧ ¬ R = 30) := by
        unfold kq_fw
        split
        · exact ⟨by omega, fun h => absurd h (by decide)⟩
        · split
          · exact ⟨by omega, fun h => absurd h (by decide)⟩
          · split
            · exact ⟨by omega, fun h => absurd h (by decide)⟩
            · exact ⟨by omega, fun _ => ⟨by assumption, by assumption, by assumption⟩⟩
      generalize kq_fw (F (R + 1) - F R - kq_U S2 (G (R + 1)) c) (kq_M S2 (G (R + 1)) c) R = f at *
      by_cases hf0 : f = 0
      · subst hf0
        obtain ⟨q1, q2, q3⟩ := hfw9.2 rfl
        have hnote : fn_X2_note (nI 0) (nI tl) σ4 = some σ4 := by unfold fn_X2_note; rw [if_pos (show nI 0 = 0 from rfl)]
        rw [hnote, Option.bind_some, if_pos rfl]
        obtain ⟨F', hF1, hF2⟩ := kq_fup F (R + 2) (F (R + 1) + kq_M S2 (G (R + 1)) c)
        obtain ⟨G', hG1, hG2⟩ := kq_fup G (R + 2) (G (R + 1) + c)
        have hKn := kq_keptK hKK (by omega) hF1 hF2 hG1 hG2 y6 (fun i hi => (y1.2.2.1 i hi).1) (by omega) hu.2.1 (by omega) (by omega) (by omega)
        obtain ⟨σ5, μ5, t1, t2, t3, t4, t5, t6, t7⟩ := kq_kept (σi := σ) (μi := μ) hKK hFs' (by omega) hF1 hF2 hG1 hG2 y6 y1 (by omega) (by omega) (by omega)
        have hlv := vt_live9 hKn t3
        unfold fp_X2_knitPlan_76 fp_X9_work_63
        rw [if_pos y4, t1, Option.bind_some, Option.bind_some, if_pos (show kb_g μ4 6 ≤ 0 by rw [y5]; decide), t2, Option.bind_some, hlv, Option.bind_some]
        refine ⟨kb_p σ5 0 0, μ5, _, rfl, ?_, ⟨⟨0, tp, by omega, rfl, ?_, fun i hi => absurd hi (by omega)⟩, ⟨w, R + 1, F', G', S2, hKn, ?_⟩, hO.mu ?_ ?_⟩⟩
        · unfold fn_X0_liveCount; rw [t3.2.2.2.2.2.2.1]
        · rw [t6 1 (by omega)]; rfl
        · exact t3.same (fun k k1 k2 => ⟨by rw [vt_gp, if_neg (by omega)], rfl⟩) (fun _ _ _ => rfl) (fun _ _ _ => rfl)
        · rw [t6 11 (by omega)]; show kb_g μ4 11 = _; rw [hmf.1 11 (by decide) (by decide) (by decide), gμ 11 (by decide), f3 11 (by omega)]; rfl
        · rw [t7 14 (by omega), hmf.2 14 (by decide) (by decide), aμ, f4 14 (by omega)]; rfl
      · have hnote : fn_X2_note (nI f) (nI tl) σ4 = some (kb_p σ4 15 (-(nI (1000 * f + tl)))) := by
          unfold fn_X2_note fn_X1_answer
          rw [if_neg (by rw [vt_0, vt_eqI (by omega) (by omega)]; exact hf0), show (1000 : Int32) = nI 1000 from rfl, pk_mul, nI_add]
        rw [hnote, Option.bind_some, if_neg hf0]
        obtain ⟨z1, z2⟩ := hbad (kb_p σ4 15 (-(nI (1000 * f + tl)))) (kb_p (kb_p μ4 6 (nI f)) 7 (nI tl)) f tl (by omega) hfw9.1 htl rfl rfl rfl
        rw [z1, z2, Option.bind_some]
        refine ⟨_, _, _, rfl, rfl, hmem _ _ ⟨fun j h6 h7 h8 h14 h15 => ?_, hcf.2.1, hcf.2.2.1, hcf.2.2.2.1, hcf.2.2.2.2⟩ ⟨fun j h6 h7 h10 => ?_, hmf.2⟩⟩
        · rw [vt_gp, if_neg h15]; exact hcf.1 j h6 h7 h8 h14 h15
        · rw [vt_gp, if_neg h7, vt_gp, if_neg h6]; exact hmf.1 j h6 h7 h10
    · -- a fault of the plan
      rw [kq_406f h1 h2 h5, Option.bind_some]
      unfold fp_X2_knitPlan_57
      rw [if_neg (by rw [h4]; exact hans f pl h1 h2 h3)]
      obtain ⟨z1, z2⟩ := hbad σ4 μ4 f pl h1 h2 h3 h4 h5 h6
      rw [z1, z2, Option.bind_some]
      exact ⟨_, _, _, rfl, rfl, hmem σ4 μ4 h7 h8⟩
