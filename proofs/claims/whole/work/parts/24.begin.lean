theorem vt_fill {w : Int32} {R f f2 : Nat} {σ : kb_S} (h1 : kb_g σ 1 = w) (h2 : kb_g σ 2 = nI R) (hR : R ≤ 30) (h3 : kb_a σ 1 R = nI f) (h4 : kb_a σ 1 (R + 1) = nI f2) (h5 : f ≤ f2) : fn_X0_fillNeedle σ = some (kb_p (kb_p (kb_p σ 3 (nI (f2 - f))) 4 (if w = 0 then nI f2 - nI 1 else nI f)) 5 (vt_stp w)) := by
  unfold fn_X0_fillNeedle fp_X0_fillNeedle_44 fp_X0_fillNeedle_60 vt_stp
  have e1 : kb_in (kb_g σ 2) 32 = true := by rw [h2]; exact vt_in' (by omega) (by omega)
  have e2 : kb_in (kb_g σ 2 + 1) 32 = true := by rw [h2, vt_1, nI_add]; exact vt_in' (by omega) (by omega)
  rw [if_pos e1, if_pos e2, h2, vt_1, nI_add, nI_clamp (by omega), nI_clamp (by omega), h3, h4, pk_sub h5]
  simp only [vt_gp, h1, Nat.reduceEqDiff, if_false]
  by_cases hw : w = 0
  · simp only [if_pos hw, Nat.reduceEqDiff, if_false, hw]; rfl
  · simp only [if_neg hw, Nat.reduceEqDiff, if_false]
theorem vt_mkLoop {e : Nat} {σ : kb_S} (he : kb_g σ 7 = nI e) (h : e < 600) (p c : Int32) : fn_X0_makeLoop p c σ = some (kb_p (kb_ap (kb_ap σ 5 e (if c ≤ 0 then -1 else fn_X0_needleLoop p σ)) 4 e c) 7 (nI (e + 1))) := by
  unfold fn_X0_makeLoop fp_X0_makeLoop_31
  have e1 : kb_in (kb_g σ 7) 600 = true := by rw [he]; exact vt_in' (by omega) (by omega)
  rw [if_neg (by rw [he, vt_600, vt_leI (by omega) (by omega)]; omega)]
  simp only [if_pos e1]
  rw [he, nI_clamp (by omega), vt_1, nI_add]
  by_cases hc : c ≤ 0
  · rw [if_pos hc, if_pos hc]
  · rw [if_neg hc, if_neg hc]
theorem vt_cast0 {n : Nat} (hn : n ≤ 40) : ∀ (m fu i : Nat) (σ : kb_S), m < fu → i + m = n → kb_g σ 7 = nI i → ∃ σ2, fp_X0_castOn_38 fu (nI n) (nI i) σ = fn_X0_fillNeedle (kb_ap σ2 1 1 (nI n)) ∧ (∀ j, j ≠ 7 → kb_g σ2 j = kb_g σ j) ∧ (∀ j, j ≠ 4 → j ≠ 5 → kb_a σ2 j = kb_a σ j) ∧ (∀ x, x < i → kb_a σ2 4 x = kb_a σ 4 x) ∧ ∀ x, i ≤ x → x < n → kb_a σ2 4 x = nI 0 := by
  intro m
  induction m with
  | zero =>
      intro fu i σ h1 h2 h3
      obtain ⟨k, rfl⟩ : ∃ k, fu = k + 1 := ⟨fu - 1, by omega⟩
      refine ⟨σ, ?_, fun _ _ => rfl, fun _ _ _ => rfl, fun _ _ => rfl, fun x h4 h5 => by omega⟩
      rw [fp_X0_castOn_38_s, if_pos (by rw [vt_leI (by omega) (by omega)]; omega), if_pos (by decide), h3, show i = n by omega]
      show (fn_X0_fillNeedle (kb_ap σ 1 1 (nI n))).bind _ = _
      cases fn_X0_fillNeedle (kb_ap σ 1 1 (nI n)) <;> rfl
  | succ m ih =>
      intro fu i σ h1 h2 h3
      obtain ⟨k, rfl⟩ : ∃ k, fu = k + 1 := ⟨fu - 1, by omega⟩
      obtain ⟨σ2, r1, r2, r3, r4, r5⟩ := ih k (i + 1) (kb_p (kb_ap (kb_ap σ 5 i (-1)) 4 i (nI 0)) 7 (nI (i + 1))) (by omega) (by omega) rfl
      refine ⟨σ2, ?_, fun j hj => ?_, fun j hj hj2 => ?_, fun x hx => ?_, fun x hx hx2 => ?_⟩
      · rw [fp_X0_castOn_38_s, if_neg (by rw [vt_leI (by omega) (by omega)]; omega), vt_mkLoop h3 (by omega), Option.bind_some, if_pos (by decide), vt_1, nI_add]
        exact r1
      · rw [r2 j hj]; simp only [vt_gp, vt_ga, if_neg hj]
      · rw [r3 j hj hj2]; simp only [vt_ap, vt_aa, if_neg hj, if_neg hj2]
      · rw [r4 x (by omega)]; simp only [vt_ap, vt_aa, if_true, vt_upd, if_neg (show ¬ x = i by omega)]; rfl
      · by_cases hx3 : x = i
        · rw [r4 x (by omega)]; simp only [vt_ap, vt_aa, if_true, vt_upd, if_pos hx3]
        · exact r5 x (by omega) hx2
theorem vt_newLoop {e : Nat} {μ : kb_S} (he : kb_g μ 3 = nI e) (h : e < 600) (r : Int32) : fn_X9_newLoop r μ = some (kb_p (kb_ap (kb_ap (kb_ap (kb_ap μ 1 e r) 2 e (nI 0)) 3 e (nI 0)) 4 e (nI 0)) 3 (nI (e + 1))) := by
  unfold fn_X9_newLoop
  have e1 : kb_in (kb_g μ 3) 600 = true := by rw [he]; exact vt_in' (by omega) (by omega)
  simp only [if_pos e1]
  rw [he, nI_clamp (by omega), vt_1, nI_add]
  rfl
theorem vt_cast9 {n : Nat} (hn : n ≤ 40) : ∀ (m fu i : Nat) (μ : kb_S), m < fu → i + m = n → kb_g μ 3 = nI i → ∃ μ2, fp_X9_castOn_29 fu (nI n) (nI i) μ = some (kb_ap μ2 6 1 (nI n)) ∧ (∀ j, j ≠ 3 → kb_g μ2 j = kb_g μ j) ∧ kb_g μ2 3 = nI n ∧ (∀ j, (j = 0 ∨ 5 ≤ j) → kb_a μ2 j = kb_a μ j) ∧ (∀ j x, x < i → kb_a μ2 j x = kb_a μ j x) ∧ ∀ x, i ≤ x → x < n → kb_a μ2 1 x = nI 0 ∧ kb_a μ2 2 x = nI 0 ∧ kb_a μ2 3 x = nI 0 ∧ kb_a μ2 4 x = nI 0 := by
  intro m
  induction m with
  | zero =>
      intro fu i μ h1 h2 h3
      obtain ⟨k, rfl⟩ : ∃ k, fu = k + 1 := ⟨fu - 1, by omega⟩
      refine ⟨μ, ?_, fun _ _ => rfl, by rw [h3, show i = n by omega], fun _ _ => rfl, fun _ _ _ => rfl, fun x h4 h5 => by omega⟩
      rw [fp_X9_castOn_29_s, if_pos (by rw [vt_leI (by omega) (by omega)]; omega), if_pos (by decide), h3, show i = n by omega]
      rfl
  | succ m ih =>
      intro fu i μ h1 h2 h3
      obtain ⟨k, rfl⟩ : ∃ k, fu = k + 1 := ⟨fu - 1, by omega⟩
      obtain ⟨μ2, r1, r2, r3, r4, r5, r6⟩ := ih k (i + 1) _ (by omega) (by omega) (show kb_g (kb_p (kb_ap (kb_ap (kb_ap (kb_ap μ 1 i (nI 0)) 2 i (nI 0)) 3 i (nI 0)) 4 i (nI 0)) 3 (nI (i + 1))) 3 = nI (i + 1) from rfl)
      refine ⟨μ2, ?_, fun j hj => ?_, r3, fun j hj => ?_, fun j x hx => ?_, fun x hx hx2 => ?_⟩
      · rw [fp_X9_castOn_29_s, if_neg (by rw [vt_leI (by omega) (by omega)]; omega), vt_newLoop h3 (by omega), Option.bind_some, vt_1, nI_add]
        exact r1
      · rw [r2 j hj]; simp only [vt_gp, vt_ga, if_neg hj]
      · rw [r4 j hj]; simp only [vt_ap, vt_aa]; rw [if_neg (by omega), if_neg (by omega), if_neg (by omega), if_neg (by omega)]
      · rw [r5 j x (by omega)]; simp only [vt_ap, vt_aax, if_neg (show ¬ x = i by omega), and_false, if_false, show ¬ x = i by omega]
      · by_cases hx3 : x = i
        · subst hx3
          refine ⟨?_, ?_, ?_, ?_⟩ <;> rw [r5 _ x (by omega)] <;> simp only [vt_ap, vt_aax, and_true, true_and, if_true, Nat.reduceEqDiff, if_false]
        · exact r6 x (by omega) hx2
theorem vt_cast {n : Nat} (h0 : 1 ≤ n) (hn : n ≤ 40) {z : Int32} (hz : z = 0 ∨ z = 1) (σ μ : kb_S) : ∃ σ2 μ2 F, fn_X0_castOn (nI n) z σ = some σ2 ∧ fn_X9_castOn (nI n) z μ = some μ2 ∧ vt_K 0 F (fun _ => 0) (fun _ => 0) ∧ vt_F z 0 F (fun _ => 0) (fun _ => 0) σ2 μ2 ∧
    kb_g σ2 0 = kb_g σ 0 ∧ kb_a σ2 0 = kb_a σ 0 ∧ kb_g μ2 1 = kb_g μ 1 ∧ kb_a μ2 0 = kb_a μ 0 ∧ kb_g μ2 0 = kb_g μ 0 ∧ kb_g μ2 11 = 0 := by
  obtain ⟨σ2, r1, r2, r3, r4, r5⟩ := vt_cast0 hn n kb_FU 0 (kb_p (kb_ap (kb_ap (kb_ap (kb_p (kb_p σ 1 z) 2 (0 : Int32)) 1 (0 : Int32).toNatClampNeg (0 : Int32)) 2 (0 : Int32).toNatClampNeg (0 : Int32)) 2 (1 : Int32).toNatClampNeg (0 : Int32)) 7 (0 : Int32)) (by rw [vt_fu]; omega) (by omega) rfl
  obtain ⟨μ2, s1, s2, s3, s4, s5, s6⟩ := vt_cast9 hn n kb_FU 0 (kb_ap (kb_p (kb_p (kb_p (kb_p μ 2 z) 3 (0 : Int32)) 4 (0 : Int32)) 11 (0 : Int32)) 6 (0 : Int32).toNatClampNeg (0 : Int32)) (by rw [vt_fu]; omega) (by omega) rfl
  have c0 : (0 : Int32).toNatClampNeg = 0 := rfl
  have c1 : (1 : Int32).toNatClampNeg = 1 := rfl
  have hf : fn_X0_fillNeedle (kb_ap σ2 1 1 (nI n)) = some (kb_p (kb_p (kb_p (kb_ap σ2 1 1 (nI n)) 3 (nI (n - 0))) 4 (if z = 0 then nI n - nI 1 else nI 0)) 5 (vt_stp z)) := by
    refine vt_fill (R := 0) (f := 0) (f2 := n) ?_ ?_ (by omega) ?_ ?_ (by omega)
    · rw [vt_ga, r2 1 (by decide)]; rfl
    · rw [vt_ga, r2 2 (by decide)]; rfl
    · rw [vt_aa, if_pos rfl, vt_upd, if_neg (by decide), r3 1 (by decide) (by decide)]; rfl
    · rw [vt_aa, if_pos rfl, vt_upd, if_pos rfl]
  have e0 : fn_X0_castOn (nI n) z σ = some (kb_p (kb_p (kb_p (kb_ap σ2 1 1 (nI n)) 3 (nI (n - 0))) 4 (if z = 0 then nI n - nI 1 else nI 0)) 5 (vt_stp z)) := by
    unfold fn_X0_castOn; rw [if_pos hz, if_pos (by decide), if_pos (by decide), if_pos (by decide)]
    exact r1.trans hf
  have e9 : fn_X9_castOn (nI n) z μ = some (kb_ap μ2 6 1 (nI n)) := by
    unfold fn_X9_castOn; rw [if_pos hz, if_pos (by decide)]
    exact s1
  refine ⟨_, _, fun r => if r = 0 then 0 else n, e0, e9, ?_, ?_, ?_, ?_, ?_, ?_, ?_, ?_⟩
  · refine ⟨by omega, rfl, rfl, rfl, ?_, fun r hr => ?_, fun i hi => absurd hi (by simp), fun r h1 h2 => by omega⟩
    · show n ≤ 600; omega
    · have : r = 0 := by omega
      subst this
      refine ⟨show 0 < n by omega, ?_, Nat.le_refl _, by simp⟩
      show n - 0 ≤ 40; omega
  · refine ⟨hz, ?_, ?_, ?_, ?_, ?_, ?_, ?_, rfl, ?_, fun i hi => absurd hi (by simp), fun r h1 h2 => by omega, ?_⟩
    · simp only [vt_gp, vt_ga, Nat.reduceEqDiff, if_false]; rw [r2 1 (by decide)]; rfl
    · rw [vt_ga, s2 2 (by decide)]; rfl
    · simp only [vt_gp, vt_ga, Nat.reduceEqDiff, if_false]; rw [r2 2 (by decide)]; rfl
    · rw [vt_ga, s2 4 (by decide)]; rfl
    · rw [vt_ga, s3]; rfl
    · rfl
    · rfl
    · intro r hr
      simp only [vt_ap, vt_aax]
      have hr2 : r = 0 ∨ r = 1 := by omega
      rcases hr2 with rfl | rfl
      · refine ⟨?_, ?_, ?_⟩
        · simp only [Nat.reduceEqDiff, and_false, if_false, r3 1 (by decide) (by decide)]; rfl
        · simp only [Nat.reduceEqDiff, false_and, if_false, r3 2 (by decide) (by decide)]; rfl
        · simp only [Nat.reduceEqDiff, and_false, if_false, s4 6 (Or.inr (by decide))]; rfl
      · refine ⟨by simp, ?_, by simp⟩
        simp only [Nat.reduceEqDiff, false_and, if_false, r3 2 (by decide) (by decide)]; rfl
    · intro r hr x hx1 hx2
      have : r = 0 := by omega
      subst this
      have hx3 : x < n := by simpa using hx2
      obtain ⟨q1, q2, q3, q4⟩ := s6 x (by omega) hx3
      refine ⟨?_, ?_, Or.inl ?_, fun _ => ?_, 0, by omega, fun _ => rfl, ?_, ?_, fun j hj => by omega⟩
      · rw [vt_aa, if_neg (by decide)]; exact q1
      · rw [vt_aa, if_neg (by decide)]; exact q2
      · rw [vt_aa, if_neg (by decide)]; exact q3
      · rw [vt_aa, if_neg (by decide)]; exact q3
      · simp only [vt_ap, vt_aa, Nat.reduceEqDiff, if_false]; exact r5 x (by omega) hx3
      · rw [vt_aa, if_neg (by decide)]; exact q4
  · simp only [vt_gp, vt_ga, Nat.reduceEqDiff, if_false]; rw [r2 0 (by decide)]; rfl
  · simp only [vt_ap, vt_aa, Nat.reduceEqDiff, if_false]; rw [r3 0 (by decide) (by decide)]; rfl
  · rw [vt_ga, s2 1 (by decide)]; rfl
  · rw [vt_aa, if_neg (by decide), s4 0 (Or.inl rfl)]; rfl
  · rw [vt_ga, s2 0 (by decide)]; rfl
  · rw [vt_ga, s2 11 (by decide)]; rfl
theorem vt_ok_init : ok_init vt_I := by
  obtain ⟨σ2, μ2, F, h1, h2, h3, h4, h5, h6, h7, h8, h9, h10⟩ := vt_cast (n := 1) (by omega) (by omega) (z := 0) (Or.inl rfl) kb_S0 kb_S0
  refine ⟨σ2, μ2, h1, h2, ⟨0, fun _ => 0, by omega, ?_, ?_, fun i hi => by omega⟩, ⟨_, _, F, _, _, h3, h4⟩, Or.inl ⟨rfl, h10⟩⟩
  · rw [h5]; rfl
  · rw [h7]; rfl
theorem vt_ok_begin : ok_begin vt_I := by
  intro σ T μ x z h hz
  have hi : fn_X9_in x 1 40 = if x < 1 ∨ ¬ x ≤ 40 then 0 else 1 := by
    unfold fn_X9_in
    by_cases h1 : x < 1
    · rw [if_pos h1, if_pos (Or.inl h1)]
    · rw [if_neg h1]
      by_cases h2 : x ≤ 40
      · rw [if_neg (Int32.not_lt.mpr h2), if_neg (fun h3 => h3.elim h1 (fun h4 => h4 h2))]
      · rw [if_pos (Int32.not_le.mp h2), if_pos (Or.inr h2)]
  by_cases hb : x < 1 ∨ ¬ x ≤ 40
  · refine ⟨kb_p μ 0 1, ?_, Or.inl ⟨hb, rfl, h.thr 1⟩⟩
    unfold fn_X9_begin
    rw [hi, if_pos hb, vt_says0, Option.bind_some, if_pos rfl]
  · have h1 : ¬ x < 1 := fun h1 => hb (Or.inl h1)
    have h2 : x ≤ 40 := Classical.byContradiction fun h2 => hb (Or.inr h2)
    have h0 : ¬ x < 0 := fun h3 => h1 (Int32.lt_iff_toInt_lt.mpr (by have := Int32.lt_iff_toInt_lt.mp h3; have e0 : (0 : Int32).toInt = 0 := rfl; have e1 : (1 : Int32).toInt = 1 := rfl; omega))
    obtain ⟨n, hn, rfl⟩ := vt_nat h0
    have h3 := h1
    have h4 := h2
    rw [vt_1, vt_ltI hn (by omega)] at h3
    rw [vt_40, vt_leI hn (by omega)] at h4
    obtain ⟨σ2, μ2, F, c1, c2, c3, c4, c5, c6, c7, c8, c9, c10⟩ := vt_cast (n := n) (by omega) h4 hz σ (kb_p μ 0 0)
    obtain ⟨⟨tl, tp, hT⟩, -, hO⟩ := h
    have hT2 : vt_T tl tp σ2 μ2 := (hT.si c5 c6).mu (by rw [c7]; rfl) (by rw [c8]; rfl)
    refine ⟨μ2, ?_, Or.inr ⟨h1, h2, by unfold fn_X9_thrown; rw [c9]; rfl, σ2, c1, ?_⟩⟩
    · unfold fn_X9_begin
      rw [hi, if_neg hb, vt_says1, Option.bind_some, if_neg (show ¬ (1 : Int32) = 0 by decide), c2]; rfl
    · rcases hO with ⟨rfl, -⟩ | ⟨τ, m, rfl, -⟩
      · exact Or.inl ⟨rfl, ⟨tl, tp, hT2⟩, ⟨_, _, F, _, _, c3, c4⟩, Or.inl ⟨rfl, c10⟩⟩
      · exact Or.inr ⟨τ, kb_p τ 1 0, rfl, rfl, ⟨tl, tp, hT2⟩, ⟨_, _, F, _, _, c3, c4⟩, Or.inr ⟨_, 0, rfl, by omega, rfl, c10, fun i hi => by omega⟩⟩
