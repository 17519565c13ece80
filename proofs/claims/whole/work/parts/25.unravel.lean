theorem vt_unr40 {L : Nat} (hL : L ≤ 600) {v : Int32} (kc : Int32 → Int32 → kb_S → Option (kb_S × Int32)) (x1 x2 : Int32) : ∀ (m fu i : Nat) (μ : kb_S), m < fu → i + m = L → kb_g μ 3 = nI L → kb_g μ 4 = v → ∃ μ2, fp_X9_unravel_40 kc fu x1 x2 (nI i) μ = kc x1 (x2 + 1) (kb_p μ2 4 (v - 1)) ∧ (∀ j, kb_g μ2 j = kb_g μ j) ∧ (∀ j, j ≠ 2 → j ≠ 3 → kb_a μ2 j = kb_a μ j) ∧ (∀ x, x < i ∨ L ≤ x → kb_a μ2 2 x = kb_a μ 2 x ∧ kb_a μ2 3 x = kb_a μ 3 x) ∧ ∀ x, i ≤ x → x < L → (kb_a μ 2 x = v → kb_a μ2 2 x = nI 0 ∧ kb_a μ2 3 x = nI 0) ∧ (¬ kb_a μ 2 x = v → kb_a μ2 2 x = kb_a μ 2 x ∧ kb_a μ2 3 x = kb_a μ 3 x) := by
  intro m
  induction m with
  | zero =>
      intro fu i μ h1 h2 h3 h4
      obtain ⟨k, rfl⟩ : ∃ k, fu = k + 1 := ⟨fu - 1, by omega⟩
      refine ⟨μ, ?_, fun _ => rfl, fun _ _ _ => rfl, fun _ _ => ⟨rfl, rfl⟩, fun x h4 h5 => by omega⟩
      rw [fp_X9_unravel_40_s, if_pos (by rw [h3, vt_leI (by omega) (by omega)]; omega), h4]
  | succ m ih =>
      intro fu i μ h1 h2 h3 h4
      obtain ⟨k, rfl⟩ : ∃ k, fu = k + 1 := ⟨fu - 1, by omega⟩
      have e1 : kb_in (nI i) 600 = true := vt_in' (by omega) (by omega)
      by_cases hd : kb_a μ 2 i = v
      · obtain ⟨μ2, r1, r2, r3, r4, r5⟩ := ih k (i + 1) (kb_ap (kb_ap μ 2 i (nI 0)) 3 i (nI 0)) (by omega) (by omega) h3 h4
        refine ⟨μ2, ?_, fun j => ?_, fun j hj hj2 => ?_, fun x hx => ?_, fun x hx hx2 => ?_⟩
        · rw [fp_X9_unravel_40_s, if_neg (by rw [h3, vt_leI (by omega) (by omega)]; omega), if_pos e1, if_pos (by rw [nI_clamp (by omega), h4]; exact hd), if_pos e1, if_pos e1, fp_X9_unravel_78_e, nI_clamp (by omega), vt_1, nI_add]
          exact r1
        · rw [r2]; rfl
        · rw [r3 j hj hj2]; simp only [vt_aa, if_neg hj, if_neg hj2]
        · obtain ⟨q1, q2⟩ := r4 x (by omega); rw [q1, q2]; simp only [vt_aax, show ¬ x = i by omega, and_false, if_false, and_self]
        · by_cases hx3 : x = i
          · subst hx3
            obtain ⟨q1, q2⟩ := r4 x (by omega)
            rw [q1, q2]
            refine ⟨fun _ => by simp [vt_aax], fun h => absurd hd h⟩
          · obtain ⟨q1, q2⟩ := r5 x (by omega) hx2
            simp only [vt_aax, hx3, and_false, if_false] at q1 q2
            exact ⟨q1, q2⟩
      · obtain ⟨μ2, r1, r2, r3, r4, r5⟩ := ih k (i + 1) μ (by omega) (by omega) h3 h4
        refine ⟨μ2, ?_, r2, r3, fun x hx => r4 x (by omega), fun x hx hx2 => ?_⟩
        · rw [fp_X9_unravel_40_s, if_neg (by rw [h3, vt_leI (by omega) (by omega)]; omega), if_pos e1, if_neg (by rw [nI_clamp (by omega), h4]; exact hd), fp_X9_unravel_78_e, vt_1, nI_add]
          exact r1
        · by_cases hx3 : x = i
          · subst hx3; exact ⟨fun h => absurd h hd, fun _ => r4 x (by omega)⟩
          · exact r5 x (by omega) hx2
/-- the memory of the class, taken back to row r -/
def vt_tb (w : Int32) (F : Nat → Nat) (σ : kb_S) (r : Nat) : kb_S := kb_p (kb_p (kb_p (kb_p σ 2 (nI r)) 3 (nI (F (r + 1) - F r))) 4 (if w = 0 then nI (F (r + 1)) - nI 1 else nI (F r))) 5 (vt_stp w)
theorem vt_mono {R : Nat} {F G S : Nat → Nat} (hK : vt_K R F G S) : ∀ {a b : Nat}, a ≤ b → b ≤ R + 1 → F a ≤ F b ∧ G a ≤ G b := by
  intro a b h
  obtain ⟨d, rfl⟩ := Nat.le.dest h
  clear h
  induction d with
  | zero => intro _; exact ⟨Nat.le_refl _, Nat.le_refl _⟩
  | succ d ih =>
      intro h
      have h1 := ih (by omega)
      have h2 := hK.2.2.2.2.2.1 (a + d) (by omega)
      rw [show a + (d + 1) = a + d + 1 by omega]
      exact ⟨Nat.le_trans h1.1 (Nat.le_of_lt h2.1), Nat.le_trans h1.2 h2.2.2.1⟩
theorem vt_K.less {R r : Nat} {F G S : Nat → Nat} (hK : vt_K R F G S) (h : r ≤ R) : vt_K r F G S := by
  have h1 := vt_mono hK (show r + 1 ≤ R + 1 by omega) (Nat.le_refl _)
  obtain ⟨k1, k2, k3, k4, k5, k6, k7, k8⟩ := hK
  exact ⟨by omega, k2, k3, k4, by omega, fun r' h' => k6 r' (by omega), fun i hi => k7 i (by omega), fun r' h1 h2 => k8 r' h1 (by omega)⟩
theorem vt_unr20 {w : Int32} {F G S : Nat → Nat} {σ : kb_S} : ∀ (m fu i R : Nat) (n : Nat) (μ : kb_S), m < fu → i + m = n → n ≤ 30 → m ≤ R → vt_K R F G S → vt_F w R F G S (vt_tb w F σ R) μ → ∃ μ2, fp_X9_unravel_20 fu (nI n) (nI i) μ = some (μ2, nI (R - m)) ∧ vt_F w (R - m) F G S (vt_tb w F σ (R - m)) μ2 ∧ (∀ j, j ≠ 3 → j ≠ 4 → kb_g μ2 j = kb_g μ j) ∧ (∀ j, j ≠ 2 → j ≠ 3 → kb_a μ2 j = kb_a μ j) := by
  intro m
  induction m with
  | zero =>
      intro fu i R n μ h1 h2 hn h3 hK hF
      obtain ⟨k, rfl⟩ : ∃ k, fu = k + 1 := ⟨fu - 1, by omega⟩
      refine ⟨μ, ?_, hF, fun _ _ _ => rfl, fun _ _ _ => rfl⟩
      rw [fp_X9_unravel_20_s, if_pos (by rw [show i = n by omega]; exact Int32.le_refl _), hF.2.2.2.2.1]; rfl
  | succ m ih =>
      intro fu i R n μ h1 h2 hn h3 hK hF
      obtain ⟨k, rfl⟩ : ∃ k, fu = k + 1 := ⟨fu - 1, by omega⟩
      obtain ⟨R, rfl⟩ : ∃ r, R = r + 1 := ⟨R - 1, by omega⟩
      have hR := hK.1
      have hm := fun {a b : Nat} => vt_mono hK (a := a) (b := b)
      have hf0 := hK.2.2.2.2.1
      have hf1 := (hm (a := R + 1) (b := R + 1 + 1) (by omega) (by omega)).1
      obtain ⟨f1, f2, f3, f4, f5, f6, f7, f8, f9, f10, f11, f12, f13⟩ := hF
      obtain ⟨μ2, r1, r2, r3, r4, r5⟩ := vt_unr40 (L := F (R + 1)) (by omega) (v := nI (R + 1)) (fp_X9_unravel_20 k) (nI n) (nI i) (F (R + 1)) kb_FU 0 (kb_p μ 3 (nI (F (R + 1)))) (by rw [vt_fu]; omega) (by omega) rfl f5
      have e1 : nI (R + 1) - 1 = nI R := by rw [vt_1, pk_sub (by omega)]; rfl
      have hL : ∀ r, r ≤ R → ∀ x, F r ≤ x → x < F (r + 1) → vt_L w R r x F (vt_tb w F σ R) (kb_p μ2 4 (nI R)) := by
        intro r hr x hx1 hx2
        have hx3 := (hm (a := r + 1) (b := R + 1) (by omega) (by omega)).1
        obtain ⟨l1, l2, l3, l4, c, l5, l6, l7, l8, l9⟩ := f13 r (by omega) x hx1 hx2
        rw [if_pos (by omega)] at l2
        obtain ⟨q1, q2⟩ := r5 x (by omega) (by omega)
        refine ⟨?_, ?_, ?_, ?_, c, l5, l6, l7, ?_, fun j hj => ?_⟩
        · rw [vt_ap, r3 1 (by decide) (by decide)]; exact l1
        · rw [vt_ap]
          by_cases hr2 : r < R
          · rw [if_pos hr2, (q2 (by rw [vt_ap, l2, vt_eqI (by omega) (by omega)]; omega)).1, vt_ap, l2]
          · rw [if_neg hr2, (q1 (by rw [vt_ap, l2, show r = R by omega])).1]
        · rw [vt_ap]
          by_cases hr2 : r < R
          · rw [(q2 (by rw [vt_ap, l2, vt_eqI (by omega) (by omega)]; omega)).2, vt_ap]; exact l3
          · rw [(q1 (by rw [vt_ap, l2, show r = R by omega])).2]; exact Or.inl rfl
        · intro hr2
          rw [vt_ap, (q1 (by rw [vt_ap, l2, hr2])).2]; rfl
        · rw [vt_ap, r3 4 (by decide) (by decide)]; exact l8
        · obtain ⟨y, y1, y2, y3, y4⟩ := l9 j hj
          exact ⟨y, y1, y2, by rw [vt_ap, r3 5 (by decide) (by decide)]; exact y3, y4⟩
      have hF2 : vt_F w R F G S (vt_tb w F σ R) (kb_p μ2 4 (nI R)) := by
        refine ⟨f1, f2, ?_, rfl, rfl, ?_, rfl, rfl, rfl, fun r hr => ?_, fun i hi => f11 i (by have := (hm (a := R + 1) (b := R + 1 + 1) (by omega) (by omega)).2; omega), fun r hr1 hr2 => ?_, hL⟩
        · rw [vt_gp, if_neg (by decide), r2]; exact f3
        · rw [vt_gp, if_neg (by decide), r2]; rfl
        · rw [vt_ap, r3 6 (by decide) (by decide)]; exact f10 r (by omega)
        · obtain ⟨g1, g2, g3⟩ := f12 r hr1 (by omega)
          rw [vt_ap, vt_ap, vt_ap, r3 7 (by decide) (by decide), r3 8 (by decide) (by decide)]
          refine ⟨g1, g2, ?_⟩
          rw [← g3]
          apply vt_sum_congr
          intro i hi
          have hx3 := (hm (a := r) (b := R + 1) (by omega) (by omega)).1
          obtain ⟨l1, l2, -⟩ := f13 (r - 1) (by omega) (F (r - 1) + i) (by omega) (by rw [show r - 1 + 1 = r by omega]; omega)
          rw [if_pos (by omega)] at l2
          show vt_is (kb_a μ2 3 (F (r - 1) + i) = 1) = vt_is (kb_a μ 3 (F (r - 1) + i) = 1)
          rw [((r5 (F (r - 1) + i) (by omega) (by omega)).2 (by rw [vt_ap, l2, vt_eqI (by omega) (by omega)]; omega)).2]; rfl
      obtain ⟨μ3, t1, t2, t3, t4⟩ := ih k (i + 1) R n (kb_p μ2 4 (nI R)) (by omega) (by omega) hn (by omega) (hK.less (by omega)) hF2
      refine ⟨μ3, ?_, ?_, fun j hj hj2 => ?_, fun j hj hj2 => ?_⟩
      · rw [fp_X9_unravel_20_s, if_neg (by rw [vt_leI (by omega) (by omega)]; omega), f5, if_pos (vt_in' (by omega) (by omega)), nI_clamp (by omega), (f10 (R + 1) (by omega)).2.2]
        refine r1.trans ?_
        rw [e1, vt_1, nI_add, t1, show R + 1 - (m + 1) = R - m by omega]
      · rw [show R + 1 - (m + 1) = R - m by omega]; exact t2
      · rw [t3 j hj hj2, vt_gp, if_neg hj2, r2, vt_gp, if_neg hj]
      · rw [t4 j hj hj2, vt_ap, r3 j hj hj2]; rfl
theorem vt_ok_unravel : ok_unravel vt_I := by
  intro σ T μ x h
  have hh := h.thr 1
  obtain ⟨⟨tl, tp, hT⟩, ⟨w, R, F, G, S, hK, hF⟩, hO⟩ := h
  have hR := hK.1
  have hi : fn_X9_in x 0 (kb_g μ 4) = if x < 0 ∨ nI (R + 1) ≤ x then 0 else 1 := by
    have e : nI R = nI (R + 1) - nI 1 := by rw [pk_sub (by omega)]; rfl
    rw [hF.2.2.2.2.1, e, vt_in0 (by omega)]
  rcases vt_cases x (n := R + 1) (by omega) with hx | hx | ⟨n, hn, rfl⟩
  · refine ⟨σ, kb_p μ 0 1, 1, 0, 0, ?_, ?_, hh, Or.inr ⟨rfl, rfl⟩⟩
    · unfold fn_X8_unravel fp_X8_unravel_15; rw [if_pos hx]
    · unfold fn_X9_unravel; rw [hi, if_pos (Or.inl hx), vt_says0, Option.bind_some, if_pos rfl]
  · refine ⟨σ, kb_p μ 0 1, 1, 0, 0, ?_, ?_, hh, Or.inr ⟨rfl, rfl⟩⟩
    · unfold fn_X8_unravel fp_X8_unravel_15 fn_X0_rowCount
      by_cases h0 : x < 0
      · rw [if_pos h0]
      · obtain ⟨j, hj, rfl⟩ := vt_nat h0
        rw [vt_leI (by omega) hj] at hx
        rw [if_neg h0, hF.2.2.2.1, if_neg (by rw [vt_leI hj (by omega)]; omega)]
    · unfold fn_X9_unravel; rw [hi, if_pos (Or.inr hx), vt_says0, Option.bind_some, if_pos rfl]
  · have hb : ¬ (nI n < 0 ∨ nI (R + 1) ≤ nI n) := by
      rintro (h4 | h4)
      · exact vt_neg (by omega) h4
      · rw [vt_leI (by omega) (by omega)] at h4; omega
    have hFs : vt_F w R F G S (vt_tb w F σ R) (kb_p μ 0 0) := by
      refine (hF.thr 0).same (fun k hk1 hk2 => ⟨?_, rfl⟩) (fun _ _ _ => rfl) (fun _ _ _ => rfl)
      unfold vt_tb
      have hk3 : k = 1 ∨ k = 2 ∨ k = 3 ∨ k = 4 ∨ k = 5 := by omega
      rcases hk3 with rfl | rfl | rfl | rfl | rfl
      · rfl
      · exact hF.2.2.2.1.symm
      · exact hF.2.2.2.2.2.2.1.symm
      · exact hF.2.2.2.2.2.2.2.1.symm
      · exact hF.2.2.2.2.2.2.2.2.1.symm
    obtain ⟨μ2, t1, t2, t3, t4⟩ := vt_unr20 (σ := σ) n kb_FU 0 R n (kb_p μ 0 0) (by rw [vt_fu]; omega) (by omega) (by omega) (by omega) hK hFs
    have hc : fn_X8_unravel (nI n) σ = some (vt_tb w F σ (R - n), (0, nI (R - n))) := by
      unfold fn_X8_unravel fn_X0_rowCount fn_X0_takeBack
      rw [if_neg (vt_neg (by omega)), hF.2.2.2.1, if_pos (by rw [vt_leI (by omega) (by omega)]; omega), pk_sub (by omega), if_neg (vt_neg (by omega))]
      rw [vt_fill (σ := kb_p σ 2 (nI (R - n))) (w := w) (R := R - n) (f := F (R - n)) (f2 := F (R - n + 1)) (by rw [vt_gp, if_neg (by decide)]; exact hF.2.1) rfl (by omega) (hF.2.2.2.2.2.2.2.2.2.1 (R - n) (by omega)).1 (hF.2.2.2.2.2.2.2.2.2.1 (R - n + 1) (by omega)).1 (Nat.le_of_lt (hK.2.2.2.2.2.1 (R - n) (by omega)).1)]
      rfl
    refine ⟨vt_tb w F σ (R - n), μ2, 0, nI (R - n), nI (R - n), hc, ?_, ⟨⟨tl, tp, (hT.si rfl rfl).mu (by rw [t3 1 (by decide) (by decide)]; rfl) (by rw [t4 0 (by decide) (by decide)]; rfl)⟩, ⟨w, R - n, F, G, S, hK.less (by omega), t2⟩, hO.mu (by rw [t3 11 (by decide) (by decide)]; rfl) (by rw [t4 14 (by decide) (by decide)]; rfl)⟩, Or.inl ⟨rfl, by unfold fn_X9_thrown; rw [t3 0 (by decide) (by decide)]; rfl, rfl⟩⟩
    unfold fn_X9_unravel
    rw [hi, if_neg hb, vt_says1, Option.bind_some, if_neg (show ¬ (1 : Int32) = 0 by decide)]
    exact t1
