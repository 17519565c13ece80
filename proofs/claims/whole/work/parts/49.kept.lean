/-! the row is kept -/
theorem kq_sum_rev {f : Nat → Nat} {a : Nat} : ∀ n, vt_sum (fun i => f (a + n - 1 - i)) 0 n = vt_sum f a n
  | 0 => rfl
  | n + 1 => by
      have e : vt_sum (fun i => f (a + (n + 1) - 1 - i)) (0 + 1) n = vt_sum (fun i => f (a + n - 1 - i)) 0 n := vt_sum_congr n (fun i hi => by
        show f _ = f _
        rw [show a + (n + 1) - 1 - (0 + 1 + i) = a + n - 1 - (0 + i) by omega])
      rw [vt_sum_front n, vt_sum, e, kq_sum_rev n, Nat.add_comm]
      show _ + f (a + (n + 1) - 1 - 0) = _ + f (a + n)
      rw [show a + (n + 1) - 1 - 0 = a + n by omega]
theorem kq_sum_nd {w : Int32} {R : Nat} {F : Nat → Nat} (hF : F R ≤ F (R + 1)) (f : Nat → Nat) : vt_sum (fun d => f (vt_nd w R F d)) 0 (F (R + 1) - F R) = vt_sum f (F R) (F (R + 1) - F R) := by
  by_cases hw : w = 0
  · rw [← kq_sum_rev (f := f) (a := F R) (F (R + 1) - F R)]
    refine vt_sum_congr _ (fun i hi => ?_)
    show f _ = f _
    unfold vt_nd
    rw [if_pos hw, show F (R + 1) - 1 - (0 + i) = F R + (F (R + 1) - F R) - 1 - (0 + i) by omega]
  · refine vt_sum_congr _ (fun i hi => ?_)
    show f _ = f _
    unfold vt_nd
    rw [if_neg hw, Nat.zero_add]
theorem kq_nd_on {w : Int32} {R : Nat} {F : Nat → Nat} {x : Nat} (h1 : F R ≤ x) (h2 : x < F (R + 1)) : ∃ d, d < F (R + 1) - F R ∧ vt_nd w R F d = x := by
  unfold vt_nd
  by_cases hw : w = 0
  · exact ⟨F (R + 1) - 1 - x, by omega, by rw [if_pos hw]; omega⟩
  · exact ⟨x - F R, by omega, by rw [if_neg hw]; omega⟩
theorem kq_nd_step {w : Int32} {R : Nat} {F : Nat → Nat} (hF : F (R + 1) ≤ 600) {p j : Nat} (h : p + j < F (R + 1) - F R) : nI (vt_nd w R F p) + nI j * vt_stp w = nI (vt_nd w R F (p + j)) := by
  unfold vt_nd vt_stp
  by_cases hw : w = 0
  · rw [if_pos hw, if_pos hw, if_pos hw, Int32.mul_neg, pk_mul, Nat.mul_one, vt_an (by omega), Nat.sub_sub]
  · rw [if_neg hw, if_neg hw, if_neg hw, pk_mul, Nat.mul_one, nI_add, Nat.add_assoc]
/-- what is left of the needle's facts when memory changes behind the kept rows -/
theorem kq_F_cf {w : Int32} {R : Nat} {F G S : Nat → Nat} {σ μ σ2 μ2 : kb_S} (hK : vt_K R F G S) (h : vt_F w R F G S σ μ) (h1 : ∀ k, 1 ≤ k → k ≤ 5 → kb_g σ2 k = kb_g σ k) (h2 : ∀ k, 1 ≤ k → k ≤ 2 → kb_a σ2 k = kb_a σ k) (h3 : ∀ x, x < G (R + 1) → kb_a σ2 3 x = kb_a σ 3 x) (h4 : ∀ x, x < F (R + 1) → kb_a σ2 4 x = kb_a σ 4 x ∧ kb_a σ2 5 x = kb_a σ 5 x) (h5 : ∀ k, 2 ≤ k → k ≤ 4 → kb_g μ2 k = kb_g μ k) (h6 : ∀ k, 1 ≤ k → k ≤ 8 → kb_a μ2 k = kb_a μ k) : vt_F w R F G S σ2 μ2 := by
  unfold vt_F at *
  rw [h1 1 (by decide) (by decide), h1 2 (by decide) (by decide), h1 3 (by decide) (by decide), h1 4 (by decide) (by decide), h1 5 (by decide) (by decide), h2 1 (by decide) (by decide), h2 2 (by decide) (by decide), h5 2 (by decide) (by decide), h5 3 (by decide) (by decide), h5 4 (by decide) (by decide), h6 6 (by decide) (by decide), h6 7 (by decide) (by decide), h6 8 (by decide) (by decide), h6 3 (by decide) (by decide)]
  obtain ⟨a1, a2, a3, a4, a5, a6, a7, a8, a9, a10, a11, a12, a13⟩ := h
  refine ⟨a1, a2, a3, a4, a5, a6, a7, a8, a9, a10, fun i hi => by rw [h3 i hi]; exact a11 i hi, a12, fun r hr x hx1 hx2 => ?_⟩
  have hx3 := (vt_mono hK (show r + 1 ≤ R + 1 by omega) (Nat.le_refl _)).1
  obtain ⟨q1, q2⟩ := h4 x (by omega)
  have := a13 r hr x hx1 hx2
  unfold vt_L at *
  rw [q1, q2, h6 1 (by decide) (by decide), h6 2 (by decide) (by decide), h6 3 (by decide) (by decide), h6 4 (by decide) (by decide), h6 5 (by decide) (by decide)]
  exact this
theorem kq_find {S : Nat → Nat} {g : Nat} : ∀ (c x : Nat), x < kq_M S g c → ∃ i y, i < c ∧ y < vt_mk (S (g + i)) ∧ x = kq_M S g i + y
  | 0, x, h => absurd h (by unfold kq_M vt_sum; omega)
  | c + 1, x, h => by
      by_cases h1 : x < kq_M S g c
      · obtain ⟨i, y, a, b, e⟩ := kq_find c x h1
        exact ⟨i, y, by omega, b, e⟩
      · rw [kq_M_s] at h
        exact ⟨c, x - kq_M S g c, by omega, by omega, by omega⟩
theorem kq_keptK {R : Nat} {F G S0 S F' G' : Nat → Nat} {c : Nat} (hK : vt_K R F G S0) (hR : R ≤ 29) (hF' : F' (R + 2) = F (R + 1) + kq_M S (G (R + 1)) c) (hFo : ∀ k, k ≠ R + 2 → F' k = F k) (hG' : G' (R + 2) = G (R + 1) + c) (hGo : ∀ k, k ≠ R + 2 → G' k = G k) (hS : ∀ x, x < G (R + 1) → S x = S0 x) (hv : ∀ i, i < c → vt_vs (S (G (R + 1) + i)) = true) (hU : kq_U S (G (R + 1)) c = F (R + 1) - F R) (hM : F (R + 1) + kq_M S (G (R + 1)) c ≤ 600) (hM1 : 1 ≤ kq_M S (G (R + 1)) c) (hM4 : kq_M S (G (R + 1)) c ≤ 40) (hc : c ≤ 80) : vt_K (R + 1) F' G' S := by
  have hmono := fun a b (h : a ≤ b) (h2 : b ≤ R + 1) => vt_mono hK h h2
  obtain ⟨k1, k2, k3, k4, k5, k6, k7, k8⟩ := hK
  refine ⟨by omega, by rw [hFo 0 (by omega)]; exact k2, by rw [hGo 0 (by omega)]; exact k3, by rw [hGo 1 (by omega)]; exact k4, by rw [show R + 1 + 1 = R + 2 from rfl, hF']; exact hM, fun r hr => ?_, fun i hi => ?_, fun r h1 hr => ?_⟩
  · by_cases hr1 : r = R + 1
    · rw [hr1, show R + 1 + 1 = R + 2 from rfl, hF', hG', hFo (R + 1) (by omega), hGo (R + 1) (by omega)]
      omega
    · rw [hFo r (by omega), hFo (r + 1) (by omega), hGo r (by omega), hGo (r + 1) (by omega)]
      exact k6 r (by omega)
  · rw [show R + 1 + 1 = R + 2 from rfl, hG'] at hi
    by_cases hig : i < G (R + 1)
    · rw [hS i hig]; exact k7 i hig
    · have := hv (i - G (R + 1)) (by omega)
      rw [show G (R + 1) + (i - G (R + 1)) = i by omega] at this; exact this
  · by_cases hr1 : r = R + 1
    · subst hr1
      rw [show R + 1 + 1 = R + 2 from rfl, hF', hG', hFo (R + 1) (by omega), hGo (R + 1) (by omega), show R + 1 - 1 = R from rfl, hFo R (by omega), Nat.add_sub_cancel_left, Nat.add_sub_cancel_left]
      exact ⟨hU, rfl⟩
    · rw [hFo r (by omega), hFo (r + 1) (by omega), hGo r (by omega), hGo (r + 1) (by omega), hFo (r - 1) (by omega)]
      obtain ⟨s1, s2⟩ := k8 r h1 (by omega)
      have hm1 := (hmono (r + 1) (R + 1) (by omega) (by omega)).2
      have hm2 := (hmono r (r + 1) (by omega) (by omega)).2
      refine ⟨?_, ?_⟩
      · rw [← s1]; exact vt_sum_congr _ (fun i hi => by show vt_tk _ = vt_tk _; rw [hS _ (by omega)])
      · rw [← s2]; exact vt_sum_congr _ (fun i hi => by show vt_mk _ = vt_mk _; rw [hS _ (by omega)])
theorem kq_kept {w : Int32} {R : Nat} {F G S0 S F' G' : Nat → Nat} {c : Nat} {σi μi σp μp σ μ : kb_S} (hK : vt_K R F G S0) (hFF : vt_F w R F G S0 σp μp) (hR : R ≤ 29) (hF' : F' (R + 2) = F (R + 1) + kq_M S (G (R + 1)) c) (hFo : ∀ k, k ≠ R + 2 → F' k = F k) (hG' : G' (R + 2) = G (R + 1) + c) (hGo : ∀ k, k ≠ R + 2 → G' k = G k) (hS : ∀ x, x < G (R + 1) → S x = S0 x) (h : kq_rw w R F G σp μp S c σ μ) (hU : kq_U S (G (R + 1)) c = F (R + 1) - F R) (hM4 : kq_M S (G (R + 1)) c ≤ 40) (hc : c ≤ 80) :
    ∃ σ2 μ2, fn_X0_keepRow σ = some σ2 ∧ fn_X9_lay (kb_p μ 1 0) = some μ2 ∧ vt_F w (R + 1) F' G' S σ2 μ2 ∧ (∀ j, j ≤ 0 ∨ 6 ≤ j → kb_g σ2 j = kb_g σ j) ∧ kb_a σ2 0 = kb_a σ 0 ∧ (∀ j, (j = 0 ∨ j = 1 ∨ 5 ≤ j) → kb_g μ2 j = kb_g (kb_p μ 1 0) j) ∧ (∀ j, (j = 0 ∨ 9 ≤ j) → kb_a μ2 j = kb_a μ j) := by
  have hmono := fun a b (h : a ≤ b) (h2 : b ≤ R + 1) => vt_mono hK h h2
  obtain ⟨k1, k2, k3, k4, k5, k6, k7, k8⟩ := hK
  have hFR := k6 R (Nat.le_refl R)
  obtain ⟨b1, b2, b3, b4, b5, b6, b7, b8, b9, b10, b11, b12, b13⟩ := hFF
  obtain ⟨⟨a1, a2, a3, a4⟩, ⟨u1, u2, u3⟩, c1, d1, ⟨f1, f2, f3, f4, f5⟩, ⟨g1, g2⟩⟩ := h
  obtain ⟨μl, l1, l2⟩ := kq_lyall (w := w) (R := R) (F := F) (G := G) (S := S) (μq := kb_p μ 1 0) (c := c) (by show kb_g μ 2 = w; rw [g1 2 (by decide) (by decide) (by decide)]; exact b3) hR (Nat.le_of_lt hFR.1) (by omega) (by omega) u2 hc a4 (fun i hi => ⟨(c1 i hi).1, (c1 i hi).2.2⟩) (by show kb_g μ 3 = _; rw [g1 3 (by decide) (by decide) (by decide)]; exact b6) (by show kb_g μ 4 = _; rw [g1 4 (by decide) (by decide) (by decide)]; exact b5) (by rw [vt_ap, g2 6 (by decide) (by decide)]; exact (b10 R (by omega)).2.2)
  obtain ⟨⟨y1, y2, y3⟩, ⟨y4, y5⟩, ⟨y6, y7, y8⟩, ⟨y9, y10⟩, y11⟩ := l1
  have hg2 : kb_g σ 2 = nI R := by rw [f1 2 (by decide) (by decide) (by decide) (by decide) (by decide)]; exact b4
  -- the class
  have hkeep : fn_X0_keepRow σ = some (kb_p (kb_p (kb_p (kb_ap (kb_ap (kb_p σ 2 (nI (R + 1))) 1 (R + 2) (nI (F (R + 1) + kq_M S (G (R + 1)) c))) 2 (R + 2) (nI (G (R + 1) + c))) 3 (nI (F (R + 1) + kq_M S (G (R + 1)) c - F (R + 1)))) 4 (if w = 0 then nI (F (R + 1) + kq_M S (G (R + 1)) c) - nI 1 else nI (F (R + 1)))) 5 (vt_stp w)) := by
    unfold fn_X0_keepRow
    rw [hg2, vt_30, if_neg (by rw [vt_leI (by omega) (by omega)]; omega), vt_1, nI_add, nI_add]
    simp only [if_pos (vt_in' (n := R + 1 + 1) (m := 32) (by omega) (by omega)), nI_clamp (show R + 1 + 1 < 2 ^ 31 by omega)]
    rw [a2, a3, vt_fill (w := w) (R := R + 1) (f := F (R + 1)) (f2 := F (R + 1) + kq_M S (G (R + 1)) c)]
    · rfl
    · show kb_g σ 1 = w; rw [f1 1 (by decide) (by decide) (by decide) (by decide) (by decide)]; exact b2
    · rfl
    · omega
    · rw [vt_aax, if_neg (by omega), vt_aax, if_neg (by omega), vt_ap, f2 1 (by decide) (by decide) (by decide)]; exact (b10 (R + 1) (by omega)).1
    · rw [vt_aax, if_neg (by omega), vt_aax, if_pos ⟨rfl, rfl⟩]
    · omega
  refine ⟨_, _, hkeep, l2, ⟨b1, ?_, ?_, rfl, rfl, ?_, ?_, ?_, rfl, fun r hr => ?_, fun i hi => ?_, fun r h1 hr => ?_, fun r hr x hx1 hx2 => ?_⟩, fun j hj => ?_, rfl, fun j hj => ?_, fun j hj => ?_⟩
  · show kb_g σ 1 = w; rw [f1 1 (by decide) (by decide) (by decide) (by decide) (by decide)]; exact b2
  · show kb_g μl 2 = w; rw [y1 2 (by decide)]; show kb_g μ 2 = w; rw [g1 2 (by decide) (by decide) (by decide)]; exact b3
  · show kb_g μl 3 = _; rw [y2, show R + 1 + 1 = R + 2 from rfl, hF']
  · rw [show R + 1 + 1 = R + 2 from rfl, hF', hFo (R + 1) (by omega)]; rfl
  · rw [show R + 1 + 1 = R + 2 from rfl, hF', hFo (R + 1) (by omega)]; rfl
  · simp only [vt_ap, vt_aax]
    by_cases hr2 : r = R + 2
    · subst hr2
      rw [hF', hG']; simp
    · rw [hFo r hr2, hGo r hr2]
      by_cases hr1 : r = R + 1
      · subst hr1
        obtain ⟨t1, t2, t3⟩ := b10 (R + 1) (by omega)
        rw [f2 1 (by decide) (by decide) (by decide), f2 2 (by decide) (by decide) (by decide)]
        simp; exact ⟨t1, t2⟩
      · obtain ⟨t1, t2, t3⟩ := b10 r (by omega)
        rw [if_neg (by omega), if_neg (by omega), if_neg (by omega), if_neg (by omega), if_neg (by omega), if_neg (by omega), if_neg (by omega), f2 1 (by decide) (by decide) (by decide), f2 2 (by decide) (by decide) (by decide), y3 6 (by omega), vt_ap, g2 6 (by decide) (by decide)]
        exact ⟨t1, t2, t3⟩
  · rw [show R + 1 + 1 = R + 2 from rfl, hG'] at hi
    simp only [vt_ap, vt_aax]
    rw [if_neg (by omega), if_neg (by omega)]
    by_cases hig : i < G (R + 1)
    · rw [f4 i hig, hS i hig]; exact b11 i hig
    · have := (c1 (i - G (R + 1)) (by omega)).2.1
      rw [show G (R + 1) + (i - G (R + 1)) = i by omega] at this; exact this
  · simp only [vt_ap, vt_aax]
    have h33 : ∀ x, kb_a (kb_ap (kb_ap (kb_p (kb_ap μl 7 (R + 1) (nI c)) 4 (nI (R + 1))) 6 (R + 1) (nI (F (R + 1)))) 6 (R + 2) (nI (F (R + 1) + kq_M S (G (R + 1)) c))) 3 x = kb_a μl 3 x := fun x => rfl
    by_cases hr1 : r = R + 1
    · subst hr1
      rw [show R + 1 + 1 = R + 2 from rfl, hG', hFo (R + 1) (by omega), hGo (R + 1) (by omega), show R + 1 - 1 = R from rfl, hFo R (by omega), Nat.add_sub_cancel_left]
      refine ⟨by simp, fun k hk => ?_, ?_⟩
      · rw [if_neg (by omega), if_neg (by omega), if_neg (by omega)]; exact y5 k hk
      · rw [← kq_sum_nd (w := w) (Nat.le_of_lt hFR.1), ← hU]
        simp only [show ¬ (3 : Nat) = 6 by decide, show ¬ (3 : Nat) = 7 by decide, false_and, if_false]
        exact y10
    · rw [hGo r (by omega), hGo (r + 1) (by omega), hFo r (by omega), hFo (r - 1) (by omega)]
      obtain ⟨t1, t2, t3⟩ := b12 r h1 (by omega)
      have hm1 := (hmono (r + 1) (R + 1) (by omega) (by omega)).2
      have hm2 := (hmono r (r + 1) (by omega) (by omega)).2
      have hm3 := (hmono r R (by omega) (by omega)).1
      have hk6 := k6 r (by omega)
      refine ⟨?_, fun k hk => ?_, ?_⟩
      · rw [if_neg (by omega), if_neg (by omega), if_neg (by omega), y3 7 (by omega), vt_ap, g2 7 (by decide) (by decide)]; exact t1
      · rw [if_neg (by omega), if_neg (by omega), if_neg (by omega), y4 _ (by omega), vt_ap, g2 8 (by decide) (by decide), hS _ (by omega)]; exact t2 k hk
      · have e1 : vt_sum (fun i => vt_is (S i = 8)) (G r) (G (r + 1) - G r) = vt_sum (fun i => vt_is (S0 i = 8)) (G r) (G (r + 1) - G r) := vt_sum_congr _ (fun i hi => by show vt_is _ = vt_is _; rw [hS _ (by omega)])
        rw [e1, ← t3]
        refine vt_sum_congr _ (fun x hx => ?_)
        have := (y8 (F (r - 1) + x) (by omega)).2
        simp only [show ¬ (3 : Nat) = 6 by decide, show ¬ (3 : Nat) = 7 by decide, false_and, if_false]
        rw [this, vt_ap, g2 3 (by decide) (by decide)]
  · have n678 : ∀ j z, j ≤ 5 → kb_a (kb_ap (kb_ap (kb_p (kb_ap μl 7 (R + 1) (nI c)) 4 (nI (R + 1))) 6 (R + 1) (nI (F (R + 1)))) 6 (R + 2) (nI (F (R + 1) + kq_M S (G (R + 1)) c))) j z = kb_a μl j z := fun j z hj => by rw [vt_aax, if_neg (by omega), vt_aax, if_neg (by omega), vt_ap, vt_aax, if_neg (by omega)]
    have s45 : ∀ j z, 3 ≤ j → kb_a (kb_p (kb_p (kb_p (kb_ap (kb_ap (kb_p σ 2 (nI (R + 1))) 1 (R + 2) (nI (F (R + 1) + kq_M S (G (R + 1)) c))) 2 (R + 2) (nI (G (R + 1) + c))) 3 (nI (F (R + 1) + kq_M S (G (R + 1)) c - F (R + 1)))) 4 (if w = 0 then nI (F (R + 1) + kq_M S (G (R + 1)) c) - nI 1 else nI (F (R + 1)))) 5 (vt_stp w)) j z = kb_a σ j z := fun j z hj => by rw [vt_ap, vt_ap, vt_ap, vt_aax, if_neg (by omega), vt_aax, if_neg (by omega), vt_ap]
    unfold vt_L
    rw [n678 1 _ (by decide), n678 2 _ (by decide), n678 3 _ (by decide), n678 4 _ (by decide), s45 4 _ (by decide), s45 5 _ (by decide)]
    by_cases hr1 : r = R + 1
    · subst hr1
      rw [hFo (R + 1) (by omega)] at hx1
      rw [show R + 1 + 1 = R + 2 from rfl, hF'] at hx2
      rw [if_neg (by omega), hFo (R + 1) (by omega), show R + 1 - 1 = R from rfl, hFo R (by omega)]
      obtain ⟨i, y, hi, hy, hxe⟩ := kq_find (S := S) (g := G (R + 1)) c (x - F (R + 1)) (by omega)
      have hxx : x = F (R + 1) + kq_M S (G (R + 1)) i + y := by omega
      obtain ⟨z1, z2, z3, z4, z5⟩ := y11 i hi y hy
      obtain ⟨w1, w2⟩ := d1 i hi y hy
      have hsv := (c1 i hi).1
      have hp3 := kq_pn_le hsv
      rw [← hxx] at z1 z2 z3 z4 z5 w1 w2
      refine ⟨z1, z2, Or.inl z3, fun _ => z3, kq_pn (S (G (R + 1) + i)), hp3, fun h => absurd h (by omega), w1, z4, fun j hj => ?_⟩
      have hmU := (kq_mono (S := S) (g := G (R + 1)) (show i + 1 ≤ c by omega)).1
      rw [kq_U_s] at hmU
      have hpo := kq_po_lt hsv hy (by omega)
      have hin := vt_nd_in (w := w) (R := R) (F := F) (i := kq_U S (G (R + 1)) i + kq_po (S (G (R + 1) + i)) y + j) (by omega)
      refine ⟨_, hin.1, hin.2, by rw [n678 5 _ (by decide)]; exact z5 j hj, ?_⟩
      rw [w2 (by omega)]
      exact kq_nd_step (by omega) (by omega)
    · rw [hFo r (by omega)] at hx1
      rw [hFo (r + 1) (by omega)] at hx2
      have hm1 := (hmono (r + 1) (R + 1) (by omega) (by omega)).1
      have hL := b13 r (by omega) x hx1 hx2
      unfold vt_L at hL
      obtain ⟨v1, v2, v3, v4, cc, v5, v6, v7, v8, v9⟩ := hL
      obtain ⟨t1, t2⟩ := y6 x (by omega)
      rw [vt_ap, g2 1 (by decide) (by decide)] at t1
      rw [vt_ap, g2 4 (by decide) (by decide)] at t2
      have r5 : ∀ j, j < cc → kb_a μl 5 (3 * x + j) = kb_a μp 5 (3 * x + j) := fun j hj => by rw [y7 _ (by omega), vt_ap, g2 5 (by decide) (by decide)]
      have q45 := f5 x (by omega)
      rw [hFo (r - 1) (by omega), hFo r (by omega), t1, t2, if_pos (by omega), q45.1, q45.2]
      have hr2 : kb_a μl 2 x = nI (r + 1) ∧ (kb_a μl 3 x = 0 ∨ kb_a μl 3 x = 1) := by
        by_cases hrR : r = R
        · subst hrR
          obtain ⟨d, e1, e2⟩ := kq_nd_on (w := w) hx1 hx2
          have := y9 d (by omega)
          rw [e2] at this; exact this
        · have hm2 := (hmono (r + 1) R (by omega) (by omega)).1
          obtain ⟨e1, e2⟩ := y8 x (by omega)
          rw [vt_ap, g2 2 (by decide) (by decide)] at e1
          rw [vt_ap, g2 3 (by decide) (by decide)] at e2
          rw [if_pos (by omega)] at v2
          rw [e1, e2]; exact ⟨v2, v3⟩
      refine ⟨v1, hr2.1, hr2.2, fun h => absurd h (by omega), cc, v5, v6, v7, v8, fun j hj => ?_⟩
      obtain ⟨yy, o1, o2, o3, o4⟩ := v9 j hj
      exact ⟨yy, o1, o2, by rw [n678 5 _ (by decide), r5 j hj]; exact o3, o4⟩
  · rw [vt_gp, if_neg (by omega), vt_gp, if_neg (by omega), vt_gp, if_neg (by omega), vt_ga, vt_ga, vt_gp, if_neg (by omega)]
  · rw [vt_ga, vt_ga, vt_gp, if_neg (by omega), vt_ga]; exact y1 j (by omega)
  · rw [vt_aa, if_neg (by omega), vt_aa, if_neg (by omega), vt_ap, vt_aa, if_neg (by omega), y3 j (by omega)]; rfl
