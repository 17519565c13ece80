/-! a row laid, stitch by stitch -/
theorem kq_nl.same {w : Int32} {R : Nat} {F : Nat → Nat} {x pn p : Nat} {μ μ2 : kb_S} (h : kq_nl w R F x pn p μ) (h1 : kb_a μ2 1 x = kb_a μ 1 x) (h2 : kb_a μ2 2 x = kb_a μ 2 x) (h3 : kb_a μ2 3 x = kb_a μ 3 x) (h4 : kb_a μ2 4 x = kb_a μ 4 x) (h5 : ∀ j, j < pn → kb_a μ2 5 (3 * x + j) = kb_a μ 5 (3 * x + j)) : kq_nl w R F x pn p μ2 := by
  obtain ⟨a, b, c, d, e⟩ := h
  exact ⟨by rw [h1]; exact a, by rw [h2]; exact b, by rw [h3]; exact c, by rw [h4]; exact d, fun j hj => by rw [h5 j hj]; exact e j hj⟩
theorem kq_pn_le {s : Nat} (hs : vt_vs s = true) : kq_pn s ≤ 3 := by
  unfold kq_pn
  split
  · exact ((vt_st hs).2.2.2.2.2.2.2.2.2 (by assumption)).2.1
  · omega
theorem kq_sum_const (b a : Nat) : ∀ n, vt_sum (fun _ => b) a n = n * b
  | 0 => by simp [vt_sum]
  | n + 1 => by rw [vt_sum, kq_sum_const b a n, Nat.succ_mul]
def kq_ly (w : Int32) (R : Nat) (F G S : Nat → Nat) (μq : kb_S) (i : Nat) (μ : kb_S) : Prop :=
  ((∀ j, j ≠ 3 → kb_g μ j = kb_g μq j) ∧ kb_g μ 3 = nI (F (R + 1) + kq_M S (G (R + 1)) i) ∧ (∀ j, (j = 0 ∨ 6 ≤ j ∧ j ≠ 8) → kb_a μ j = kb_a μq j)) ∧
  ((∀ x, x < 80 * (R + 1) → kb_a μ 8 x = kb_a μq 8 x) ∧ (∀ k, k < i → kb_a μ 8 (80 * (R + 1) + k) = nI (S (G (R + 1) + k)))) ∧
  ((∀ x, x < F (R + 1) → kb_a μ 1 x = kb_a μq 1 x ∧ kb_a μ 4 x = kb_a μq 4 x) ∧ (∀ x, x < 3 * F (R + 1) → kb_a μ 5 x = kb_a μq 5 x) ∧ (∀ x, x < F R → kb_a μ 2 x = kb_a μq 2 x ∧ kb_a μ 3 x = kb_a μq 3 x)) ∧
  ((∀ d, d < kq_U S (G (R + 1)) i → kb_a μ 2 (vt_nd w R F d) = nI (R + 1) ∧ (kb_a μ 3 (vt_nd w R F d) = nI 0 ∨ kb_a μ 3 (vt_nd w R F d) = nI 1)) ∧
   vt_sum (fun d => vt_is (kb_a μ 3 (vt_nd w R F d) = 1)) 0 (kq_U S (G (R + 1)) i) = vt_sum (fun k => vt_is (S k = 8)) (G (R + 1)) i) ∧
  (∀ k, k < i → ∀ y, y < vt_mk (S (G (R + 1) + k)) → kq_nl w R F (F (R + 1) + kq_M S (G (R + 1)) k + y) (kq_pn (S (G (R + 1) + k))) (kq_U S (G (R + 1)) k + kq_po (S (G (R + 1) + k)) y) μ)
theorem kq_ly1 {w : Int32} {R : Nat} {F G S : Nat → Nat} {μq : kb_S} {c : Nat} (hw : kb_g μq 2 = w) (hR : R ≤ 29) (hF0 : F R ≤ F (R + 1)) (hF : F (R + 1) ≤ 600) (hU : kq_U S (G (R + 1)) c ≤ F (R + 1) - F R) (hM : F (R + 1) + kq_M S (G (R + 1)) c ≤ 600) (hc : c ≤ 80) (h10 : kb_g μq 10 = nI c) (h13 : ∀ i, i < c → vt_vs (S (G (R + 1) + i)) = true ∧ kb_a μq 13 i = nI (S (G (R + 1) + i))) {i : Nat} (hi : i < c) {μ : kb_S} (h : kq_ly w R F G S μq i μ) (fu : Nat) :
    ∃ μ2, fp_X9_lay_28 (fu + 1) (nI (F R)) (nI (F (R + 1))) (nI (kq_U S (G (R + 1)) i)) (nI (R + 1)) (nI i) μ = fp_X9_lay_28 fu (nI (F R)) (nI (F (R + 1))) (nI (kq_U S (G (R + 1)) (i + 1))) (nI (R + 1)) (nI (i + 1)) μ2 ∧ kq_ly w R F G S μq (i + 1) μ2 := by
  obtain ⟨⟨a1, a2, a3⟩, ⟨b1, b2⟩, ⟨c1, c2, c3⟩, ⟨d1, d2⟩, e1⟩ := h
  obtain ⟨hs, h13i⟩ := h13 i hi
  have hmU := (kq_mono (S := S) (g := G (R + 1)) (show i + 1 ≤ c by omega)).1
  have hmM := (kq_mono (S := S) (g := G (R + 1)) (show i + 1 ≤ c by omega)).2
  rw [kq_U_s] at hmU
  rw [kq_M_s] at hmM
  rw [kq_U_s]
  have hst := vt_st hs
  have hlt := vt_vs_lt hs
  have hpn3 := kq_pn_le hs
  generalize hsd : S (G (R + 1) + i) = s at *
  generalize hud : kq_U S (G (R + 1)) i = u at *
  generalize hmd : F (R + 1) + kq_M S (G (R + 1)) i = m0 at *
  have hm0 : F (R + 1) ≤ m0 := by omega
  have hwμ : kb_g μ 2 = w := by rw [a1 2 (by decide)]; exact hw
  obtain ⟨μ1, r1, r2⟩ := kq_lay56 hwμ hF hs (by omega) (by omega) (fp_X9_lay_28 fu) (nI i) (vt_mk s) 0 μ kb_FU (by omega) (by rw [vt_fu]; omega) (⟨fun _ _ => rfl, a2, fun _ _ => rfl, fun _ _ => ⟨rfl, rfl, rfl, rfl⟩, fun _ _ => rfl, fun z hz => absurd hz (by omega)⟩ : kq_l5 w R F u s m0 0 (fun _ => kq_pn s) μ μ)
  obtain ⟨p1, p2, p3, p4, p5, p6⟩ := r2
  obtain ⟨μ2, r3, r4⟩ := kq_lay172 (by rw [p1 2 (by decide)]; exact hwμ) hR hF hs (by omega) (fp_X9_lay_28 fu) (show i < 80 by omega) (vt_tk s) 0 μ1 kb_FU (by omega) (by rw [vt_fu]; omega) (⟨fun _ => rfl, fun _ _ _ => rfl, fun z hz => absurd hz (by omega), fun _ _ => ⟨rfl, rfl⟩⟩ : kq_l2 w R F u s 0 μ1 μ1)
  obtain ⟨q1, q2, q3, q4⟩ := r4
  have hnd : ∀ d, d < u + vt_tk s → F R ≤ vt_nd w R F d ∧ vt_nd w R F d < F (R + 1) := fun d hd => vt_nd_in (by omega)
  have o23 : ∀ x, x < F R ∨ F (R + 1) ≤ x → kb_a μ2 2 x = kb_a μ1 2 x ∧ kb_a μ2 3 x = kb_a μ1 3 x := fun x hx => q4 x (fun z hz => by have := hnd (u + z) (by omega); omega)
  have n8 : ∀ j x, j ≠ 8 → kb_a (kb_ap μ2 8 (80 * (R + 1) + i) (nI s)) j x = kb_a μ2 j x := fun j x hj => by rw [vt_aax, if_neg (by omega)]
  have old : ∀ d, d < u → kb_a μ2 2 (vt_nd w R F d) = kb_a μ 2 (vt_nd w R F d) ∧ kb_a μ2 3 (vt_nd w R F d) = kb_a μ 3 (vt_nd w R F d) := by
    intro d hd
    have h1 := hnd d (by omega)
    obtain ⟨t1, t2⟩ := q4 (vt_nd w R F d) (fun z hz he => by have := kq_nd_inj (by omega) (by omega) he; omega)
    have t3 := p4 (vt_nd w R F d) (by omega)
    exact ⟨by rw [t1, t3.2.1], by rw [t2, t3.2.2.1]⟩
  have new : ∀ x pn p, F (R + 1) ≤ x → kq_nl w R F x pn p μ1 → kq_nl w R F x pn p (kb_ap μ2 8 (80 * (R + 1) + i) (nI s)) := fun x pn p hx hn => hn.same (by rw [n8 1 _ (by decide), q2 1 (by decide) (by decide)]) (by rw [n8 2 _ (by decide), (o23 x (Or.inr hx)).1]) (by rw [n8 3 _ (by decide), (o23 x (Or.inr hx)).2]) (by rw [n8 4 _ (by decide), q2 4 (by decide) (by decide)]) (fun j _ => by rw [n8 5 _ (by decide), q2 5 (by decide) (by decide)])
  refine ⟨kb_ap μ2 8 (80 * (R + 1) + i) (nI s), ?_, ⟨fun j hj => ?_, ?_, fun j hj => ?_⟩, ⟨fun x hx => ?_, fun k hk => ?_⟩, ⟨fun x hx => ?_, fun x hx => ?_, fun x hx => ?_⟩, ⟨fun d hd => ?_, ?_⟩, fun k hk y hy => ?_⟩
  · rw [fp_X9_lay_28_s, a1 10 (by decide), h10, if_neg (by rw [vt_leI (by omega) (by omega)]; omega), if_pos (vt_in' (by omega) (by omega)), nI_clamp (by omega), a3 13 (by omega), h13i, hst.2.2.1, vt_0, r1, vt_0, r3]
  · rw [vt_ga, q1, p1 j hj]; exact a1 j hj
  · rw [vt_ga, q1, p2, kq_M_s, ← hmd, hsd, Nat.add_assoc]
  · rw [vt_aa, if_neg (by omega), q2 j (by omega) (by omega), p3 j (by omega)]; exact a3 j hj
  · rw [vt_aax, if_neg (by omega), q2 8 (by decide) (by decide), p3 8 (by omega)]; exact b1 x hx
  · by_cases hki : k = i
    · rw [hki, vt_aax, if_pos ⟨rfl, rfl⟩, hsd]
    · rw [vt_aax, if_neg (by omega), q2 8 (by decide) (by decide), p3 8 (by omega)]; exact b2 k (by omega)
  · obtain ⟨t1, t2, t3, t4⟩ := p4 x (by omega)
    rw [n8 1 _ (by decide), n8 4 _ (by decide), q2 1 (by decide) (by decide), q2 4 (by decide) (by decide), t1, t4]; exact c1 x hx
  · rw [n8 5 _ (by decide), q2 5 (by decide) (by decide), p5 x (by omega)]; exact c2 x hx
  · obtain ⟨t1, t2, t3, t4⟩ := p4 x (by omega)
    rw [n8 2 _ (by decide), n8 3 _ (by decide), (o23 x (Or.inl hx)).1, (o23 x (Or.inl hx)).2, t2, t3]; exact c3 x hx
  · rw [kq_U_s, hud, hsd] at hd
    rw [n8 2 _ (by decide), n8 3 _ (by decide)]
    by_cases hdu : d < u
    · rw [(old d hdu).1, (old d hdu).2]; exact d1 d hdu
    · obtain ⟨t1, t2⟩ := q3 (d - u) (by omega)
      rw [show u + (d - u) = d by omega] at t1 t2
      refine ⟨t1, ?_⟩
      rw [t2]; unfold vt_is; split
      · exact Or.inr rfl
      · exact Or.inl rfl
  · rw [kq_U_s, hud, hsd, vt_sum_add, vt_sum, ← d2, hsd, Nat.zero_add]
    have e2 : vt_sum (fun d => vt_is (kb_a (kb_ap μ2 8 (80 * (R + 1) + i) (nI s)) 3 (vt_nd w R F d) = 1)) 0 u = vt_sum (fun d => vt_is (kb_a μ 3 (vt_nd w R F d) = 1)) 0 u := vt_sum_congr u (fun d hd => by
      rw [n8 3 _ (by decide), Nat.zero_add, (old d hd).2])
    have e3 : vt_sum (fun d => vt_is (kb_a (kb_ap μ2 8 (80 * (R + 1) + i) (nI s)) 3 (vt_nd w R F d) = 1)) u (vt_tk s) = vt_sum (fun _ => vt_is (s = 8)) u (vt_tk s) := vt_sum_congr (vt_tk s) (fun d hd => by
      rw [n8 3 _ (by decide), (q3 d hd).2]
      unfold vt_is
      by_cases h8 : s = 8
      · rw [if_pos h8, if_pos (show nI 1 = 1 from rfl)]
      · rw [if_neg h8, if_neg (by decide)])
    rw [e2, e3, kq_sum_const]
    unfold vt_is
    by_cases h8 : s = 8
    · rw [if_pos h8, h8]; rfl
    · rw [if_neg h8, Nat.mul_zero]
  · by_cases hki : k = i
    · subst hki
      rw [hsd] at hy ⊢
      rw [hud, hmd]
      exact new _ _ _ (by omega) (p6 y hy)
    · have hmk2 := (kq_mono (S := S) (g := G (R + 1)) (show k + 1 ≤ i by omega)).2
      rw [kq_M_s] at hmk2
      have hsk := (h13 k (by omega)).1
      have hp3 := kq_pn_le hsk
      have hx : F (R + 1) + kq_M S (G (R + 1)) k + y < m0 := by omega
      obtain ⟨t1, t2, t3, t4⟩ := p4 _ hx
      exact new _ _ _ (by omega) ((e1 k (by omega) y hy).same t1 t2 t3 t4 (fun j hj => p5 _ (by omega)))
theorem kq_lyall {w : Int32} {R : Nat} {F G S : Nat → Nat} {μq : kb_S} {c : Nat} (hw : kb_g μq 2 = w) (hR : R ≤ 29) (hF0 : F R ≤ F (R + 1)) (hF : F (R + 1) ≤ 600) (hU : kq_U S (G (R + 1)) c ≤ F (R + 1) - F R) (hM : F (R + 1) + kq_M S (G (R + 1)) c ≤ 600) (hc : c ≤ 80) (h10 : kb_g μq 10 = nI c) (h13 : ∀ i, i < c → vt_vs (S (G (R + 1) + i)) = true ∧ kb_a μq 13 i = nI (S (G (R + 1) + i))) (h3 : kb_g μq 3 = nI (F (R + 1))) (h4 : kb_g μq 4 = nI R) (h6 : kb_a μq 6 R = nI (F R)) :
    ∃ μ, kq_ly w R F G S μq c μ ∧ fn_X9_lay μq = some (kb_ap (kb_ap (kb_p (kb_ap μ 7 (R + 1) (nI c)) 4 (nI (R + 1))) 6 (R + 1) (nI (F (R + 1)))) 6 (R + 2) (nI (F (R + 1) + kq_M S (G (R + 1)) c))) := by
  have key : ∀ (k i : Nat) (μ : kb_S) (fu : Nat), i + k = c → k < fu → kq_ly w R F G S μq i μ → ∃ μ2, kq_ly w R F G S μq c μ2 ∧ fp_X9_lay_28 fu (nI (F R)) (nI (F (R + 1))) (nI (kq_U S (G (R + 1)) i)) (nI (R + 1)) (nI i) μ = some (kb_ap (kb_ap (kb_p (kb_ap μ2 7 (R + 1) (nI c)) 4 (nI (R + 1))) 6 (R + 1) (nI (F (R + 1)))) 6 (R + 2) (nI (F (R + 1) + kq_M S (G (R + 1)) c))) := by
    intro k
    induction k with
    | zero =>
        intro i μ fu hi hf h
        obtain ⟨f, rfl⟩ : ∃ f, fu = f + 1 := ⟨fu - 1, by omega⟩
        have hic : i = c := by omega
        subst hic
        refine ⟨μ, h, ?_⟩
        obtain ⟨⟨a1, a2, a3⟩, _⟩ := h
        have e : kb_g (kb_ap (kb_ap (kb_p (kb_ap μ 7 (R + 1) (nI i)) 4 (nI (R + 1))) 6 (R + 1) (nI (F (R + 1)))) 6 (R + 2) (nI (F (R + 1) + kq_M S (G (R + 1)) i))) 3 = kb_g μ 3 := rfl
        rw [fp_X9_lay_28_s, a1 10 (by decide), h10, if_pos (by rw [vt_leI (by omega) (by omega)]; omega), if_pos (vt_in' (by omega) (by omega)), if_pos (vt_in' (by omega) (by omega)), vt_1, nI_add, if_pos (vt_in' (by omega) (by omega)), nI_clamp (by omega), nI_clamp (by omega), a2]
    | succ k ih =>
        intro i μ fu hi hf h
        obtain ⟨f, rfl⟩ : ∃ f, fu = f + 1 := ⟨fu - 1, by omega⟩
        obtain ⟨μ2, r1, r2⟩ := kq_ly1 hw hR hF0 hF hU hM hc h10 h13 (show i < c by omega) h f
        obtain ⟨μ3, r3, r4⟩ := ih (i + 1) μ2 f (by omega) (by omega) r2
        exact ⟨μ3, r3, by rw [r1]; exact r4⟩
  obtain ⟨μ2, r1, r2⟩ := key c 0 μq kb_FU (by omega) (by rw [vt_fu]; omega) ⟨⟨fun _ _ => rfl, h3, fun _ _ => rfl⟩, ⟨fun _ _ => rfl, fun k hk => absurd hk (by omega)⟩, ⟨fun _ _ => ⟨rfl, rfl⟩, fun _ _ => rfl, fun _ _ => ⟨rfl, rfl⟩⟩, ⟨fun d hd => absurd hd (by unfold kq_U vt_sum; omega), rfl⟩, fun k hk => absurd hk (by omega)⟩
  refine ⟨μ2, r1, ?_⟩
  unfold fn_X9_lay
  rw [h4, if_pos (vt_in' (by omega) (by omega)), nI_clamp (by omega), h6, h3, vt_1, nI_add]
  exact r2
