theorem kq_looks {σ : kb_S} {n k : Nat} (h : kb_g σ 16 = nI n) (hn : n ≤ 200) (hk : k < n) : fn_X3_kind (nI k) σ = some (kb_a σ 7 k) ∧ fn_X3_link (nI k) σ = some (kb_a σ 10 k) ∧ fn_X3_count (nI k) σ = some (kb_a σ 9 k) ∧ fn_X3_place (nI k) σ = some (kb_a σ 8 k) ∧ fn_X3_takes (nI k) σ = some (kb_b σ 2 k) := by
  have h1 : fn_X3_has (nI k) σ = 1 := by
    unfold fn_X3_has
    rw [if_neg (vt_neg (by omega)), h, if_neg (by rw [vt_leI (by omega) (by omega)]; omega)]
  unfold fn_X3_kind fn_X3_link fn_X3_count fn_X3_place fn_X3_takes
  rw [h1]
  simp only [if_neg (show ¬ (1 : Int32) = 0 by decide), if_pos (vt_in' (n := k) (m := 200) (by omega) (by omega)), nI_clamp (show k < 2 ^ 31 by omega)]
  exact ⟨trivial, trivial, trivial, trivial, trivial⟩
theorem kq_le0 {v : Nat} (h : v < 2 ^ 63) : (lg_cmp (Int64.ofNat v) 0 ≤ 0) ↔ v = 0 := by
  rw [lg_cmp_le, Int64.le_iff_toInt_le, lg_ofNat_toInt h, show (0 : Int64).toInt = 0 from rfl]; omega
theorem kq_dec {v : Nat} (h : 1 ≤ v) : Int64.ofNat v - 1 = Int64.ofNat (v - 1) := by
  obtain ⟨u, rfl⟩ : ∃ u, v = u + 1 := ⟨v - 1, by omega⟩
  rw [Int64.ofNat_add, show (1 : Int64) = Int64.ofNat 1 from rfl, Int64.add_sub_cancel, Nat.add_sub_cancel]
section KQKN
variable {w : Int32} {R : Nat} {F G : Nat → Nat} {n : Nat} {K N O Wh : Nat → Nat} {sk : Nat → List Nat} {σp μp : kb_S}
theorem kq_knst (he : kq_ev w R F G n K N O Wh sk σp μp) {k s : Nat} (hs : vt_vs s = true) (hk : k < n) (hK : K k = s) (hN : N k ≤ 99) (kc12 : Int32 → Int32 → Int32 → kb_S → Option kb_S) : ∀ (j i c : Nat) (S : Nat → Nat) (σ μ : kb_S) (fu fm : Nat), i + j = N k → j < fu → j < fm → kq_rw w R F G σp μp S c σ μ → kb_g σ 15 = 0 → kb_g μ 6 = 0 →
    ∃ σ2 μ2 x2 x3, fp_X2_knitStitches_21 fu (nI k) (nI s) (nI (N k)) (nI i) σ = some σ2 ∧ fp_X9_flatten_254 kc12 fm (nI (F (R + 1) - F R - kq_U S (G (R + 1)) c)) (nI (kq_M S (G (R + 1)) c)) (nI k) (nI s) (nI i) μ = kc12 x2 x3 (nI (k + 1)) μ2 ∧
      ((∃ S2, kq_rw w R F G σp μp S2 (c + j) σ2 μ2 ∧ x2 = nI (F (R + 1) - F R - kq_U S2 (G (R + 1)) (c + j)) ∧ x3 = nI (kq_M S2 (G (R + 1)) (c + j)) ∧ kb_g σ2 15 = 0 ∧ kb_g μ2 6 = 0 ∧ kb_g σ2 14 = kb_g σ 14 ∧ kb_b σ2 1 = kb_b σ 1 ∧ kb_a μ2 18 = kb_a μ 18 ∧ ∀ x, x < G (R + 1) → S2 x = S x) ∨ kq_kf R F G σp μp σ2 μ2) := by
  have hn := he.2.1
  have hmk := he.2.2.2.1 k hk
  have v3 := kq_vs3 hs
  have hpl := hmk.2.2.2.2.1 (by omega)
  have hin : kb_in (nI k) 220 = true := vt_in' (by omega) (by omega)
  intro j
  induction j with
  | zero =>
      intro i c S σ μ fu fm hij hfu hfm h h15 h6
      obtain ⟨f, rfl⟩ : ∃ f, fu = f + 1 := ⟨fu - 1, by omega⟩
      obtain ⟨g, rfl⟩ : ∃ g, fm = g + 1 := ⟨fm - 1, by omega⟩
      refine ⟨σ, μ, _, _, ?_, ?_, Or.inl ⟨S, h, rfl, rfl, h15, h6, rfl, rfl, rfl, fun _ _ => rfl⟩⟩
      · rw [fp_X2_knitStitches_21_s, if_pos (by rw [vt_leI (by omega) (by omega)]; omega)]
      · have hmf := h.2.2.2.2.2
        rw [fp_X9_flatten_254_s, if_pos hin, nI_clamp (by omega), hmf.2 10 (by decide) (by decide), hmk.2.1, if_pos (by rw [vt_leI (by omega) (by omega)]; omega)]
        unfold fp_X9_flatten_400 fp_X9_flatten_403
        rw [vt_1, nI_add]; rfl
  | succ j ih =>
      intro i c S σ μ fu fm hij hfu hfm h h15 h6
      obtain ⟨f, rfl⟩ : ∃ f, fu = f + 1 + 1 := ⟨fu - 2, by omega⟩
      obtain ⟨g, rfl⟩ : ∃ g, fm = g + 1 + 1 := ⟨fm - 2, by omega⟩
      have hcf := h.2.2.2.2.1
      have hmf := h.2.2.2.2.2
      have hbd := h.2.1
      have h0 := kq_fault0 he h hs
      have h9 := kq_fault9 he h hs hk hK (i := i) (by omega) hN h6 kc12 (g + 1) _ rfl
      have hlk := kq_looks (σ := σ) (by rw [hcf.1 16 (by decide) (by decide) (by decide) (by decide) (by decide)]; exact hn.2.1) hn.1 hk
      have hpl2 : fn_X3_place (nI k) σ = some (nI (Wh k)) := by rw [hlk.2.2.2.1, hcf.2.1 8 (by decide) (by decide) (by decide), hpl.2.1]
      have hfr : kq_fs (F (R + 1) - F R) (kq_U S (G (R + 1)) c) (kq_M S (G (R + 1)) c) (F (R + 1)) s ≤ 6 ∧ (kq_fs (F (R + 1) - F R) (kq_U S (G (R + 1)) c) (kq_M S (G (R + 1)) c) (F (R + 1)) s = 0 → vt_tk s ≤ F (R + 1) - F R - kq_U S (G (R + 1)) c ∧ F (R + 1) + kq_M S (G (R + 1)) c + vt_mk s ≤ 600 ∧ ¬ (s = 8 ∧ F (R + 1) - F R - kq_U S (G (R + 1)) c + kq_M S (G (R + 1)) c = 1)) := by
        unfold kq_fs
        split
        · split
          · exact ⟨by omega, fun h => absurd h (by decide)⟩
          · split
            · exact ⟨by omega, fun _ => ⟨by assumption, by assumption, by assumption⟩⟩
            · exact ⟨by omega, fun h => absurd h (by decide)⟩
        · exact ⟨by omega, fun h => absurd h (by decide)⟩
      generalize kq_fs (F (R + 1) - F R) (kq_U S (G (R + 1)) c) (kq_M S (G (R + 1)) c) (F (R + 1)) s = x at h0 h9 hfr
      have hcl : fp_X2_knitStitches_21 (f + 1 + 1) (nI k) (nI s) (nI (N k)) (nI i) σ = (fn_X2_note (nI x) (nI (Wh k)) σ).bind (fun q5 => if kb_g q5 15 = 0 then (fn_X0_addStitch (nI s) q5).bind (fun q7 => fp_X2_knitStitches_21 (f + 1) (nI k) (nI s) (nI (N k)) (nI (i + 1)) q7) else fp_X2_knitStitches_21 (f + 1) (nI k) (nI s) (nI (N k)) (nI (i + 1)) q5) := by
        rw [fp_X2_knitStitches_21_s, if_neg (by rw [vt_leI (by omega) (by omega)]; omega), if_pos h15, h0, Option.bind_some, hpl2, Option.bind_some]
        unfold fp_X2_knitStitches_69
        rw [vt_1, nI_add]
      rw [hcl, h9]
      by_cases hx : x = 0
      · subst hx
        obtain ⟨t1, t2, t3⟩ := hfr.2 rfl
        obtain ⟨S2, σ2, r1, r2, r3, r4, r5, r6, r7, r8⟩ := kq_rw_push he h hs (by omega) t2 t3
        have hnote : fn_X2_note (nI 0) (nI (Wh k)) σ = some σ := by unfold fn_X2_note; rw [if_pos (show nI 0 = 0 from rfl)]
        rw [hnote, Option.bind_some, if_pos h15, r1, Option.bind_some, if_pos rfl, pk_sub t1]
        obtain ⟨σ3, μ3, x2, x3, i1, i2, i3⟩ := ih (i + 1) (c + 1) S2 σ2 _ (f + 1) (g + 1) (by omega) (by omega) (by omega) r2 (by rw [r4]; exact h15) h6
        refine ⟨σ3, μ3, x2, x3, i1, ?_, ?_⟩
        · rw [← i2, r6, r7, Nat.sub_sub]
        · rw [show c + (j + 1) = c + 1 + j by omega]
          rcases i3 with ⟨S3, y1, y2, y3, y4, y5, y6, y7, y8, y9⟩ | y
          · exact Or.inl ⟨S3, y1, y2, y3, y4, y5, by rw [y6, r3], by rw [y7, r5], by rw [y8]; rfl, fun x hx => by rw [y9 x hx, r8 x hx]⟩
          · exact Or.inr y
      · have hne : ¬ (nI x = 0) := by rw [vt_0, vt_eqI (by omega) (by omega)]; exact hx
        have hwh := hpl.1
        have hans : ¬ (-(nI (1000 * x + Wh k)) = (0 : Int32)) := by
          intro h3
          have h4 := congrArg (fun z : Int32 => -z) h3
          simp only [Int32.neg_neg, Int32.neg_zero] at h4
          rw [vt_0, vt_eqI (by omega) (by omega)] at h4
          omega
        have hnote : fn_X2_note (nI x) (nI (Wh k)) σ = some (kb_p σ 15 (-(nI (1000 * x + Wh k)))) := by
          unfold fn_X2_note fn_X1_answer
          rw [if_neg hne, show (1000 : Int32) = nI 1000 from rfl, pk_mul, nI_add]
        have hc15 : kb_g (kb_p σ 15 (-(nI (1000 * x + Wh k)))) 15 = -(nI (1000 * x + Wh k)) := rfl
        rw [hnote, Option.bind_some, hc15, if_neg hans, if_neg hx]
        refine ⟨kb_p σ 15 (-(nI (1000 * x + Wh k))), (kb_p (kb_ap (kb_p (kb_p μ 6 (nI x)) 7 (nI (Wh k))) 13 c (nI s)) 10 (nI (c + 1))), (nI (F (R + 1) - F R - kq_U S (G (R + 1)) c) - nI (vt_tk s)), (nI (kq_M S (G (R + 1)) c + vt_mk s)), ?_, ?_, Or.inr ⟨x, Wh k, by omega, by omega, hwh, rfl, rfl, rfl, ⟨fun j h6 h7 h8 h14 h15' => ?_, hcf.2.1, hcf.2.2.1, hcf.2.2.2.1, hcf.2.2.2.2⟩, ⟨fun j h6' h7 h10 => ?_, fun j h13 h18 => ?_⟩⟩⟩
        · rw [fp_X2_knitStitches_21_s, hc15, if_neg hans]; split <;> rfl
        · rw [fp_X9_flatten_254_s, if_pos hin]
          rw [show kb_g (kb_p (kb_ap (kb_p (kb_p μ 6 (nI x)) 7 (nI (Wh k))) 13 c (nI s)) 10 (nI (c + 1))) 6 = nI x from rfl, if_neg hne]
          unfold fp_X9_flatten_400 fp_X9_flatten_403
          rw [vt_1, nI_add, ite_self]
        · rw [vt_gp, if_neg h15']; exact hcf.1 j h6 h7 h8 h14 h15'
        · rw [vt_gp, if_neg h10, vt_ga, vt_gp, if_neg h7, vt_gp, if_neg h6']; exact hmf.1 j h6' h7 h10
        · rw [vt_ap, vt_aa, if_neg h13]; exact hmf.2 j h13 h18
end KQKN
