/-- runs that are left of the open brackets -/
def kq_sv (σ μ : kb_S) : List Nat → Prop
  | [] => True
  | o :: r => (∃ v, 1 ≤ v ∧ v ≤ 99 ∧ kb_b σ 1 (r.length + 1) = Int64.ofNat v ∧ kb_a μ 18 o = nI v) ∧ kq_sv σ μ r
theorem kq_sv.same {σ μ σ2 μ2 : kb_S} : ∀ {l : List Nat}, kq_sv σ μ l → (∀ x, x ≤ l.length → kb_b σ2 1 x = kb_b σ 1 x) → (∀ o, o ∈ l → kb_a μ2 18 o = kb_a μ 18 o) → kq_sv σ2 μ2 l
  | [], _, _, _ => trivial
  | o :: r, ⟨⟨v, a1, a2, a3, a4⟩, a5⟩, h1, h2 => by
      refine ⟨⟨v, a1, a2, ?_, ?_⟩, kq_sv.same a5 (fun x hx => h1 x (by simp; omega)) (fun x hx => h2 x (List.mem_cons_of_mem _ hx))⟩
      · rw [h1 _ (by simp)]; exact a3
      · rw [h2 o List.mem_cons_self]; exact a4
theorem kq_meas0 (A A2 c u v z w m : Nat) (h1 : A2 + 1 ≤ A) (h2 : A * c + u + z ≤ m + 1) (hu : u = v + 1) (hw : w ≤ c) : A2 * c + v + w ≤ m := by
  have h3 : (A2 + 1) * c ≤ A * c := Nat.mul_le_mul_right c h1
  rw [Nat.add_mul, Nat.one_mul] at h3
  omega
theorem kq_meas {A A2 n k f m : Nat} (h1 : A2 + 1 ≤ A) (h2 : A * 402 + (n - k) + 201 * f ≤ m + 1) (hk : k < n) : A2 * 402 + (n - (k + 1)) + 201 * 1 ≤ m := kq_meas0 A A2 402 (n - k) (n - (k + 1)) (201 * f) (201 * 1) m h1 h2 (by omega) (by decide)
section KQPN
variable {w : Int32} {R : Nat} {F G : Nat → Nat} {n : Nat} {K N O Wh : Nat → Nat} {sk : Nat → List Nat} {σp μp : kb_S}
theorem kq_rw.same {S : Nat → Nat} {c : Nat} {σ μ σ2 μ2 : kb_S} (h : kq_rw w R F G σp μp S c σ μ) (h1 : ∀ j, j ≠ 14 → kb_g σ2 j = kb_g σ j) (h2 : ∀ j, kb_a σ2 j = kb_a σ j) (h3 : ∀ j, j ≠ 1 → kb_b σ2 j = kb_b σ j) (h4 : ∀ j, kb_g μ2 j = kb_g μ j) (h5 : ∀ j, j ≠ 18 → kb_a μ2 j = kb_a μ j) : kq_rw w R F G σp μp S c σ2 μ2 := by
  obtain ⟨⟨a1, a2, a3, a4⟩, ⟨b1, b2, b3⟩, c1, d1, ⟨f1, f2, f3, f4, f5⟩, ⟨g1, g2⟩⟩ := h
  refine ⟨⟨by rw [h1 6 (by decide)]; exact a1, by rw [h1 7 (by decide)]; exact a2, by rw [h1 8 (by decide)]; exact a3, by rw [h4]; exact a4⟩, ⟨b1, b2, b3⟩, fun i hi => by rw [h2, h5 13 (by decide)]; exact c1 i hi, fun i hi y hy => by rw [h2, h2]; exact d1 i hi y hy, ⟨fun j h6 h7 h8 h14 h15 => by rw [h1 j h14]; exact f1 j h6 h7 h8 h14 h15, fun j x y z => by rw [h2]; exact f2 j x y z, fun j hj => by rw [h3 j hj]; exact f3 j hj, fun x hx => by rw [h2]; exact f4 x hx, fun x hx => by rw [h2, h2]; exact f5 x hx⟩, ⟨fun j x y z => by rw [h4]; exact g1 j x y z, fun j h13 h18 => by rw [h5 j h18]; exact g2 j h13 h18⟩⟩
def kq_kn (w : Int32) (R : Nat) (F G : Nat → Nat) (n : Nat) (K : Nat → Nat) (sk : Nat → List Nat) (σp μp : kb_S) (S : Nat → Nat) (c k f : Nat) (σ μ : kb_S) : Prop :=
  kq_rw w R F G σp μp S c σ μ ∧ k ≤ n ∧ kb_g σ 14 = nI (sk k).length ∧ kq_sv σ μ (sk k) ∧ kb_g σ 15 = 0 ∧ kb_g μ 6 = 0 ∧ (f = 0 → k < n → K k ≠ 21 ∧ K k ≠ 22)
/-- a fault ends both -/
theorem kq_knf {σ2 μ2 : kb_S} (h : kq_kf R F G σp μp σ2 μ2) (fu fm : Nat) (x1 y z x2 x3 k2 : Int32) : fp_X2_knitPlan_21 (fu + 1) x1 y z σ2 = fp_X2_knitPlan_57 x1 σ2 ∧ fp_X9_flatten_12 (fm + 1) x2 x3 k2 μ2 = fp_X9_flatten_406 x2 x3 μ2 := by
  obtain ⟨f, pl, h1, h2, h3, h4, h5, h6, _⟩ := h
  constructor
  · have hans : ¬ kb_g σ2 15 = 0 := by
      rw [h4]
      intro h3
      have h4 := congrArg (fun z : Int32 => -z) h3
      simp only [Int32.neg_neg, Int32.neg_zero] at h4
      rw [vt_0, vt_eqI (by omega) (by omega)] at h4
      omega
    rw [fp_X2_knitPlan_21_s, if_neg hans, ite_self, ite_self]
  · rw [fp_X9_flatten_12_s, if_neg (show ¬ kb_g μ2 6 = 0 by rw [h5, vt_0, vt_eqI (by omega) (by omega)]; omega), ite_self]
theorem kq_knit (he : kq_ev w R F G n K N O Wh sk σp μp) (x1 : Int32) : ∀ (m : Nat) (S : Nat → Nat) (c k f : Nat) (σ μ : kb_S) (t fu fm : Nat), kq_kn w R F G n K sk σp μp S c k f σ μ → f ≤ 1 → (640 - c) * 402 + (n - k) + 201 * f ≤ m → t + m < 999999 → m < fu → m < fm →
    ∃ σ2 μ2 x2 x3, fp_X2_knitPlan_21 fu x1 (nI k) (nI t) σ = fp_X2_knitPlan_57 x1 σ2 ∧ fp_X9_flatten_12 fm (nI (F (R + 1) - F R - kq_U S (G (R + 1)) c)) (nI (kq_M S (G (R + 1)) c)) (nI k) μ = fp_X9_flatten_406 x2 x3 μ2 ∧
      ((∃ S2 c2, kq_rw w R F G σp μp S2 c2 σ2 μ2 ∧ x2 = nI (F (R + 1) - F R - kq_U S2 (G (R + 1)) c2) ∧ x3 = nI (kq_M S2 (G (R + 1)) c2) ∧ kb_g σ2 15 = 0 ∧ kb_g μ2 6 = 0 ∧ ∀ x, x < G (R + 1) → S2 x = S x) ∨ kq_kf R F G σp μp σ2 μ2) := by
  have hn := he.2.1
  have hok := he.2.2.1
  intro m
  induction m with
  | zero =>
      intro S c k f σ μ t fu fm h hf hm ht hfu hfm
      obtain ⟨g, rfl⟩ : ∃ g, fu = g + 1 := ⟨fu - 1, by omega⟩
      obtain ⟨g2, rfl⟩ : ∃ g, fm = g + 1 := ⟨fm - 1, by omega⟩
      obtain ⟨hrw, hkn, h14, hsv, h15, h6, hf0⟩ := h
      refine ⟨σ, μ, _, _, ?_, ?_, Or.inl ⟨S, c, hrw, rfl, rfl, h15, h6, fun _ _ => rfl⟩⟩
      · rw [fp_X2_knitPlan_21_s]
        unfold fn_X3_size
        rw [hrw.2.2.2.2.1.1 16 (by decide) (by decide) (by decide) (by decide) (by decide), hn.2.1, if_pos (show nI n ≤ nI k by rw [vt_leI (by omega) (by omega)]; omega), ite_self]
      · rw [fp_X9_flatten_12_s, hrw.2.2.2.2.2.1 9 (by decide) (by decide) (by decide), hn.2.2, if_pos (show nI n ≤ nI k by rw [vt_leI (by omega) (by omega)]; omega)]
  | succ m ih =>
      intro S c k f σ μ t fu fm h hf hm ht hfu hfm
      obtain ⟨g, rfl⟩ : ∃ g, fu = g + 1 + 1 := ⟨fu - 2, by omega⟩
      obtain ⟨g2, rfl⟩ : ∃ g, fm = g + 1 + 1 := ⟨fm - 2, by omega⟩
      obtain ⟨hrw, hkn, h14, hsv, h15, h6, hf0⟩ := h
      have hcf := hrw.2.2.2.2.1
      have hmf := hrw.2.2.2.2.2
      have g16 : kb_g σ 16 = nI n := by rw [hcf.1 16 (by decide) (by decide) (by decide) (by decide) (by decide)]; exact hn.2.1
      have m9 : kb_g μ 9 = nI n := by rw [hmf.1 9 (by decide) (by decide) (by decide)]; exact hn.2.2
      by_cases hkn2 : k = n
      · subst hkn2
        refine ⟨σ, μ, _, _, ?_, ?_, Or.inl ⟨S, c, hrw, rfl, rfl, h15, h6, fun _ _ => rfl⟩⟩
        · rw [fp_X2_knitPlan_21_s]
          unfold fn_X3_size
          rw [g16, if_pos (show nI k ≤ nI k by rw [vt_leI (by omega) (by omega)]; omega), ite_self]
        · rw [fp_X9_flatten_12_s, m9, if_pos (show nI k ≤ nI k by rw [vt_leI (by omega) (by omega)]; omega)]
      have hk : k < n := by omega
      have hmk := he.2.2.2.1 k hk
      obtain ⟨k1, k2, k3, k4, k5, k6, k7⟩ := hmk
      have hin : kb_in (nI k) 220 = true := vt_in' (by omega) (by omega)
      obtain ⟨l1, l2, l3, l4, l5⟩ := kq_looks g16 hn.1 hk
      rw [hcf.2.1 7 (by decide) (by decide) (by decide), k4] at l1
      rw [hcf.2.1 10 (by decide) (by decide) (by decide)] at l2
      rw [hcf.2.1 9 (by decide) (by decide) (by decide), k1] at l3
      have hC : fp_X2_knitPlan_21 (g + 1 + 1) x1 (nI k) (nI t) σ = (fn_X2_knitStep (nI k) σ).bind (fun q4 => fp_X2_knitPlan_21 (g + 1) x1 q4.2 (nI (t + 1)) q4.1) := by
        rw [fp_X2_knitPlan_21_s]
        unfold fn_X3_size
        rw [if_neg (by rw [show (1000000 : Int32) = nI 1000000 from rfl, vt_leI (by omega) (by omega)]; omega), g16, if_neg (by rw [vt_leI (by omega) (by omega)]; omega), if_pos h15, vt_1, nI_add]
      have hR : ∀ x2 x3, fp_X9_flatten_12 (g2 + 1 + 1) x2 x3 (nI k) μ = if K k = 22 then
            (fn_X9_taken (nI (k + 1)) (kb_a μp 12 k) μ).bind (fun q6 => if q6 = 0 then fp_X9_flatten_92 (fp_X9_flatten_12 (g2 + 1)) x2 x3 (nI k) q6 μ else if x2 < nI (N k) then fp_X9_flatten_92 (fp_X9_flatten_12 (g2 + 1)) x2 x3 (nI k) q6 μ else if ¬ q6 = 0 then (if (x2 - nI (N k)) - (x2 - nI (N k)) / q6 * q6 = 0 then fp_X9_flatten_104 (fp_X9_flatten_12 (g2 + 1)) x2 x3 (nI k) q6 μ else fp_X9_flatten_92 (fp_X9_flatten_12 (g2 + 1)) x2 x3 (nI k) q6 μ) else none)
          else if K k = 20 then fp_X9_flatten_12 (g2 + 1) x2 x3 (nI (k + 1)) (kb_ap μ 18 k (nI (N k)))
          else if K k = 21 then (if kb_in (kb_a μp 12 k) 220 = true then (if kb_a μ 18 (kb_a μp 12 k).toNatClampNeg - 1 ≤ 0 then fp_X9_flatten_12 (g2 + 1) x2 x3 (nI (k + 1)) (kb_ap μ 18 (kb_a μp 12 k).toNatClampNeg (kb_a μ 18 (kb_a μp 12 k).toNatClampNeg - 1)) else fp_X9_flatten_12 (g2 + 1) x2 x3 (kb_a μp 12 k + 1) (kb_ap μ 18 (kb_a μp 12 k).toNatClampNeg (kb_a μ 18 (kb_a μp 12 k).toNatClampNeg - 1))) else none)
          else fp_X9_flatten_254 (fp_X9_flatten_12 (g2 + 1)) kb_FU x2 x3 (nI k) (nI (K k)) 0 μ := by
        intro x2 x3
        have hKlt : K k < 600 := by
          rcases hok.2.2 k hk with ⟨a, _⟩ | ⟨a, _⟩ | ⟨a, _⟩
          · exact vt_vs_lt a
          · omega
          · omega
        have e22 : (nI (K k) = (22 : Int32)) = (K k = 22) := vt_eqI (b := 22) (by omega) (by omega)
        have e20 : (nI (K k) = (20 : Int32)) = (K k = 20) := vt_eqI (b := 20) (by omega) (by omega)
        have e21 : (nI (K k) = (21 : Int32)) = (K k = 21) := vt_eqI (b := 21) (by omega) (by omega)
        rw [fp_X9_flatten_12_s, m9, if_neg (by rw [vt_leI (by omega) (by omega)]; omega), if_pos h6]
        simp only [if_pos hin, nI_clamp (show k < 2 ^ 31 by omega)]
        rw [hmf.2 9 (by decide) (by decide), hmf.2 10 (by decide) (by decide), hmf.2 12 (by decide) (by decide), k3, k2]
        simp only [e22, e20, e21]
        unfold fp_X9_flatten_403 fp_X9_flatten_246
        simp only [vt_aax, and_self, ↓reduceIte]
        unfold fp_X9_flatten_403
        rw [vt_1, nI_add]
        by_cases c1 : K k = 22
        · rw [if_pos c1, if_pos c1]
        · rw [if_neg c1, if_neg c1]
          by_cases c2 : K k = 20
          · rw [if_pos c2, if_pos c2]
          · rw [if_neg c2, if_neg c2]
            by_cases c3 : K k = 21
            · rw [if_pos c3, if_pos c3]
              split
              · rfl
              · rfl
            · rw [if_neg c3, if_neg c3]
      rcases hok.2.2 k hk with ⟨s1, s2, s3, s4, s5⟩ | ⟨s1, s2, s3, s4, s5⟩ | ⟨s1, s2, s3, s4, s5, s6⟩
      · -- stitches
        have v3 := kq_vs3 s1
        have hkd : kq_kd (K k) = 0 := by unfold kq_kd; rw [if_neg v3.1, if_neg v3.2.2, if_neg v3.2.1]
        rw [hkd] at l1
        rw [k7 s1] at l2
        obtain ⟨σ2, μ2, x2, x3, i1, i2, i3⟩ := kq_knst he s1 hk rfl s3 (fp_X9_flatten_12 (g2 + 1)) (N k) 0 c S σ μ kb_FU kb_FU (by omega) (by rw [vt_fu]; omega) (by rw [vt_fu]; omega) hrw h15 h6
        have hstep : fn_X2_knitStep (nI k) σ = some (σ2, nI (k + 1)) := by
          unfold fn_X2_knitStep fn_X2_knitStitches
          rw [l1, Option.bind_some, if_pos (show nI 0 = 0 from rfl), l2, Option.bind_some, l3, Option.bind_some, vt_0, i1, Option.bind_some, vt_1, nI_add]
        rw [hC, hstep, Option.bind_some, hR, if_neg v3.2.2, if_neg v3.1, if_neg v3.2.1, vt_0, i2]
        rcases i3 with ⟨S2, y1, y2, y3, y4, y5, y6, y7, y8, y9⟩ | y
        · rw [y2, y3]
          have hc1 := kq_sumc c (fun i hi => (hrw.2.2.1 i hi).1)
          have hc2 := kq_sumc (c + N k) (fun i hi => (y1.2.2.1 i hi).1)
          have hb2 := y1.2.1
          have he7 := he.1.2.2.2.2.2.2
          have hmA : (640 - (c + N k)) * 402 + (n - (k + 1)) + 201 * 1 ≤ m := by
            exact kq_meas (A := 640 - c) (by omega) hm hk
          obtain ⟨σ3, μ3, x2', x3', j1, j2, j3⟩ := ih S2 (c + N k) (k + 1) 1 σ2 μ2 (t + 1) (g + 1) (g2 + 1) ⟨y1, by omega, by rw [s4, y6]; exact h14, by rw [s4]; exact hsv.same (fun _ _ => by rw [y7]) (fun _ _ => by rw [y8]), y4, y5, fun h => absurd h (by decide)⟩ (by omega) hmA (by omega) (by omega) (by omega)
          refine ⟨σ3, μ3, x2', x3', j1, j2, ?_⟩
          rcases j3 with ⟨S3, c3, z1, z2, z3, z4, z5, z6⟩ | z
          · exact Or.inl ⟨S3, c3, z1, z2, z3, z4, z5, fun x hx => by rw [z6 x hx, y9 x hx]⟩
          · exact Or.inr z
        · obtain ⟨z1, z2⟩ := kq_knf y g g2 x1 (nI (k + 1)) (nI (t + 1)) x2 x3 (nI (k + 1))
          exact ⟨σ2, μ2, x2, x3, z1, z2, Or.inr y⟩
      · -- a bracket opens
        have hcl : k < O k ∧ O k < n ∧ K (O k) = 21 ∧ O (O k) = k ∧ N k ≤ 99 ∧ (K k = 20 → 2 ≤ N k) := by
          rcases s5 with ⟨a, _⟩ | a
          · rw [he.2.2.2.2.2] at a; cases a
          · exact a
        obtain ⟨q1, q2, q3, q4, q5, q6⟩ := hcl
        have hlk := k6 (Or.inr q1)
        rw [hlk.1] at l2
        have hlen4 : (nI (sk k).length < (4 : Int32)) := by rw [vt_4, vt_ltI (by omega) (by omega)]; omega
        -- into the bracket, v runs
        have hgo : ∀ v, 1 ≤ v → v ≤ 99 → (∀ σ', kb_g σ' 14 = nI (sk k).length → fn_X2_enter (nI k) (Int64.ofNat v) σ' = some (kb_bp (kb_p σ' 14 (nI ((sk k).length + 1))) 1 ((sk k).length + 1) (Int64.ofNat v), nI (k + 1))) ∧ kq_kn w R F G n K sk σp μp S c (k + 1) f (kb_bp (kb_p σ 14 (nI ((sk k).length + 1))) 1 ((sk k).length + 1) (Int64.ofNat v)) (kb_ap μ 18 k (nI v)) := by
          intro v hv1 hv2
          refine ⟨fun σ' h => ?_, ?_, by omega, ?_, ?_, h15, h6, fun h hk2 => s4 hk2⟩
          · unfold fn_X2_enter
            rw [if_neg (by rw [kq_le0 (by omega)]; omega), h, if_pos hlen4, vt_1, nI_add, if_pos (vt_in' (by omega) (by omega)), nI_clamp (by omega), nI_add]
          · refine hrw.same (fun j hj => ?_) (fun _ => rfl) (fun j hj => ?_) (fun _ => rfl) (fun j hj => ?_)
            · rw [vt_gb, vt_gp, if_neg hj]
            · rw [vt_bb, if_neg hj]; rfl
            · rw [vt_aa, if_neg hj]
          · rw [s2]; rfl
          · rw [s2]
            refine ⟨⟨v, hv1, hv2, ?_, ?_⟩, hsv.same (fun x hx => ?_) (fun o ho => ?_)⟩
            · rw [vt_bbx, if_pos ⟨rfl, rfl⟩]
            · rw [vt_aax, if_pos ⟨rfl, rfl⟩]
            · rw [vt_bbx, if_neg (by omega)]; rfl
            · have := (kq_memb hok k (by omega) o ho).1
              rw [vt_aax, if_neg (by omega)]
        by_cases h22 : K k = 22
        · -- a repeat
          have hf1 : f = 1 := by
            rcases Nat.lt_or_ge f 1 with h | h
            · exact absurd h22 (hf0 (by omega) hk).2
            · omega
          obtain ⟨hh, T, W, B, t1, t2, t3, t4⟩ := he.2.2.2.2.1 k hk h22 q1
          have hT := kq_seg_T t1 t2 t3
          rw [hcf.2.2.1 2 (by decide), t4] at l5
          rw [hcf.2.1 8 (by decide) (by decide) (by decide), (k5 (by omega)).2.1] at l4
          have hwh := (k5 (by omega)).1
          have hnil : sk k = [] := by rcases s1 with s1 | s1; omega; exact s1.2
          have hskO : sk (O k + 1) = [] := by
            rcases hok.2.2 (O k) q2 with ⟨a, _⟩ | ⟨a, _⟩ | ⟨_, _, _, _, _, a⟩
            · rw [q3] at a; exact absurd a (by decide)
            · omega
            · rw [a, q4]; exact hnil
          have htak : fn_X9_taken (nI (k + 1)) (kb_a μp 12 k) μ = some (nI T) := by
            rw [hlk.2]
            refine kq_taken hn.1 (fun i hi => ?_) t1 (by omega) t2
            have hmi := he.2.2.2.1 i hi
            rw [hmf.2 9 (by decide) (by decide), hmf.2 10 (by decide) (by decide), hmf.2 12 (by decide) (by decide)]
            exact ⟨hmi.2.2.1, hmi.2.1, fun h => (hmi.2.2.2.2.2.1 (Or.inl h)).2⟩
          have hleft : fn_X0_leftCount σ = nI (F (R + 1) - F R - kq_U S (G (R + 1)) c) := by
            unfold fn_X0_leftCount
            rw [hrw.1.1, hcf.1 3 (by decide) (by decide) (by decide) (by decide) (by decide), he.1.1.2.2.1, pk_sub hrw.2.1.1]
          have he7 := he.1.2.2.2.2.2.2
          rw [hC, hR, if_pos h22, htak, Option.bind_some]
          have hkd : kq_kd (K k) = 2 := by rw [h22]; rfl
          rw [hkd] at l1
          unfold fn_X2_knitStep
          rw [l1, Option.bind_some, if_neg (show ¬ nI 2 = 0 by decide), if_neg (show ¬ nI 2 = 1 by decide), if_pos (show nI 2 = 2 from rfl)]
          have hruns : fn_X2_runsOfRepeat (nI k) σ = if 0 < T ∧ N k ≤ F (R + 1) - F R - kq_U S (G (R + 1)) c ∧ (F (R + 1) - F R - kq_U S (G (R + 1)) c - N k) % T = 0 then some (σ, Int64.ofNat ((F (R + 1) - F R - kq_U S (G (R + 1)) c - N k) / T)) else some (kb_p σ 15 (-(nI (1000 * 3 + Wh k))), 0) := by
            have h50 : fp_X2_runsOfRepeat_50 (nI k) σ = some (kb_p σ 15 (-(nI (1000 * 3 + Wh k))), 0) := by
              unfold fp_X2_runsOfRepeat_50 fn_X2_note fn_X1_answer
              rw [l4, Option.bind_some, if_neg (by decide), Option.bind_some, show (1000 : Int32) = nI 1000 from rfl, vt_3, pk_mul, nI_add]
            unfold fn_X2_runsOfRepeat
            rw [l5, Option.bind_some, l3, Option.bind_some, h50, hleft]
            by_cases hT0 : T = 0
            · rw [if_pos (by rw [kq_le0 (by omega)]; exact hT0), if_neg (by omega)]
            · rw [if_neg (by rw [kq_le0 (by omega)]; exact hT0)]
              by_cases hNL : N k ≤ F (R + 1) - F R - kq_U S (G (R + 1)) c
              · obtain ⟨d1, d2, d3, d4⟩ := kq_div64 (m := F (R + 1) - F R - kq_U S (G (R + 1)) c - N k) (by omega) (by omega) hT
                rw [pk_sub hNL, if_neg (by rw [lg_cmp_lt, kq_i64 (by omega), Int64.lt_iff_toInt_lt, lg_ofNat_toInt (by omega), show (0 : Int64).toInt = 0 from rfl]; omega), if_pos d2, if_pos d2, d1]
                rw [d1] at d3
                by_cases hmod : (F (R + 1) - F R - kq_U S (G (R + 1)) c - N k) % T = 0
                · rw [if_pos (by rw [lg_cmp_eq]; exact d3.mpr hmod), if_pos ⟨by omega, hNL, hmod⟩]
                · rw [if_neg (by rw [lg_cmp_eq]; exact fun h => hmod (d3.mp h)), if_neg (fun h => hmod h.2.2)]
              · rw [if_pos, if_neg (fun h => hNL h.2.1)]
                rw [lg_cmp_lt, Int64.lt_iff_toInt_lt, Int32.toInt_toInt64, pk_sub_toInt (by omega) (by omega), show (0 : Int64).toInt = 0 from rfl]; omega
          have hne3 : kq_kf R F G σp μp (kb_p σ 15 (-(nI (1000 * 3 + Wh k)))) (kb_ap (kb_p (kb_p μ 6 (nI 3)) 7 (nI (Wh k))) 18 k 0) := by
            refine ⟨3, Wh k, by omega, by omega, hwh, rfl, rfl, rfl, ⟨fun j h6 h7 h8 h14 h15' => ?_, hcf.2.1, hcf.2.2.1, hcf.2.2.2.1, hcf.2.2.2.2⟩, ⟨fun j h6' h7 h10 => ?_, fun j h13 h18 => ?_⟩⟩
            · rw [vt_gp, if_neg h15']; exact hcf.1 j h6 h7 h8 h14 h15'
            · rw [vt_ga, vt_gp, if_neg h7, vt_gp, if_neg h6']; exact hmf.1 j h6' h7 h10
            · rw [vt_aa, if_neg h18]; exact hmf.2 j h13 h18
          by_cases hgood : 0 < T ∧ N k ≤ F (R + 1) - F R - kq_U S (G (R + 1)) c ∧ (F (R + 1) - F R - kq_U S (G (R + 1)) c - N k) % T = 0
          · obtain ⟨g1, gN, g3⟩ := hgood
            obtain ⟨d1, d2, d3⟩ := kq_div32 (m := F (R + 1) - F R - kq_U S (G (R + 1)) c - N k) (by omega) g1 hT
            rw [hruns, if_pos ⟨g1, gN, g3⟩, Option.bind_some, if_neg d2, if_neg (by rw [vt_ltI (by omega) (by omega)]; omega), if_pos d2, pk_sub gN, if_pos (d3.mpr g3)]
            unfold fp_X9_flatten_104
            rw [if_pos (show kb_g μ 6 ≤ 0 by rw [h6]; decide), if_pos hin, if_pos d2, nI_clamp (by omega), hmf.2 10 (by decide) (by decide), k2, pk_sub gN, d1]
            generalize hv : (F (R + 1) - F R - kq_U S (G (R + 1)) c - N k) / T = v
            have hv40 : v ≤ 40 := by rw [← hv]; exact Nat.le_trans (Nat.div_le_self _ _) (by omega)
            unfold fp_X9_flatten_133 fp_X9_flatten_160 fp_X9_flatten_403
            rw [if_pos hin, if_pos hin, if_pos hin, nI_clamp (by omega), vt_aax, if_pos (show 18 = 18 ∧ k = k from ⟨rfl, rfl⟩), hmf.2 12 (by decide) (by decide), hlk.2, vt_1, nI_add, nI_add]
            by_cases hv0 : v = 0
            · subst hv0
              have hent : fn_X2_enter (nI k) (Int64.ofNat 0) σ = some (σ, nI (O k + 1)) := by
                unfold fn_X2_enter fp_X2_enter_14
                rw [if_pos (by rw [kq_le0 (by omega)]), l2, Option.bind_some, vt_1, nI_add]
              rw [hent, Option.bind_some, Option.bind_some, if_pos (show nI 0 = 0 from rfl)]
              obtain ⟨σ3, μ3, x2', x3', j1, j2, j3⟩ := ih S c (O k + 1) 1 σ (kb_ap μ 18 k (nI 0)) (t + 1) (g + 1) (g2 + 1) ⟨hrw.same (fun _ _ => rfl) (fun _ => rfl) (fun _ _ => rfl) (fun _ => rfl) (fun j hj => by rw [vt_aa, if_neg hj]), by omega, by rw [hskO]; rw [hnil] at h14; exact h14, by rw [hskO]; trivial, h15, h6, fun h => absurd h (by decide)⟩ (by omega) (by omega) (by omega) (by omega) (by omega)
              exact ⟨σ3, μ3, x2', x3', j1, j2, j3⟩
            · obtain ⟨hgo1, hgo2⟩ := hgo v (by omega) (by omega)
              rw [hgo1 σ h14, Option.bind_some, Option.bind_some, if_neg (by rw [vt_0, vt_eqI (by omega) (by omega)]; exact hv0)]
              obtain ⟨σ3, μ3, x2', x3', j1, j2, j3⟩ := ih S c (k + 1) f _ _ (t + 1) (g + 1) (g2 + 1) hgo2 hf (by omega) (by omega) (by omega) (by omega)
              exact ⟨σ3, μ3, x2', x3', j1, j2, j3⟩
          · rw [hruns, if_neg hgood, Option.bind_some]
            have hent : fn_X2_enter (nI k) 0 (kb_p σ 15 (-(nI (1000 * 3 + Wh k)))) = some (kb_p σ 15 (-(nI (1000 * 3 + Wh k))), nI (O k + 1)) := by
              have hl := (kq_looks (σ := kb_p σ 15 (-(nI (1000 * 3 + Wh k)))) g16 hn.1 hk).2.1
              unfold fn_X2_enter fp_X2_enter_14
              rw [if_pos (by decide), hl, Option.bind_some, vt_ap, hcf.2.1 10 (by decide) (by decide) (by decide), hlk.1, vt_1, nI_add]
            rw [hent, Option.bind_some, Option.bind_some]
            have h92 : ∀ x2 x3 q6, fp_X9_flatten_92 (fp_X9_flatten_12 (g2 + 1)) x2 x3 (nI k) q6 μ = fp_X9_flatten_12 (g2 + 1) x2 x3 (nI (O k + 1)) (kb_ap (kb_p (kb_p μ 6 (nI 3)) 7 (nI (Wh k))) 18 k 0) := by
              intro x2 x3 q6
              unfold fp_X9_flatten_92 fn_X9_stops
              rw [if_pos hin, if_pos (show kb_g μ 6 ≤ 0 by rw [h6]; decide), Option.bind_some]
              unfold fp_X9_flatten_104
              rw [if_neg (show ¬ kb_g (kb_p (kb_p μ 6 3) 7 (kb_a μ 11 (nI k).toNatClampNeg)) 6 ≤ 0 by show ¬ (3 : Int32) ≤ 0; decide)]
              unfold fp_X9_flatten_133 fp_X9_flatten_160 fp_X9_flatten_403
              rw [if_pos hin, if_pos hin, if_pos hin, nI_clamp (by omega), vt_aax, if_pos (show 18 = 18 ∧ k = k from ⟨rfl, rfl⟩), if_pos rfl, vt_ap, vt_ap, hmf.2 12 (by decide) (by decide), hlk.2, vt_1, nI_add, hmf.2 11 (by decide) (by decide), (k5 (by omega)).2.2]; rfl
            have hR2 : ∀ x3, (if nI T = 0 then fp_X9_flatten_92 (fp_X9_flatten_12 (g2 + 1)) (nI (F (R + 1) - F R - kq_U S (G (R + 1)) c)) x3 (nI k) (nI T) μ else if nI (F (R + 1) - F R - kq_U S (G (R + 1)) c) < nI (N k) then fp_X9_flatten_92 (fp_X9_flatten_12 (g2 + 1)) (nI (F (R + 1) - F R - kq_U S (G (R + 1)) c)) x3 (nI k) (nI T) μ else if ¬ nI T = 0 then (if (nI (F (R + 1) - F R - kq_U S (G (R + 1)) c) - nI (N k)) - (nI (F (R + 1) - F R - kq_U S (G (R + 1)) c) - nI (N k)) / nI T * nI T = 0 then fp_X9_flatten_104 (fp_X9_flatten_12 (g2 + 1)) (nI (F (R + 1) - F R - kq_U S (G (R + 1)) c)) x3 (nI k) (nI T) μ else fp_X9_flatten_92 (fp_X9_flatten_12 (g2 + 1)) (nI (F (R + 1) - F R - kq_U S (G (R + 1)) c)) x3 (nI k) (nI T) μ) else none) = fp_X9_flatten_92 (fp_X9_flatten_12 (g2 + 1)) (nI (F (R + 1) - F R - kq_U S (G (R + 1)) c)) x3 (nI k) (nI T) μ := by
              intro x3
              by_cases hT0 : T = 0
              · rw [if_pos (by rw [hT0]; rfl)]
              · by_cases hNL : N k ≤ F (R + 1) - F R - kq_U S (G (R + 1)) c
                · obtain ⟨d1, d2, d3⟩ := kq_div32 (m := F (R + 1) - F R - kq_U S (G (R + 1)) c - N k) (by omega) (show 0 < T by omega) hT
                  rw [if_neg d2, if_neg (by rw [vt_ltI (by omega) (by omega)]; omega), if_pos d2, pk_sub hNL, if_neg (fun h => hgood ⟨by omega, hNL, d3.mp h⟩)]
                · rw [if_pos (show nI (F (R + 1) - F R - kq_U S (G (R + 1)) c) < nI (N k) by rw [vt_ltI (by omega) (by omega)]; omega), ite_self]
            rw [hR2, h92]
            obtain ⟨z1, z2⟩ := kq_knf hne3 g g2 x1 (nI (O k + 1)) (nI (t + 1)) (nI (F (R + 1) - F R - kq_U S (G (R + 1)) c)) (nI (kq_M S (G (R + 1)) c)) (nI (O k + 1))
            exact ⟨_, _, _, _, z1, z2, Or.inr hne3⟩
        · -- a group
          have h20 : K k = 20 := by rcases s1 with s1 | s1; exact s1; omega
          have hkd : kq_kd (K k) = 1 := by rw [h20]; rfl
          rw [hkd] at l1
          have := q6 h20
          obtain ⟨hgo1, hgo2⟩ := hgo (N k) (by omega) (by omega)
          have hstep : fn_X2_knitStep (nI k) σ = some (kb_bp (kb_p σ 14 (nI ((sk k).length + 1))) 1 ((sk k).length + 1) (Int64.ofNat (N k)), nI (k + 1)) := by
            unfold fn_X2_knitStep
            rw [l1, Option.bind_some, if_neg (show ¬ nI 1 = 0 by decide), if_pos (show nI 1 = 1 from rfl), l3, Option.bind_some, kq_i64 (by omega), hgo1 σ h14, Option.bind_some]
          rw [hC, hstep, Option.bind_some, hR, if_neg h22, if_pos h20]
          obtain ⟨σ3, μ3, x2', x3', j1, j2, j3⟩ := ih S c (k + 1) f _ _ (t + 1) (g + 1) (g2 + 1) hgo2 hf (by omega) (by omega) (by omega) (by omega)
          exact ⟨σ3, μ3, x2', x3', j1, j2, j3⟩
      · -- a bracket closes
        have hf1 : f = 1 := by
          rcases Nat.lt_or_ge f 1 with h | h
          · exact absurd s1 (hf0 (by omega) hk).1
          · omega
        have hlk := k6 (Or.inl s1)
        rw [hlk.1] at l2
        have hkd : kq_kd (K k) = 3 := by rw [s1]; rfl
        rw [hkd] at l1
        have hoo : sk (O k + 1) = O k :: sk (O k) ∧ (sk (O k)).length ≤ 3 ∧ (O k + 1 < n → K (O k + 1) ≠ 21 ∧ K (O k + 1) ≠ 22) := by
          rcases hok.2.2 (O k) (by omega) with ⟨a, _⟩ | ⟨_, a, b, c, _⟩ | ⟨a, _⟩
          · have := kq_vs3 a; omega
          · exact ⟨a, b, c⟩
          · omega
        rw [s5] at hsv h14
        obtain ⟨⟨v, v1, v2, v3, v4⟩, hsv2⟩ := hsv
        rw [List.length_cons] at h14
        have hin5 : kb_in (nI ((sk (O k)).length + 1)) 5 = true := vt_in' (by omega) (by omega)
        have hstep : fn_X2_knitStep (nI k) σ = if v = 1 then some (kb_p (kb_bp σ 1 ((sk (O k)).length + 1) (Int64.ofNat (v - 1))) 14 (nI (sk (O k)).length), nI (k + 1)) else some (kb_bp σ 1 ((sk (O k)).length + 1) (Int64.ofNat (v - 1)), nI (O k + 1)) := by
          unfold fn_X2_knitStep fn_X2_leave
          rw [l1, Option.bind_some, if_neg (show ¬ nI 3 = 0 by decide), if_neg (show ¬ nI 3 = 1 by decide), if_neg (show ¬ nI 3 = 2 by decide), h14]
          simp only [if_pos hin5]
          rw [nI_clamp (by omega), v3, kq_dec v1, vt_bbx, if_pos (show 1 = 1 ∧ (sk (O k)).length + 1 = (sk (O k)).length + 1 from ⟨rfl, rfl⟩)]
          by_cases hv : v = 1
          · rw [if_pos (by rw [kq_le0 (by omega)]; omega), if_pos hv, Option.bind_some, vt_1, pk_sub (by omega), if_neg (vt_neg (by omega)), nI_add, Nat.add_sub_cancel]
          · have hl := (kq_looks (σ := kb_bp σ 1 ((sk (O k)).length + 1) (Int64.ofNat (v - 1))) g16 hn.1 hk).2.1
            rw [if_neg (by rw [kq_le0 (by omega)]; omega), if_neg hv, hl, Option.bind_some, Option.bind_some, vt_ab, hcf.2.1 10 (by decide) (by decide) (by decide), hlk.1, vt_1, nI_add]
        have hrw2 : ∀ x, kq_rw w R F G σp μp S c (kb_p (kb_bp σ 1 ((sk (O k)).length + 1) (Int64.ofNat (v - 1))) 14 x) (kb_ap μ 18 (O k) (nI (v - 1))) := by
          intro x
          refine hrw.same (fun j hj => ?_) (fun _ => rfl) (fun j hj => ?_) (fun _ => rfl) (fun j hj => ?_)
          · rw [vt_gp, if_neg hj]; rfl
          · rw [vt_bp, vt_bb, if_neg hj]
          · rw [vt_aa, if_neg hj]
        have hrw3 : kq_rw w R F G σp μp S c (kb_bp σ 1 ((sk (O k)).length + 1) (Int64.ofNat (v - 1))) (kb_ap μ 18 (O k) (nI (v - 1))) := by
          refine hrw.same (fun j hj => rfl) (fun _ => rfl) (fun j hj => ?_) (fun _ => rfl) (fun j hj => ?_)
          · rw [vt_bb, if_neg hj]
          · rw [vt_aa, if_neg hj]
        have hsv3 : ∀ σ', (kb_b σ' 1 = kb_b (kb_bp σ 1 ((sk (O k)).length + 1) (Int64.ofNat (v - 1))) 1) → kq_sv σ' (kb_ap μ 18 (O k) (nI (v - 1))) (sk (O k)) := by
          intro σ' hσ
          refine hsv2.same (fun x hx => ?_) (fun o ho => ?_)
          · rw [hσ, vt_bbx, if_neg (by omega)]
          · have := (kq_memb hok (O k) (by omega) o ho).1
            rw [vt_aax, if_neg (by omega)]
        rw [hC, hstep, hR, if_neg (show ¬ K k = 22 by omega), if_neg (show ¬ K k = 20 by omega), if_pos s1, hlk.2, if_pos (vt_in' (by omega) (by omega)), nI_clamp (by omega), v4, vt_1, pk_sub v1]
        by_cases hv : v = 1
        · rw [if_pos hv, Option.bind_some, if_pos (by rw [vt_0, vt_leI (by omega) (by omega)]; omega)]
          obtain ⟨σ3, μ3, x2', x3', j1, j2, j3⟩ := ih S c (k + 1) 1 _ _ (t + 1) (g + 1) (g2 + 1) ⟨hrw2 (nI (sk (O k)).length), by omega, by rw [s6]; rfl, by rw [s6]; exact hsv3 _ rfl, h15, h6, fun h => absurd h (by decide)⟩ (by omega) (by omega) (by omega) (by omega) (by omega)
          exact ⟨σ3, μ3, x2', x3', j1, j2, j3⟩
        · rw [if_neg hv, Option.bind_some, if_neg (by rw [vt_0, vt_leI (by omega) (by omega)]; omega), nI_add]
          have hmA : (640 - c) * 402 + (n - (O k + 1)) + 201 * 0 ≤ m := by
            have := hn.1
            generalize (640 - c) * 402 = A at *
            omega
          obtain ⟨σ3, μ3, x2', x3', j1, j2, j3⟩ := ih S c (O k + 1) 0 _ _ (t + 1) (g + 1) (g2 + 1) ⟨hrw3, by omega, by rw [hoo.1]; exact h14, by rw [hoo.1]; exact ⟨⟨v - 1, by omega, by omega, by rw [vt_bbx, if_pos ⟨rfl, rfl⟩], by rw [vt_aax, if_pos ⟨rfl, rfl⟩]⟩, hsv3 _ rfl⟩, h15, h6, fun _ => hoo.2.2⟩ (by omega) hmA (by omega) (by omega) (by omega)
          exact ⟨σ3, μ3, x2', x3', j1, j2, j3⟩
end KQPN
