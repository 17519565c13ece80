/-! the reference lays a row -/
def kq_nl (w : Int32) (R : Nat) (F : Nat → Nat) (x pn p : Nat) (μ : kb_S) : Prop := kb_a μ 1 x = nI (R + 1) ∧ kb_a μ 2 x = nI 0 ∧ kb_a μ 3 x = nI 0 ∧ kb_a μ 4 x = nI pn ∧ ∀ j, j < pn → kb_a μ 5 (3 * x + j) = nI (vt_nd w R F (p + j))
def kq_l5 (w : Int32) (R : Nat) (F : Nat → Nat) (u s m0 y : Nat) (pf : Nat → Nat) (μ0 μ : kb_S) : Prop :=
  (∀ j, j ≠ 3 → kb_g μ j = kb_g μ0 j) ∧ kb_g μ 3 = nI (m0 + y) ∧ (∀ j, (j = 0 ∨ 6 ≤ j) → kb_a μ j = kb_a μ0 j) ∧ (∀ x, x < m0 → kb_a μ 1 x = kb_a μ0 1 x ∧ kb_a μ 2 x = kb_a μ0 2 x ∧ kb_a μ 3 x = kb_a μ0 3 x ∧ kb_a μ 4 x = kb_a μ0 4 x) ∧ (∀ x, x < 3 * m0 → kb_a μ 5 x = kb_a μ0 5 x) ∧ ∀ z, z < y → kq_nl w R F (m0 + z) (pf z) (u + kq_po s z) μ
theorem kq_hasP {μ : kb_S} {e j : Nat} (he : e < 600) (hj : j ≤ 2) (h : kb_a μ 4 e = nI j) (v : Int32) : fn_X9_hasParent (nI e) v μ = some (kb_ap (kb_ap μ 5 (3 * e + j) v) 4 e (nI (j + 1))) := by
  unfold fn_X9_hasParent
  rw [nI_clamp (by omega), h, vt_3, pk_mul, nI_add, nI_clamp (by omega), vt_1, nI_add]
  simp only [if_pos (vt_in' (n := e) (m := 600) (by omega) he), if_pos (vt_in' (n := 3 * e + j) (m := 1800) (by omega) (by omega))]
theorem kq_take {w : Int32} {R : Nat} {F : Nat → Nat} {μ : kb_S} (h2 : kb_g μ 2 = w) {i : Nat} (hF : F (R + 1) ≤ 600) (hi : i < F (R + 1) - F R) : fn_X9_take (nI (F R)) (nI (F (R + 1))) (nI i) μ = nI (vt_nd w R F i) := by
  unfold fn_X9_take vt_nd
  rw [h2]
  by_cases hw : w = 0
  · rw [if_pos hw, if_pos hw, vt_1, pk_sub (by omega), pk_sub (by omega)]
  · rw [if_neg hw, if_neg hw, nI_add]
theorem kq_l5_new {w : Int32} {R : Nat} {F : Nat → Nat} {u s m0 y : Nat} {μ0 μ : kb_S} (hy : m0 + y < 600) (h : kq_l5 w R F u s m0 y (fun _ => kq_pn s) μ0 μ) : ∃ μ2, fn_X9_newLoop (nI (R + 1)) μ = some μ2 ∧ kq_l5 w R F u s m0 (y + 1) (fun z => if z = y then 0 else kq_pn s) μ0 μ2 := by
  obtain ⟨h1, h2, h3, h4, h5, h6⟩ := h
  rw [vt_newLoop h2 hy]
  refine ⟨_, rfl, fun j hj => ?_, ?_, fun j hj => ?_, fun x hx => ?_, fun x hx => ?_, fun z hz => ?_⟩
  · rw [vt_gp, if_neg hj]; exact h1 j hj
  · rw [vt_gp, if_pos rfl, Nat.add_assoc]
  · rw [vt_ap, vt_aa, if_neg (by omega), vt_aa, if_neg (by omega), vt_aa, if_neg (by omega), vt_aa, if_neg (by omega)]; exact h3 j hj
  · simp only [vt_ap, vt_aax]
    rw [if_neg (by omega), if_neg (by omega), if_neg (by omega), if_neg (by omega), if_neg (by omega), if_neg (by omega), if_neg (by omega), if_neg (by omega), if_neg (by omega), if_neg (by omega), if_neg (by omega), if_neg (by omega), if_neg (by omega), if_neg (by omega), if_neg (by omega), if_neg (by omega)]
    exact h4 x hx
  · simp only [vt_ap, vt_aax]
    rw [if_neg (by omega), if_neg (by omega), if_neg (by omega), if_neg (by omega)]; exact h5 x hx
  · by_cases hzy : z = y
    · subst hzy
      simp only [↓reduceIte]
      refine ⟨?_, ?_, ?_, ?_, fun j hj => absurd hj (by omega)⟩ <;> simp [vt_ap, vt_aax]
    · have h7 := h6 z (by omega)
      simp only [if_neg hzy]
      obtain ⟨q1, q2, q3, q4, q5⟩ := h7
      refine ⟨?_, ?_, ?_, ?_, fun j hj => ?_⟩
      · simp only [vt_ap, vt_aax]; rw [if_neg (by omega), if_neg (by omega), if_neg (by omega), if_neg (by omega)]; exact q1
      · simp only [vt_ap, vt_aax]; rw [if_neg (by omega), if_neg (by omega), if_neg (by omega), if_neg (by omega)]; exact q2
      · simp only [vt_ap, vt_aax]; rw [if_neg (by omega), if_neg (by omega), if_neg (by omega), if_neg (by omega)]; exact q3
      · simp only [vt_ap, vt_aax]; rw [if_neg (by omega), if_neg (by omega), if_neg (by omega), if_neg (by omega)]; exact q4
      · simp only [vt_ap, vt_aax]; rw [if_neg (by omega), if_neg (by omega), if_neg (by omega), if_neg (by omega)]; exact q5 j hj
theorem kq_l5_par {w : Int32} {R : Nat} {F : Nat → Nat} {u s m0 y j : Nat} {μ0 μ : kb_S} (hy : m0 + y < 600) (hj : j ≤ 2) (hp : kq_pn s ≤ 3) (h : kq_l5 w R F u s m0 (y + 1) (fun z => if z = y then j else kq_pn s) μ0 μ) {v : Int32} (hv : v = nI (vt_nd w R F (u + kq_po s y + j))) : ∃ μ2, fn_X9_hasParent (nI (m0 + y)) v μ = some μ2 ∧ kq_l5 w R F u s m0 (y + 1) (fun z => if z = y then j + 1 else kq_pn s) μ0 μ2 := by
  obtain ⟨h1, h2, h3, h4, h5, h6⟩ := h
  have h7 := h6 y (by omega)
  simp only [↓reduceIte] at h7
  obtain ⟨q1, q2, q3, q4, q5⟩ := h7
  rw [kq_hasP hy hj q4]
  refine ⟨_, rfl, fun k hk => ?_, ?_, fun k hk => ?_, fun x hx => ?_, fun x hx => ?_, fun z hz => ?_⟩
  · exact h1 k hk
  · exact h2
  · rw [vt_aa, if_neg (by omega), vt_aa, if_neg (by omega)]; exact h3 k hk
  · simp only [vt_aax]
    rw [if_neg (by omega), if_neg (by omega), if_neg (by omega), if_neg (by omega), if_neg (by omega), if_neg (by omega), if_neg (by omega), if_neg (by omega)]
    exact h4 x hx
  · simp only [vt_aax]; rw [if_neg (by omega), if_neg (by omega)]; exact h5 x hx
  · by_cases hzy : z = y
    · subst hzy
      simp only [↓reduceIte]
      refine ⟨?_, ?_, ?_, ?_, fun i hi => ?_⟩
      · simp only [vt_aax]; rw [if_neg (by omega), if_neg (by omega)]; exact q1
      · simp only [vt_aax]; rw [if_neg (by omega), if_neg (by omega)]; exact q2
      · simp only [vt_aax]; rw [if_neg (by omega), if_neg (by omega)]; exact q3
      · simp only [vt_aax]; rw [if_pos (by simp)]
      · simp only [vt_aax]
        rw [if_neg (by omega)]
        by_cases hij : i = j
        · rw [hij, if_pos (by simp)]; exact hv
        · rw [if_neg (by omega)]; exact q5 i (by omega)
    · have h7 := h6 z (by omega)
      simp only [if_neg hzy] at h7 ⊢
      obtain ⟨q1, q2, q3, q4, q5⟩ := h7
      refine ⟨?_, ?_, ?_, ?_, fun i hi => ?_⟩
      · simp only [vt_aax]; rw [if_neg (by omega), if_neg (by omega)]; exact q1
      · simp only [vt_aax]; rw [if_neg (by omega), if_neg (by omega)]; exact q2
      · simp only [vt_aax]; rw [if_neg (by omega), if_neg (by omega)]; exact q3
      · simp only [vt_aax]; rw [if_neg (by omega), if_neg (by omega)]; exact q4
      · simp only [vt_aax]; rw [if_neg (by omega), if_neg (by omega)]; exact q5 i hi
theorem kq_l5_all {w : Int32} {R : Nat} {F : Nat → Nat} {u s m0 y j : Nat} {μ0 μ : kb_S} (hj : j = kq_pn s) (h : kq_l5 w R F u s m0 (y + 1) (fun z => if z = y then j else kq_pn s) μ0 μ) : kq_l5 w R F u s m0 (y + 1) (fun _ => kq_pn s) μ0 μ := by
  rw [show (fun _ : Nat => kq_pn s) = (fun z => if z = y then j else kq_pn s) from funext fun z => by rw [hj, ite_self]]; exact h
section KQL
variable {w : Int32} {R : Nat} {F : Nat → Nat} {u s m0 : Nat} {μ0 : kb_S}
theorem kq_lay134 (hw : kb_g μ0 2 = w) (hF : F (R + 1) ≤ 600) (hs : vt_vs s = true) (h100 : s < 100) (hu2 : u + vt_tk s ≤ F (R + 1) - F R) {y : Nat} (hy : m0 + y < 600) (kc28 : Int32 → Int32 → Int32 → Int32 → Int32 → kb_S → Option kb_S) (kc56 : Int32 → Int32 → Int32 → Int32 → Int32 → Int32 → Int32 → Int32 → kb_S → Option kb_S) (x4 x5 x6 x8 : Int32) : ∀ (k j : Nat) (μ : kb_S) (fu : Nat), j + k = vt_tk s → k < fu → kq_l5 w R F u s m0 (y + 1) (fun z => if z = y then j else kq_pn s) μ0 μ → ∃ μ2, fp_X9_lay_134 kc28 kc56 fu (nI (F R)) (nI (F (R + 1))) (nI u) x4 x5 x6 (nI (vt_tk s)) x8 (nI (m0 + y)) (nI j) μ = kc56 (nI (F R)) (nI (F (R + 1))) (nI u) x4 x5 x6 (nI (vt_tk s)) (x8 + 1) μ2 ∧ kq_l5 w R F u s m0 (y + 1) (fun _ => kq_pn s) μ0 μ2 := by
  have hst := vt_st hs
  have hpn : kq_pn s = vt_tk s := by unfold kq_pn; rw [if_pos h100]
  have hpo : kq_po s y = 0 := by unfold kq_po; rw [if_pos h100]
  have htk3 := (hst.2.2.2.2.2.2.2.2.2 h100).2.1
  intro k
  induction k with
  | zero =>
      intro j μ fu hj hf h
      obtain ⟨f, rfl⟩ : ∃ f, fu = f + 1 := ⟨fu - 1, by omega⟩
      refine ⟨μ, ?_, kq_l5_all (by omega) h⟩
      rw [fp_X9_lay_134_s, if_pos (by rw [vt_leI (by omega) (by omega)]; omega)]; rfl
  | succ k ih =>
      intro j μ fu hj hf h
      obtain ⟨f, rfl⟩ : ∃ f, fu = f + 1 := ⟨fu - 1, by omega⟩
      obtain ⟨μ2, r1, r2⟩ := kq_l5_par hy (by omega) (by omega) h (v := nI (vt_nd w R F (u + j))) (by rw [hpo, Nat.add_zero])
      obtain ⟨μ3, r3, r4⟩ := ih (j + 1) μ2 f (by omega) (by omega) r2
      refine ⟨μ3, ?_, r4⟩
      rw [fp_X9_lay_134_s, if_neg (by rw [vt_leI (by omega) (by omega)]; omega), nI_add, kq_take (w := w) (by rw [h.1 2 (by decide)]; exact hw) hF (by omega), r1, Option.bind_some, vt_1, nI_add]
      exact r3
theorem kq_lay56 (hw : kb_g μ0 2 = w) (hF : F (R + 1) ≤ 600) (hs : vt_vs s = true) (hu2 : u + vt_tk s ≤ F (R + 1) - F R) (hm : m0 + vt_mk s ≤ 600) (kc28 : Int32 → Int32 → Int32 → Int32 → Int32 → kb_S → Option kb_S) (x5 : Int32) : ∀ (k y : Nat) (μ : kb_S) (fu : Nat), y + k = vt_mk s → k < fu → kq_l5 w R F u s m0 y (fun _ => kq_pn s) μ0 μ → ∃ μ2, fp_X9_lay_56 kc28 fu (nI (F R)) (nI (F (R + 1))) (nI u) (nI (R + 1)) x5 (nI s) (nI (vt_tk s)) (nI y) μ = fp_X9_lay_172 kc28 kb_FU (nI (F R)) (nI (F (R + 1))) (nI u) (nI (R + 1)) x5 (nI s) (nI (vt_tk s)) 0 μ2 ∧ kq_l5 w R F u s m0 (vt_mk s) (fun _ => kq_pn s) μ0 μ2 := by
  have hst := vt_st hs
  have hlt := vt_vs_lt hs
  intro k
  induction k with
  | zero =>
      intro y μ fu hy hf h
      obtain ⟨f, rfl⟩ : ∃ f, fu = f + 1 := ⟨fu - 1, by omega⟩
      refine ⟨μ, ?_, by rw [← hy]; exact h⟩
      rw [fp_X9_lay_56_s, hst.2.2.2.1, if_pos (by rw [vt_leI (by omega) (by omega)]; omega)]
  | succ k ih =>
      intro y μ fu hy hf h
      obtain ⟨f, rfl⟩ : ∃ f, fu = f + 1 := ⟨fu - 1, by omega⟩
      obtain ⟨μ1, r1, r2⟩ := kq_l5_new (by omega) h
      have h3 := h.2.1
      have e100 : (nI s < (100 : Int32)) = (s < 100) := by rw [vt_100, vt_ltI (by omega) (by omega)]
      rw [fp_X9_lay_56_s, hst.2.2.2.1, if_neg (by rw [vt_leI (by omega) (by omega)]; omega), r1, Option.bind_some, h3]
      by_cases h100 : s < 100
      · rw [if_pos (by rw [e100]; exact h100)]
        obtain ⟨μ2, r3, r4⟩ := kq_lay134 hw hF hs h100 hu2 (y := y) (by omega) kc28 (fp_X9_lay_56 kc28 f) (nI (R + 1)) x5 (nI s) (nI y) (vt_tk s) 0 μ1 kb_FU (by omega) (by rw [vt_fu]; omega) r2
        obtain ⟨μ3, r5, r6⟩ := ih (y + 1) μ2 f (by omega) (by omega) r4
        refine ⟨μ3, ?_, r6⟩
        rw [vt_1, nI_add] at r3
        rw [show (0 : Int32) = nI 0 from rfl, r3]; exact r5
      · have hcab := hst.2.2.2.2.2.1 (by omega)
        have hpn : kq_pn s = 1 := by unfold kq_pn; rw [if_neg h100]
        have htk : vt_tk s = vt_ca s + vt_cb s := by unfold vt_tk; rw [if_neg h100]
        have hmk : vt_mk s = vt_ca s + vt_cb s := by unfold vt_mk; rw [if_neg h100]
        rw [if_neg (by rw [e100]; exact h100), hcab.2.2.2.1, hcab.2.2.1]
        have hpo : kq_po s y < vt_tk s := by
          unfold kq_po; rw [if_neg h100]; split <;> omega
        obtain ⟨μ2, r3, r4⟩ := kq_l5_par (by omega) (by omega) (by omega) r2 (v := nI (vt_nd w R F (u + kq_po s y))) (by rw [Nat.add_zero])
        obtain ⟨μ3, r5, r6⟩ := ih (y + 1) μ2 f (by omega) (by omega) (kq_l5_all (by omega) r4)
        refine ⟨μ3, ?_, r6⟩
        have h121 : ∀ off, off = kq_po s y → fp_X9_lay_121 kc28 (fp_X9_lay_56 kc28 f) (nI (F R)) (nI (F (R + 1))) (nI u) (nI (R + 1)) x5 (nI s) (nI (vt_tk s)) (nI y) (nI off) (nI u) (nI (F (R + 1))) (nI (F R)) (nI (m0 + y)) μ1 = fp_X9_lay_56 kc28 f (nI (F R)) (nI (F (R + 1))) (nI u) (nI (R + 1)) x5 (nI s) (nI (vt_tk s)) (nI (y + 1)) μ2 := by
          intro off ho
          unfold fp_X9_lay_121 fp_X9_lay_163
          rw [ho, nI_add, kq_take (w := w) (by rw [r2.1 2 (by decide)]; exact hw) hF (by omega), r3, Option.bind_some, vt_1, nI_add]
        by_cases hb : vt_cb s ≤ y
        · rw [if_pos (by rw [vt_leI (by omega) (by omega)]; exact hb), pk_sub hb, h121 _ (by unfold kq_po; rw [if_neg h100, if_neg (by omega)])]; exact r5
        · rw [if_neg (by rw [vt_leI (by omega) (by omega)]; exact hb), nI_add, h121 _ (by unfold kq_po; rw [if_neg h100, if_pos (by omega)])]; exact r5
/-- j of the loops that a stitch takes are dropped -/
def kq_l2 (w : Int32) (R : Nat) (F : Nat → Nat) (u s j : Nat) (μ1 μ : kb_S) : Prop :=
  (∀ k, kb_g μ k = kb_g μ1 k) ∧ (∀ k, k ≠ 2 → k ≠ 3 → kb_a μ k = kb_a μ1 k) ∧ (∀ i, i < j → kb_a μ 2 (vt_nd w R F (u + i)) = nI (R + 1) ∧ kb_a μ 3 (vt_nd w R F (u + i)) = nI (vt_is (s = 8))) ∧ (∀ x, (∀ i, i < j → x ≠ vt_nd w R F (u + i)) → kb_a μ 2 x = kb_a μ1 2 x ∧ kb_a μ 3 x = kb_a μ1 3 x)
theorem kq_nd_inj {i j : Nat} (hi : i < F (R + 1) - F R) (hj : j < F (R + 1) - F R) (h : vt_nd w R F i = vt_nd w R F j) : i = j := by
  unfold vt_nd at h; split at h <;> omega
theorem kq_lay172 {μ1 : kb_S} (hw : kb_g μ1 2 = w) (hR : R ≤ 29) (hF : F (R + 1) ≤ 600) (hs : vt_vs s = true) (hu2 : u + vt_tk s ≤ F (R + 1) - F R) (kc28 : Int32 → Int32 → Int32 → Int32 → Int32 → kb_S → Option kb_S) {i : Nat} (hi : i < 80) : ∀ (k j : Nat) (μ : kb_S) (fu : Nat), j + k = vt_tk s → k < fu → kq_l2 w R F u s j μ1 μ → ∃ μ2, fp_X9_lay_172 kc28 fu (nI (F R)) (nI (F (R + 1))) (nI u) (nI (R + 1)) (nI i) (nI s) (nI (vt_tk s)) (nI j) μ = kc28 (nI (F R)) (nI (F (R + 1))) (nI (u + vt_tk s)) (nI (R + 1)) (nI (i + 1)) (kb_ap μ2 8 (80 * (R + 1) + i) (nI s)) ∧ kq_l2 w R F u s (vt_tk s) μ1 μ2 := by
  have hst := vt_st hs
  have hlt := vt_vs_lt hs
  intro k
  induction k with
  | zero =>
      intro j μ fu hj hf h
      obtain ⟨f, rfl⟩ : ∃ f, fu = f + 1 := ⟨fu - 1, by omega⟩
      refine ⟨μ, ?_, by rw [← hj]; exact h⟩
      rw [fp_X9_lay_172_s, if_pos (by rw [vt_leI (by omega) (by omega)]; omega), vt_80, pk_mul, nI_add, if_pos (vt_in' (by omega) (by omega)), nI_clamp (by omega), nI_add, vt_1, nI_add, Nat.mul_comm (R + 1) 80]
  | succ k ih =>
      intro j μ fu hj hf h
      obtain ⟨f, rfl⟩ : ∃ f, fu = f + 1 := ⟨fu - 1, by omega⟩
      obtain ⟨h1, h2, h3, h4⟩ := h
      have hnd := vt_nd_in (w := w) (R := R) (F := F) (i := u + j) (by omega)
      have hg : ∀ μ', kb_g μ' 2 = w → fn_X9_take (nI (F R)) (nI (F (R + 1))) (nI (u + j)) μ' = nI (vt_nd w R F (u + j)) := fun μ' h => kq_take h hF (by omega)
      have hb : ∀ b : Nat, b ≤ 1 → vp_nar .boolean (nI b) = nI b := by
        intro b hb
        rcases (show b = 0 ∨ b = 1 by omega) with h | h <;> subst h <;> decide
      have hstep : fp_X9_lay_172 kc28 (f + 1) (nI (F R)) (nI (F (R + 1))) (nI u) (nI (R + 1)) (nI i) (nI s) (nI (vt_tk s)) (nI j) μ = fp_X9_lay_172 kc28 f (nI (F R)) (nI (F (R + 1))) (nI u) (nI (R + 1)) (nI i) (nI s) (nI (vt_tk s)) (nI (j + 1)) (kb_ap (kb_ap μ 2 (vt_nd w R F (u + j)) (nI (R + 1))) 3 (vt_nd w R F (u + j)) (nI (vt_is (s = 8)))) := by
        rw [fp_X9_lay_172_s, if_neg (by rw [vt_leI (by omega) (by omega)]; omega), nI_add, hg μ (by rw [h1]; exact hw), if_pos (vt_in' (by omega) (by omega)), nI_clamp (by omega), hg _ (by rw [vt_ga, h1]; exact hw)]
        unfold fp_X9_lay_222
        rw [if_pos (vt_in' (by omega) (by omega)), if_pos (vt_in' (by omega) (by omega)), nI_clamp (by omega), vt_1, nI_add, vt_0, hb 1 (by omega), hb 0 (by omega)]
        unfold vt_is
        by_cases h8 : s = 8
        · rw [if_pos (by rw [h8]; rfl), if_pos h8]
        · rw [if_neg (by rw [vt_8, vt_eqI (by omega) (by omega)]; exact h8), if_neg h8]
      rw [hstep]
      refine ih (j + 1) _ f (by omega) (by omega) ⟨h1, fun k h2' h3' => ?_, fun z hz => ?_, fun x hx => ?_⟩
      · rw [vt_aa, if_neg h3', vt_aa, if_neg h2']; exact h2 k h2' h3'
      · simp only [vt_aax]
        by_cases hzj : z = j
        · subst hzj
          rw [if_neg (by omega), if_pos (by simp), if_pos (by simp)]; exact ⟨rfl, rfl⟩
        · have hne : vt_nd w R F (u + z) ≠ vt_nd w R F (u + j) := fun h => hzj (by have := kq_nd_inj (by omega) (by omega) h; omega)
          rw [if_neg (by omega), if_neg (by omega), if_neg (by omega), if_neg (by omega)]
          exact h3 z (by omega)
      · have hne := hx j (by omega)
        simp only [vt_aax]
        rw [if_neg (by omega), if_neg (by omega), if_neg (by omega), if_neg (by omega)]
        exact h4 x (fun z hz => hx z (by omega))
end KQL
