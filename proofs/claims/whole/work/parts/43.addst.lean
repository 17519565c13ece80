/-! a stitch is worked into the class's rows -/
def kq_pn (s : Nat) : Nat := if s < 100 then vt_tk s else 1
def kq_po (s y : Nat) : Nat := if s < 100 then 0 else if y < vt_cb s then vt_ca s + y else y - vt_cb s
theorem kq_po_lt {s y : Nat} (hs : vt_vs s = true) (hy : y < vt_mk s) (hp : 0 < kq_pn s) : kq_po s y + kq_pn s ≤ vt_tk s := by
  have h := vt_st hs
  unfold kq_po kq_pn vt_mk vt_tk at *
  by_cases h1 : s < 100
  · simp only [if_pos h1] at *; omega
  · simp only [if_neg h1] at *; split <;> omega
/-- y loops of the stitch s are made -/
def kq_ml (w : Int32) (R : Nat) (F : Nat → Nat) (u s m0 y : Nat) (σ0 σ : kb_S) : Prop :=
  (∀ j, j ≠ 7 → kb_g σ j = kb_g σ0 j) ∧ kb_g σ 7 = nI (m0 + y) ∧ (∀ j, j ≠ 4 → j ≠ 5 → kb_a σ j = kb_a σ0 j) ∧ (∀ j, kb_b σ j = kb_b σ0 j) ∧ (∀ x, (x < m0 ∨ m0 + y ≤ x) → kb_a σ 4 x = kb_a σ0 4 x ∧ kb_a σ 5 x = kb_a σ0 5 x) ∧ ∀ z, z < y → kb_a σ 4 (m0 + z) = nI (kq_pn s) ∧ (0 < kq_pn s → kb_a σ 5 (m0 + z) = nI (vt_nd w R F (u + kq_po s z)))
/-- the needle as the class has it -/
def kq_ne (w : Int32) (R : Nat) (F : Nat → Nat) (σ : kb_S) : Prop := F R ≤ F (R + 1) ∧ F (R + 1) ≤ 600 ∧ kb_g σ 3 = nI (F (R + 1) - F R) ∧ kb_g σ 4 = (if w = 0 then nI (F (R + 1)) - nI 1 else nI (F R)) ∧ kb_g σ 5 = vt_stp w
theorem kq_needle {w : Int32} {R : Nat} {F : Nat → Nat} {σ : kb_S} (h : kq_ne w R F σ) {i : Nat} (hi : i < F (R + 1) - F R) : fn_X0_needleLoop (nI i) σ = nI (vt_nd w R F i) := by
  obtain ⟨h1, h2, h3, h4, h5⟩ := h
  unfold fn_X0_needleLoop vt_nd vt_stp at *
  rw [if_neg (vt_neg (by omega)), h3, if_neg (by rw [vt_leI (by omega) (by omega)]; omega), h4, h5]
  by_cases hw : w = 0
  · rw [if_pos hw, if_pos hw, if_pos hw, pk_sub (by omega), Int32.mul_neg, show nI i * nI 1 = nI i by rw [pk_mul, Nat.mul_one], vt_an (by omega)]
  · rw [if_neg hw, if_neg hw, if_neg hw, pk_mul, Nat.mul_one, nI_add]
theorem kq_ml1 {w : Int32} {R : Nat} {F : Nat → Nat} {u s m0 y : Nat} {σ0 σ : kb_S} (hne : kq_ne w R F σ0) (hp : kq_pn s ≤ 10) (hy : m0 + y < 600) (hi : 0 < kq_pn s → u + kq_po s y < F (R + 1) - F R) (h : kq_ml w R F u s m0 y σ0 σ) {i : Nat} (hii : 0 < kq_pn s → i = u + kq_po s y) : ∃ σ2, fn_X0_makeLoop (nI i) (nI (kq_pn s)) σ = some σ2 ∧ kq_ml w R F u s m0 (y + 1) σ0 σ2 := by
  obtain ⟨h1, h2, h3, h4, h5, h6⟩ := h
  have hneσ : kq_ne w R F σ := by
    unfold kq_ne at *; rw [h1 3 (by decide), h1 4 (by decide), h1 5 (by decide)]; exact hne
  rw [vt_mkLoop h2 hy]
  refine ⟨_, rfl, fun j hj => ?_, ?_, fun j hj hj2 => ?_, h4, fun x hx => ?_, fun z hz => ?_⟩
  · rw [vt_gp, if_neg hj, vt_ga, vt_ga]; exact h1 j hj
  · rw [vt_gp, if_pos rfl, Nat.add_assoc]
  · rw [vt_ap, vt_aa, if_neg hj, vt_aa, if_neg hj2]; exact h3 j hj hj2
  · rw [vt_ap, vt_ap, vt_aax, vt_aax, vt_aax, vt_aax, if_neg (by omega), if_neg (by omega), if_neg (by omega), if_neg (by omega)]
    exact h5 x (by omega)
  · rw [vt_ap, vt_ap, vt_aax, vt_aax, vt_aax, vt_aax]
    by_cases hzy : z = y
    · subst hzy
      refine ⟨by rw [if_pos ⟨rfl, rfl⟩], fun hp2 => ?_⟩
      rw [if_neg (by omega), if_pos ⟨rfl, rfl⟩, if_neg (by rw [vt_0, vt_leI (by omega) (by omega)]; omega), hii hp2]
      exact kq_needle hneσ (hi hp2)
    · rw [if_neg (by omega), if_neg (by omega), if_neg (by omega), if_neg (by omega)]
      exact h6 z (by omega)
theorem kq_loop29 {w : Int32} {R : Nat} {F : Nat → Nat} {u s m0 : Nat} {σ0 : kb_S} (hne : kq_ne w R F σ0) (hs : vt_vs s = true) (h100 : s < 100) (hu : kb_g σ0 6 = nI u) (hu2 : u + vt_tk s ≤ F (R + 1) - F R) (hm : m0 + vt_mk s ≤ 600) : ∀ (k y : Nat) (σ : kb_S) (fu : Nat), y + k = vt_mk s → k < fu → kq_ml w R F u s m0 y σ0 σ → ∃ σ2, fp_X0_addStitch_29 fu (nI s) (nI (vt_mk s)) (nI y) σ = fp_X0_addStitch_52 (nI s) σ2 ∧ kq_ml w R F u s m0 (vt_mk s) σ0 σ2 := by
  have hst := vt_st hs
  have hpn : kq_pn s = vt_tk s := by unfold kq_pn; rw [if_pos h100]
  have hpo : ∀ y, kq_po s y = 0 := fun y => by unfold kq_po; rw [if_pos h100]
  intro k
  induction k with
  | zero =>
      intro y σ fu hy hf h
      obtain ⟨f, rfl⟩ : ∃ f, fu = f + 1 := ⟨fu - 1, by omega⟩
      refine ⟨σ, ?_, by rw [← hy]; exact h⟩
      rw [fp_X0_addStitch_29_s, if_pos (by rw [vt_leI (by omega) (by omega)]; omega)]
  | succ k ih =>
      intro y σ fu hy hf h
      obtain ⟨f, rfl⟩ : ∃ f, fu = f + 1 := ⟨fu - 1, by omega⟩
      obtain ⟨σ2, r1, r2⟩ := kq_ml1 hne (by omega) (by omega) (fun hp => by rw [hpo]; omega) h (i := u) (fun _ => by rw [hpo]; rfl)
      obtain ⟨σ3, r3, r4⟩ := ih (y + 1) σ2 f (by omega) (by omega) r2
      refine ⟨σ3, ?_, r4⟩
      rw [fp_X0_addStitch_29_s, if_neg (by rw [vt_leI (by omega) (by omega)]; omega), hst.1, Option.bind_some, h.1 6 (by decide), hu, ← hpn, r1, Option.bind_some, vt_1, nI_add]
      exact r3
theorem kq_loop28 {w : Int32} {R : Nat} {F : Nat → Nat} {u s m0 : Nat} {σ0 : kb_S} (hne : kq_ne w R F σ0) (hs : vt_vs s = true) (h100 : ¬ s < 100) (hu : kb_g σ0 6 = nI u) (hu2 : u + vt_tk s ≤ F (R + 1) - F R) (hm : m0 + vt_mk s ≤ 600) : ∀ (k y : Nat) (σ : kb_S) (fu : Nat), y + k = vt_ca s → k < fu → kq_ml w R F u s m0 (vt_cb s + y) σ0 σ → ∃ σ2, fp_X0_makeCableLoops_28 fu (nI (vt_ca s)) (nI y) σ = some σ2 ∧ kq_ml w R F u s m0 (vt_mk s) σ0 σ2 := by
  have hst := vt_st hs
  have hcab := hst.2.2.2.2.2.1 (by omega)
  have hpn : kq_pn s = 1 := by unfold kq_pn; rw [if_neg h100]
  have htk : vt_tk s = vt_ca s + vt_cb s := by unfold vt_tk; rw [if_neg h100]
  have hmk : vt_mk s = vt_ca s + vt_cb s := by unfold vt_mk; rw [if_neg h100]
  have hpo : ∀ y, kq_po s (vt_cb s + y) = y := fun y => by unfold kq_po; rw [if_neg h100, if_neg (by omega)]; omega
  intro k
  induction k with
  | zero =>
      intro y σ fu hy hf h
      obtain ⟨f, rfl⟩ : ∃ f, fu = f + 1 := ⟨fu - 1, by omega⟩
      refine ⟨σ, ?_, by rw [hmk, show vt_ca s + vt_cb s = vt_cb s + y by omega]; exact h⟩
      rw [fp_X0_makeCableLoops_28_s, if_pos (by rw [vt_leI (by omega) (by omega)]; omega)]
  | succ k ih =>
      intro y σ fu hy hf h
      obtain ⟨f, rfl⟩ : ∃ f, fu = f + 1 := ⟨fu - 1, by omega⟩
      obtain ⟨σ2, r1, r2⟩ := kq_ml1 hne (by omega) (by omega) (fun hp => by rw [hpo]; omega) h (i := u + y) (fun _ => by rw [hpo])
      obtain ⟨σ3, r3, r4⟩ := ih (y + 1) σ2 f (by omega) (by omega) r2
      refine ⟨σ3, ?_, r4⟩
      rw [fp_X0_makeCableLoops_28_s, if_neg (by rw [vt_leI (by omega) (by omega)]; omega), h.1 6 (by decide), hu, nI_add]
      rw [hpn, ← vt_1] at r1
      rw [r1, Option.bind_some, vt_1, nI_add]
      exact r3
theorem kq_loop2 {w : Int32} {R : Nat} {F : Nat → Nat} {u s m0 : Nat} {σ0 : kb_S} (hne : kq_ne w R F σ0) (hs : vt_vs s = true) (h100 : ¬ s < 100) (hu : kb_g σ0 6 = nI u) (hu2 : u + vt_tk s ≤ F (R + 1) - F R) (hm : m0 + vt_mk s ≤ 600) : ∀ (k y : Nat) (σ : kb_S) (fu : Nat), y + k = vt_cb s → k < fu → kq_ml w R F u s m0 y σ0 σ → ∃ σ2, fp_X0_makeCableLoops_2 fu (nI (vt_ca s)) (nI (vt_cb s)) (nI y) σ = some σ2 ∧ kq_ml w R F u s m0 (vt_mk s) σ0 σ2 := by
  have hst := vt_st hs
  have hcab := hst.2.2.2.2.2.1 (by omega)
  have hpn : kq_pn s = 1 := by unfold kq_pn; rw [if_neg h100]
  have htk : vt_tk s = vt_ca s + vt_cb s := by unfold vt_tk; rw [if_neg h100]
  have hmk : vt_mk s = vt_ca s + vt_cb s := by unfold vt_mk; rw [if_neg h100]
  have hpo : ∀ y, y < vt_cb s → kq_po s y = vt_ca s + y := fun y hy => by unfold kq_po; rw [if_neg h100, if_pos hy]
  intro k
  induction k with
  | zero =>
      intro y σ fu hy hf h
      obtain ⟨f, rfl⟩ : ∃ f, fu = f + 1 := ⟨fu - 1, by omega⟩
      obtain ⟨σ2, r1, r2⟩ := kq_loop28 hne hs h100 hu hu2 hm (vt_ca s) 0 σ kb_FU (by omega) (by rw [vt_fu]; omega) (by rw [show vt_cb s + 0 = y by omega]; exact h)
      refine ⟨σ2, ?_, r2⟩
      rw [fp_X0_makeCableLoops_2_s, if_pos (by rw [vt_leI (by omega) (by omega)]; omega)]
      exact r1
  | succ k ih =>
      intro y σ fu hy hf h
      obtain ⟨f, rfl⟩ : ∃ f, fu = f + 1 := ⟨fu - 1, by omega⟩
      obtain ⟨σ2, r1, r2⟩ := kq_ml1 hne (by omega) (by omega) (fun hp => by rw [hpo y (by omega)]; omega) h (i := u + vt_ca s + y) (fun _ => by rw [hpo y (by omega)]; omega)
      obtain ⟨σ3, r3, r4⟩ := ih (y + 1) σ2 f (by omega) (by omega) r2
      refine ⟨σ3, ?_, r4⟩
      rw [fp_X0_makeCableLoops_2_s, if_neg (by rw [vt_leI (by omega) (by omega)]; omega), h.1 6 (by decide), hu, nI_add, nI_add]
      rw [hpn, ← vt_1] at r1
      rw [r1, Option.bind_some, vt_1, nI_add]
      exact r3
theorem kq_adds {w : Int32} {R : Nat} {F : Nat → Nat} {u s m0 g : Nat} {σ : kb_S} (hne : kq_ne w R F σ) (hs : vt_vs s = true) (hu : kb_g σ 6 = nI u) (hu2 : u + vt_tk s ≤ F (R + 1) - F R) (h7 : kb_g σ 7 = nI m0) (hm : m0 + vt_mk s ≤ 600) (h8 : kb_g σ 8 = nI g) (hg : g < 1200) : ∃ σ1 σ2, fn_X0_addStitch (nI s) σ = some σ2 ∧ kq_ml w R F u s m0 (vt_mk s) σ σ1 ∧ σ2 = kb_p (kb_ap (kb_p σ1 6 (nI (u + vt_tk s))) 3 g (nI s)) 8 (nI (g + 1)) := by
  have hst := vt_st hs
  have hlt := vt_vs_lt hs
  have h0 : kq_ml w R F u s m0 0 σ σ := ⟨fun _ _ => rfl, h7, fun _ _ _ => rfl, fun _ => rfl, fun _ _ => ⟨rfl, rfl⟩, fun z hz => absurd hz (by omega)⟩
  have h52 : ∀ σ1, kq_ml w R F u s m0 (vt_mk s) σ σ1 → fp_X0_addStitch_52 (nI s) σ1 = some (kb_p (kb_ap (kb_p σ1 6 (nI (u + vt_tk s))) 3 g (nI s)) 8 (nI (g + 1))) := by
    intro σ1 h1
    unfold fp_X0_addStitch_52
    rw [hst.1, Option.bind_some, h1.1 8 (by decide), h8, if_neg (by rw [vt_1200, vt_leI (by omega) (by omega)]; omega), if_pos (vt_in' (by omega) hg), nI_clamp (by omega), h1.1 6 (by decide), hu, nI_add, vt_1, nI_add]
  unfold fn_X0_addStitch
  rw [hst.2.2.2.2.1]
  by_cases h100 : s < 100
  · rw [if_pos (by rw [if_pos h100]), hst.2.1, Option.bind_some]
    obtain ⟨σ1, r1, r2⟩ := kq_loop29 hne hs h100 hu hu2 hm (vt_mk s) 0 σ kb_FU (by omega) (by rw [vt_fu]; omega) h0
    exact ⟨σ1, _, by rw [vt_0, r1]; exact h52 σ1 r2, r2, rfl⟩
  · rw [if_neg (by rw [if_neg h100]; decide), (hst.2.2.2.2.2.1 (by omega)).1, (hst.2.2.2.2.2.1 (by omega)).2.1]
    have hcab := hst.2.2.2.2.2.1 (by omega)
    obtain ⟨σ1, r1, r2⟩ := kq_loop2 hne hs h100 hu hu2 hm (vt_cb s) 0 σ kb_FU (by omega) (by rw [vt_fu]; omega) h0
    refine ⟨σ1, _, ?_, r2, rfl⟩
    unfold fn_X0_makeCableLoops
    rw [vt_0, r1, Option.bind_some]; exact h52 σ1 r2
