/-! the two readers, turn by turn -/
theorem kq_b_ge {b : Nat → Nat} : ∀ (m p : Nat), p ≤ kq_b b m p
  | 0, p => by rw [kq_b]; omega
  | m + 1, p => by
      rw [kq_b]
      split
      · have := kq_b_ge (b := b) m (p + 1); omega
      · omega
theorem kq_b_stop {b : Nat → Nat} {tl : Nat} (hb : ∀ i, tl ≤ i → b i = 300) : ∀ (m p : Nat), tl ≤ p + m → b (kq_b b m p) ≠ 32
  | 0, p, h => by rw [kq_b, hb p (by omega)]; omega
  | m + 1, p, h => by
      rw [kq_b]
      split
      · exact kq_b_stop hb m (p + 1) (by omega)
      · assumption
theorem kq_b_stay {b : Nat → Nat} {p : Nat} (h : b p ≠ 32) : ∀ m, kq_b b m p = p
  | 0 => rfl
  | m + 1 => by rw [kq_b, if_neg h]
theorem kq_w_pos {b : Nat → Nat} {cs : List Nat} {s : Nat × Nat} (h : (kq_w b cs s).1 = 0) : s.1 = 0 ∧ (kq_w b cs s).2 = s.2 + cs.length := by
  by_cases h1 : s.1 = 0
  · obtain ⟨f, p⟩ := s
    simp only at h1
    subst h1
    exact ⟨rfl, kq_w_ok cs h⟩
  · rw [kq_w_wrong cs h1] at h; exact absurd h h1
theorem kq_bl_pos {b : Nat → Nat} {s : Nat × Nat} (h : (kq_bl b s).1 = 0) : s.1 = 0 ∧ s.2 ≤ (kq_bl b s).2 := by
  unfold kq_bl at *
  by_cases h1 : s.1 = 0
  · rw [if_pos h1]; exact ⟨h1, kq_b_ge 201 s.2⟩
  · rw [if_neg h1] at h; exact absurd h h1
theorem kq_nn_pos {b : Nat → Nat} {least : Nat} {s : Nat × Nat} (hl : least ≤ 2) (h : (kq_nn b least s).1 = 0) : s.1 = 0 ∧ s.2 + 1 ≤ (kq_nn b least s).2.1 ∧ least ≤ (kq_nn b least s).2.2 ∧ (kq_nn b least s).2.2 ≤ 99 ∧ ∃ q, (kq_nn b least s).2.1 = q + 1 ∧ b q < 256 := by
  unfold kq_nn at *
  by_cases h1 : s.1 = 0
  · rw [if_pos h1] at h ⊢
    obtain ⟨a1, a2, a3⟩ := kq_n_ok hl h
    rcases a3 with ⟨b1, b2, b3⟩ | ⟨b1, b2⟩
    · exact ⟨h1, by omega, a1, a2, s.2, b1, b3⟩
    · exact ⟨h1, by omega, a1, a2, s.2 + 1, b1, b2⟩
  · rw [if_neg h1] at h; exact absurd h h1
theorem kq_cl_pos {b : Nat → Nat} {rep : Bool} {p : Nat} (h : (kq_cl b rep p).1 = 0) : p < (kq_cl b rep p).2.1 ∧ (kq_cl b rep p).2.2 ≤ 99 ∧ (rep = false → 2 ≤ (kq_cl b rep p).2.2 ∧ p + 3 ≤ (kq_cl b rep p).2.1) ∧ (rep = true → p + 8 ≤ (kq_cl b rep p).2.1) ∧ ∃ q, (kq_cl b rep p).2.1 = q + 1 ∧ b q < 256 := by
  unfold kq_cl at *
  cases rep
  · rw [if_neg (by decide)] at h ⊢
    obtain ⟨a1, a2, a3, a4, a5⟩ := kq_nn_pos (by decide) h
    obtain ⟨b1, b2⟩ := kq_w_pos a1
    obtain ⟨c1, c2⟩ := kq_bl_pos b1
    generalize kq_nn b 2 (kq_w b [120] (kq_bl b (0, p + 1))) = R at *
    rw [b2] at a2
    generalize kq_bl b (0, p + 1) = S at *
    simp only [List.length_cons, List.length_nil] at *
    exact ⟨by omega, a4, fun _ => ⟨a3, by omega⟩, fun h3 => absurd h3 (by decide), a5⟩
  · rw [if_pos rfl] at h ⊢
    obtain ⟨a1, a2, a3, a4, a5⟩ := kq_nn_pos (by decide) h
    obtain ⟨b1, b2⟩ := kq_bl_pos a1
    obtain ⟨c1, c2⟩ := kq_w_pos b1
    obtain ⟨d1, d2⟩ := kq_bl_pos c1
    obtain ⟨e1, e2⟩ := kq_w_pos d1
    obtain ⟨f1, f2⟩ := kq_bl_pos e1
    generalize kq_nn b 0 (kq_bl b (kq_w b [108, 97, 115, 116] (kq_bl b (kq_w b [116, 111] (kq_bl b (0, p + 1)))))) = R at *
    generalize kq_bl b (kq_w b [108, 97, 115, 116] (kq_bl b (kq_w b [116, 111] (kq_bl b (0, p + 1))))) = R1 at *
    rw [c2] at b2
    generalize kq_bl b (kq_w b [116, 111] (kq_bl b (0, p + 1))) = R2 at *
    rw [e2] at d2
    generalize kq_bl b (0, p + 1) = R3 at *
    simp only [List.length_cons, List.length_nil] at *
    exact ⟨by omega, a4, fun h3 => absurd h3 (by decide), fun _ => by omega, a5⟩
theorem kq_op_pos {b : Nat → Nat} {d p : Nat} (hd : d ≤ 4) (h : (kq_op b d p).1 = 0) : p < (kq_op b d p).2.1 ∧ d < 4 ∧ ((kq_op b d p).2.2 = 1 ∨ (kq_op b d p).2.2 = 2) ∧ ((kq_op b d p).2.2 = 2 → d = 0 ∧ p + 4 ≤ (kq_op b d p).2.1) ∧ ∃ q, (kq_op b d p).2.1 = q + 1 ∧ b q < 256 := by
  unfold kq_op at *
  by_cases h1 : b p = 40
  · rw [if_pos h1] at h ⊢
    by_cases h2 : d < 4
    · rw [if_pos h2] at h ⊢
      exact ⟨by simp, h2, Or.inl rfl, fun h3 => absurd h3 (by simp), p, rfl, by omega⟩
    · rw [if_neg h2] at h; exact absurd h (by simp)
  · rw [if_neg h1] at h ⊢
    by_cases h2 : d = 0
    · rw [if_pos h2] at h ⊢
      simp only at h ⊢
      by_cases h3 : (kq_bl b (kq_w b [114, 101, 112] (0, p))).1 = 0
      · rw [if_pos h3] at h ⊢
        obtain ⟨a1, a2⟩ := kq_bl_pos h3
        obtain ⟨b1, b2⟩ := kq_w_pos a1
        rw [b2] at a2
        generalize kq_bl b (kq_w b [114, 101, 112] (0, p)) = R at *
        simp only [List.length_cons, List.length_nil] at a2
        by_cases h4 : b R.2 = 40
        · rw [if_pos h4] at h ⊢
          exact ⟨by simp only; omega, by omega, Or.inr rfl, fun _ => ⟨h2, by simp only; omega⟩, R.2, rfl, by omega⟩
        · rw [if_neg h4] at h; exact absurd h (by simp)
      · rw [if_neg h3] at h; exact absurd h h3
    · rw [if_neg h2] at h; exact absurd h (by simp)
def kq_tail (μ : kb_S) : Option kb_S := if kb_g μ 6 = 0 then (fn_X9_seeWord μ).bind fun q3 => if q3.2 < 0 then some q3.1 else fn_X9_wrong (1 : Int32) q3.1 else some μ
def kq_fin (σi μi : kb_S) (n : Nat) (K N O Wh : Nat → Nat) (sk : Nat → List Nat) (σ μ : kb_S) : Prop :=
  kq_fr σi μi σ μ ∧ (n ≤ 200 ∧ kb_g σ 16 = nI n ∧ kb_g μ 9 = nI n ∧ kb_g σ 11 = 0 ∧ kb_g μ 6 = 0) ∧ kq_ok n K N O sk ∧ (∀ k, k < n → kq_mk1 K N O Wh σ μ k) ∧ kq_rp n K N O σ ∧ sk n = []
def kq_res (σi μi : kb_S) (σ2 : kb_S) (v : Int32) (μ3 : kb_S) : Prop :=
  (∃ s : Nat × Nat, s.1 ≠ 0 ∧ s.1 ≤ 9 ∧ s.2 ≤ 200 ∧ v = kq_code s ∧ kq_fc σi s σ2 ∧ kq_fm μi s μ3) ∨
  (v = 0 ∧ ∃ n K N O Wh sk, kq_fin σi μi n K N O Wh sk σ2 μ3)
theorem kq_fr.fc {σi μi σ μ σ2 : kb_S} {s : Nat × Nat} (h : kq_fr σi μi σ μ) (h2 : kq_fc σ s σ2) : kq_fc σi s σ2 := ⟨fun j hj => by rw [h2.1 j hj, h.1 j hj], fun j hj => by rw [h2.2.1 j hj, h.2.1 j hj], h2.2.2⟩
theorem kq_fr.fm {σi μi σ μ μ2 : kb_S} {s : Nat × Nat} (h : kq_fr σi μi σ μ) (h2 : kq_fm μ s μ2) : kq_fm μi s μ2 := ⟨fun j hj => by rw [h2.1 j hj, h.2.2.1 j hj], fun j hj => by rw [h2.2.1 j hj, h.2.2.2 j hj], h2.2.2⟩
theorem kq_stopc {σ : kb_S} {s : Nat × Nat} (h0 : s.1 ≠ 0) (h1 : s.1 ≤ 9) (h2 : s.2 ≤ 200) (h : kb_g σ 11 = kq_code s) (fu : Nat) (x : Int32) : fp_X4_readTape_41 (fu + 1) x σ = some (σ, kq_code s) := by
  rw [fp_X4_readTape_41_s, h]
  have e : fn_X4_isRight σ = 0 := by
    unfold fn_X4_isRight
    rw [if_neg (by rw [h]; exact fun h5 => h0 ((kq_code0 h1 h2).mp h5))]
  rw [e]
  split
  · rfl
  · split
    · rw [if_pos rfl]
    · rfl
theorem kq_stop4 {μ : kb_S} (h : ¬ kb_g μ 6 = 0) (f : Nat) (x y : Int32) : fp_X9_line_4 (f + 1) x y μ = some μ := by
  rw [fp_X9_line_4_s]
  unfold fp_X9_line_136
  rw [if_neg h, if_neg h]; split <;> rfl
theorem kq_stop67 {μ : kb_S} (h : ¬ kb_g μ 6 = 0) (f g : Nat) (x : Int32) : fp_X9_line_67 (fp_X9_line_4 (f + 1)) (g + 1) x μ = some μ := by
  rw [fp_X9_line_67_s, if_neg h]
  unfold fp_X9_line_97 fp_X9_line_117 fp_X9_line_118 fp_X9_line_133
  rw [if_neg h, if_pos rfl]; exact kq_stop4 h f _ _
theorem kq_stopt {μ : kb_S} (h : ¬ kb_g μ 6 = 0) : kq_tail μ = some μ := by unfold kq_tail; rw [if_neg h]
/-- both stand at a fault -/
theorem kq_bad {σi μi σ μ σ2 μ2 : kb_S} {s : Nat × Nat} (hfr : kq_fr σi μi σ μ) (h0 : s.1 ≠ 0) (h1 : s.1 ≤ 9) (h2 : s.2 ≤ 200) (hc : kq_fc σ s σ2) (hm : kq_fm μ s μ2) : (∀ fu x, fp_X4_readTape_41 (fu + 1) x σ2 = some (σ2, kq_code s)) ∧ (¬ kb_g μ2 6 = 0) ∧ kq_res σi μi σ2 (kq_code s) μ2 := by
  refine ⟨fun fu x => kq_stopc h0 h1 h2 hc.2.2 fu x, ?_, Or.inl ⟨s, h0, h1, h2, rfl, hfr.fc hc, hfr.fm hm⟩⟩
  rw [hm.2.2.1, vt_0, vt_eqI (by omega) (by omega)]; exact h0
theorem kq_sign {tl : Nat} {b : Nat → Nat} {μ : kb_S} (ht : kq_tm tl b μ) {p d : Nat} (h : kq_m μ (0, p) μ) (hd : kb_g μ 8 = nI d) (hd2 : d ≤ 4) (kc4 : Int32 → Int32 → kb_S → Option kb_S) (g : Nat) {q : Nat} (hq : q = kq_b b 201 p) :
    ∃ μq, kq_m μ (0, q) μq ∧ fp_X9_line_67 kc4 (g + 1) 0 μ = if 0 < d ∧ b q = 41 then (fn_X9_shuts μq).bind (fun q5 => fp_X9_line_67 kc4 g 0 q5) else if b q = 44 then kc4 0 1 (kb_p μq 5 (nI (q + 1))) else kc4 0 0 μq := by
  have htl := ht.1
  have hq32 : b q ≠ 32 := by rw [hq]; exact kq_b_stop ht.2.2.2 201 p (by omega)
  have h97 : ∀ μ1, kq_m μ (0, q) μ1 ∨ μ1 = μ → ∃ μq, kq_m μ (0, q) μq ∧ fp_X9_line_97 kc4 0 μ1 = if b q = 44 then kc4 0 1 (kb_p μq 5 (nI (q + 1))) else kc4 0 0 μq := by
    intro μ1 h1
    have h2 : ∃ μq, fn_X9_seeWord μ1 = some (μq, kq_see b q) ∧ kq_m μ (0, q) μq ∧ kb_g μ1 6 = 0 := by
      rcases h1 with h1 | h1
      · obtain ⟨μq, r1, r2⟩ := kq_seeWord ht h1
        rw [kq_b_stay hq32] at r1 r2
        exact ⟨μq, r1, r2, h1.f0.mpr rfl⟩
      · subst h1
        obtain ⟨μq, r1, r2⟩ := kq_seeWord ht h
        rw [← hq] at r1 r2
        exact ⟨μq, r1, r2, h.f0.mpr rfl⟩
    obtain ⟨μq, r1, r2, r3⟩ := h2
    refine ⟨μq, r2, ?_⟩
    unfold fp_X9_line_97
    rw [if_pos r3, r1, Option.bind_some]
    simp only
    by_cases hb : b q = 44
    · rw [if_pos (show kq_see b q = 44 from (kq_see_eq (c := 44) (by omega)).mpr hb), if_pos hb]
      unfold fp_X9_line_118 fp_X9_line_133
      rw [if_neg (by decide), r2.2.2.2.1 rfl, vt_1, nI_add]
    · rw [if_neg (fun h5 : kq_see b q = 44 => hb ((kq_see_eq (c := 44) (by omega)).mp h5)), if_neg hb]
      unfold fp_X9_line_117 fp_X9_line_118 fp_X9_line_133
      rw [if_pos rfl]
  rw [fp_X9_line_67_s, if_pos (h.f0.mpr rfl), hd]
  by_cases h0 : d = 0
  · obtain ⟨μq, r1, r2⟩ := h97 μ (Or.inr rfl)
    refine ⟨μq, r1, ?_⟩
    rw [if_pos (by rw [vt_0, vt_leI (by omega) (by omega)]; omega), if_neg (by omega)]; exact r2
  · obtain ⟨μq, r1, r2⟩ := kq_seeWord ht h
    rw [← hq] at r1 r2
    rw [if_neg (by rw [vt_0, vt_leI (by omega) (by omega)]; omega), r1, Option.bind_some]
    simp only
    by_cases hb : b q = 41
    · refine ⟨μq, r2, ?_⟩
      rw [if_pos (show kq_see b q = 41 from (kq_see_eq (c := 41) (by omega)).mpr hb), if_pos ⟨by omega, hb⟩]
    · obtain ⟨μr, s1, s2⟩ := h97 μq (Or.inl r2)
      refine ⟨μr, s1, ?_⟩
      rw [if_neg (fun h5 : kq_see b q = 41 => hb ((kq_see_eq (c := 41) (by omega)).mp h5)), if_neg (by omega)]; exact s2
theorem kq_w_le1 {tl : Nat} {b : Nat → Nat} {σ0 : kb_S} (ht : kq_tc tl b σ0) : ∀ (cs : List Nat) (hc : ∀ c ∈ cs, c < 256) (s : Nat × Nat), s.1 ≤ 1 ∧ s.2 ≤ tl → (kq_w b cs s).1 ≤ 1 ∧ (kq_w b cs s).2 ≤ tl
  | [], _, s, h => h
  | c :: cs, hc, s, h => by
      rw [kq_w]
      refine kq_w_le1 ht cs (fun x hx => hc x (List.mem_cons_of_mem _ hx)) _ ?_
      by_cases h0 : s.1 = 0
      · rw [if_pos h0]
        by_cases hb : b s.2 = c
        · rw [if_pos hb]
          have := kq_inb ht (p := s.2) (by have := hc c List.mem_cons_self; omega)
          exact ⟨Nat.zero_le 1, this⟩
        · rw [if_neg hb]; exact ⟨Nat.le_refl 1, h.2⟩
      · rw [if_neg h0]; exact h
theorem kq_bl_le1 {tl : Nat} {b : Nat → Nat} {σ0 : kb_S} (ht : kq_tc tl b σ0) {s : Nat × Nat} (h : s.1 ≤ 1 ∧ s.2 ≤ tl) : (kq_bl b s).1 ≤ 1 ∧ (kq_bl b s).2 ≤ tl := by
  unfold kq_bl
  split
  · exact ⟨Nat.zero_le 1, (kq_b_le ht 201 s.2 h.2).1⟩
  · exact h
theorem kq_nn_le1 {tl : Nat} {b : Nat → Nat} {σ0 : kb_S} (ht : kq_tc tl b σ0) {least : Nat} {s : Nat × Nat} (h : s.1 ≤ 1 ∧ s.2 ≤ tl) : (kq_nn b least s).1 ≤ 1 ∧ (kq_nn b least s).2.1 ≤ tl := by
  unfold kq_nn
  split
  · unfold kq_n
    split
    · rename_i h1
      have h2 := kq_isd_iff.mp h1.1
      have h3 := kq_inb ht (p := s.2) (by omega)
      split
      · exact ⟨Nat.zero_le 1, h3⟩
      · split
        · rename_i h4
          have h5 := kq_isd_iff.mp h4
          have h6 := kq_inb ht (p := s.2 + 1) (by omega)
          exact ⟨Nat.zero_le 1, h6⟩
        · split
          · exact ⟨Nat.le_refl 1, h3⟩
          · exact ⟨Nat.zero_le 1, h3⟩
    · exact ⟨Nat.le_refl 1, h.2⟩
  · exact h
theorem kq_cl_le {tl : Nat} {b : Nat → Nat} {σ0 : kb_S} (ht : kq_tc tl b σ0) {rep : Bool} {p : Nat} (hp : p < tl) : (kq_cl b rep p).1 ≤ 9 ∧ (kq_cl b rep p).2.1 ≤ 200 := by
  have htl := ht.1
  have h0 := kq_bl_le1 ht (s := (0, p + 1)) ⟨Nat.zero_le 1, hp⟩
  unfold kq_cl
  split
  · have h5 := kq_nn_le1 ht (least := 0) (kq_bl_le1 ht (kq_w_le1 ht [108, 97, 115, 116] (by simp) _ (kq_bl_le1 ht (kq_w_le1 ht [116, 111] (by simp) _ h0))))
    exact ⟨by omega, by omega⟩
  · have h5 := kq_nn_le1 ht (least := 2) (kq_w_le1 ht [120] (by simp) _ h0)
    exact ⟨by omega, by omega⟩
