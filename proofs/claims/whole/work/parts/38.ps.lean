/-! a plan as both hold it: kinds K, numbers N, partners O, places Wh, open brackets sk -/
def kq_kd (K : Nat) : Nat := if K = 20 then 1 else if K = 22 then 2 else if K = 21 then 3 else 0
def kq_ok1 (n : Nat) (K N O : Nat → Nat) (sk : Nat → List Nat) (k : Nat) : Prop :=
  (vt_vs (K k) = true ∧ 1 ≤ N k ∧ N k ≤ 99 ∧ sk (k + 1) = sk k ∧ O k = 0) ∨
  ((K k = 20 ∨ K k = 22 ∧ sk k = []) ∧ sk (k + 1) = k :: sk k ∧ (sk k).length ≤ 3 ∧ (k + 1 < n → K (k + 1) ≠ 21 ∧ K (k + 1) ≠ 22) ∧ ((k ∈ sk n ∧ O k = 0) ∨ (k < O k ∧ O k < n ∧ K (O k) = 21 ∧ O (O k) = k ∧ N k ≤ 99 ∧ (K k = 20 → 2 ≤ N k)))) ∨
  (K k = 21 ∧ O k < k ∧ (K (O k) = 20 ∨ K (O k) = 22) ∧ O (O k) = k ∧ sk k = O k :: sk (O k) ∧ sk (k + 1) = sk (O k))
def kq_ok (n : Nat) (K N O : Nat → Nat) (sk : Nat → List Nat) : Prop := sk 0 = [] ∧ (∀ o, o ∈ sk n → O o = 0) ∧ ∀ k, k < n → kq_ok1 n K N O sk k
theorem kq_vs3 {k : Nat} (h : vt_vs k = true) : k ≠ 20 ∧ k ≠ 21 ∧ k ≠ 22 := by
  refine ⟨?_, ?_, ?_⟩ <;> rintro rfl <;> exact absurd h (by decide)
theorem kq_chain {n : Nat} {K N O : Nat → Nat} {sk : Nat → List Nat} (h : kq_ok n K N O sk) : ∀ k, k ≤ n → ∀ o r, sk k = o :: r → o < k ∧ r = sk o ∧ (K o = 20 ∨ K o = 22) := by
  intro k
  induction k using Nat.strongRecOn with
  | _ k ih =>
    intro hk o r hs
    match k, ih, hk, hs with
    | 0, _, _, hs => rw [h.1] at hs; cases hs
    | k + 1, ih, hk, hs =>
        rcases h.2.2 k (by omega) with ⟨_, _, _, h4, _⟩ | ⟨h1, h2, _⟩ | ⟨_, h2, _, _, _, h6⟩
        · rw [h4] at hs
          obtain ⟨a, b, c⟩ := ih k (by omega) (by omega) o r hs
          exact ⟨by omega, b, c⟩
        · rw [h2] at hs
          injection hs with e1 e2
          subst e1
          exact ⟨by omega, e2.symm, by rcases h1 with h1 | h1; exact Or.inl h1; exact Or.inr h1.1⟩
        · rw [h6] at hs
          obtain ⟨a, b, c⟩ := ih (O k) (by omega) (by omega) o r hs
          exact ⟨by omega, b, c⟩
theorem kq_memb {n : Nat} {K N O : Nat → Nat} {sk : Nat → List Nat} (h : kq_ok n K N O sk) : ∀ k, k ≤ n → ∀ x, x ∈ sk k → x < k ∧ (K x = 20 ∨ K x = 22) := by
  intro k
  induction k using Nat.strongRecOn with
  | _ k ih =>
    intro hk x hx
    match hs : sk k with
    | [] => rw [hs] at hx; cases hx
    | o :: r =>
        obtain ⟨a, b, c⟩ := kq_chain h k hk o r hs
        rw [hs] at hx
        rcases List.mem_cons.mp hx with e | e
        · subst e; exact ⟨a, c⟩
        · rw [b] at e
          obtain ⟨a2, b2⟩ := ih o a (by omega) x e
          exact ⟨by omega, b2⟩
/-- one mark more -/
theorem kq_ok_push {n o : Nat} {K N O K' N' O' : Nat → Nat} {sk sk' : Nat → List Nat} (h : kq_ok n K N O sk) (hK : ∀ k, k < n → K' k = K k) (hO : ∀ k, k < n → k ≠ o → N' k = N k ∧ O' k = O k) (hs : ∀ k, k ≤ n → sk' k = sk k)
    (ho : o < n → (K o = 20 ∨ K o = 22) ∧ O o = 0 ∧ O' o = n ∧ K' n = 21 ∧ O' n = o ∧ N' o ≤ 99 ∧ (K o = 20 → 2 ≤ N' o)) (hm : ∀ x, x ∈ sk n → x ≠ o → x ∈ sk' (n + 1)) (hx : ∀ k, k + 1 = n → (K k = 20 ∨ K k = 22) → K' n ≠ 21 ∧ K' n ≠ 22)
    (hnew : kq_ok1 (n + 1) K' N' O' sk' n) (hz : ∀ x, x ∈ sk' (n + 1) → O' x = 0) : kq_ok (n + 1) K' N' O' sk' := by
  refine ⟨by rw [hs 0 (by omega)]; exact h.1, hz, fun k hk => ?_⟩
  by_cases hkn : k = n
  · rw [hkn]; exact hnew
  have hk2 : k < n := by omega
  have eK := hK k hk2
  have es := hs k (by omega)
  have es1 := hs (k + 1) (by omega)
  have hop : (K k = 20 ∨ K k = 22) → (k + 1 < n → K (k + 1) ≠ 21 ∧ K (k + 1) ≠ 22) → (k + 1 < n + 1 → K' (k + 1) ≠ 21 ∧ K' (k + 1) ≠ 22) := by
    intro h1 h2 h3
    by_cases h4 : k + 1 < n
    · rw [hK _ h4]; exact h2 h4
    · have h5 : k + 1 = n := by omega
      rw [h5]; exact hx k h5 h1
  by_cases hko : k = o
  · subst hko
    obtain ⟨a1, a2, a3, a4, a5, a6, a7⟩ := ho hk2
    rcases h.2.2 k hk2 with ⟨h1, _⟩ | ⟨h1, h2, h3, h4, _⟩ | ⟨h1, _⟩
    · have := kq_vs3 h1; omega
    · refine Or.inr (Or.inl ⟨by rw [eK, es]; exact h1, by rw [es1, es]; exact h2, by rw [es]; exact h3, hop a1 h4, Or.inr ⟨by omega, by omega, by rw [a3]; exact a4, by rw [a3]; exact a5, a6, by rw [eK]; exact a7⟩⟩)
    · omega
  · obtain ⟨eN, eO⟩ := hO k hk2 hko
    rcases h.2.2 k hk2 with ⟨h1, h2, h3, h4, h5⟩ | ⟨h1, h2, h3, h4, h5⟩ | ⟨h1, h2, h3, h4, h5, h6⟩
    · exact Or.inl ⟨by rw [eK]; exact h1, by rw [eN]; exact h2, by rw [eN]; exact h3, by rw [es1, es]; exact h4, by rw [eO]; exact h5⟩
    · refine Or.inr (Or.inl ⟨by rw [eK, es]; exact h1, by rw [es1, es]; exact h2, by rw [es]; exact h3, hop (by rcases h1 with h1 | h1; exact Or.inl h1; exact Or.inr h1.1) h4, ?_⟩)
      rcases h5 with ⟨h5, h6⟩ | ⟨b1, b2, b3, b4, b5, b6⟩
      · exact Or.inl ⟨hm k h5 hko, by rw [eO]; exact h6⟩
      · have hne : O k ≠ o := by
          intro e
          have := ho (by omega)
          rw [← e] at this
          omega
        refine Or.inr ⟨by rw [eO]; exact b1, by rw [eO]; omega, ?_, ?_, by rw [eN]; exact b5, by rw [eK, eN]; exact b6⟩
        · rw [eO, hK _ b2]; exact b3
        · rw [eO, (hO _ b2 hne).2]; exact b4
    · have hne : O k ≠ o := by
        intro e
        have := ho (by omega)
        rw [← e] at this
        omega
      refine Or.inr (Or.inr ⟨by rw [eK]; exact h1, by rw [eO]; exact h2, ?_, ?_, ?_, ?_⟩)
      · rw [eO, hK _ (by omega)]; exact h3
      · rw [eO, (hO _ (by omega) hne).2]; exact h4
      · rw [es, eO, hs _ (by omega)]; exact h5
      · rw [es1, eO, hs _ (by omega)]; exact h6
/-- a mark in both memories -/
def kq_mk1 (K N O Wh : Nat → Nat) (σ μ : kb_S) (k : Nat) : Prop :=
  kb_a σ 9 k = nI (N k) ∧ kb_a μ 10 k = nI (N k) ∧ kb_a μ 9 k = nI (K k) ∧ kb_a σ 7 k = nI (kq_kd (K k)) ∧ (K k ≠ 21 → Wh k ≤ 200 ∧ kb_a σ 8 k = nI (Wh k) ∧ kb_a μ 11 k = nI (Wh k)) ∧ (K k = 21 ∨ k < O k → kb_a σ 10 k = nI (O k) ∧ kb_a μ 12 k = nI (O k)) ∧ (vt_vs (K k) = true → kb_a σ 10 k = nI (K k))
theorem kq_mk1.same {K N O Wh K' N' O' Wh' : Nat → Nat} {σ μ σ2 μ2 : kb_S} {k : Nat} (h : kq_mk1 K N O Wh σ μ k) (h1 : K' k = K k) (h2 : N' k = N k) (h3 : O' k = O k) (h4 : Wh' k = Wh k) (h5 : ∀ j, 7 ≤ j → j ≤ 10 → kb_a σ2 j k = kb_a σ j k) (h6 : ∀ j, 9 ≤ j → j ≤ 12 → kb_a μ2 j k = kb_a μ j k) : kq_mk1 K' N' O' Wh' σ2 μ2 k := by
  unfold kq_mk1 at *
  rw [h1, h2, h3, h4, h5 7 (by decide) (by decide), h5 8 (by decide) (by decide), h5 9 (by decide) (by decide), h5 10 (by decide) (by decide), h6 9 (by decide) (by decide), h6 10 (by decide) (by decide), h6 11 (by decide) (by decide), h6 12 (by decide) (by decide)]
  exact h
/-- the open brackets and what stands in them so far -/
def kq_lv (K N O : Nat → Nat) (σ μ : kb_S) : List Nat → Nat → Nat → Prop
  | [], _, _ => True
  | o :: r, e, w => kb_a σ 6 (r.length + 1) = nI o ∧ kb_a μ 17 (r.length + 1) = nI o ∧ ∃ h T W B v, kq_seg K N O h (o + 1) e T W B ∧ kb_b σ 0 (r.length + 1) = Int64.ofNat T ∧ h + (r.length + 1) ≤ 4 ∧ v + W + B + (if K o = 22 then 4 else 1) ≤ w ∧ kq_lv K N O σ μ r o v
theorem kq_lv.mono {K N O : Nat → Nat} {σ μ : kb_S} {l : List Nat} {e w w2 : Nat} (h : kq_lv K N O σ μ l e w) (hw : w ≤ w2) : kq_lv K N O σ μ l e w2 := by
  match l, h with
  | [], _ => trivial
  | o :: r, ⟨a1, a2, hh, T, W, B, v, a3, a4, a5, a6, a7⟩ => exact ⟨a1, a2, hh, T, W, B, v, a3, a4, a5, by omega, a7⟩
theorem kq_lv.same {K N O K' N' O' : Nat → Nat} {σ μ σ2 μ2 : kb_S} : ∀ {l : List Nat} {e w : Nat}, kq_lv K N O σ μ l e w → (∀ k, k < e → K' k = K k ∧ N' k = N k ∧ O' k = O k) → (∀ x, x ≤ l.length → kb_a σ2 6 x = kb_a σ 6 x ∧ kb_a μ2 17 x = kb_a μ 17 x ∧ kb_b σ2 0 x = kb_b σ 0 x) → kq_lv K' N' O' σ2 μ2 l e w
  | [], _, _, _, _, _ => trivial
  | o :: r, e, w, ⟨a1, a2, hh, T, W, B, v, a3, a4, a5, a6, a7⟩, hq, hr => by
      obtain ⟨b1, b2, b3⟩ := hr (r.length + 1) (by simp)
      have hbd := kq_seg_bd a3
      refine ⟨by rw [b1]; exact a1, by rw [b2]; exact a2, hh, T, W, B, v, kq_seg_eq a3 (fun k _ hk => hq k hk), by rw [b3]; exact a4, a5, by rw [(hq o (by omega)).1]; exact a6, ?_⟩
      exact kq_lv.same a7 (fun k hk => hq k (by omega)) (fun x hx => hr x (by simp; omega))
/-- a stretch has closed brackets alone -/
theorem kq_seg_in {K N O : Nat → Nat} {h a e T W B : Nat} (hs : kq_seg K N O h a e T W B) : ∀ k, a ≤ k → k < e → vt_vs (K k) = true ∨ (K k = 20 ∧ k < O k) ∨ K k = 21 := by
  have key := hs (fun _ a e _ _ _ => a ≤ e ∧ ∀ k, a ≤ k → k < e → vt_vs (K k) = true ∨ (K k = 20 ∧ k < O k) ∨ K k = 21) (fun a => ⟨Nat.le_refl a, fun k h1 h2 => by omega⟩) ?_ ?_
  · exact key.2
  · intro h a e T W B wt ih h1 h2 h3 h4
    refine ⟨by have := ih.1; omega, fun k k1 k2 => ?_⟩
    by_cases hk : k = e
    · rw [hk]; exact Or.inl h1
    · exact ih.2 k k1 (by omega)
  · intro h a e T W B h2 c T2 W2 B2 ih ih2 k1 k2 k3 k4 k5 k6
    refine ⟨by have := ih.1; have := ih2.1; omega, fun k j1 j2 => ?_⟩
    have l1 := ih.1
    have l2 := ih2.1
    by_cases hk : k = e
    · rw [hk]; exact Or.inr (Or.inl ⟨k1, by omega⟩)
    by_cases hk2 : k = c
    · rw [hk2]; exact Or.inr (Or.inr k3)
    by_cases hk3 : k < e
    · exact ih.2 k j1 hk3
    · exact ih2.2 k (by omega) (by omega)
def kq_rp (n : Nat) (K N O : Nat → Nat) (σ : kb_S) : Prop := ∀ k, k < n → K k = 22 → k < O k → ∃ h T W B, kq_seg K N O h (k + 1) (O k) T W B ∧ h ≤ 3 ∧ W + B ≤ 189 ∧ kb_b σ 2 k = Int64.ofNat T
def kq_fr (σi μi σ μ : kb_S) : Prop := (∀ j, j ≤ 8 → kb_g σ j = kb_g σi j) ∧ (∀ j, j ≤ 5 → kb_a σ j = kb_a σi j) ∧ (∀ j, (j ≤ 4 ∨ 10 ≤ j) → kb_g μ j = kb_g μi j) ∧ (∀ j, (j ≤ 8 ∨ 13 ≤ j ∧ j ≠ 17) → kb_a μ j = kb_a μi j)
def kq_ps (σi μi : kb_S) (tl p n : Nat) (due : Bool) (K N O Wh : Nat → Nat) (sk : Nat → List Nat) (σ μ : kb_S) : Prop :=
  kq_fr σi μi σ μ ∧ (kb_g σ 10 = nI p ∧ kb_g μ 5 = nI p ∧ p ≤ tl ∧ (due = true → 2 * n ≤ p + (sk n).length) ∧ 2 * n ≤ p + (sk n).length + 1) ∧ (kb_g σ 11 = 0 ∧ kb_g μ 6 = 0 ∧ kb_g σ 13 = 0 ∧ kb_g σ 12 = (if due = true then 1 else 0)) ∧ (kb_g σ 9 = nI (sk n).length ∧ kb_g μ 8 = nI (sk n).length ∧ (sk n).length ≤ 4) ∧ (kb_g σ 16 = nI n ∧ kb_g μ 9 = nI n) ∧
  kq_ok n K N O sk ∧ (∀ k, k < n → kq_mk1 K N O Wh σ μ k) ∧ kq_lv K N O σ μ (sk n) n (if due = true then p else p + 1) ∧ kq_rp n K N O σ ∧ (due = false → 1 ≤ n ∧ ∀ k, k + 1 = n → K k ≠ 20 ∧ K k ≠ 22)
theorem kq_ps_skip {σi μi σ μ σ2 μ2 : kb_S} {tl p n q : Nat} {due : Bool} {K N O Wh : Nat → Nat} {sk : Nat → List Nat} (h : kq_ps σi μi tl p n due K N O Wh sk σ μ) (hc : kq_c σ (0, q) σ2) (hm : kq_m μ (0, q) μ2) (h1 : p ≤ q) (h2 : q ≤ tl) : kq_ps σi μi tl q n due K N O Wh sk σ2 μ2 := by
  obtain ⟨⟨f1, f2, f3, f4⟩, ⟨a1, a2, a3, a4⟩, ⟨b1, b2, b3, b4⟩, ⟨c1, c2, c3⟩, ⟨d1, d2⟩, e1, e2, e3, e4, e5⟩ := h
  have g := hc.1
  have g2 := hm.1
  have ga := hc.2.1
  have gb := hc.2.2.1
  have gm := hm.2.1
  refine ⟨⟨fun j hj => by rw [g j (by omega) (by omega)]; exact f1 j hj, fun j hj => by rw [ga]; exact f2 j hj, fun j hj => by rw [g2 j (by omega) (by omega) (by omega)]; exact f3 j hj, fun j hj => by rw [gm]; exact f4 j hj⟩, ⟨hc.2.2.2.2.1 rfl, hm.2.2.2.1 rfl, h2, fun h3 => by have := a4.1 h3; omega, by omega⟩, ⟨hc.2.2.2.1, hm.2.2.1, by rw [g 13 (by decide) (by decide)]; exact b3, by rw [g 12 (by decide) (by decide)]; exact b4⟩, ⟨by rw [g 9 (by decide) (by decide)]; exact c1, by rw [g2 8 (by decide) (by decide) (by decide)]; exact c2, c3⟩, ⟨by rw [g 16 (by decide) (by decide)]; exact d1, by rw [g2 9 (by decide) (by decide) (by decide)]; exact d2⟩, e1, fun k hk => (e2 k hk).same rfl rfl rfl rfl (fun j _ _ => by rw [ga]) (fun j _ _ => by rw [gm]), ?_, ?_, e5⟩
  · refine (e3.same (fun _ _ => ⟨rfl, rfl, rfl⟩) (fun x _ => ⟨by rw [ga], by rw [gm], by rw [gb]⟩)).mono ?_
    split <;> omega
  · intro k hk h3 h4
    rw [gb]; exact e4 k hk h3 h4
