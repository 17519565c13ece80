theorem kq_fup {α : Type} (f : Nat → α) (n : Nat) (v : α) : ∃ g : Nat → α, g n = v ∧ ∀ k, k ≠ n → g k = f k := ⟨fun k => if k = n then v else f k, if_pos rfl, fun _ h => if_neg h⟩
theorem kq_cls {n : Nat} {K N O : Nat → Nat} {sk : Nat → List Nat} (h : kq_ok n K N O sk) {k : Nat} (hk : k < n) (h1 : K k = 20 ∨ K k = 22) (h2 : k < O k) : O k < n ∧ K (O k) = 21 ∧ O (O k) = k ∧ N k ≤ 99 ∧ (K k = 20 → 2 ≤ N k) ∧ (K k = 22 → sk k = []) ∧ sk (k + 1) = k :: sk k ∧ (sk k).length ≤ 3 := by
  rcases h.2.2 k hk with ⟨a1, _⟩ | ⟨a1, a2, a3, a4, a5⟩ | ⟨a1, _⟩
  · have := kq_vs3 a1; omega
  · rcases a5 with ⟨_, b2⟩ | ⟨b1, b2, b3, b4, b5, b6⟩
    · omega
    · exact ⟨b2, b3, b4, b5, b6, fun h3 => by rcases a1 with a1 | a1; omega; exact a1.2, a2, a3⟩
  · omega
theorem kq_ps_st {σi μi σ μ σ2 μ2 : kb_S} {tl p n p' s c : Nat} {K N O Wh : Nat → Nat} {sk : Nat → List Nat} (htl : tl ≤ 200) (h : kq_ps σi μi tl p n true K N O Wh sk σ μ) (hc : kq_pc σ p' n s c p (sk n).length σ2) (hm : kq_pm μ p' n s c p μ2) (h1 : p < p') (h2 : p' ≤ tl) (hs : vt_vs s = true) (hc1 : 1 ≤ c) (hc2 : c ≤ 99) (hw : 4 * (c * vt_tk s) ≤ 99 * (p' - p + 1)) : ∃ K' N' O' Wh' sk', kq_ps σi μi tl p' (n + 1) false K' N' O' Wh' sk' σ2 μ2 := by
  obtain ⟨⟨f1, f2, f3, f4⟩, ⟨a1, a2, a3, a4⟩, ⟨b1, b2, b3, b4⟩, ⟨c1, c2, c3⟩, ⟨d1, d2⟩, e1, e2, e3, e4, e5⟩ := h
  obtain ⟨p1, p2, p3, p4, p5, p6, p7⟩ := hc
  obtain ⟨m1, m2, m3, m4, m5⟩ := hm
  have v3 := kq_vs3 hs
  have htk := (vt_st hs).2.2.2.2.2.2.1
  obtain ⟨K', hKn, hKo⟩ := kq_fup K n s
  obtain ⟨N', hNn, hNo⟩ := kq_fup N n c
  obtain ⟨O', hOn, hOo⟩ := kq_fup O n 0
  obtain ⟨Wh', hWn, hWo⟩ := kq_fup Wh n p
  obtain ⟨sk', hSn, hSo⟩ := kq_fup sk (n + 1) (sk n)
  have agree : ∀ k, k < n → K' k = K k ∧ N' k = N k ∧ O' k = O k := fun k hk => ⟨hKo k (by omega), hNo k (by omega), hOo k (by omega)⟩
  have rs : ∀ j k, k ≠ n → kb_a σ2 j k = kb_a σ j k := fun j k hk => by rw [p6, if_neg (by omega), if_neg (by omega), if_neg (by omega), if_neg (by omega)]
  have rm : ∀ j k, k ≠ n → kb_a μ2 j k = kb_a μ j k := fun j k hk => by rw [m5, if_neg (by omega), if_neg (by omega), if_neg (by omega)]
  have rs' : ∀ j x, j ≤ 6 → kb_a σ2 j x = kb_a σ j x := fun j k hk => by rw [p6, if_neg (by omega), if_neg (by omega), if_neg (by omega), if_neg (by omega)]
  have rm' : ∀ j x, (j ≤ 8 ∨ 12 ≤ j) → kb_a μ2 j x = kb_a μ j x := fun j k hk => by rw [m5, if_neg (by omega), if_neg (by omega), if_neg (by omega)]
  refine ⟨K', N', O', Wh', sk', ⟨fun j hj => by rw [p5 j (by omega) (by omega) (by omega) (by omega)]; exact f1 j hj, fun j hj => by rw [← f2 j hj]; funext x; exact rs' j x (by omega), fun j hj => by rw [m4 j (by omega) (by omega) (by omega) (by omega)]; exact f3 j hj, fun j hj => by rw [← f4 j hj]; funext x; exact rm' j x (by omega)⟩, ⟨p1, m1, h2, fun h3 => absurd h3 (by decide), by rw [hSn]; have := a4.1 rfl; omega⟩, ⟨p2, m2, by rw [p5 13 (by decide) (by decide) (by decide) (by decide)]; exact b3, p3⟩, ?_, ⟨p4, m3⟩, ?_, ?_, ?_, ?_, ?_⟩
  · rw [hSn]
    exact ⟨by rw [p5 9 (by decide) (by decide) (by decide) (by decide)]; exact c1, by rw [m4 8 (by decide) (by decide) (by decide) (by decide)]; exact c2, c3⟩
  · refine kq_ok_push (o := n) e1 (fun k hk => (agree k hk).1) (fun k hk _ => (agree k hk).2) (fun k hk => hSo k (by omega)) (fun h3 => absurd h3 (by omega)) (fun x hx _ => by rw [hSn]; exact hx) (fun k _ _ => by rw [hKn]; exact v3.2) (Or.inl ⟨by rw [hKn]; exact hs, by omega, by omega, by rw [hSn, hSo n (by omega)], hOn⟩) (fun x hx => ?_)
    rw [hSn] at hx
    have := (kq_memb e1 n (by omega) x hx).1
    rw [hOo x (by omega)]; exact e1.2.1 x hx
  · intro k hk
    by_cases hkn : k = n
    · subst hkn
      refine ⟨?_, ?_, ?_, ?_, fun _ => ⟨by omega, ?_, ?_⟩, fun h3 => ?_, fun _ => ?_⟩
      · rw [p6, hNn]; simp
      · rw [m5, hNn]; simp
      · rw [m5, hKn]; simp
      · rw [p6, hKn]; unfold kq_kd; rw [if_neg v3.1, if_neg v3.2.2, if_neg v3.2.1]; simp [vt_0]
      · rw [p6, hWn]; simp
      · rw [m5, hWn]; simp
      · rw [hKn, hOn] at h3; omega
      · rw [p6, hKn]; simp
    · exact (e2 k (by omega)).same (hKo k hkn) (hNo k hkn) (hOo k hkn) (hWo k hkn) (fun j _ _ => rs j k hkn) (fun j _ _ => rm j k hkn)
  · rw [hSn]
    cases hl : sk n with
    | nil => trivial
    | cons o r =>
        rw [hl] at e3
        rw [hl] at p7
        obtain ⟨q1, q2, hh, T, W, B, v, q3, q4, q5, q6, q7⟩ := e3
        have hbd := kq_seg_bd q3
        have q8 := kq_seg_st (kq_seg_eq q3 (fun k _ hk => agree k hk)) (wt := p' - p + 1) (by rw [hKn]; exact hs) (by rw [hNn]; exact hc1) (by rw [hNn]; exact hc2) (by rw [hNn, hKn]; exact hw)
        refine ⟨by rw [rs' 6 _ (by omega)]; exact q1, by rw [rm' 17 _ (by omega)]; exact q2, hh, _, _, _, v, q8, ?_, q5, ?_, ?_⟩
        · rw [p7, if_pos ⟨rfl, by simp⟩, List.length_cons, q4, hNn, hKn, kq_i64 (by omega), kq_i64 (by omega), Int64.ofNat_add, Int64.ofNat_mul]
        · rw [hKo o (by omega)]; rw [if_pos rfl] at q6; show _ ≤ p' + 1; omega
        · refine q7.same (fun k hk => agree k (by omega)) (fun x hx => ⟨rs' 6 x (by omega), rm' 17 x (by omega), ?_⟩)
          rw [p7, if_neg (by rw [List.length_cons]; omega), if_neg (by omega)]
  · intro k hk h3 h4
    have hkn : k ≠ n := by intro e; rw [e, hKn] at h3; omega
    rw [hKo k hkn] at h3
    rw [hOo k hkn] at h4 ⊢
    obtain ⟨hh, T, W, B, q1, q2, q3, q4⟩ := e4 k (by omega) h3 h4
    have hcl := kq_cls e1 (k := k) (by omega) (Or.inr h3) h4
    refine ⟨hh, T, W, B, kq_seg_eq q1 (fun i _ hi => agree i (by omega)), q2, q3, ?_⟩
    rw [p7, if_neg (by omega), if_neg (by omega)]; exact q4
  · refine fun _ => ⟨by omega, fun k hk => ?_⟩
    rw [show k = n by omega, hKn]; exact ⟨v3.1, v3.2.2⟩
theorem kq_ps_op {σi μi σ μ σ2 μ2 : kb_S} {tl p n p' t : Nat} {K N O Wh : Nat → Nat} {sk : Nat → List Nat} (htl : tl ≤ 200) (h : kq_ps σi μi tl p n true K N O Wh sk σ μ) (ht : t = 1 ∨ t = 2) (hc : kq_oc σ p' n t p (sk n).length σ2) (hm : kq_om μ p' n (18 + 2 * t) p (sk n).length μ2) (h1 : p < p') (h2 : p' ≤ tl) (hd : (sk n).length < 4) (hr : t = 2 → (sk n).length = 0 ∧ p + 4 ≤ p') : ∃ K' N' O' Wh' sk', kq_ps σi μi tl p' (n + 1) true K' N' O' Wh' sk' σ2 μ2 := by
  obtain ⟨⟨f1, f2, f3, f4⟩, ⟨a1, a2, a3, a4⟩, ⟨b1, b2, b3, b4⟩, ⟨c1, c2, c3⟩, ⟨d1, d2⟩, e1, e2, e3, e4, e5⟩ := h
  obtain ⟨p1, p2, p3, p4, p5, p6, p7⟩ := hc
  obtain ⟨m1, m2, m3, m3', m4, m5⟩ := hm
  obtain ⟨K', hKn, hKo⟩ := kq_fup K n (18 + 2 * t)
  obtain ⟨N', hNn, hNo⟩ := kq_fup N n 0
  obtain ⟨O', hOn, hOo⟩ := kq_fup O n 0
  obtain ⟨Wh', hWn, hWo⟩ := kq_fup Wh n p
  obtain ⟨sk', hSn, hSo⟩ := kq_fup sk (n + 1) (n :: sk n)
  have agree : ∀ k, k < n → K' k = K k ∧ N' k = N k ∧ O' k = O k := fun k hk => ⟨hKo k (by omega), hNo k (by omega), hOo k (by omega)⟩
  have rs : ∀ j k, k ≠ n → j ≠ 6 → kb_a σ2 j k = kb_a σ j k := fun j k hk _ => by rw [p6, if_neg (by omega), if_neg (by omega), if_neg (by omega), if_neg (by omega), if_neg (by omega)]
  have rm : ∀ j k, k ≠ n → j ≠ 17 → kb_a μ2 j k = kb_a μ j k := fun j k hk _ => by rw [m5, if_neg (by omega), if_neg (by omega), if_neg (by omega), if_neg (by omega)]
  have rs' : ∀ j x, (j ≤ 5 ∨ j = 6 ∧ x ≤ (sk n).length) → kb_a σ2 j x = kb_a σ j x := fun j k hk => by rw [p6, if_neg (by omega), if_neg (by omega), if_neg (by omega), if_neg (by omega), if_neg (by omega)]
  have rm' : ∀ j x, (j ≤ 8 ∨ 12 ≤ j ∧ j ≠ 17 ∨ j = 17 ∧ x ≤ (sk n).length) → kb_a μ2 j x = kb_a μ j x := fun j k hk => by rw [m5, if_neg (by omega), if_neg (by omega), if_neg (by omega), if_neg (by omega)]
  refine ⟨K', N', O', Wh', sk', ⟨fun j hj => by rw [p5 j (by omega) (by omega) (by omega) (by omega)]; exact f1 j hj, fun j hj => by rw [← f2 j hj]; funext x; exact rs' j x (by omega), fun j hj => by rw [m4 j (by omega) (by omega) (by omega) (by omega) (by omega)]; exact f3 j hj, fun j hj => by rw [← f4 j hj]; funext x; exact rm' j x (by omega)⟩, ⟨p1, m1, h2, fun _ => by rw [hSn, List.length_cons]; have := a4.1 rfl; omega, by rw [hSn, List.length_cons]; have := a4.1 rfl; omega⟩, ⟨p2, m2, by rw [p5 13 (by decide) (by decide) (by decide) (by decide)]; exact b3, by rw [p5 12 (by decide) (by decide) (by decide) (by decide)]; exact b4⟩, ?_, ⟨p4, m3'⟩, ?_, ?_, ?_, ?_, fun h3 => absurd h3 (by decide)⟩
  · rw [hSn, List.length_cons]
    exact ⟨p3, m3, by omega⟩
  · have hnil : t = 2 → sk n = [] := fun h3 => List.eq_nil_of_length_eq_zero (hr h3).1
    refine kq_ok_push (o := n) e1 (fun k hk => (agree k hk).1) (fun k hk _ => (agree k hk).2) (fun k hk => hSo k (by omega)) (fun h3 => absurd h3 (by omega)) (fun x hx _ => by rw [hSn]; exact List.mem_cons_of_mem _ hx) (fun k hk hkk => ?_) (Or.inr (Or.inl ⟨?_, ?_, ?_, fun h3 => absurd h3 (by omega), Or.inl ⟨?_, hOn⟩⟩)) (fun x hx => ?_)
    · rw [hKn]
      refine ⟨by omega, fun h3 => ?_⟩
      have h4 := hnil (by omega)
      rcases e1.2.2 k (by omega) with ⟨g1, _⟩ | ⟨g1, g2, _⟩ | ⟨g1, _⟩
      · have := kq_vs3 g1; omega
      · rw [hk, h4] at g2; cases g2
      · omega
    · rw [hKn, hSo n (by omega)]
      rcases ht with ht | ht
      · left; omega
      · right; exact ⟨by omega, hnil ht⟩
    · rw [hSn, hSo n (by omega)]
    · rw [hSo n (by omega)]; omega
    · rw [hSn]; exact List.mem_cons_self
    · rw [hSn] at hx
      rcases List.mem_cons.mp hx with e | e
      · rw [e]; exact hOn
      · have := (kq_memb e1 n (by omega) x e).1
        rw [hOo x (by omega)]; exact e1.2.1 x e
  · intro k hk
    by_cases hkn : k = n
    · subst hkn
      refine ⟨?_, ?_, ?_, ?_, fun _ => ⟨by omega, ?_, ?_⟩, fun h3 => ?_, fun h3 => ?_⟩
      · rw [p6, hNn]; simp [vt_0]
      · rw [m5, hNn]; simp [vt_0]
      · rw [m5, hKn]; simp
      · rw [p6, hKn]; unfold kq_kd; rcases ht with ht | ht <;> subst ht <;> simp
      · rw [p6, hWn]; simp
      · rw [m5, hWn]; simp
      · rw [hKn, hOn] at h3; omega
      · rw [hKn] at h3; have := kq_vs3 h3; omega
    · exact (e2 k (by omega)).same (hKo k hkn) (hNo k hkn) (hOo k hkn) (hWo k hkn) (fun j _ _ => rs j k hkn (by omega)) (fun j _ _ => rm j k hkn (by omega))
  · rw [hSn]
    refine ⟨?_, ?_, 0, 0, 0, 0, p, kq_seg_nil _, ?_, by omega, ?_, ?_⟩
    · rw [p6]; simp
    · rw [m5]; simp
    · rw [p7]; simp
    · rw [hKn]
      show _ ≤ p'
      by_cases h3 : t = 2
      · have := hr h3; rw [if_pos (by omega)]; omega
      · rw [if_neg (by omega)]; omega
    · refine e3.same (fun k hk => agree k hk) (fun x hx => ⟨rs' 6 x (by omega), rm' 17 x (by omega), ?_⟩)
      rw [p7, if_neg (by omega), if_neg (by omega)]
  · intro k hk h3 h4
    by_cases hkn : k = n
    · rw [hkn, hOn] at h4; omega
    rw [hKo k hkn] at h3
    rw [hOo k hkn] at h4 ⊢
    obtain ⟨hh, T, W, B, q1, q2, q3, q4⟩ := e4 k (by omega) h3 h4
    have hcl := kq_cls e1 (k := k) (by omega) (Or.inr h3) h4
    refine ⟨hh, T, W, B, kq_seg_eq q1 (fun i _ hi => agree i (by omega)), q2, q3, ?_⟩
    rw [p7, if_neg (by omega), if_neg (by omega)]; exact q4
theorem kq_ps_cl {σi μi σ μ σ2 μ2 : kb_S} {tl p n p' o v : Nat} {r : List Nat} {rep : Bool} {K N O Wh : Nat → Nat} {sk : Nat → List Nat} (htl : tl ≤ 200) (h : kq_ps σi μi tl p n false K N O Wh sk σ μ) (hsk : sk n = o :: r) (hrep : K o = if rep = true then 22 else 20) (hc : kq_cc σ p p' n o v (sk n).length rep σ2) (hm : kq_cm μ p' n o v (sk n).length μ2) (h1 : p < p') (h2 : p' ≤ tl) (hv : v ≤ 99) (hg : rep = false → 2 ≤ v ∧ p + 3 ≤ p') (hr : rep = true → p + 8 ≤ p') : ∃ K' N' O' Wh' sk', kq_ps σi μi tl p' (n + 1) false K' N' O' Wh' sk' σ2 μ2 := by
  obtain ⟨⟨f1, f2, f3, f4⟩, ⟨a1, a2, a3, a4⟩, ⟨b1, b2, b3, b4⟩, ⟨c1, c2, c3⟩, ⟨d1, d2⟩, e1, e2, e3, e4, e5⟩ := h
  obtain ⟨p1, p2, p3, p4, p5, p6, p7⟩ := hc
  obtain ⟨m1, m2, m3, m3', m4, m5⟩ := hm
  obtain ⟨ho, hro, hKK⟩ := kq_chain e1 n (by omega) o r hsk
  have hOo0 : O o = 0 := e1.2.1 o (by rw [hsk]; exact List.mem_cons_self)
  obtain ⟨K', hKn, hKo⟩ := kq_fup K n 21
  obtain ⟨N1, hN1, hN1o⟩ := kq_fup N n 0
  obtain ⟨N', hNo', hNo⟩ := kq_fup N1 o v
  obtain ⟨O1, hO1, hO1o⟩ := kq_fup O n o
  obtain ⟨O', hOo', hOo⟩ := kq_fup O1 o n
  obtain ⟨sk', hSn, hSo⟩ := kq_fup sk (n + 1) (sk o)
  have hOn : O' n = o := by rw [hOo n (by omega), hO1]
  have hNn : N' n = 0 := by rw [hNo n (by omega), hN1]
  have agree : ∀ k, k < n → k ≠ o → K' k = K k ∧ N' k = N k ∧ O' k = O k := fun k hk hk2 => ⟨hKo k (by omega), by rw [hNo k hk2, hN1o k (by omega)], by rw [hOo k hk2, hO1o k (by omega)]⟩
  have hlen : (sk n).length = r.length + 1 := by rw [hsk]; rfl
  rw [hlen] at c1 c2 c3 p3 m3 p7
  have rs : ∀ j k, k ≠ n → k ≠ o → kb_a σ2 j k = kb_a σ j k := fun j k hk _ => by rw [p6, if_neg (by omega), if_neg (by omega), if_neg (by omega), if_neg (by omega), if_neg (by omega), if_neg (by omega)]
  have rm : ∀ j k, k ≠ n → k ≠ o → kb_a μ2 j k = kb_a μ j k := fun j k hk _ => by rw [m5, if_neg (by omega), if_neg (by omega), if_neg (by omega), if_neg (by omega), if_neg (by omega), if_neg (by omega)]
  have rs' : ∀ j x, j ≤ 6 → kb_a σ2 j x = kb_a σ j x := fun j k hk => by rw [p6, if_neg (by omega), if_neg (by omega), if_neg (by omega), if_neg (by omega), if_neg (by omega), if_neg (by omega)]
  have rm' : ∀ j x, (j ≤ 8 ∨ 13 ≤ j) → kb_a μ2 j x = kb_a μ j x := fun j k hk => by rw [m5, if_neg (by omega), if_neg (by omega), if_neg (by omega), if_neg (by omega), if_neg (by omega), if_neg (by omega)]
  have hok : kq_ok1 n K N O sk o := e1.2.2 o ho
  have hos : sk (o + 1) = o :: sk o ∧ (K o = 22 → sk o = []) := by
    rcases hok with ⟨g1, _⟩ | ⟨g1, g2, _⟩ | ⟨g1, _⟩
    · have := kq_vs3 g1; omega
    · exact ⟨g2, fun h3 => by rcases g1 with g1 | g1; omega; exact g1.2⟩
    · omega
  rw [hsk] at e3
  obtain ⟨q1, q2, hh, T, W, B, u, q3, q4, q5, q6, q7⟩ := e3
  have hbd := kq_seg_bd q3
  have q6' : u + W + B + (if K o = 22 then 4 else 1) ≤ p + 1 := q6
  have q3' : kq_seg K' N' O' hh (o + 1) n T W B := kq_seg_eq q3 (fun k hk hk2 => agree k hk2 (by omega))
  refine ⟨K', N', O', Wh, sk', ⟨fun j hj => by rw [p5 j (by omega) (by omega) (by omega) (by omega)]; exact f1 j hj, fun j hj => by rw [← f2 j hj]; funext x; exact rs' j x (by omega), fun j hj => by rw [m4 j (by omega) (by omega) (by omega) (by omega) (by omega)]; exact f3 j hj, fun j hj => by rw [← f4 j hj]; funext x; exact rm' j x (by omega)⟩, ⟨p1, m1, h2, fun h3 => absurd h3 (by decide), by rw [hSn, ← hro]; have := a4.2; rw [hlen] at this; cases rep; have := hg rfl; omega; have := hr rfl; omega⟩, ⟨p2, m2, by rw [p5 13 (by decide) (by decide) (by decide) (by decide)]; exact b3, by rw [p5 12 (by decide) (by decide) (by decide) (by decide)]; exact b4⟩, ?_, ⟨p4, m3'⟩, ?_, ?_, ?_, ?_, ?_⟩
  · rw [hSn, ← hro]
    rw [Nat.add_sub_cancel] at p3 m3
    exact ⟨p3, m3, by omega⟩
  · refine kq_ok_push (o := o) e1 (fun k hk => hKo k (by omega)) (fun k hk hk2 => (agree k hk hk2).2) (fun k hk => hSo k (by omega)) (fun _ => ⟨hKK, hOo0, hOo', hKn, hOn, by omega, fun h3 => ?_⟩) (fun x hx hxo => ?_) (fun k hk hkk => ?_) (Or.inr (Or.inr ⟨hKn, by omega, ?_, ?_, ?_, ?_⟩)) (fun x hx => ?_)
    · rw [hNo']
      cases rep
      · exact (hg rfl).1
      · rw [if_pos rfl] at hrep; omega
    · rw [hSn, ← hro]
      rw [hsk] at hx
      rcases List.mem_cons.mp hx with e | e
      · exact absurd e hxo
      · exact e
    · have := (e5 rfl).2 k hk; omega
    · rw [hOn, hKo o (by omega)]; exact hKK
    · rw [hOn]; exact hOo'
    · rw [hOn, hSo n (by omega), hSo o (by omega), hsk, hro]
    · rw [hOn, hSn, hSo o (by omega)]
    · rw [hSn] at hx
      have := (kq_memb e1 o (by omega) x hx).1
      rw [(agree x (by omega) (by omega)).2.2]
      exact e1.2.1 x (by rw [hsk, hro]; exact List.mem_cons_of_mem _ hx)
  · intro k hk
    by_cases hkn : k = n
    · subst hkn
      refine ⟨?_, ?_, ?_, ?_, fun h3 => absurd hKn h3, fun _ => ⟨?_, ?_⟩, fun h3 => ?_⟩
      · rw [p6, hNn]; simp [vt_0]
      · rw [m5, hNn]; simp [vt_0]
      · rw [m5, hKn]; simp; rfl
      · rw [p6, hKn]; simp [kq_kd, vt_3]
      · rw [p6, hOn]; simp
      · rw [m5, hOn]; simp
      · rw [hKn] at h3; exact absurd h3 (by decide)
    · by_cases hko : k = o
      · subst hko
        obtain ⟨g1, g2, g3, g4, g5, g6, g7⟩ := e2 k ho
        refine ⟨?_, ?_, ?_, ?_, fun h3 => ?_, fun _ => ⟨?_, ?_⟩, fun h3 => ?_⟩
        · rw [p6, hNo', if_neg (by omega), if_neg (by omega), if_neg (by omega), if_neg (by omega), if_pos ⟨rfl, rfl⟩]
        · rw [m5, hNo', if_neg (by omega), if_neg (by omega), if_neg (by omega), if_neg (by omega), if_pos ⟨rfl, rfl⟩]
        · rw [m5, hKo k hkn, if_neg (by omega), if_neg (by omega), if_neg (by omega), if_neg (by omega), if_neg (by omega), if_neg (by omega)]; exact g3
        · rw [p6, hKo k hkn, if_neg (by omega), if_neg (by omega), if_neg (by omega), if_neg (by omega), if_neg (by omega), if_neg (by omega)]; exact g4
        · rw [hKo k hkn] at h3
          obtain ⟨g8, g9, g10⟩ := g5 h3
          refine ⟨g8, ?_, ?_⟩
          · rw [p6, if_neg (by omega), if_neg (by omega), if_neg (by omega), if_neg (by omega), if_neg (by omega), if_neg (by omega)]; exact g9
          · rw [m5, if_neg (by omega), if_neg (by omega), if_neg (by omega), if_neg (by omega), if_neg (by omega), if_neg (by omega)]; exact g10
        · rw [p6, hOo', if_neg (by omega), if_neg (by omega), if_neg (by omega), if_neg (by omega), if_neg (by omega), if_pos ⟨rfl, rfl⟩]
        · rw [m5, hOo', if_neg (by omega), if_neg (by omega), if_neg (by omega), if_neg (by omega), if_neg (by omega), if_pos ⟨rfl, rfl⟩]
        · rw [hKo k hkn] at h3; have := kq_vs3 h3; omega
      · obtain ⟨g1, g2, g3⟩ := agree k (by omega) hko
        exact (e2 k (by omega)).same g1 g2 g3 rfl (fun j _ _ => rs j k hkn hko) (fun j _ _ => rm j k hkn hko)
  · rw [hSn, ← hro]
    cases hl : r with
    | nil => trivial
    | cons o1 r1 =>
        rw [hl] at q7 q4 q5 p7
        obtain ⟨s1, s2, h', T', W', B', u', s3, s4, s5, s6, s7⟩ := q7
        have hbd' := kq_seg_bd s3
        have hK20 : K o = 20 := by
          rcases hKK with h3 | h3
          · exact h3
          · have := hos.2 h3; rw [← hro, hl] at this; cases this
        have hrf : rep = false := by
          cases rep
          · rfl
          · rw [if_pos rfl] at hrep; omega
        have s8 := kq_seg_gr (kq_seg_eq s3 (fun k _ hk => agree k (by omega) (by omega))) q3' (by rw [hKo o (by omega)]; exact hK20) hOo' hKn hOn (by rw [hNo']; exact (hg hrf).1) (by rw [hNo']; exact hv)
        refine ⟨by rw [rs' 6 _ (by omega)]; exact s1, by rw [rm' 17 _ (by omega)]; exact s2, _, _, _, _, u', s8, ?_, ?_, ?_, ?_⟩
        · rw [p7, if_pos ⟨hrf, rfl, by simp⟩]
          simp only [List.length_cons, Nat.add_sub_cancel] at *
          rw [s4, q4, hNo', kq_i64 (by omega), Int64.ofNat_add, Int64.ofNat_mul]
        · simp only [List.length_cons] at *; omega
        · rw [hKo o1 (by omega)]
          rw [if_neg (by omega)] at q6'
          have := hg hrf
          show _ ≤ p' + 1
          omega
        · refine s7.same (fun k hk => agree k (by omega) (by omega)) (fun x hx => ⟨rs' 6 x (by omega), rm' 17 x (by omega), ?_⟩)
          rw [p7, if_neg (by simp only [List.length_cons]; omega), if_neg (by omega), if_neg (by omega)]
  · intro k hk h3 h4
    have hkn : k ≠ n := by intro e; rw [e, hKn] at h3; omega
    rw [hKo k hkn] at h3
    by_cases hko : k = o
    · subst hko
      rw [hOo']
      have hrt : rep = true := by
        cases rep
        · rw [if_neg (by decide)] at hrep; omega
        · rfl
      have hnil := hos.2 h3
      rw [← hro] at hnil
      rw [if_pos h3] at q6'
      have := hr hrt
      refine ⟨hh, T, W, B, q3', by rw [hnil] at q5; simp only [List.length_nil] at q5; omega, by omega, ?_⟩
      rw [p7, if_neg (by rw [hrt]; simp), if_neg (by omega), if_pos ⟨rfl, rfl⟩]; exact q4
    · obtain ⟨g1, g2, g3⟩ := agree k (by omega) hko
      rw [g3] at h4 ⊢
      obtain ⟨h', T', W', B', t1, t2, t3, t4⟩ := e4 k (by omega) h3 h4
      have hcl := kq_cls e1 (k := k) (by omega) (Or.inr h3) h4
      refine ⟨h', T', W', B', kq_seg_eq t1 (fun i hi1 hi => agree i (by omega) (fun e => ?_)), t2, t3, ?_⟩
      · have hin := kq_seg_in t1 i hi1 hi
        rw [e] at hin
        rcases hin with h5 | h5 | h5
        · have := kq_vs3 h5; omega
        · omega
        · omega
      · rw [p7, if_neg (by omega), if_neg (by omega), if_neg (by omega)]; exact t4
  · refine fun _ => ⟨by omega, fun k hk => ?_⟩
    rw [show k = n by omega, hKn]; exact ⟨by decide, by decide⟩
