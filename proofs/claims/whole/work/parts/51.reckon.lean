/-! the reference's table of words -/
def kw_at (d i n : Nat) : Nat := (d * 80 + i) * 81 + n
theorem kw_at_eq (d i n : Nat) : fn_X9_at (nI d) (nI i) (nI n) = nI (kw_at d i n) := by
  unfold fn_X9_at kw_at
  rw [vt_80, pk_mul, nI_add, show (81 : Int32) = nI 81 from rfl, pk_mul, nI_add]
theorem kw_at_lt {d i n : Nat} (hd : d ≤ 4) (hi : i < 80) (hn : n ≤ 80) : kw_at d i n < 32400 := by unfold kw_at; omega
theorem kw_at_inj {d i n d' i' n' : Nat} (hi : i < 80) (hi' : i' < 80) (hn : n ≤ 80) (hn' : n' ≤ 80) (h : kw_at d i n = kw_at d' i' n') : d = d' ∧ i = i' ∧ n = n' := by unfold kw_at at h; omega
def kw_vi (v : Nat) : Int32 := if v < 1000 then nI v else -(nI (v - 1000))
def kw_cel (s : Nat → Nat) (μ : kb_S) (d i n : Nat) : Prop := kb_a μ 15 (kw_at d i n) = nI (kw_W s d i n) ∧ kb_a μ 16 (kw_at d i n) = kw_vi (kw_V s d i n)
def kw_row (s : Nat → Nat) (N r : Nat) (μ : kb_S) : Prop := r ≤ 30 ∧ N ≤ 80 ∧ ∀ k, k < N → s k < 600 ∧ kb_a μ 8 (80 * r + k) = nI (s k)
theorem kw_over {s : Nat → Nat} {N r : Nat} {μ : kb_S} (h : kw_row s N r μ) {i n q : Nat} (hi : i + n ≤ N) (hq : 1 ≤ q) (hqn : q ≤ n) : fn_X9_isOver (nI r) (nI i) (nI n) (nI q) μ = some (if kw_per s i n q = true then 1 else 0) := by
  obtain ⟨hr, hN, hs⟩ := h
  have key : ∀ m k fu, k + m = n → q ≤ k → m < fu → (fp_X9_isOver_4 fu (nI r) (nI i) (nI n) (nI q) (nI k) μ = some 1 ∧ ∀ x, k ≤ x → x < n → s (i + x) = s (i + x - q)) ∨ (fp_X9_isOver_4 fu (nI r) (nI i) (nI n) (nI q) (nI k) μ = some 0 ∧ ∃ x, k ≤ x ∧ x < n ∧ s (i + x) ≠ s (i + x - q)) := by
    intro m
    induction m with
    | zero =>
        intro k fu hk hqk hf
        obtain ⟨f, rfl⟩ : ∃ f, fu = f + 1 := ⟨fu - 1, by omega⟩
        left
        refine ⟨?_, fun x h1 h2 => absurd h2 (by omega)⟩
        rw [fp_X9_isOver_4_s, if_pos (by rw [vt_leI (by omega) (by omega)]; omega)]
    | succ m ih =>
        intro k fu hk hqk hf
        obtain ⟨f, rfl⟩ : ∃ f, fu = f + 1 := ⟨fu - 1, by omega⟩
        have h1 := (hs (i + k) (by omega))
        have h2 := (hs (i + k - q) (by omega))
        have hstep : fp_X9_isOver_4 (f + 1) (nI r) (nI i) (nI n) (nI q) (nI k) μ = if s (i + k) = s (i + k - q) then fp_X9_isOver_4 f (nI r) (nI i) (nI n) (nI q) (nI (k + 1)) μ else some 0 := by
          rw [fp_X9_isOver_4_s, if_neg (by rw [vt_leI (by omega) (by omega)]; omega), vt_80, pk_mul, nI_add, nI_add, if_pos (vt_in' (by omega) (by omega)), pk_sub (by omega), if_pos (vt_in' (by omega) (by omega)), nI_clamp (by omega), nI_clamp (by omega), show r * 80 + i + k = 80 * r + (i + k) by omega, show 80 * r + (i + k) - q = 80 * r + (i + k - q) by omega, h1.2, h2.2, vt_1, nI_add]
          by_cases hc : s (i + k) = s (i + k - q)
          · rw [if_pos (by rw [hc]), if_pos hc]
          · rw [if_neg (by rw [vt_eqI (by omega) (by omega)]; exact hc), if_neg hc]
        rw [hstep]
        by_cases hc : s (i + k) = s (i + k - q)
        · rw [if_pos hc]
          rcases ih (k + 1) f (by omega) (by omega) (by omega) with ⟨a1, a2⟩ | ⟨a1, x, a2, a3, a4⟩
          · left
            refine ⟨a1, fun x h1 h2 => ?_⟩
            by_cases hx : x = k
            · rw [hx]; exact hc
            · exact a2 x (by omega) h2
          · exact Or.inr ⟨a1, x, by omega, a3, a4⟩
        · rw [if_neg hc]
          exact Or.inr ⟨rfl, k, by omega, by omega, hc⟩
  unfold fn_X9_isOver
  rcases key (n - q) q kb_FU (by omega) (by omega) (by rw [vt_fu]; omega) with ⟨a1, a2⟩ | ⟨a1, x, a2, a3, a4⟩
  · rw [a1, if_pos]
    rw [kw_per_iff]
    intro k hk
    have := a2 (q + k) (by omega) (by omega)
    rw [show i + q + k = i + (q + k) by omega, this, show i + (q + k) - q = i + k by omega]
  · rw [a1, if_neg]
    rw [kw_per_iff]
    intro h3
    have := h3 (x - q) (by omega)
    rw [show i + q + (x - q) = i + x by omega, show i + (x - q) = i + x - q by omega] at this
    exact a4 this
section KWR
variable {s : Nat → Nat} {N r : Nat} {μ : kb_S} (kc9 : Int32 → Int32 → Int32 → kb_S → Option kb_S) (kc17 : Int32 → Int32 → Int32 → Int32 → kb_S → Option kb_S) (kc25 : Int32 → Int32 → Int32 → Int32 → Int32 → kb_S → Option kb_S) (x2 : Int32)
theorem kw_52 (h : kw_row s N r μ) {d i n : Nat} (hd : d < 4) (hi : i + n ≤ N) (hn : 1 ≤ n) (hc : ∀ q, 1 ≤ q → q < n → kb_a μ 15 (kw_at (d + 1) i q) = nI (kw_W s (d + 1) i q)) : ∀ (k q : Nat) (b : Nat × Nat) (fu : Nat), q + k = n / 2 + 1 → 1 ≤ q → k < fu → b.1 ≤ 1000000 → fp_X9_reckon_52 kc9 kc17 kc25 fu (nI r) x2 (nI n) (nI d) (nI i) (nI b.1) (nI b.2) (nI q) μ = fp_X9_reckon_142 kc9 kc17 kc25 (nI r) x2 (nI n) (nI d) (nI i) (nI (kw_gl s (kw_W s) d i n k q b).1) (nI (kw_gl s (kw_W s) d i n k q b).2) μ := by
  have hN := h.2.1
  have hr := h.1
  have hn2 : nI n / (2 : Int32) = nI (n / 2) := by rw [vt_2, pk_div (by omega) (by omega) (by omega)]
  intro k
  induction k with
  | zero =>
      intro q b fu hk hq hf hb
      obtain ⟨f, rfl⟩ : ∃ f, fu = f + 1 := ⟨fu - 1, by omega⟩
      rw [fp_X9_reckon_52_s, hn2, if_pos (by rw [vt_ltI (by omega) (by omega)]; omega), kw_gl]
  | succ k ih =>
      intro q b fu hk hq hf hb
      obtain ⟨f, rfl⟩ : ∃ f, fu = f + 1 := ⟨fu - 1, by omega⟩
      have hat := kw_at_lt (d := d + 1) (i := i) (n := q) (by omega) (by omega) (by omega)
      have hW := kw_le (s := s) (d + 1) i q
      have h136 : ∀ c : Nat × Nat, fp_X9_reckon_136 kc9 kc17 kc25 (fp_X9_reckon_52 kc9 kc17 kc25 f) (nI r) x2 (nI n) (nI d) (nI i) (nI c.1) (nI c.2) (nI q) μ = fp_X9_reckon_52 kc9 kc17 kc25 f (nI r) x2 (nI n) (nI d) (nI i) (nI c.1) (nI c.2) (nI (q + 1)) μ := fun c => by
        unfold fp_X9_reckon_136; rw [vt_1, nI_add]
      have hh := h136 (1 + kw_W s (d + 1) i q, q)
      simp only at hh
      rw [fp_X9_reckon_52_s, hn2, if_neg (by rw [vt_ltI (by omega) (by omega)]; omega), if_neg (by rw [vt_4, vt_leI (by omega) (by omega)]; omega), if_pos (by rw [vt_0, vt_eqI (by omega) (by omega)]; omega), pk_rem (by omega) (by omega) (by omega), vt_1, nI_add, kw_at_eq, if_pos (vt_in' (by omega) hat), if_pos (vt_in' (by omega) hat), nI_clamp (by omega), hc q hq (by omega), nI_add, kw_over h hi hq (by omega), Option.bind_some, h136 b, hh, kw_gl]
      by_cases c1 : n % q = 0
      · rw [if_pos (by rw [c1]; rfl)]
        by_cases c2 : 1 + kw_W s (d + 1) i q < b.1
        · rw [if_neg (by rw [vt_leI (by omega) (by omega)]; omega)]
          by_cases c3 : kw_per s i n q = true
          · rw [if_pos c3, if_neg (by decide), if_pos ⟨c1, c2, c3⟩]
            exact ih (q + 1) (1 + kw_W s (d + 1) i q, q) f (by omega) (by omega) (by omega) (by show 1 + kw_W s (d + 1) i q ≤ 1000000; omega)
          · rw [if_neg c3, if_pos rfl, if_neg (fun h => c3 h.2.2)]
            exact ih (q + 1) b f (by omega) (by omega) (by omega) hb
        · rw [if_pos (by rw [vt_leI (by omega) (by omega)]; omega), if_neg (fun h => c2 h.2.1)]
          exact ih (q + 1) b f (by omega) (by omega) (by omega) hb
      · rw [if_neg (by rw [vt_0, vt_eqI (by have := Nat.mod_lt n (show q > 0 by omega); omega) (by omega)]; exact c1), if_neg (fun h => c1 h.1)]
        exact ih (q + 1) b f (by omega) (by omega) (by omega) hb
theorem kw_145 (hN : N ≤ 80) {d i n : Nat} (hd : d ≤ 4) (hi : i + n ≤ N) (hn : 1 ≤ n) (hc : ∀ j q, 1 ≤ q → q < n → j + q ≤ N → kb_a μ 15 (kw_at d j q) = nI (kw_W s d j q)) : ∀ (k q : Nat) (b : Nat × Nat) (fu : Nat), q + k = n → 1 ≤ q → k < fu → b.1 ≤ 1000000 → fp_X9_reckon_145 kc9 kc17 kc25 fu (nI r) x2 (nI n) (nI d) (nI i) (nI b.1) (kw_vi b.2) (nI q) μ = kc25 (nI r) x2 (nI n) (nI d) (nI (i + 1)) (kb_ap (kb_ap μ 15 (kw_at d i n) (nI (kw_sl (kw_W s) d i n k q b).1)) 16 (kw_at d i n) (kw_vi (kw_sl (kw_W s) d i n k q b).2)) := by
  intro k
  induction k with
  | zero =>
      intro q b fu hk hq hf hb
      obtain ⟨f, rfl⟩ : ∃ f, fu = f + 1 := ⟨fu - 1, by omega⟩
      have hat := kw_at_lt (d := d) (i := i) (n := n) hd (by omega) (by omega)
      rw [fp_X9_reckon_145_s, if_pos (by rw [vt_leI (by omega) (by omega)]; omega), kw_at_eq, if_pos (vt_in' (by omega) hat), if_pos (vt_in' (by omega) hat), nI_clamp (by omega), vt_1, nI_add, kw_sl]
  | succ k ih =>
      intro q b fu hk hq hf hb
      obtain ⟨f, rfl⟩ : ∃ f, fu = f + 1 := ⟨fu - 1, by omega⟩
      have hat1 := kw_at_lt (d := d) (i := i) (n := q) hd (by omega) (by omega)
      have hat2 := kw_at_lt (d := d) (i := i + q) (n := n - q) hd (by omega) (by omega)
      have hW1 := kw_le (s := s) d i q
      have hW2 := kw_le (s := s) d (i + q) (n - q)
      have hv : kw_vi (1000 + q) = -(nI q) := by unfold kw_vi; rw [if_neg (by omega), Nat.add_sub_cancel_left]
      rw [fp_X9_reckon_145_s, if_neg (by rw [vt_leI (by omega) (by omega)]; omega), nI_add, pk_sub (by omega), kw_at_eq, kw_at_eq, if_pos (vt_in' (by omega) hat1), if_pos (vt_in' (by omega) hat2), nI_clamp (by omega), nI_clamp (by omega), hc i q hq (by omega) (by omega), hc (i + q) (n - q) (by omega) (by omega) (by omega), nI_add, kw_sl]
      unfold fp_X9_reckon_206
      rw [vt_1, nI_add]
      by_cases c2 : kw_W s d i q + kw_W s d (i + q) (n - q) < b.1
      · rw [if_pos (by rw [vt_ltI (by omega) (by omega)]; exact c2), if_pos c2, ← hv]
        exact ih (q + 1) (kw_W s d i q + kw_W s d (i + q) (n - q), 1000 + q) f (by omega) (by omega) (by omega) (by show kw_W s d i q + kw_W s d (i + q) (n - q) ≤ 1000000; omega)
      · rw [if_neg (by rw [vt_ltI (by omega) (by omega)]; exact c2), if_neg c2]
        exact ih (q + 1) b f (by omega) (by omega) (by omega) hb
theorem kw_cell (h : kw_row s N r μ) {d i n : Nat} (hd : d ≤ 4) (hi : i + n ≤ N) (hn : 1 ≤ n) (hc : ∀ d' j q, d' ≤ 4 → 1 ≤ q → q < n → j + q ≤ N → kb_a μ 15 (kw_at d' j q) = nI (kw_W s d' j q)) : fp_X9_reckon_44 kc9 kc17 kc25 (nI r) x2 (nI n) (nI d) (nI i) (nI (kw_b0 n).1) μ = kc25 (nI r) x2 (nI n) (nI d) (nI (i + 1)) (kb_ap (kb_ap μ 15 (kw_at d i n) (nI (kw_W s d i n))) 16 (kw_at d i n) (kw_vi (kw_V s d i n))) := by
  have hN := h.2.1
  have hb0 : (kw_b0 n).1 ≤ 1000000 := by unfold kw_b0; simp only; split <;> omega
  have hb2 : (kw_b0 n).2 = 0 := rfl
  have heq := kw_eq s d i hn
  unfold kw_c at heq
  have e1 : kw_W s d i n = (kw_sl (kw_W s) d i n (n - 1) 1 (if d < 4 then kw_gl s (kw_W s) d i n (n / 2) 1 (kw_b0 n) else kw_b0 n)).1 := by rw [← heq]
  have e2 : kw_V s d i n = (kw_sl (kw_W s) d i n (n - 1) 1 (if d < 4 then kw_gl s (kw_W s) d i n (n / 2) 1 (kw_b0 n) else kw_b0 n)).2 := by rw [← heq]
  rw [e1, e2]
  unfold fp_X9_reckon_44
  have hin : ∀ b : Nat × Nat, b.1 ≤ 1000000 → b.2 < 1000 → fp_X9_reckon_142 kc9 kc17 kc25 (nI r) x2 (nI n) (nI d) (nI i) (nI b.1) (nI b.2) μ = kc25 (nI r) x2 (nI n) (nI d) (nI (i + 1)) (kb_ap (kb_ap μ 15 (kw_at d i n) (nI (kw_sl (kw_W s) d i n (n - 1) 1 b).1)) 16 (kw_at d i n) (kw_vi (kw_sl (kw_W s) d i n (n - 1) 1 b).2)) := by
    intro b h1 h2
    unfold fp_X9_reckon_142
    have := kw_145 (s := s) (N := N) (r := r) (μ := μ) kc9 kc17 kc25 x2 hN hd hi hn (fun j q a1 a2 a3 => hc d j q hd a1 a2 a3) (n - 1) 1 b kb_FU (by omega) (by omega) (by rw [vt_fu]; omega) h1
    rw [show kw_vi b.2 = nI b.2 by unfold kw_vi; rw [if_pos h2]] at this
    exact this
  by_cases hd4 : d < 4
  · rw [if_pos hd4]
    have h52 := kw_52 (s := s) (N := N) (r := r) (μ := μ) kc9 kc17 kc25 x2 h hd4 hi hn (fun q a1 a2 => hc (d + 1) i q (by omega) a1 a2 (by omega)) (n / 2) 1 (kw_b0 n) kb_FU (by omega) (by omega) (by rw [vt_fu]; omega) hb0
    rw [hb2] at h52
    obtain ⟨g1, g2, g3⟩ := kw_gl_spec (s := s) (f := kw_W s) (d := d) (i := i) (n := n) (n / 2) 1 (kw_b0 n)
    refine h52.trans (hin _ (Nat.le_trans g1 hb0) ?_)
    rcases g3 with g3 | ⟨x, a1, a2, a3, a4, a5, _⟩
    · rw [g3, hb2]; omega
    · rw [a5]; show x < 1000; omega
  · rw [if_neg hd4, ← hin (kw_b0 n) hb0 (by rw [hb2]; omega), hb2, vt_fu, fp_X9_reckon_52_s]
    rw [if_pos (show (4 : Int32) ≤ nI d by rw [vt_4, vt_leI (by omega) (by omega)]; omega), ite_self]; rfl
end KWR
def kw_f (μ0 μ : kb_S) : Prop := (∀ j, kb_g μ j = kb_g μ0 j) ∧ (∀ j, j ≠ 15 → j ≠ 16 → kb_a μ j = kb_a μ0 j)
def kw_pr (s : Nat → Nat) (N : Nat) (μ : kb_S) (n d i : Nat) : Prop := ∀ d' i' n', d' ≤ 4 → 1 ≤ n' → i' + n' ≤ N → (n' < n ∨ n' = n ∧ (d < d' ∨ d' = d ∧ i' < i)) → kw_cel s μ d' i' n'
theorem kw_25 {s : Nat → Nat} {N r : Nat} {μ0 : kb_S} (h : kw_row s N r μ0) (kc9 : Int32 → Int32 → Int32 → kb_S → Option kb_S) (kc17 : Int32 → Int32 → Int32 → Int32 → kb_S → Option kb_S) {d n : Nat} (hd : d ≤ 4) (hn : 1 ≤ n) (hnN : n ≤ N) : ∀ (m i : Nat) (μ : kb_S) (fu : Nat), i + m = N + 1 - n → m < fu → kw_pr s N μ n d i → kw_f μ0 μ → ∃ μ2, fp_X9_reckon_25 kc9 kc17 fu (nI r) (nI N) (nI n) (nI d) (nI i) μ = kc17 (nI r) (nI N) (nI n) (nI d + (-1)) μ2 ∧ kw_pr s N μ2 n d (N + 1 - n) ∧ kw_f μ0 μ2 := by
  have hN := h.2.1
  intro m
  induction m with
  | zero =>
      intro i μ fu hi hf hp hff
      obtain ⟨f, rfl⟩ : ∃ f, fu = f + 1 := ⟨fu - 1, by omega⟩
      refine ⟨μ, ?_, by rw [← hi]; exact hp, hff⟩
      rw [fp_X9_reckon_25_s, nI_add, if_pos (by rw [vt_ltI (by omega) (by omega)]; omega)]
  | succ m ih =>
      intro i μ fu hi hf hp hff
      obtain ⟨f, rfl⟩ : ∃ f, fu = f + 1 := ⟨fu - 1, by omega⟩
      have hrow : kw_row s N r μ := ⟨h.1, h.2.1, fun k hk => by rw [hff.2 8 (by decide) (by decide)]; exact h.2.2 k hk⟩
      have hcell := kw_cell (s := s) (N := N) (r := r) (μ := μ) kc9 kc17 (fp_X9_reckon_25 kc9 kc17 f) (nI N) hrow hd (show i + n ≤ N by omega) hn (fun d' j q h1 h2 h3 h4 => (hp d' j q h1 h2 h4 (Or.inl h3)).1)
      have hstep : fp_X9_reckon_25 kc9 kc17 (f + 1) (nI r) (nI N) (nI n) (nI d) (nI i) μ = fp_X9_reckon_44 kc9 kc17 (fp_X9_reckon_25 kc9 kc17 f) (nI r) (nI N) (nI n) (nI d) (nI i) (nI (kw_b0 n).1) μ := by
        rw [fp_X9_reckon_25_s, nI_add, if_neg (by rw [vt_ltI (by omega) (by omega)]; omega)]
        unfold kw_b0
        by_cases h1 : n = 1
        · rw [if_pos (by rw [h1]; rfl), if_pos h1]; rfl
        · rw [if_neg (by rw [vt_1, vt_eqI (by omega) (by omega)]; exact h1), if_neg h1]; rfl
      rw [hstep, hcell]
      refine ih (i + 1) _ f (by omega) (by omega) (fun d' i' n' h1 h2 h3 h4 => ?_) ⟨hff.1, fun j h15 h16 => ?_⟩
      · by_cases hsame : d' = d ∧ i' = i ∧ n' = n
        · obtain ⟨rfl, rfl, rfl⟩ := hsame
          refine ⟨?_, ?_⟩
          · rw [vt_aax, if_neg (by omega), vt_aax, if_pos ⟨rfl, rfl⟩]
          · rw [vt_aax, if_pos ⟨rfl, rfl⟩]
        · have hne : kw_at d' i' n' ≠ kw_at d i n := fun he => hsame (kw_at_inj (by omega) (by omega) (by omega) (by omega) he)
          obtain ⟨a1, a2⟩ := hp d' i' n' h1 h2 h3 (by omega)
          refine ⟨?_, ?_⟩
          · rw [vt_aax, if_neg (by omega), vt_aax, if_neg (by omega)]; exact a1
          · rw [vt_aax, if_neg (by omega), vt_aax, if_neg (by omega)]; exact a2
      · rw [vt_aa, if_neg h16, vt_aa, if_neg h15]; exact hff.2 j h15 h16
theorem kw_17 {s : Nat → Nat} {N r : Nat} {μ0 : kb_S} (h : kw_row s N r μ0) (kc9 : Int32 → Int32 → Int32 → kb_S → Option kb_S) {n : Nat} (hn : 1 ≤ n) (hnN : n ≤ N) : ∀ (m : Nat) (μ : kb_S) (fu : Nat), m ≤ 5 → m < fu → (∀ d' i' n', d' ≤ 4 → 1 ≤ n' → i' + n' ≤ N → (n' < n ∨ n' = n ∧ m ≤ d') → kw_cel s μ d' i' n') → kw_f μ0 μ → ∃ μ2, fp_X9_reckon_17 kc9 fu (nI r) (nI N) (nI n) (if m = 0 then -1 else nI (m - 1)) μ = kc9 (nI r) (nI N) (nI (n + 1)) μ2 ∧ (∀ d' i' n', d' ≤ 4 → 1 ≤ n' → i' + n' ≤ N → n' ≤ n → kw_cel s μ2 d' i' n') ∧ kw_f μ0 μ2 := by
  intro m
  induction m with
  | zero =>
      intro μ fu hm hf hp hff
      obtain ⟨f, rfl⟩ : ∃ f, fu = f + 1 := ⟨fu - 1, by omega⟩
      refine ⟨μ, ?_, fun d' i' n' h1 h2 h3 h4 => hp d' i' n' h1 h2 h3 (by omega), hff⟩
      rw [if_pos rfl, fp_X9_reckon_17_s, if_pos (by decide), vt_1, nI_add]
  | succ m ih =>
      intro μ fu hm hf hp hff
      obtain ⟨f, rfl⟩ : ∃ f, fu = f + 1 := ⟨fu - 1, by omega⟩
      obtain ⟨μ1, r1, r2, r3⟩ := kw_25 h kc9 (fp_X9_reckon_17 kc9 f) (d := m) (by omega) hn hnN (N + 1 - n) 0 μ kb_FU (by omega) (by have := h.2.1; rw [vt_fu]; omega) (fun d' i' n' h1 h2 h3 h4 => hp d' i' n' h1 h2 h3 (by omega)) hff
      rw [if_neg (by omega), Nat.add_sub_cancel, fp_X9_reckon_17_s, if_neg (vt_neg (by omega)), vt_0, r1]
      have e : nI m + (-1) = if m = 0 then -1 else nI (m - 1) := by
        by_cases hm0 : m = 0
        · rw [hm0]; rfl
        · rw [if_neg hm0, show (-1 : Int32) = -(nI 1) from rfl, vt_an (by omega)]
      rw [e]
      exact ih μ1 f (by omega) (by omega) (fun d' i' n' h1 h2 h3 h4 => r2 d' i' n' h1 h2 h3 (by omega)) r3
theorem kw_reckon {s : Nat → Nat} {N r : Nat} {μ0 : kb_S} (h : kw_row s N r μ0) (h7 : kb_a μ0 7 r = nI N) : ∃ μ2, fn_X9_reckon (nI r) μ0 = some μ2 ∧ (∀ d i n, d ≤ 4 → 1 ≤ n → i + n ≤ N → kw_cel s μ2 d i n) ∧ kw_f μ0 μ2 := by
  have hN := h.2.1
  have hr := h.1
  have key : ∀ (m n : Nat) (μ : kb_S) (fu : Nat), n + m = N + 1 → 1 ≤ n → m < fu → (∀ d' i' n', d' ≤ 4 → 1 ≤ n' → i' + n' ≤ N → n' < n → kw_cel s μ d' i' n') → kw_f μ0 μ → ∃ μ2, fp_X9_reckon_9 fu (nI r) (nI N) (nI n) μ = some μ2 ∧ (∀ d i n, d ≤ 4 → 1 ≤ n → i + n ≤ N → kw_cel s μ2 d i n) ∧ kw_f μ0 μ2 := by
    intro m
    induction m with
    | zero =>
        intro n μ fu hm hn hf hp hff
        obtain ⟨f, rfl⟩ : ∃ f, fu = f + 1 := ⟨fu - 1, by omega⟩
        refine ⟨μ, ?_, fun d i n' h1 h2 h3 => hp d i n' h1 h2 h3 (by omega), hff⟩
        rw [fp_X9_reckon_9_s, if_pos (by rw [vt_ltI (by omega) (by omega)]; omega)]
    | succ m ih =>
        intro n μ fu hm hn hf hp hff
        obtain ⟨f, rfl⟩ : ∃ f, fu = f + 1 := ⟨fu - 1, by omega⟩
        obtain ⟨μ1, r1, r2, r3⟩ := kw_17 h (fp_X9_reckon_9 f) hn (by omega) 5 μ kb_FU (by omega) (by rw [vt_fu]; omega) (fun d' i' n' h1 h2 h3 h4 => hp d' i' n' h1 h2 h3 (by omega)) hff
        rw [if_neg (by omega)] at r1
        obtain ⟨μ2, r4, r5, r6⟩ := ih (n + 1) μ1 f (by omega) (by omega) (by omega) (fun d' i' n' h1 h2 h3 h4 => r2 d' i' n' h1 h2 h3 (by omega)) r3
        refine ⟨μ2, ?_, r5, r6⟩
        rw [fp_X9_reckon_9_s, if_neg (by rw [vt_ltI (by omega) (by omega)]; omega), show (4 : Int32) = nI (5 - 1) from rfl, r1]
        exact r4
  unfold fn_X9_reckon
  rw [if_pos (vt_in' (by omega) (by omega)), nI_clamp (by omega), h7, vt_1]
  exact key N 1 μ0 kb_FU (by omega) (by omega) (by rw [vt_fu]; omega) (fun d' i' n' h1 h2 h3 h4 => absurd h4 (by omega)) ⟨fun _ => rfl, fun _ _ _ => rfl⟩
