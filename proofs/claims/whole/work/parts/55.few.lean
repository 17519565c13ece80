/-! the class's table of words -/
def kw_h (d : Nat) : Nat := if d = 0 then 80 else if d = 1 then 40 else if d = 2 then 20 else 10
def kw_off (d : Nat) : Nat := if d = 0 then 0 else if d = 1 then 80 else if d = 2 then 3280 else 4880
def kw_ce (d i n : Nat) : Nat := if d = 0 then i else kw_off d + i * kw_h d + n - 1
theorem kw_cellOf {d i n : Nat} (hd : d ≤ 3) (hn : 1 ≤ n) (hn2 : n ≤ kw_h d) (hi : i + n ≤ 80) : fn_X5_cellOf (nI i) (nI n) (nI d) = some (nI (kw_ce d i n)) ∧ kw_ce d i n < 5680 := by
  unfold fn_X5_cellOf kw_ce
  have hsh : (80 : Int32) >>> (nI d &&& 31) = nI (kw_h d) := by
    rcases (show d = 0 ∨ d = 1 ∨ d = 2 ∨ d = 3 by omega) with h | h | h | h <;> subst h <;> decide
  have hoff : kb_OFFS d = nI (kw_off d) := by
    rcases (show d = 0 ∨ d = 1 ∨ d = 2 ∨ d = 3 by omega) with h | h | h | h <;> subst h <;> decide
  have hh : kw_h d ≤ 80 ∧ kw_off d ≤ 4880 ∧ (d ≠ 0 → kw_off d + 80 * kw_h d ≤ 5680) := by
    rcases (show d = 0 ∨ d = 1 ∨ d = 2 ∨ d = 3 by omega) with h | h | h | h <;> subst h <;> decide
  have hm : i * kw_h d ≤ 79 * kw_h d := Nat.mul_le_mul_right _ (by omega)
  rw [if_neg (vt_neg (by omega)), vt_4, if_neg (by rw [vt_leI (by omega) (by omega)]; omega), vt_1, if_neg (by rw [vt_ltI (by omega) (by omega)]; omega), hsh, if_pos (by rw [vt_leI (by omega) (by omega)]; exact hn2), if_neg (vt_neg (by omega)), vt_80, nI_add, if_pos (by rw [vt_leI (by omega) (by omega)]; exact hi)]
  by_cases h0 : d = 0
  · rw [if_pos (by rw [h0]; rfl), if_pos h0]; exact ⟨rfl, by omega⟩
  · rw [if_neg (by rw [vt_0, vt_eqI (by omega) (by omega)]; exact h0), if_pos (vt_in' (by omega) (by omega)), nI_clamp (by omega), hoff, pk_mul, nI_add, nI_add, if_neg h0, pk_sub (by omega)]
    refine ⟨rfl, ?_⟩
    have := hh.2.2 h0
    omega
theorem kw_ce_inj {d i n i' n' : Nat} (hd : 1 ≤ d) (hn : 1 ≤ n) (hn2 : n ≤ kw_h d) (hn' : 1 ≤ n') (hn2' : n' ≤ kw_h d) (h : kw_ce d i n = kw_ce d i' n') : i = i' ∧ n = n' := by
  unfold kw_ce at h
  rw [if_neg (by omega), if_neg (by omega)] at h
  unfold kw_h at *
  split at h <;> (try split at h) <;> (try split at h) <;> simp_all <;> omega
theorem kw_ce_far {d i n d' i' n' : Nat} (hdd : d < d') (hd' : d' ≤ 3) (hn : 1 ≤ n) (hn2 : n ≤ kw_h d) (hi : i + n ≤ 80) (hn' : 1 ≤ n') (hn2' : n' ≤ kw_h d') (hi' : i' + n' ≤ 80) : kw_ce d i n ≠ kw_ce d' i' n' := by
  unfold kw_ce kw_h kw_off at *
  rcases (show (d = 0 ∧ d' = 1) ∨ (d = 0 ∧ d' = 2) ∨ (d = 0 ∧ d' = 3) ∨ (d = 1 ∧ d' = 2) ∨ (d = 1 ∧ d' = 3) ∨ (d = 2 ∧ d' = 3) by omega) with ⟨h, h'⟩ | ⟨h, h'⟩ | ⟨h, h'⟩ | ⟨h, h'⟩ | ⟨h, h'⟩ | ⟨h, h'⟩ <;> subst h <;> subst h' <;> simp at * <;> omega
theorem kw_words {d i n : Nat} (hd : d ≤ 3) (hn : 1 ≤ n) (hn2 : n ≤ kw_h d) (hi : i + n ≤ 80) (τ : kb_S) : fn_X5_words (nI i) (nI n) (nI d) τ = some (kb_a τ 0 (kw_ce d i n)) := by
  obtain ⟨h1, h2⟩ := kw_cellOf hd hn hn2 hi
  unfold fn_X5_words
  rw [h1, Option.bind_some, if_pos (by rw [vt_0, vt_leI (by omega) (by omega)]; omega), if_pos (vt_in' (by omega) h2), nI_clamp (by omega)]
theorem kw_words4 {i n : Nat} (τ : kb_S) : fn_X5_words (nI i) (nI n) (nI 4) τ = some (nI n) := by
  unfold fn_X5_words fn_X5_cellOf
  rw [if_neg (vt_neg (by omega)), vt_4, if_pos (by rw [vt_leI (by omega) (by omega)]; omega), Option.bind_some, if_neg (by decide)]
theorem kw_words0 {i d : Nat} (hd : d ≤ 4) (τ : kb_S) : fn_X5_words (nI i) (nI 0) (nI d) τ = some (nI 0) := by
  unfold fn_X5_words fn_X5_cellOf
  rw [if_neg (vt_neg (by omega)), vt_4]
  by_cases h : 4 ≤ d
  · rw [if_pos (by rw [vt_leI (by omega) (by omega)]; exact h), Option.bind_some, if_neg (by decide)]
  · rw [if_neg (by rw [vt_leI (by omega) (by omega)]; exact h), vt_1, if_pos (by rw [vt_ltI (by omega) (by omega)]; omega), Option.bind_some, if_neg (by decide)]
def kw_gd (s : Nat → Nat) (τ : kb_S) (d i n : Nat) : Prop := fn_X5_words (nI i) (nI n) (nI d) τ = some (nI (kw_W s d i n))
theorem kw_gd0 {s : Nat → Nat} {τ : kb_S} {d i : Nat} (hd : d ≤ 4) : kw_gd s τ d i 0 := by unfold kw_gd; rw [kw_words0 hd, kw_zero]
theorem kw_gd4 {s : Nat → Nat} {τ : kb_S} {i n : Nat} (hn : n < 1000) : kw_gd s τ 4 i n := by unfold kw_gd; rw [kw_words4, kw_four i hn]
/-- the fewest words of a part, when those of the parts that it needs stand in the table -/
theorem kw_few {s : Nat → Nat} {c : Nat} {τ : kb_S} (hcm : kw_cm s c τ) {d i n : Nat} (hd : d ≤ 3) (hn : 1 ≤ n) (hi : i + n ≤ c) (hH1 : ∀ m, m < n → kw_gd s τ d (i + n - m) m) (hH2 : ∀ q, 1 ≤ q → q ≤ n / 2 → 2 ≤ kw_ti s c i q → kw_gd s τ (d + 1) i q) : fn_X5_fewestWords (nI i) (nI n) (nI d) τ = some (nI (kw_W s d i n)) := by
  have hc := hcm.1
  have h71 : ∀ (q g most : Nat), 1 ≤ q → q ≤ n / 2 → most ≤ n / q → most ≤ kw_ti s c i q → (2 ≤ most → g = 1 + kw_W s (d + 1) i q) → g ≤ 1000 → ∀ (kc18 : Int32 → Int32 → Int32 → Int32 → Int32 → kb_S → Option Int32) (k t b fu : Nat), (t + k = most + 1 ∨ (k = 0 ∧ most < t)) → 2 ≤ t → t ≤ 1000 → k < fu → b ≤ 1000 → kw_W s d i n ≤ b → ∃ b2, fp_X5_fewestWords_71 kc18 fu (nI i) (nI n) (nI d) (nI b) (nI q) (nI most) (nI g) (nI t) τ = kc18 (nI i) (nI n) (nI d) (nI b2) (nI (q + 1)) τ ∧ b2 ≤ b ∧ kw_W s d i n ≤ b2 ∧ ∀ x, t ≤ x → x ≤ most → b2 ≤ g + kw_W s d (i + q * x) (n - q * x) := by
    intro q g most hq hq2 hmn hmt hg hg2 kc18 k
    have hmost : most ≤ 80 := Nat.le_trans hmn (Nat.le_trans (Nat.div_le_self n q) (by omega))
    induction k with
    | zero =>
        intro t b fu ht h2 ht2 hf hb hW
        obtain ⟨f, rfl⟩ : ∃ f, fu = f + 1 := ⟨fu - 1, by omega⟩
        refine ⟨b, ?_, Nat.le_refl b, hW, fun x h3 h4 => absurd h4 (by omega)⟩
        rw [fp_X5_fewestWords_71_s, if_pos (by rw [vt_ltI (by omega) (by omega)]; omega), vt_1, nI_add]
    | succ k ih =>
        intro t b fu ht h2 ht2 hf hb hW
        obtain ⟨f, rfl⟩ : ∃ f, fu = f + 1 := ⟨fu - 1, by omega⟩
        have htm : t ≤ most := by omega
        have hqt : q * t ≤ n := by
          have h5 : q * t ≤ q * (n / q) := Nat.mul_le_mul_left q (by omega)
          exact Nat.le_trans h5 (Nat.mul_div_le n q)
        have hqt1 : q * 2 ≤ q * t := Nat.mul_le_mul_left q h2
        have hw := hH1 (n - q * t) (by omega)
        rw [show i + n - (n - q * t) = i + q * t by omega] at hw
        unfold kw_gd at hw
        have hWl := kw_le (s := s) d (i + q * t) (n - q * t)
        have hper := ((kw_ti_iff (s := s) (c := c) (i := i) (q := q) (t := t) hq (by omega) h2).mp (by omega)).2
        have hpc : kw_pc s d i (q * t) g := Or.inr ⟨by omega, q, hq, by
          rw [Nat.le_div_iff_mul_le (by omega)]; omega, Nat.mul_mod_right q t, hper, hg (by omega)⟩
        have hup := kw_up hpc (n := n) hqt
        have hstep : fp_X5_fewestWords_71 kc18 (f + 1) (nI i) (nI n) (nI d) (nI b) (nI q) (nI most) (nI g) (nI t) τ = fp_X5_fewestWords_71 kc18 f (nI i) (nI n) (nI d) (nI (if g + kw_W s d (i + q * t) (n - q * t) < b then g + kw_W s d (i + q * t) (n - q * t) else b)) (nI q) (nI most) (nI g) (nI (t + 1)) τ := by
          rw [fp_X5_fewestWords_71_s, if_neg (by rw [vt_ltI (by omega) (by omega)]; omega), pk_mul, nI_add, pk_sub hqt, hw, Option.bind_some, nI_add, vt_1, nI_add]
          by_cases hlt : g + kw_W s d (i + q * t) (n - q * t) < b
          · rw [if_pos (by rw [vt_ltI (by omega) (by omega)]; exact hlt), if_pos hlt]
          · rw [if_neg (by rw [vt_ltI (by omega) (by omega)]; exact hlt), if_neg hlt]
        rw [hstep]
        obtain ⟨b2, r1, r2, r3, r4⟩ := ih (t + 1) (if g + kw_W s d (i + q * t) (n - q * t) < b then g + kw_W s d (i + q * t) (n - q * t) else b) f (by omega) (by omega) (by omega) (by omega) (by split <;> omega) (by split <;> omega)
        refine ⟨b2, r1, ?_, r3, fun x h3 h4 => ?_⟩
        · split at r2 <;> omega
        · by_cases hx : x = t
          · rw [hx]; split at r2 <;> omega
          · exact r4 x (by omega) h4
  have h18 : ∀ (k q b fu : Nat), q + k = n / 2 + 1 → 1 ≤ q → k < fu → b ≤ 1000 → kw_W s d i n ≤ b → ∃ b2, fp_X5_fewestWords_18 fu (nI i) (nI n) (nI d) (nI b) (nI q) τ = some (nI b2) ∧ b2 ≤ b ∧ kw_W s d i n ≤ b2 ∧ ∀ x t, q ≤ x → x ≤ n / 2 → 2 ≤ t → t ≤ n / x → t ≤ kw_ti s c i x → b2 ≤ 1 + kw_W s (d + 1) i x + kw_W s d (i + x * t) (n - x * t) := by
    intro k
    induction k with
    | zero =>
        intro q b fu hk hq hf hb hW
        obtain ⟨f, rfl⟩ : ∃ f, fu = f + 1 := ⟨fu - 1, by omega⟩
        refine ⟨b, ?_, Nat.le_refl b, hW, fun x t h1 h2 => absurd h2 (by omega)⟩
        rw [fp_X5_fewestWords_18_s, vt_2, pk_div (by omega) (by omega) (by omega), if_pos (by rw [vt_ltI (by omega) (by omega)]; omega)]
    | succ k ih =>
        intro q b fu hk hq hf hb hW
        obtain ⟨f, rfl⟩ : ∃ f, fu = f + 1 := ⟨fu - 1, by omega⟩
        have hti := kw_ti_le (s := s) (c := c) (i := i) (q := q)
        have hnq := Nat.div_le_self n q
        have hWq := kw_le (s := s) (d + 1) i q
        obtain ⟨most, hmost⟩ : ∃ most, most = if n / q < kw_ti s c i q then n / q else kw_ti s c i q := ⟨_, rfl⟩
        have hm1 : most ≤ n / q := by rw [hmost]; split <;> omega
        have hm2 : most ≤ kw_ti s c i q := by rw [hmost]; split <;> omega
        have hmx : ∀ t, t ≤ n / q → t ≤ kw_ti s c i q → t ≤ most := by rw [hmost]; intro t h1 h2; split <;> omega
        have emost : (if nI (n / q) < nI (kw_ti s c i q) then nI (n / q) else nI (kw_ti s c i q)) = nI most := by
          rw [hmost]
          by_cases hlt : n / q < kw_ti s c i q
          · rw [if_pos (by rw [vt_ltI (by omega) (by omega)]; exact hlt), if_pos hlt]
          · rw [if_neg (by rw [vt_ltI (by omega) (by omega)]; exact hlt), if_neg hlt]
        obtain ⟨g, hg⟩ : ∃ g, g = if 2 ≤ most then 1 + kw_W s (d + 1) i q else 1000 := ⟨_, rfl⟩
        have hg1 : 2 ≤ most → g = 1 + kw_W s (d + 1) i q := fun h => by rw [hg, if_pos h]
        have hg2 : g ≤ 1000 := by rw [hg]; split <;> omega
        obtain ⟨b1, r1, r2, r3, r4⟩ := h71 q g most hq (by omega) hm1 hm2 hg1 hg2 (fp_X5_fewestWords_18 f) (most - 1) 2 b kb_FU (by omega) (by omega) (by omega) (by rw [vt_fu]; omega) hb hW
        obtain ⟨b2, s1, s2, s3, s4⟩ := ih (q + 1) b1 f (by omega) (by omega) (by omega) (by omega) r3
        refine ⟨b2, ?_, by omega, s3, fun x t h1 h2 h3 h4 h5 => ?_⟩
        · rw [fp_X5_fewestWords_18_s, vt_2, pk_div (by omega) (by omega) (by omega), if_neg (by rw [vt_ltI (by omega) (by omega)]; omega), kw_times hcm (by omega) hq (by omega), Option.bind_some, if_pos (by rw [vt_0, vt_eqI (by omega) (by omega)]; omega), pk_div (by omega) (by omega) (by omega), emost]
          unfold fp_X5_fewestWords_66
          rw [vt_2]
          by_cases hm : 2 ≤ most
          · have hgd := hH2 q hq (by omega) (by omega)
            unfold kw_gd at hgd
            rw [if_pos (by rw [vt_leI (by omega) (by omega)]; exact hm), vt_1, nI_add, hgd, Option.bind_some, nI_add, ← hg1 hm, r1]; exact s1
          · rw [if_neg (by rw [vt_leI (by omega) (by omega)]; exact hm), show (1000 : Int32) = nI 1000 from rfl]
            have : g = 1000 := by rw [hg, if_neg hm]
            rw [← this, r1]; exact s1
        · by_cases hx : x = q
          · subst hx
            have h6 := hmx t h4 h5
            have := r4 t h3 h6
            rw [hg1 (by omega)] at this
            omega
          · exact s4 x t (by omega) h2 h3 h4 h5
  have hw1 := hH1 (n - 1) (by omega)
  rw [show i + n - (n - 1) = i + 1 by omega] at hw1
  unfold kw_gd at hw1
  have hW1 := kw_le (s := s) d (i + 1) (n - 1)
  have hup := kw_up (s := s) (d := d) (i := i) (n := n) (p := 1) (b := 1) (Or.inl ⟨rfl, rfl⟩) hn
  obtain ⟨b2, r1, r2, r3, r4⟩ := h18 (n / 2) 1 (1 + kw_W s d (i + 1) (n - 1)) kb_FU (by omega) (by omega) (by rw [vt_fu]; omega) (by omega) hup
  unfold fn_X5_fewestWords
  rw [vt_1, nI_add, pk_sub hn, hw1, Option.bind_some, nI_add, r1]
  have hb : b2 = kw_W s d i n := by
    obtain ⟨p, b, p1, p2, p3⟩ := kw_first (s := s) d i hn (by omega)
    rcases p2 with ⟨e1, e2⟩ | ⟨e1, q, e2, e3, e4, e5, e6⟩
    · rw [e1, e2] at p3; omega
    · have hp := Nat.div_add_mod p q
      rw [e4, Nat.add_zero] at hp
      have ht2 : 2 ≤ p / q := by
        rw [Nat.le_div_iff_mul_le (by omega)]; omega
      have h7 := r4 q (p / q) e2 (by omega) ht2 (Nat.div_le_div_right p1) ((kw_ti_iff e2 (by omega) ht2).mpr ⟨by rw [hp]; omega, by rw [hp]; exact e5⟩)
      rw [hp, ← e6, ← p3] at h7
      omega
  rw [hb]
