/-! the class tells -/
theorem kw_gd.same {s : Nat → Nat} {τ τ2 : kb_S} {d i n : Nat} (h : kw_gd s τ d i n) (h0 : kb_a τ2 0 = kb_a τ 0) : kw_gd s τ2 d i n := by
  unfold kw_gd fn_X5_words at *; rw [h0]; exact h
def kw_ht (s : Nat → Nat) (c : Nat) (τ : kb_S) : Prop := kw_cm s c τ ∧ ∀ d, 1 ≤ d → d ≤ 4 → kw_tb s c τ d
theorem kw_ht.same {s : Nat → Nat} {c : Nat} {τ τ2 : kb_S} (h : kw_ht s c τ) (hg : kb_g τ2 0 = kb_g τ 0) (h0 : kb_a τ2 0 = kb_a τ 0) (h1 : kb_a τ2 1 = kb_a τ 1) (h2 : kb_a τ2 2 = kb_a τ 2) : kw_ht s c τ2 := by
  refine ⟨?_, fun d a1 a2 i q b1 b2 b3 b4 m hm => (h.2 d a1 a2 i q b1 b2 b3 b4 m hm).same h0⟩
  have := h.1
  unfold kw_cm at *; rw [hg, h1, h2]; exact this
theorem kw_ht.ap {s : Nat → Nat} {c l : Nat} {τ τ2 : kb_S} {xs : List Nat} (h : kw_ht s c τ) (h2 : kx_ap2 1 3 3 l τ xs τ2) : kw_ht s c τ2 := h.same (h2.2.1 0 (by decide)) (h2.2.2.1 0 (by decide) (by decide)) (h2.2.2.1 1 (by decide) (by decide)) (h2.2.2.1 2 (by decide) (by decide))
section KWT
variable {s : Nat → Nat} {c : Nat} {τ : kb_S}
def kw_bg (s : Nat → Nat) (d i n : Nat) : Nat × Nat := if d < 4 then kw_gl s (kw_W s) d i n (n / 2) 1 (1001, 0) else (1001, 0)
theorem kw_best (h : kw_ht s c τ) {d i n : Nat} (hd : d ≤ 4) (hn : 1 ≤ n) (hi : i + n ≤ c) (hl : n ≤ kw_lim c d) : fn_X5_bestGroup (nI i) (nI n) (nI d) τ = some (nI (kw_bg s d i n).2) := by
  have hc := h.1.1
  unfold fn_X5_bestGroup kw_bg
  by_cases hd4 : d < 4
  · rw [if_pos hd4]
    have hls := kw_lim_s (c := c) (d := d) (by omega)
    have key : ∀ (k q : Nat) (b : Nat × Nat) (fu : Nat), q + k = n / 2 + 1 → 1 ≤ q → k < fu → 1 ≤ b.1 → b.1 ≤ 1001 → fp_X5_bestGroup_11 fu (nI i) (nI n) (nI d) (nI b.2) (nI (b.1 - 1)) (nI q) τ = some (nI (kw_gl s (kw_W s) d i n k q b).2) := by
      intro k
      induction k with
      | zero =>
          intro q b fu hk hq hf hb hb2
          obtain ⟨f, rfl⟩ : ∃ f, fu = f + 1 := ⟨fu - 1, by omega⟩
          rw [fp_X5_bestGroup_11_s, vt_2, pk_div (by omega) (by omega) (by omega), if_pos (by rw [vt_ltI (by omega) (by omega)]; omega), kw_gl]
      | succ k ih =>
          intro q b fu hk hq hf hb hb2
          obtain ⟨f, rfl⟩ : ∃ f, fu = f + 1 := ⟨fu - 1, by omega⟩
          have hti := kw_ti_le (s := s) (c := c) (i := i) (q := q)
          have hnq := Nat.div_le_self n q
          have hWq := kw_le (s := s) (d + 1) i q
          have h2nq : 2 ≤ n / q := by rw [Nat.le_div_iff_mul_le (by omega)]; omega
          have e90 : ∀ b' : Nat × Nat, fp_X5_bestGroup_90 (fp_X5_bestGroup_11 f) (nI i) (nI n) (nI d) (nI b'.2) (nI (b'.1 - 1)) (nI q) τ = fp_X5_bestGroup_11 f (nI i) (nI n) (nI d) (nI b'.2) (nI (b'.1 - 1)) (nI (q + 1)) τ := fun b' => by
            unfold fp_X5_bestGroup_90; rw [vt_1, nI_add]
          have e49 : fp_X5_bestGroup_49 (fp_X5_bestGroup_11 f) (nI i) (nI n) (nI d) (nI b.2) (nI (b.1 - 1)) (nI q) τ = fp_X5_bestGroup_11 f (nI i) (nI n) (nI d) (nI b.2) (nI (b.1 - 1)) (nI (q + 1)) τ := by
            unfold fp_X5_bestGroup_49 fp_X5_bestGroup_50 fp_X5_bestGroup_73
            rw [if_pos rfl, if_pos (by rw [show (1000 : Int32) = nI 1000 from rfl, vt_leI (by omega) (by omega)]; omega), e90]
          rw [fp_X5_bestGroup_11_s, vt_2, pk_div (by omega) (by omega) (by omega), if_neg (by rw [vt_ltI (by omega) (by omega)]; omega), if_neg (by rw [vt_4, vt_leI (by omega) (by omega)]; omega), if_pos (show ¬ nI q = 0 by rw [vt_0, vt_eqI (by omega) (by omega)]; omega), pk_rem (by omega) (by omega) (by omega), kw_times h.1 (by omega) hq (by have := kw_lim_le (c := c) (d := d + 1) (by omega); omega), Option.bind_some, if_pos (show ¬ nI q = 0 by rw [vt_0, vt_eqI (by omega) (by omega)]; omega), pk_div (by omega) (by omega) (by omega), e49, kw_gl]
          by_cases c1 : n % q = 0
          · have hqt : q * (n / q) = n := by have := Nat.div_add_mod n q; omega
            have hval : n / q ≤ kw_ti s c i q ↔ kw_per s i n q = true := by
              rw [kw_ti_iff hq (by omega) h2nq, hqt]; exact ⟨fun h => h.2, fun h => ⟨hi, h⟩⟩
            rw [if_pos (by rw [c1]; rfl)]
            by_cases c3 : kw_per s i n q = true
            · have hle := hval.mpr c3
              have hgd := h.2 (d + 1) (by omega) (by omega) i q hq (by rw [hls]; omega) (by omega) (by omega) q (Nat.le_refl q)
              rw [show i + q - q = i by omega] at hgd
              unfold kw_gd at hgd
              rw [if_neg (by rw [vt_ltI (by omega) (by omega)]; omega)]
              unfold fp_X5_bestGroup_50 fp_X5_bestGroup_73
              rw [if_neg (show ¬ (1 : Int32) = 0 by decide), vt_1, nI_add, hgd, Option.bind_some]
              by_cases c2 : 1 + kw_W s (d + 1) i q < b.1
              · rw [if_neg (by rw [vt_leI (by omega) (by omega)]; omega), if_pos ⟨c1, c2, c3⟩]
                have := e90 (1 + kw_W s (d + 1) i q, q)
                simp only [Nat.add_sub_cancel_left] at this
                rw [this]
                have hh := ih (q + 1) (1 + kw_W s (d + 1) i q, q) f (by omega) (by omega) (by omega) (by show 1 ≤ 1 + kw_W s (d + 1) i q; omega) (by show 1 + kw_W s (d + 1) i q ≤ 1001; omega)
                simp only [Nat.add_sub_cancel_left] at hh
                exact hh
              · rw [if_pos (by rw [vt_leI (by omega) (by omega)]; omega), if_neg (fun h => c2 h.2.1), e90]
                exact ih (q + 1) b f (by omega) (by omega) (by omega) hb hb2
            · rw [if_pos (by rw [vt_ltI (by omega) (by omega)]; have : ¬ n / q ≤ kw_ti s c i q := fun h => c3 (hval.mp h); omega), if_neg (fun h => c3 h.2.2)]
              exact ih (q + 1) b f (by omega) (by omega) (by omega) hb hb2
          · rw [if_neg (by rw [vt_0, vt_eqI (by have := Nat.mod_lt n (show q > 0 by omega); omega) (by omega)]; exact c1), if_neg (fun h => c1 h.1)]
            exact ih (q + 1) b f (by omega) (by omega) (by omega) hb hb2
    exact key (n / 2) 1 (1001, 0) kb_FU (by omega) (by omega) (by rw [vt_fu]; omega) (by show 1 ≤ 1001; omega) (Nat.le_refl _)
  · rw [if_neg hd4, vt_fu, fp_X5_bestGroup_11_s, if_pos (show (4 : Int32) ≤ nI d by rw [vt_4, vt_leI (by omega) (by omega)]; omega), ite_self]; rfl
theorem kw_bg_spec {d i n : Nat} (hn : 1 ≤ n) (hn2 : n < 1000) : (kw_bg s d i n = (1001, 0) ∧ (d < 4 → ∀ q, 1 ≤ q → q ≤ n / 2 → n % q = 0 → kw_per s i n q = true → False)) ∨ (d < 4 ∧ ∃ q, 1 ≤ q ∧ q ≤ n / 2 ∧ n % q = 0 ∧ kw_per s i n q = true ∧ kw_bg s d i n = (1 + kw_W s (d + 1) i q, q) ∧ (∀ y, 1 ≤ y → y ≤ n / 2 → n % y = 0 → kw_per s i n y = true → 1 + kw_W s (d + 1) i q ≤ 1 + kw_W s (d + 1) i y) ∧ ∀ y, 1 ≤ y → y < q → n % y = 0 → kw_per s i n y = true → 1 + kw_W s (d + 1) i q < 1 + kw_W s (d + 1) i y) := by
  unfold kw_bg
  by_cases hd : d < 4
  · rw [if_pos hd]
    obtain ⟨g1, g2, g3⟩ := kw_gl_spec (s := s) (f := kw_W s) (d := d) (i := i) (n := n) (n / 2) 1 (1001, 0)
    rcases g3 with g3 | ⟨x, a1, a2, a3, a4, a5, a6, a7⟩
    · left
      refine ⟨g3, fun _ q b1 b2 b3 b4 => ?_⟩
      have := g2 q b1 (by omega) b3 b4
      rw [g3] at this
      have := kw_le (s := s) (d + 1) i q
      simp only at *
      omega
    · right
      refine ⟨hd, x, a1, by omega, a3, a4, a5, fun y b1 b2 b3 b4 => ?_, a7⟩
      have := g2 y b1 (by omega) b3 b4
      rw [a5] at this; exact this
  · rw [if_neg hd]
    exact Or.inl ⟨rfl, fun h => absurd h hd⟩
def kw_pw (s : Nat → Nat) (d i n : Nat) : Nat := if n = 1 then 1 else if (kw_bg s d i n).2 = 0 then 1000 else (kw_bg s d i n).1
theorem kw_piece (h : kw_ht s c τ) {d i n : Nat} (hd : d ≤ 4) (hn : 1 ≤ n) (hi : i + n ≤ c) (hl : n ≤ kw_lim c d) : fn_X5_pieceWords (nI i) (nI n) (nI d) τ = some (nI (kw_pw s d i n)) := by
  have hc := h.1.1
  unfold fn_X5_pieceWords kw_pw
  by_cases h1 : n = 1
  · rw [if_pos (by rw [h1]; rfl), if_pos h1]; rfl
  · rw [if_neg (by rw [vt_1, vt_eqI (by omega) (by omega)]; exact h1), if_neg h1, kw_best h hd hn hi hl, Option.bind_some]
    rcases kw_bg_spec (s := s) (d := d) (i := i) (n := n) hn (by omega) with ⟨b1, _⟩ | ⟨hd4, q, b1, b2, b3, b4, b5, b6, b7⟩
    · rw [b1]; rfl
    · rw [b5]
      have hls := kw_lim_s (c := c) (d := d) (by omega)
      have hqt : q * (n / q) = n := by have := Nat.div_add_mod n q; omega
      have h2nq : 2 ≤ n / q := by rw [Nat.le_div_iff_mul_le (by omega)]; omega
      have hti : n / q ≤ kw_ti s c i q := (kw_ti_iff b1 (by omega) h2nq).mpr ⟨by rw [hqt]; exact hi, by rw [hqt]; exact b4⟩
      have hgd := h.2 (d + 1) (by omega) (by omega) i q b1 (by rw [hls]; omega) (by omega) (by omega) q (Nat.le_refl q)
      rw [show i + q - q = i by omega] at hgd
      unfold kw_gd at hgd
      simp only
      rw [if_neg (by rw [vt_0, vt_eqI (by omega) (by omega)]; omega), if_neg (by omega), vt_1, nI_add, hgd, Option.bind_some, nI_add]
theorem kw_pw_ge {d i n : Nat} (hn : 1 ≤ n) (hn2 : n < 1000) : kw_W s d i n ≤ kw_pw s d i n := by
  unfold kw_pw
  by_cases h1 : n = 1
  · rw [if_pos h1, h1, (kw_one d i).1]; omega
  · rw [if_neg h1]
    rcases kw_bg_spec (s := s) (d := d) (i := i) (n := n) hn hn2 with ⟨b1, _⟩ | ⟨hd4, q, b1, b2, b3, b4, b5, b6, b7⟩
    · rw [b1, if_pos rfl]; have := kw_le (s := s) d i n; omega
    · rw [b5, if_neg (by show ¬ q = 0; omega)]; exact kw_S2 hd4 b1 b2 b3 b4
theorem kw_bg_V {d i n : Nat} (hn : 2 ≤ n) (hn2 : n < 1000) (hV : kw_V s d i n < 1000) : d < 4 ∧ 1 ≤ kw_V s d i n ∧ kw_V s d i n ≤ n / 2 ∧ n % kw_V s d i n = 0 ∧ kw_per s i n (kw_V s d i n) = true ∧ kw_bg s d i n = (kw_W s d i n, kw_V s d i n) := by
  rcases kw_S3 (s := s) d i hn hn2 with ⟨hd, q, e, a1, a2, a3, a4, a5, a6⟩ | ⟨q, e, _⟩
  · rw [e]
    refine ⟨hd, a1, a2, a3, a4, ?_⟩
    rcases kw_bg_spec (s := s) (d := d) (i := i) (n := n) (by omega) hn2 with ⟨_, b2⟩ | ⟨_, x, b1, b2, b3, b4, b5, b6, b7⟩
    · exact absurd (b2 hd q a1 a2 a3 a4) id
    · have h1 := b6 q a1 a2 a3 a4
      have h2 := kw_S2 (s := s) (i := i) hd b1 b2 b3 b4
      have hxq : x = q := by
        rcases Nat.lt_trichotomy x q with h | h | h
        · have := a6 x b1 h b3 b4; omega
        · exact h
        · have := b7 q a1 h a3 a4; omega
      rw [b5, hxq, a5]
  · omega
theorem kw_pw_eq {d i n : Nat} (hn : 1 ≤ n) (hn2 : n < 1000) (h : n = 1 ∨ kw_V s d i n < 1000) : kw_pw s d i n = kw_W s d i n := by
  unfold kw_pw
  by_cases h1 : n = 1
  · rw [if_pos h1, h1, (kw_one d i).1]
  · obtain ⟨_, a1, _, _, _, a2⟩ := kw_bg_V (s := s) (d := d) (i := i) (n := n) (by omega) hn2 (by omega)
    rw [if_neg h1, a2, if_neg (by show ¬ kw_V s d i n = 0; omega)]
theorem kw_pw_ne {d i n q : Nat} (hn : 2 ≤ n) (hn2 : n < 1000) (hV : kw_V s d i n = 1000 + q) : kw_pw s d i n ≠ kw_W s d i n := by
  rcases kw_S3 (s := s) d i hn hn2 with ⟨hd, q2, e, a1, a2, _⟩ | ⟨q2, e, a1, a2, a3, a4, a5⟩
  · omega
  · unfold kw_pw
    rw [if_neg (by omega)]
    rcases kw_bg_spec (s := s) (d := d) (i := i) (n := n) (by omega) hn2 with ⟨b1, _⟩ | ⟨hd4, x, b1, b2, b3, b4, b5, b6, b7⟩
    · rw [b1, if_pos rfl]; have := kw_le (s := s) d i n; omega
    · rw [b5, if_neg (by show ¬ x = 0; omega)]
      have := a5 hd4 x b1 b2 b3 b4
      show ¬ 1 + kw_W s (d + 1) i x = _
      omega
def kw_fp (s : Nat → Nat) (d i n : Nat) : Nat := if n = 1 ∨ kw_V s d i n < 1000 then n else kw_V s d i n - 1000
theorem kw_firstP (h : kw_ht s c τ) {d i n : Nat} (hd : d ≤ 4) (hn : 1 ≤ n) (hi : i + n ≤ c) (hl : n ≤ kw_lim c d) (hg : ∀ k, k ≤ n → kw_gd s τ d (i + n - k) k) : fn_X5_firstPiece (nI i) (nI n) (nI d) τ = some (nI (kw_fp s d i n)) := by
  have hc := h.1.1
  have hW := kw_le (s := s) d i n
  have hpw : ∀ p, 1 ≤ p → p ≤ n → kw_pw s d i p ≤ 1000 := by
    intro p h1 h2
    unfold kw_pw
    by_cases h3 : p = 1
    · rw [if_pos h3]; omega
    · rw [if_neg h3]
      rcases kw_bg_spec (s := s) (d := d) (i := i) (n := p) h1 (by omega) with ⟨b1, _⟩ | ⟨_, x, b1, b2, _, _, b5, _⟩
      · rw [b1, if_pos rfl]; omega
      · rw [b5, if_neg (by show ¬ x = 0; omega)]; have := kw_le (s := s) (d + 1) i x; show 1 + kw_W s (d + 1) i x ≤ 1000; omega
  have hw := hg n (Nat.le_refl n)
  rw [show i + n - n = i by omega] at hw
  unfold kw_gd at hw
  unfold fn_X5_firstPiece kw_fp
  rw [hw, Option.bind_some, kw_piece h hd hn hi hl, Option.bind_some]
  by_cases hone : n = 1 ∨ kw_V s d i n < 1000
  · rw [if_pos (by rw [kw_pw_eq hn (by omega) hone]), if_pos hone]
  · rcases kw_S3 (s := s) d i (n := n) (by omega) (by omega) with ⟨_, q, e, _, a2, _⟩ | ⟨q, e, a1, a2, a3, a4, a5⟩
    · exact absurd (Or.inr (by omega)) hone
    · have hpn := hpw n hn (Nat.le_refl n)
      rw [if_neg (by rw [vt_eqI (by omega) (by omega)]; exact kw_pw_ne (by omega) (by omega) e), if_neg hone, e, Nat.add_sub_cancel_left]
      have key : ∀ (k x fu : Nat), x + k = q → 1 ≤ x → k < fu → fp_X5_firstPiece_26 fu (nI i) (nI n) (nI d) (nI (kw_W s d i n)) (nI x) τ = some (nI q) := by
        intro k
        induction k with
        | zero =>
            intro x fu hx h1 hf
            obtain ⟨f, rfl⟩ : ∃ f, fu = f + 1 := ⟨fu - 1, by omega⟩
            have hxq : x = q := by omega
            subst hxq
            have hw2 := hg (n - x) (by omega)
            rw [show i + n - (n - x) = i + x by omega] at hw2
            unfold kw_gd at hw2
            have hp := kw_pw_eq (s := s) (d := d) (i := i) (n := x) h1 (by omega) (by
              rcases kw_split (s := s) (d := d) (i := i) (n := n) (by omega) (by omega) e with h | h
              · exact Or.inl h
              · exact Or.inr h.2)
            rw [fp_X5_firstPiece_26_s, if_neg (by rw [vt_leI (by omega) (by omega)]; omega), kw_piece h hd h1 (by omega) (by omega), Option.bind_some, nI_add, pk_sub (by omega), hw2, Option.bind_some, nI_add, hp, if_pos (by rw [a3])]
        | succ k ih =>
            intro x fu hx h1 hf
            obtain ⟨f, rfl⟩ : ∃ f, fu = f + 1 := ⟨fu - 1, by omega⟩
            have hw2 := hg (n - x) (by omega)
            rw [show i + n - (n - x) = i + x by omega] at hw2
            unfold kw_gd at hw2
            have hp := kw_pw_ge (s := s) (d := d) (i := i) (n := x) h1 (by omega)
            have hp2 := hpw x h1 (by omega)
            have h4 := a4 x h1 (by omega)
            have hWx := kw_le (s := s) d (i + x) (n - x)
            rw [fp_X5_firstPiece_26_s, if_neg (by rw [vt_leI (by omega) (by omega)]; omega), kw_piece h hd h1 (by omega) (by omega), Option.bind_some, nI_add, pk_sub (by omega), hw2, Option.bind_some, nI_add, if_neg (by rw [vt_eqI (by omega) (by omega)]; omega), vt_1, nI_add]
            exact ih (x + 1) f (by omega) (by omega) (by omega)
      rw [vt_1]
      exact key (q - 1) 1 kb_FU (by omega) (by omega) (by rw [vt_fu]; omega)
end KWT
