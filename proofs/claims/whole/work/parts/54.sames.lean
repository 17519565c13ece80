/-! the class counts what is the same a period further on -/
def kw_sm (s : Nat → Nat) (c q : Nat) : Nat → Nat
  | 0 => 0
  | j + 1 => if c - (j + 1) + q < c ∧ s (c - (j + 1)) = s (c - (j + 1) + q) then kw_sm s c q j + 1 else 0
theorem kw_sm_s (s : Nat → Nat) (c q j : Nat) : kw_sm s c q (j + 1) = if c - (j + 1) + q < c ∧ s (c - (j + 1)) = s (c - (j + 1) + q) then kw_sm s c q j + 1 else 0 := rfl
theorem kw_sm_iff {s : Nat → Nat} {c q : Nat} : ∀ j, j ≤ c → ∀ k, k ≤ kw_sm s c q j ↔ (k = 0 ∨ c - j + q + k ≤ c) ∧ ∀ x, x < k → s (c - j + x) = s (c - j + q + x) := by
  intro j
  induction j with
  | zero =>
      intro hj k
      rw [show kw_sm s c q 0 = 0 from rfl]
      constructor
      · intro h; exact ⟨Or.inl (by omega), fun x hx => absurd hx (by omega)⟩
      · intro h; omega
  | succ j ih =>
      intro hj k
      rw [kw_sm_s]
      have hi : c - j = c - (j + 1) + 1 := by omega
      have ih2 := ih (by omega)
      rw [hi] at ih2
      generalize c - (j + 1) = i at *
      by_cases hc : i + q < c ∧ s i = s (i + q)
      · rw [if_pos hc]
        match k with
        | 0 => exact ⟨fun _ => ⟨Or.inl rfl, fun x hx => absurd hx (by omega)⟩, fun _ => by omega⟩
        | k + 1 =>
            have := ih2 k
            constructor
            · intro h
              obtain ⟨h1, h2⟩ := this.mp (by omega)
              refine ⟨Or.inr (by omega), fun x hx => ?_⟩
              match x with
              | 0 => exact hc.2
              | x + 1 =>
                  have := h2 x (by omega)
                  rw [show i + (x + 1) = i + 1 + x by omega, show i + q + (x + 1) = i + 1 + q + x by omega]; exact this
            · intro ⟨h1, h2⟩
              have h3 := this.mpr ⟨by omega, fun x hx => by
                have := h2 (x + 1) (by omega)
                rw [show i + 1 + x = i + (x + 1) by omega, show i + 1 + q + x = i + q + (x + 1) by omega]; exact this⟩
              omega
      · rw [if_neg hc]
        constructor
        · intro h; exact ⟨Or.inl (by omega), fun x hx => absurd hx (by omega)⟩
        · intro ⟨h1, h2⟩
          rcases h1 with h1 | h1
          · omega
          · rcases Nat.eq_zero_or_pos k with h3 | h3
            · omega
            · exact absurd ⟨by omega, h2 0 h3⟩ hc
theorem kw_sm_le {s : Nat → Nat} {c q : Nat} : ∀ j, kw_sm s c q j ≤ j
  | 0 => Nat.le_refl 0
  | j + 1 => by
      have := kw_sm_le (s := s) (c := c) (q := q) j
      rw [kw_sm_s]; split <;> omega
def kw_ti (s : Nat → Nat) (c i q : Nat) : Nat := 1 + kw_sm s c q (c - i) / q
theorem kw_ti_iff {s : Nat → Nat} {c i q t : Nat} (hq : 1 ≤ q) (hi : i ≤ c) (ht : 2 ≤ t) : t ≤ kw_ti s c i q ↔ i + q * t ≤ c ∧ kw_per s i (q * t) q = true := by
  have h0 := kw_sm_iff (s := s) (c := c) (q := q) (c - i) (by omega) ((t - 1) * q)
  rw [show c - (c - i) = i by omega] at h0
  have h1 : t ≤ kw_ti s c i q ↔ (t - 1) * q ≤ kw_sm s c q (c - i) := by
    unfold kw_ti
    rw [← Nat.le_div_iff_mul_le hq]; omega
  have h2 : q * t = (t - 1) * q + q := by
    obtain ⟨u, rfl⟩ : ∃ u, t = u + 1 := ⟨t - 1, by omega⟩
    rw [Nat.add_sub_cancel, Nat.mul_succ, Nat.mul_comm]
  have h3 : 1 ≤ (t - 1) * q := Nat.mul_pos (by omega) hq
  rw [h1, h0, kw_per_iff, h2, Nat.add_sub_cancel]
  generalize (t - 1) * q = m at *
  constructor
  · intro ⟨a, b⟩
    exact ⟨by omega, fun k hk => (b k hk).symm⟩
  · intro ⟨a, b⟩
    exact ⟨Or.inr (by omega), fun k hk => (b k hk).symm⟩
theorem kw_ti_le {s : Nat → Nat} {c i q : Nat} : kw_ti s c i q ≤ 1 + (c - i) := by
  unfold kw_ti
  have h1 := kw_sm_le (s := s) (c := c) (q := q) (c - i)
  have h2 := Nat.div_le_self (kw_sm s c q (c - i)) q
  omega
/-- the class's stitches and how they come again -/
def kw_cm (s : Nat → Nat) (c : Nat) (τ : kb_S) : Prop := c ≤ 80 ∧ kb_g τ 0 = nI c ∧ (∀ k, k < c → vt_vs (s k) = true ∧ kb_a τ 2 k = nI (s k)) ∧ ∀ i, i < c → ∀ q, 1 ≤ q → q ≤ c / 2 → kb_a τ 1 (i * 40 + q - 1) = nI (kw_sm s c q (c - i))
theorem kw_times {s : Nat → Nat} {c : Nat} {τ : kb_S} (h : kw_cm s c τ) {i q : Nat} (hi : i < c) (hq : 1 ≤ q) (hq2 : q ≤ c / 2) : fn_X5_timesInRow (nI i) (nI q) τ = some (nI (kw_ti s c i q)) := by
  obtain ⟨h1, h2, h3, h4⟩ := h
  have hsm := kw_sm_le (s := s) (c := c) (q := q) (c - i)
  unfold fn_X5_timesInRow kw_ti
  rw [if_neg (vt_neg (by omega)), h2, if_neg (by rw [vt_leI (by omega) (by omega)]; omega), vt_1, if_neg (by rw [vt_ltI (by omega) (by omega)]; omega), vt_2, pk_div (by omega) (by omega) (by omega), if_pos (by rw [vt_leI (by omega) (by omega)]; omega), vt_40, pk_mul, nI_add, pk_sub (by omega), if_pos (vt_in' (by omega) (by omega)), if_pos (by rw [vt_0, vt_eqI (by omega) (by omega)]; omega), nI_clamp (by omega), h4 i hi q hq hq2, pk_div (by omega) (by omega) (by omega), nI_add]
theorem kw_sames1 {s : Nat → Nat} {c q : Nat} (hc : c ≤ 80) (hq : 1 ≤ q) (hq2 : q ≤ c / 2) {τ0 : kb_S} (h0 : kb_g τ0 0 = nI c) (h2 : ∀ k, k < c → vt_vs (s k) = true ∧ kb_a τ0 2 k = nI (s k)) : ∀ (j : Nat) (τ : kb_S) (fu : Nat), j ≤ c → j < fu → (∀ k, kb_g τ k = kb_g τ0 k) → (∀ k, k ≠ 1 → kb_a τ k = kb_a τ0 k) →
    ∃ τ2, fp_X5_countSames_9 fu (nI q) (nI (kw_sm s c q (c - j))) (if j = 0 then -1 else nI (j - 1)) τ = some τ2 ∧ (∀ k, kb_g τ2 k = kb_g τ0 k) ∧ (∀ k, k ≠ 1 → kb_a τ2 k = kb_a τ0 k) ∧ (∀ i, i < j → kb_a τ2 1 (i * 40 + q - 1) = nI (kw_sm s c q (c - i))) ∧ (∀ x, (∀ i, i < j → x ≠ i * 40 + q - 1) → kb_a τ2 1 x = kb_a τ 1 x) := by
  intro j
  induction j with
  | zero =>
      intro τ fu hj hf hg ha
      obtain ⟨f, rfl⟩ : ∃ f, fu = f + 1 := ⟨fu - 1, by omega⟩
      refine ⟨τ, ?_, hg, ha, fun i hi => absurd hi (by omega), fun _ _ => rfl⟩
      rw [fp_X5_countSames_9_s, if_pos rfl, if_pos (by decide)]
  | succ j ih =>
      intro τ fu hj hf hg ha
      obtain ⟨f, rfl⟩ : ∃ f, fu = f + 1 := ⟨fu - 1, by omega⟩
      have hsm := kw_sm_le (s := s) (c := c) (q := q) (c - j - 1)
      have hss : kw_sm s c q (c - j) = if j + q < c ∧ s j = s (j + q) then kw_sm s c q (c - (j + 1)) + 1 else 0 := by
        have := kw_sm_s s c q (c - (j + 1))
        rw [show c - (j + 1) + 1 = c - j by omega, show c - (c - j) = j by omega] at this; exact this
      have e59 : ∀ v, fp_X5_countSames_59 (fp_X5_countSames_9 f) (nI q) (nI j) (nI v) τ = fp_X5_countSames_9 f (nI q) (nI v) (if j = 0 then -1 else nI (j - 1)) (kb_ap τ 1 (j * 40 + q - 1) (nI v)) := by
        intro v
        unfold fp_X5_countSames_59
        have e : nI j + (-1) = if j = 0 then -1 else nI (j - 1) := by
          by_cases hm0 : j = 0
          · rw [hm0]; rfl
          · rw [if_neg hm0, show (-1 : Int32) = -(nI 1) from rfl, vt_an (by omega)]
        rw [e, vt_40, pk_mul, nI_add, vt_1, pk_sub (by omega), if_pos (vt_in' (by omega) (by omega)), nI_clamp (by omega)]
      have hstep : fp_X5_countSames_9 (f + 1) (nI q) (nI (kw_sm s c q (c - (j + 1)))) (nI j) τ = fp_X5_countSames_9 f (nI q) (nI (kw_sm s c q (c - j))) (if j = 0 then -1 else nI (j - 1)) (kb_ap τ 1 (j * 40 + q - 1) (nI (kw_sm s c q (c - j)))) := by
        rw [fp_X5_countSames_9_s, if_neg (vt_neg (by omega)), hg 0, h0, nI_add, ← e59]
        unfold fp_X5_countSames_44 fp_X5_countSames_45
        rw [vt_1, nI_add, if_pos (show (0 : Int32) = 0 from rfl), if_neg (show ¬ nI 1 = 0 by decide), vt_0]
        by_cases hjq : j + q < c
        · have hv1 := vt_vs_lt (h2 j (by omega)).1
          have hv2 := vt_vs_lt (h2 (j + q) hjq).1
          rw [if_neg (by rw [vt_leI (by omega) (by omega)]; omega), if_pos (vt_in' (by omega) (by omega)), if_pos (vt_in' (by omega) (by omega)), nI_clamp (by omega), nI_clamp (by omega), ha 2 (by decide), (h2 j (by omega)).2, (h2 (j + q) hjq).2, hss]
          by_cases hs : s j = s (j + q)
          · rw [if_pos (by rw [hs]), if_pos ⟨hjq, hs⟩]
          · rw [if_neg (by rw [vt_eqI (by omega) (by omega)]; exact hs), if_neg (fun h => hs h.2)]
        · rw [if_pos (by rw [vt_leI (by omega) (by omega)]; omega), hss, if_neg (fun h => hjq h.1)]
      obtain ⟨τ2, r1, r2, r3, r4, r5⟩ := ih (kb_ap τ 1 (j * 40 + q - 1) (nI (kw_sm s c q (c - j)))) f (by omega) (by omega) hg (fun k hk => by rw [vt_aa, if_neg hk]; exact ha k hk)
      refine ⟨τ2, ?_, r2, r3, fun i hi => ?_, fun x hx => ?_⟩
      · rw [if_neg (by omega), Nat.add_sub_cancel, hstep]; exact r1
      · by_cases hij : i = j
        · rw [hij, r5 _ (fun k hk => by omega), vt_aax, if_pos ⟨rfl, rfl⟩]
        · exact r4 i (by omega)
      · rw [r5 x (fun i hi => hx i (by omega)), vt_aax, if_neg (by have := hx j (by omega); omega)]
