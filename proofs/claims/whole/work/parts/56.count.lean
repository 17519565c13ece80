/-! the class fills its table -/
def kw_lim (c d : Nat) : Nat := if d = 0 then c else if d = 1 then c / 2 else if d = 2 then c / 4 else if d = 3 then c / 8 else c / 16
theorem kw_lim_h {c d : Nat} (hc : c ≤ 80) (hd : d ≤ 3) : kw_lim c d ≤ kw_h d := by
  unfold kw_lim kw_h
  rcases (show d = 0 ∨ d = 1 ∨ d = 2 ∨ d = 3 by omega) with h | h | h | h <;> subst h <;> simp <;> omega
theorem kw_lim_s {c d : Nat} (hd : d ≤ 3) : kw_lim c (d + 1) = kw_lim c d / 2 := by
  unfold kw_lim
  rcases (show d = 0 ∨ d = 1 ∨ d = 2 ∨ d = 3 by omega) with h | h | h | h <;> subst h <;> simp <;> omega
theorem kw_lim_le {c d : Nat} (hd : 1 ≤ d) : kw_lim c d ≤ c / 2 := by
  unfold kw_lim; rw [if_neg (by omega)]; split <;> (try split) <;> (try split) <;> omega
theorem kw_shift : ∀ c, c < 81 → nI c >>> (nI 1 &&& 31) = nI (c / 2) ∧ nI c >>> (nI 2 &&& 31) = nI (c / 4) ∧ nI c >>> (nI 3 &&& 31) = nI (c / 8) := by decide +kernel
theorem kw_shr {c d : Nat} (hc : c ≤ 80) (h1 : 1 ≤ d) (hd : d ≤ 3) : nI c >>> (nI d &&& 31) = nI (kw_lim c d) := by
  have := kw_shift c (by omega)
  unfold kw_lim
  rcases (show d = 1 ∨ d = 2 ∨ d = 3 by omega) with h | h | h <;> subst h <;> simp
  · exact this.1
  · exact this.2.1
  · exact this.2.2
def kw_tf (τ0 τ : kb_S) : Prop := (∀ k, kb_g τ k = kb_g τ0 k) ∧ (∀ k, k ≠ 0 → kb_a τ k = kb_a τ0 k)
theorem kw_tf.refl (τ : kb_S) : kw_tf τ τ := ⟨fun _ => rfl, fun _ _ => rfl⟩
theorem kw_tf.trans {a b c : kb_S} (h : kw_tf a b) (h2 : kw_tf b c) : kw_tf a c := ⟨fun k => by rw [h2.1, h.1], fun k hk => by rw [h2.2 k hk, h.2 k hk]⟩
theorem kw_cm.tf {s : Nat → Nat} {c : Nat} {τ τ2 : kb_S} (h : kw_cm s c τ) (h2 : kw_tf τ τ2) : kw_cm s c τ2 := by
  unfold kw_cm at *; rw [h2.1, h2.2 1 (by decide), h2.2 2 (by decide)]; exact h
theorem kw_gd_keep {s : Nat → Nat} {τ τ2 : kb_S} {d i n : Nat} (hd : d ≤ 4) (hn2 : d ≤ 3 → n ≤ kw_h d) (hi : i + n ≤ 80) (hk : d ≤ 3 → 1 ≤ n → kb_a τ2 0 (kw_ce d i n) = kb_a τ 0 (kw_ce d i n)) (h : kw_gd s τ d i n) : kw_gd s τ2 d i n := by
  by_cases hn : n = 0
  · rw [hn]; exact kw_gd0 hd
  · by_cases hd4 : d = 4
    · rw [hd4]; exact kw_gd4 (by omega)
    · unfold kw_gd at *
      rw [kw_words (by omega) (by omega) (hn2 (by omega)) hi] at h ⊢
      rw [hk (by omega) (by omega)]; exact h
theorem kw_countW {s : Nat → Nat} {c : Nat} {τ0 : kb_S} (hcm : kw_cm s c τ0) {d e L : Nat} (hd : d ≤ 3) (he : e ≤ c) (hLe : L ≤ e) (hLh : L ≤ kw_h d) : ∀ (k n : Nat) (τ : kb_S) (fu : Nat), n + k = L + 1 → 1 ≤ n → k < fu → kw_tf τ0 τ → (∀ m, m < n → kw_gd s τ d (e - m) m) → (∀ m, 1 ≤ m → m ≤ L → ∀ q, 1 ≤ q → q ≤ m / 2 → 2 ≤ kw_ti s c (e - m) q → kw_gd s τ (d + 1) (e - m) q) →
    ∃ τ2, fp_X5_countWords_3 fu (nI e) (nI L) (nI d) (nI n) τ = some τ2 ∧ kw_tf τ0 τ2 ∧ (∀ m, m ≤ L → kw_gd s τ2 d (e - m) m) ∧ (∀ x, (∀ m, n ≤ m → m ≤ L → x ≠ kw_ce d (e - m) m) → kb_a τ2 0 x = kb_a τ 0 x) := by
  have hc := hcm.1
  have hh2 : d ≤ 2 → kw_h (d + 1) = kw_h d / 2 := by
    intro h
    unfold kw_h
    rcases (show d = 0 ∨ d = 1 ∨ d = 2 by omega) with h | h | h <;> subst h <;> decide
  intro k
  induction k with
  | zero =>
      intro n τ fu hk hn hf htf hg hH
      obtain ⟨f, rfl⟩ : ∃ f, fu = f + 1 := ⟨fu - 1, by omega⟩
      refine ⟨τ, ?_, htf, fun m hm => hg m (by omega), fun _ _ => rfl⟩
      rw [fp_X5_countWords_3_s, if_pos (by rw [vt_ltI (by omega) (by omega)]; omega)]
  | succ k ih =>
      intro n τ fu hk hn hf htf hg hH
      obtain ⟨f, rfl⟩ : ∃ f, fu = f + 1 := ⟨fu - 1, by omega⟩
      obtain ⟨z1, z2⟩ := kw_cellOf (d := d) (i := e - n) (n := n) hd hn (by omega) (by omega)
      have hfew := kw_few (hcm.tf htf) (d := d) (i := e - n) (n := n) hd hn (by omega) (fun m hm => by rw [show e - n + n - m = e - m by omega]; exact hg m hm) (fun q h1 h2 h3 => hH n hn (by omega) q h1 h2 h3)
      have hdist : ∀ m, m ≤ L → m ≠ n → 1 ≤ m → kw_ce d (e - m) m ≠ kw_ce d (e - n) n := by
        intro m h1 h2 h3 h4
        by_cases h0 : d = 0
        · unfold kw_ce at h4; rw [if_pos h0, if_pos h0] at h4; omega
        · have := kw_ce_inj (by omega) h3 (by omega) hn (by omega) h4; omega
      have hgdn : kw_gd s (kb_ap τ 0 (kw_ce d (e - n) n) (nI (kw_W s d (e - n) n))) d (e - n) n := by
        unfold kw_gd
        rw [kw_words hd hn (by omega) (by omega), vt_aax, if_pos ⟨rfl, rfl⟩]
      have hA : ∀ m, m < n + 1 → kw_gd s (kb_ap τ 0 (kw_ce d (e - n) n) (nI (kw_W s d (e - n) n))) d (e - m) m := by
        intro m hm
        by_cases hmn : m = n
        · rw [hmn]; exact hgdn
        · refine kw_gd_keep (by omega) (fun _ => by omega) (by omega) (fun _ h1 => ?_) (hg m (by omega))
          rw [vt_aax, if_neg (by have := hdist m (by omega) hmn h1; omega)]
      have hB : ∀ m, 1 ≤ m → m ≤ L → ∀ q, 1 ≤ q → q ≤ m / 2 → 2 ≤ kw_ti s c (e - m) q → kw_gd s (kb_ap τ 0 (kw_ce d (e - n) n) (nI (kw_W s d (e - n) n))) (d + 1) (e - m) q := by
        intro m h1 h2 q h3 h4 h5
        refine kw_gd_keep (by omega) (fun h => by rw [hh2 (by omega)]; omega) (by omega) (fun h6 h7 => ?_) (hH m h1 h2 q h3 h4 h5)
        have hfar := kw_ce_far (d := d) (d' := d + 1) (i := e - n) (n := n) (i' := e - m) (n' := q) (by omega) h6 hn (by omega) (by omega) h3 (by rw [hh2 (by omega)]; omega) (by omega)
        rw [vt_aax, if_neg (by omega)]
      obtain ⟨τ2, r1, r2, r3, r4⟩ := ih (n + 1) (kb_ap τ 0 (kw_ce d (e - n) n) (nI (kw_W s d (e - n) n))) f (by omega) (by omega) (by omega) ⟨htf.1, fun k hk => by rw [vt_aa, if_neg hk]; exact htf.2 k hk⟩ hA hB
      refine ⟨τ2, ?_, r2, r3, fun x hx => ?_⟩
      · rw [fp_X5_countWords_3_s, if_neg (by rw [vt_ltI (by omega) (by omega)]; omega), pk_sub (by omega), z1, Option.bind_some, if_neg (vt_neg (by omega)), hfew, Option.bind_some, if_pos (vt_in' (by omega) z2), nI_clamp (by omega)]
        unfold fp_X5_countWords_44
        rw [vt_1, nI_add]; exact r1
      · rw [r4 x (fun m h1 h2 => hx m (by omega) h2), vt_aax, if_neg (by have := hx n (by omega) (by omega); omega)]
/-- the parts that come again, within d groups, stand in the table -/
def kw_tb (s : Nat → Nat) (c : Nat) (τ : kb_S) (d : Nat) : Prop := ∀ i q, 1 ≤ q → q ≤ kw_lim c d → i + q ≤ c → 2 ≤ kw_ti s c i q → ∀ m, m ≤ q → kw_gd s τ d (i + q - m) m
theorem kw_tb4 {s : Nat → Nat} {c : Nat} {τ : kb_S} (hc : c ≤ 80) : kw_tb s c τ 4 := fun i q _ _ h _ m hm => kw_gd4 (by omega)
theorem kw_tb.far {s : Nat → Nat} {c : Nat} {τ τ2 : kb_S} {d d' : Nat} (hc : c ≤ 80) (h : kw_tb s c τ d') (hd' : d' ≤ 3) (hdd : d < d') (hk : ∀ x, (∀ i n, 1 ≤ n → n ≤ kw_h d → i + n ≤ 80 → x ≠ kw_ce d i n) → kb_a τ2 0 x = kb_a τ 0 x) : kw_tb s c τ2 d' := by
  intro i q h1 h2 h3 h4 m hm
  have hlh := kw_lim_h (c := c) (d := d') hc hd'
  refine kw_gd_keep (by omega) (fun _ => by omega) (by omega) (fun _ h5 => ?_) (h i q h1 h2 h3 h4 m hm)
  exact hk _ (fun i' n' a1 a2 a3 => (kw_ce_far hdd hd' a1 a2 a3 h5 (by omega) (by omega)).symm)
theorem kw_within {s : Nat → Nat} {c : Nat} {τ0 : kb_S} (hcm : kw_cm s c τ0) {d : Nat} (h1 : 1 ≤ d) (hd : d ≤ 3) (hT : kw_tb s c τ0 (d + 1)) : ∃ τ2, fn_X5_countWordsWithin (nI d) τ0 = some τ2 ∧ kw_tf τ0 τ2 ∧ kw_tb s c τ2 d ∧ (∀ x, (∀ i n, 1 ≤ n → n ≤ kw_h d → i + n ≤ 80 → x ≠ kw_ce d i n) → kb_a τ2 0 x = kb_a τ0 0 x) := by
  have hc := hcm.1
  have hlh := kw_lim_h (c := c) (d := d) hc hd
  have hl2 := kw_lim_le (c := c) (d := d) h1
  have hls := kw_lim_s (c := c) (d := d) hd
  -- the longest part with this end that comes again
  have h21 : ∀ (kc2 : Int32 → Int32 → kb_S → Option kb_S) (e : Nat) (τ : kb_S), e < c → kw_cm s c τ → ∀ (L fu : Nat), L ≤ e → L ≤ kw_lim c d → L < fu → ∃ M, M ≤ L ∧ fp_X5_countWordsWithin_21 kc2 fu (nI d) (nI e) (nI L) τ = fp_X5_countWordsWithin_43 kc2 (nI d) (nI e) (nI M) τ ∧ ∀ q, M < q → q ≤ L → kw_ti s c (e - q) q < 2 := by
    intro kc2 e τ he hcmτ L
    induction L with
    | zero =>
        intro fu _ _ hf
        obtain ⟨f, rfl⟩ : ∃ f, fu = f + 1 := ⟨fu - 1, by omega⟩
        refine ⟨0, Nat.le_refl 0, ?_, fun q h1 h2 => absurd h1 (by omega)⟩
        rw [fp_X5_countWordsWithin_21_s, if_pos (by decide)]
    | succ L ih =>
        intro fu hLe hLl hf
        obtain ⟨f, rfl⟩ : ∃ f, fu = f + 1 := ⟨fu - 1, by omega⟩
        have hti := kw_ti_le (s := s) (c := c) (i := e - (L + 1)) (q := L + 1)
        rw [fp_X5_countWordsWithin_21_s, if_neg (by rw [vt_0, vt_leI (by omega) (by omega)]; omega), pk_sub hLe, kw_times hcmτ (by omega) (by omega) (by omega), Option.bind_some, vt_2]
        by_cases ht : 2 ≤ kw_ti s c (e - (L + 1)) (L + 1)
        · exact ⟨L + 1, Nat.le_refl _, by rw [if_pos (by rw [vt_leI (by omega) (by omega)]; exact ht)], fun q h1 h2 => absurd h1 (by omega)⟩
        · obtain ⟨M, m1, m2, m3⟩ := ih f (by omega) (by omega) (by omega)
          refine ⟨M, by omega, ?_, fun q h1 h2 => ?_⟩
          · rw [if_neg (by rw [vt_leI (by omega) (by omega)]; exact ht), show (-1 : Int32) = -(nI 1) from rfl, vt_an (by omega), Nat.add_sub_cancel]; exact m2
          · by_cases hq : q = L + 1
            · rw [hq]; omega
            · exact m3 q h1 (by omega)
  have h2 : ∀ (k e : Nat) (τ : kb_S) (fu : Nat), (e + k = c ∨ (k = 0 ∧ c ≤ e)) → 1 ≤ e → e ≤ 81 → k < fu → kw_tf τ0 τ → (∀ i q, 1 ≤ q → q ≤ kw_lim c d → i + q < e → 2 ≤ kw_ti s c i q → ∀ m, m ≤ q → kw_gd s τ d (i + q - m) m) → (∀ x, (∀ i n, 1 ≤ n → n ≤ kw_h d → i + n ≤ 80 → x ≠ kw_ce d i n) → kb_a τ 0 x = kb_a τ0 0 x) →
      ∃ τ2, fp_X5_countWordsWithin_2 fu (nI d) (nI e) τ = some τ2 ∧ kw_tf τ0 τ2 ∧ (∀ i q, 1 ≤ q → q ≤ kw_lim c d → i + q < c → 2 ≤ kw_ti s c i q → ∀ m, m ≤ q → kw_gd s τ2 d (i + q - m) m) ∧ (∀ x, (∀ i n, 1 ≤ n → n ≤ kw_h d → i + n ≤ 80 → x ≠ kw_ce d i n) → kb_a τ2 0 x = kb_a τ0 0 x) := by
    intro k
    induction k with
    | zero =>
        intro e τ fu hk he he2 hf htf hg hx
        obtain ⟨f, rfl⟩ : ∃ f, fu = f + 1 := ⟨fu - 1, by omega⟩
        refine ⟨τ, ?_, htf, fun i q a1 a2 a3 a4 m hm => hg i q a1 a2 (by omega) a4 m hm, hx⟩
        rw [fp_X5_countWordsWithin_2_s, htf.1 0, hcm.2.1, if_pos (by rw [vt_leI (by omega) (by omega)]; omega)]
    | succ k ih =>
        intro e τ fu hk he he2 hf htf hg hx
        obtain ⟨f, rfl⟩ : ∃ f, fu = f + 1 := ⟨fu - 1, by omega⟩
        have hec : e < c := by omega
        obtain ⟨L0, hL0⟩ : ∃ L0, L0 = if kw_lim c d < e then kw_lim c d else e := ⟨_, rfl⟩
        have hL01 : L0 ≤ e ∧ L0 ≤ kw_lim c d ∧ (∀ q, q ≤ e → q ≤ kw_lim c d → q ≤ L0) := by rw [hL0]; split <;> exact ⟨by omega, by omega, fun q _ _ => by omega⟩
        have eL0 : (if nI (kw_lim c d) < nI e then nI (kw_lim c d) else nI e) = nI L0 := by
          rw [hL0]
          by_cases hlt : kw_lim c d < e
          · rw [if_pos (by rw [vt_ltI (by omega) (by omega)]; exact hlt), if_pos hlt]
          · rw [if_neg (by rw [vt_ltI (by omega) (by omega)]; exact hlt), if_neg hlt]
        obtain ⟨M, m1, m2, m3⟩ := h21 (fp_X5_countWordsWithin_2 f) e τ hec (hcm.tf htf) L0 kb_FU hL01.1 hL01.2.1 (by rw [vt_fu]; omega)
        have hTτ : kw_tb s c τ (d + 1) := by
          by_cases h4 : d + 1 = 4
          · rw [h4]; exact kw_tb4 hc
          · exact hT.far hc (by omega) (Nat.lt_succ_self d) hx
        obtain ⟨τ1, r1, r2, r3, r4⟩ := kw_countW (hcm.tf htf) hd (show e ≤ c by omega) (show M ≤ e by omega) (show M ≤ kw_h d by omega) M 1 τ kb_FU (by omega) (by omega) (by rw [vt_fu]; omega) (kw_tf.refl τ) (fun m hm => by rw [show m = 0 by omega]; exact kw_gd0 (by omega)) (fun m a1 a2 q a3 a4 a5 => by
          have := hTτ (e - m) q a3 (by rw [hls]; omega) (by omega) a5 q (Nat.le_refl q)
          rw [show e - m + q - q = e - m by omega] at this; exact this)
        have hcells : ∀ x, (∀ i n, 1 ≤ n → n ≤ kw_h d → i + n ≤ 80 → x ≠ kw_ce d i n) → kb_a τ1 0 x = kb_a τ0 0 x := fun x hxx => by
          rw [r4 x (fun m a1 a2 => hxx (e - m) m a1 (by omega) (by omega))]; exact hx x hxx
        have hA : ∀ i q, 1 ≤ q → q ≤ kw_lim c d → i + q < e + 1 → 2 ≤ kw_ti s c i q → ∀ m, m ≤ q → kw_gd s τ1 d (i + q - m) m := by
          intro i q a1 a2 a3 a4 m hm
          by_cases hie : i + q = e
          · have hqM : q ≤ M := by
              rcases Nat.lt_or_ge M q with h | h
              · have := m3 q h (hL01.2.2 q (by omega) a2)
                rw [show e - q = i by omega] at this
                omega
              · exact h
            rw [hie]; exact r3 m (by omega)
          · refine kw_gd_keep (by omega) (fun _ => by omega) (by omega) (fun _ h5 => ?_) (hg i q a1 a2 (by omega) a4 m hm)
            refine r4 _ (fun m' b1 b2 h6 => ?_)
            have := kw_ce_inj h1 h5 (by omega) b1 (by omega) h6
            omega
        obtain ⟨τ2, s1, s2, s3, s4⟩ := ih (e + 1) τ1 f (by omega) (by omega) (by omega) (by omega) (htf.trans r2) hA hcells
        refine ⟨τ2, ?_, s2, s3, s4⟩
        rw [fp_X5_countWordsWithin_2_s, htf.1 0, hcm.2.1, if_neg (by rw [vt_leI (by omega) (by omega)]; omega), kw_shr hc h1 hd, eL0, m2]
        unfold fp_X5_countWordsWithin_43 fn_X5_countWords
        rw [vt_1, r1, Option.bind_some, nI_add]; exact s1
  unfold fn_X5_countWordsWithin
  obtain ⟨τ2, r1, r2, r3, r4⟩ := h2 (c - 1) 1 τ0 kb_FU (by omega) (by omega) (by omega) (by rw [vt_fu]; omega) (kw_tf.refl τ0) (fun i q a1 a2 a3 => absurd a3 (by omega)) (fun _ _ => rfl)
  refine ⟨τ2, by rw [vt_1]; exact r1, r2, fun i q a1 a2 a3 a4 m hm => ?_, r4⟩
  have := (kw_ti_iff (s := s) (c := c) (i := i) (q := q) (t := 2) a1 (by omega) (by omega)).mp a4
  exact r3 i q a1 a2 (by omega) a4 m hm
