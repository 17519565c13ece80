/-! shorten -/
theorem kw_tellRow {σ : kb_S} {r c : Nat} {s : Nat → Nat} (hc : c ≤ 80) (hc1 : 1 ≤ c) (hcount : fn_X0_stitchCount (nI r) σ = some (nI c)) (hat : ∀ k, k < c → fn_X0_stitchAt (nI r) (nI k) σ = some (nI (s k))) (hv : ∀ k, k < c → vt_vs (s k) = true) (τ : kb_S) : ∃ τ2, fn_X5_tellRow σ (nI r) τ = some (τ2, nI (kw_W s 0 0 c)) ∧ kb_g τ2 1 = nI (kw_X s 0 0 c).length ∧ ∀ k v, (kw_X s 0 0 c)[k]? = some v → kb_a τ2 3 k = nI v := by
  -- the stitches
  have h16 : ∀ (m k : Nat) (τ : kb_S) (fu : Nat), k + m = c → m < fu → kb_g τ 0 = nI c → (∀ j, j < k → kb_a τ 2 j = nI (s j)) → ∃ τ2, fp_X5_tellRow_16 σ fu (nI r) (nI k) τ = fp_X5_tellRow_44 σ kb_FU 1 τ2 ∧ kb_g τ2 0 = nI c ∧ ∀ j, j < c → kb_a τ2 2 j = nI (s j) := by
    intro m
    induction m with
    | zero =>
        intro k τ fu hk hf hg ha
        obtain ⟨f, rfl⟩ : ∃ f, fu = f + 1 := ⟨fu - 1, by omega⟩
        refine ⟨τ, ?_, hg, fun j hj => ha j (by omega)⟩
        rw [fp_X5_tellRow_16_s, hg, if_pos (by rw [vt_leI (by omega) (by omega)]; omega)]
    | succ m ih =>
        intro k τ fu hk hf hg ha
        obtain ⟨f, rfl⟩ : ∃ f, fu = f + 1 := ⟨fu - 1, by omega⟩
        obtain ⟨τ2, r1, r2, r3⟩ := ih (k + 1) (kb_ap τ 2 k (nI (s k))) f (by omega) (by omega) hg (fun j hj => by
          rw [vt_aax]
          by_cases h : j = k
          · rw [if_pos ⟨rfl, h⟩, h]
          · rw [if_neg (fun h2 => h h2.2)]; exact ha j (by omega))
        refine ⟨τ2, ?_, r2, r3⟩
        rw [fp_X5_tellRow_16_s, hg, if_neg (by rw [vt_leI (by omega) (by omega)]; omega), hat k (by omega), Option.bind_some, if_pos (vt_in' (by omega) (by omega)), nI_clamp (by omega), vt_1, nI_add]
        exact r1
  -- what is the same
  have h44 : ∀ (m q : Nat) (τ : kb_S) (fu : Nat), q + m = c / 2 + 1 → 1 ≤ q → m < fu → kb_g τ 0 = nI c → (∀ j, j < c → kb_a τ 2 j = nI (s j)) → (∀ i, i < c → ∀ q', 1 ≤ q' → q' < q → kb_a τ 1 (i * 40 + q' - 1) = nI (kw_sm s c q' (c - i))) → ∃ τ2, fp_X5_tellRow_44 σ fu (nI q) τ = fp_X5_tellRow_67 σ kb_FU 3 τ2 ∧ kw_cm s c τ2 := by
    intro m
    induction m with
    | zero =>
        intro q τ fu hq hq1 hf hg ha hs
        obtain ⟨f, rfl⟩ : ∃ f, fu = f + 1 := ⟨fu - 1, by omega⟩
        refine ⟨τ, ?_, hc, hg, fun k hk => ⟨hv k hk, ha k hk⟩, fun i hi q' h1 h2 => hs i hi q' h1 (by omega)⟩
        rw [fp_X5_tellRow_44_s, hg, vt_2, pk_div (by omega) (by omega) (by omega), if_pos (by rw [vt_ltI (by omega) (by omega)]; omega)]
    | succ m ih =>
        intro q τ fu hq hq1 hf hg ha hs
        obtain ⟨f, rfl⟩ : ∃ f, fu = f + 1 := ⟨fu - 1, by omega⟩
        obtain ⟨τ1, r1, r2, r3, r4, r5⟩ := kw_sames1 (s := s) (c := c) (q := q) hc hq1 (by omega) (τ0 := τ) hg (fun k hk => ⟨hv k hk, ha k hk⟩) c τ kb_FU (Nat.le_refl c) (by rw [vt_fu]; omega) (fun _ => rfl) (fun _ _ => rfl)
        obtain ⟨τ2, s1, s2⟩ := ih (q + 1) τ1 f (by omega) (by omega) (by omega) (by rw [r2]; exact hg) (fun j hj => by rw [r3 2 (by decide)]; exact ha j hj) (fun i hi q' h1 h2 => by
          by_cases h : q' = q
          · rw [h]; exact r4 i hi
          · rw [r5 _ (fun i' hi' => by omega)]; exact hs i hi q' h1 (by omega))
        refine ⟨τ2, ?_, s2⟩
        rw [fp_X5_tellRow_44_s, hg, vt_2, pk_div (by omega) (by omega) (by omega), if_neg (by rw [vt_ltI (by omega) (by omega)]; omega)]
        unfold fn_X5_countSames
        rw [if_neg (by omega), Nat.sub_self, show kw_sm s c q 0 = 0 from rfl] at r1
        rw [hg, vt_1, pk_sub hc1, vt_0, r1, Option.bind_some, nI_add]
        exact s1
  obtain ⟨τa, a1, a2, a3⟩ := h16 c 0 (kb_p τ 0 (nI c)) kb_FU (by omega) (by rw [vt_fu]; omega) rfl (fun j hj => absurd hj (by omega))
  obtain ⟨τb, b1, b2⟩ := h44 (c / 2) 1 τa kb_FU (by omega) (by omega) (by rw [vt_fu]; omega) a2 a3 (fun i hi q' h1 h2 => absurd h2 (by omega))
  -- the table
  obtain ⟨τ3, c1, c2, c3, c4⟩ := kw_within b2 (d := 3) (by omega) (by omega) (kw_tb4 hc)
  have hcm3 := b2.tf c2
  obtain ⟨τ2, d1, d2, d3, d4⟩ := kw_within hcm3 (d := 2) (by omega) (by omega) c3
  have hcm2 := hcm3.tf d2
  have t3 : kw_tb s c τ2 3 := c3.far hc (by omega) (show 2 < 3 by omega) d4
  obtain ⟨τ1, e1, e2, e3, e4⟩ := kw_within hcm2 (d := 1) (by omega) (by omega) d3
  have hcm1 := hcm2.tf e2
  have t2' : kw_tb s c τ1 2 := d3.far hc (by omega) (show 1 < 2 by omega) e4
  have t3' : kw_tb s c τ1 3 := t3.far hc (by omega) (show 1 < 3 by omega) e4
  obtain ⟨τ0, f1, f2, f3, f4⟩ := kw_countW hcm1 (d := 0) (e := c) (L := c) (by omega) (Nat.le_refl c) (Nat.le_refl c) (by show c ≤ 80; exact hc) c 1 τ1 kb_FU (by omega) (by omega) (by rw [vt_fu]; omega) (kw_tf.refl τ1) (fun m hm => by rw [show m = 0 by omega]; exact kw_gd0 (by omega)) (fun m h1 h2 q h3 h4 h5 => by
    have := e3 (c - m) q h3 (by show q ≤ c / 2; omega) (by omega) h5 q (Nat.le_refl q)
    rw [show c - m + q - q = c - m by omega] at this; exact this)
  have hcm0 := hcm1.tf f2
  have far0 : ∀ x, (∀ i n, 1 ≤ n → n ≤ kw_h 0 → i + n ≤ 80 → x ≠ kw_ce 0 i n) → kb_a τ0 0 x = kb_a τ1 0 x := fun x hx => f4 x (fun m h1 h2 => hx (c - m) m h1 (by show m ≤ 80; omega) (by omega))
  have hht0 : kw_ht s c τ0 := by
    refine ⟨hcm0, fun d h1 h2 => ?_⟩
    rcases (show d = 1 ∨ d = 2 ∨ d = 3 ∨ d = 4 by omega) with h | h | h | h
    · rw [h]; exact e3.far hc (by omega) (show 0 < 1 by omega) far0
    · rw [h]; exact t2'.far hc (by omega) (show 0 < 2 by omega) far0
    · rw [h]; exact t3'.far hc (by omega) (show 0 < 3 by omega) far0
    · rw [h]; exact kw_tb4 hc
  -- the text
  have hW := kw_le (s := s) 0 0 c
  have hXl := kw_X_len (s := s) c hc1 (by omega) 0 0
  have hht0' : kw_ht s c (kb_p τ0 1 0) := hht0.same rfl rfl rfl rfl
  obtain ⟨τx, g1, g2⟩ := kw_tell5 (s := s) (c := c) c hc1 0 0 0 5 (kb_p τ0 1 0) (by omega) (by omega) (by omega) (Nat.le_refl c) hht0' (fun k hk => by rw [Nat.zero_add]; exact (f3 k hk).same rfl) rfl (by omega)
  have hgw := f3 c (Nat.le_refl c)
  rw [Nat.sub_self] at hgw
  have hgx : kw_gd s τx 0 0 c := hgw.same (by rw [g2.2.2.1 0 (by decide) (by decide)]; rfl)
  unfold kw_gd at hgx
  refine ⟨τx, ?_, by rw [g2.1, Nat.zero_add], fun k v hk => by have := g2.2.2.2.2 k v hk; rw [Nat.zero_add] at this; exact this⟩
  have h67 : fp_X5_tellRow_67 σ kb_FU 3 τb = some (τx, nI (kw_W s 0 0 c)) := by
    rw [vt_fu, fp_X5_tellRow_67_s, if_neg (by decide), vt_3, c1, Option.bind_some, show nI 3 + (-1) = nI 2 from rfl, fp_X5_tellRow_67_s, if_neg (by decide), d1, Option.bind_some, show nI 2 + (-1) = nI 1 from rfl, fp_X5_tellRow_67_s, if_neg (by decide), e1, Option.bind_some, show nI 1 + (-1) = nI 0 from rfl, fp_X5_tellRow_67_s, if_pos (by decide), hcm1.2.1]
    unfold fn_X5_countWords
    rw [show (0 : Int32) = nI 0 from rfl, show (1 : Int32) = nI 1 from rfl, f1, Option.bind_some, hcm0.2.1]
    have g1' : fn_X5_tell 6 (nI 0) (nI c) (nI 0) (kb_p τ0 1 (nI 0)) = some τx := g1
    rw [g1', Option.bind_some, g2.2.1 0 (by decide), show kb_g (kb_p τ0 1 0) 0 = nI c from hcm0.2.1, hgx, Option.bind_some]
  unfold fn_X5_tellRow
  rw [hcount, Option.bind_some, vt_80, if_neg (by rw [vt_ltI (by omega) (by omega)]; omega), vt_0, a1, vt_1, b1, h67]
theorem vt_ok_shorten : ok_shorten vt_I := by
  intro σ T μ x h
  have hh := h.thr 1
  obtain ⟨⟨tl, tp, hT⟩, ⟨w, R, F, G, S, hK, hF⟩, hO⟩ := h
  have hR := hK.1
  rcases vt_req hK hF x with ⟨h1, h2⟩ | ⟨r, hr1, hr2, rfl, h1, h2⟩
  · refine ⟨kb_p μ 0 1, 0, ?_, Or.inl ⟨0, h1, rfl, hh⟩⟩
    unfold fn_X9_shorten; rw [h2, vt_says0, Option.bind_some, if_pos rfl]
  · have k6 := hK.2.2.2.2.2.1 r hr2
    have k6' := hK.2.2.2.2.2.1 (r - 1) (by omega)
    rw [show r - 1 + 1 = r by omega] at k6'
    have k8 := (hK.2.2.2.2.2.2.2 r hr1 hr2).1
    have hmono := (vt_mono hK (show r + 1 ≤ R + 1 by omega) (Nat.le_refl _)).2
    obtain ⟨g1, g2, -⟩ := hF.2.2.2.2.2.2.2.2.2.2.2.1 r hr1 hr2
    have hcnt := vt_stCount hK hF hr2
    have hat := fun k hk => vt_stAt hK hF (r := r) (k := k) hr2 hk
    have hvs : ∀ k, k < G (r + 1) - G r → vt_vs (S (G r + k)) = true := fun k hk => hK.2.2.2.2.2.2.1 _ (by omega)
    have hc1 : 1 ≤ G (r + 1) - G r := by
      rcases Nat.eq_zero_or_pos (G (r + 1) - G r) with h0 | h0
      · rw [h0] at k8
        have : vt_sum (fun i => vt_tk (S i)) (G r) 0 = 0 := rfl
        omega
      · exact h0
    have hc := k6.2.2.2
    generalize hcd : G (r + 1) - G r = c at *
    obtain ⟨s, hs⟩ : ∃ s : Nat → Nat, s = fun k => S (G r + k) := ⟨_, rfl⟩
    have hsk : ∀ k, s k = S (G r + k) := fun k => by rw [hs]
    -- the reference
    have hrow : kw_row s c r (kb_p (kb_p μ 0 0) 11 0) := ⟨by omega, hc, fun k hk => ⟨by rw [hsk]; exact vt_vs_lt (hvs k hk), by rw [hsk]; exact g2 k hk⟩⟩
    obtain ⟨μ1, r1, r2, r3⟩ := kw_reckon hrow (by exact g1)
    obtain ⟨μ2, p1, p2, p3, p4, p5⟩ := kw_push (h := 0) (by omega) (nI 0) (nI 0) (nI c) μ1
    have hW := kw_le (s := s) 0 0 c
    have hXl := kw_X_len (s := s) c hc1 (by omega) 0 0
    have hmc : kw_mc s c r μ2 := by
      refine ⟨⟨by omega, hc, fun k hk => ?_⟩, fun k hk => by rw [hsk]; exact hvs k hk, fun d i n a1 a2 a3 => ?_⟩
      · rw [p5 8 (by decide), r3.2 8 (by decide) (by decide)]; exact hrow.2.2 k hk
      · rw [p5 16 (by decide)]; exact (r2 d i n a1 a2 a3).2
    obtain ⟨k, μ3, q1, q2, q3, q4⟩ := kw_tellm (s := s) (N := c) (r := r) hc c hc1 hc 0 0 0 0 μ2 (by omega) (by omega) (by omega) hmc (by rw [p4, r3.1]; rfl) (by omega) p2
    have htell : fn_X9_tell (nI r) μ1 = some μ3 := by
      unfold fn_X9_tell
      rw [if_pos (vt_in' (by omega) (by omega)), nI_clamp (by omega), r3.2 7 (by decide) (by decide), show kb_a (kb_p (kb_p μ 0 0) 11 0) 7 r = nI c from g1, vt_0, p1, Option.bind_some]
      simp only
      rw [vt_fu, show 1000000000 = (999999999 - k + 1) + k by omega, q2, fp_X9_tell_14_s, if_pos (by decide)]
    have h15 : kb_a μ3 15 (kw_at 0 0 c) = nI (kw_W s 0 0 c) := by
      rw [q3.2.2.1 15 (by decide) (by decide), p5 15 (by decide)]; exact (r2 0 0 c (by omega) hc1 (by omega)).1
    have h7 : kb_a μ3 7 r = nI c := by
      rw [q3.2.2.1 7 (by decide) (by decide), p5 7 (by decide), r3.2 7 (by decide) (by decide)]; exact g1
    -- the class
    obtain ⟨τ2, t1, t2, t3⟩ := kw_tellRow (σ := σ) (r := r) (c := c) (s := s) hc hc1 hcnt (fun k hk => by rw [hsk]; exact hat k hk) (fun k hk => by rw [hsk]; exact hvs k hk) (T.getD kb_S0)
    have gm : ∀ j, j ≠ 0 → j ≠ 11 → kb_g μ3 j = kb_g μ j := fun j hj hj2 => by rw [q3.2.1 j hj2, p4, r3.1, vt_gp, if_neg hj2, vt_gp, if_neg hj]
    have am : ∀ j, j ≤ 13 → kb_a μ3 j = kb_a μ j := fun j hj => by rw [q3.2.2.1 j (by omega) (by omega), p5 j (by omega), r3.2 j (by omega) (by omega)]; rfl
    have h0 : kb_g μ3 0 = 0 := by rw [q3.2.1 0 (by decide), p4, r3.1]; rfl
    refine ⟨μ3, nI (kw_W s 0 0 c), ?_, Or.inr ⟨0, τ2, h1, t1, h0, ⟨tl, tp, hT.mu (gm 1 (by decide) (by decide)) (am 0 (by omega))⟩, ⟨w, R, F, G, S, hK, hF.same (fun _ _ _ => ⟨rfl, rfl⟩) (fun j h1 h2 => gm j (by omega) (by omega)) (fun j h1 h2 => am j (by omega))⟩, Or.inr ⟨τ2, (kw_X s 0 0 c).length, rfl, by omega, t2, by rw [q3.1, Nat.zero_add], fun i hi => ?_⟩⟩⟩
    · unfold fn_X9_shorten
      have hatl := kw_at_lt (d := 0) (i := 0) (n := c) (by omega) (by omega) hc
      rw [h2, vt_says1, Option.bind_some, if_neg (show ¬ (1 : Int32) = 0 by decide), r1, Option.bind_some, htell, Option.bind_some, if_pos (vt_in' (by omega) (by omega)), nI_clamp (by omega), h7, vt_0, kw_at_eq, if_pos (vt_in' (by omega) hatl), nI_clamp (by omega), h15]
    · have hget : (kw_X s 0 0 c)[i]? = some ((kw_X s 0 0 c)[i]) := List.getElem?_eq_getElem hi
      have e1 := t3 i _ hget
      have e2 := q3.2.2.2.2 i _ hget
      rw [Nat.zero_add] at e2
      rw [e1, e2]
