theorem vt_b1 : ∀ s, s < 57 → BitVec.ofNat 64 s % 64 = BitVec.ofNat 64 s ∧ (BitVec.ofNat 64 s).smod 64 = BitVec.ofNat 64 s ∧ (BitVec.ofNat 64 s).toNat = s := by decide +kernel
theorem vt_b2 : ∀ i, (h : i < 32) → ¬ i < 8 → (Int32.toBitVec 255)[i] = false := by decide +kernel
theorem vt_byte1 (x : Int64) (s : Nat) (hs : s < 57) (u : UInt64) (v : Int64) (hu : u.toBitVec = BitVec.ofNat 64 s) (hv : v.toBitVec = BitVec.ofNat 64 s) :
    ((x.toUInt64 >>> u).toInt64).toInt32 &&& (255 : Int32) = (x >>> v).toInt32 &&& (255 : Int32) := by
  apply Int32.toBitVec_inj.mp
  obtain ⟨e1, e2, e3⟩ := vt_b1 s hs
  simp only [Int32.toBitVec_and, Int64.toBitVec_toInt32, UInt64.toBitVec_toInt64, UInt64.toBitVec_shiftRight, Int64.toBitVec_shiftRight, hu, hv, e1, e2]
  ext i hi
  rw [BitVec.getElem_and, BitVec.getElem_and]
  by_cases h8 : i < 8
  · congr 1
    rw [BitVec.signExtend_eq_setWidth_of_le _ (by decide), BitVec.signExtend_eq_setWidth_of_le _ (by decide), BitVec.getElem_setWidth, BitVec.getElem_setWidth]
    have e4 : x.toUInt64.toBitVec >>> BitVec.ofNat 64 s = x.toUInt64.toBitVec >>> s := by
      show x.toUInt64.toBitVec >>> (BitVec.ofNat 64 s).toNat = _
      rw [e3]
    have e5 : x.toBitVec.sshiftRight' (BitVec.ofNat 64 s) = x.toBitVec.sshiftRight s := by
      show x.toBitVec.sshiftRight (BitVec.ofNat 64 s).toNat = _
      rw [e3]
    rw [e4, e5, BitVec.getLsbD_ushiftRight, BitVec.getLsbD_sshiftRight]
    have e6 : s + i < 64 := by omega
    have e7 : ¬ 64 ≤ i := by omega
    simp [e6, e7]
  · rw [vt_b2 i hi h8, Bool.and_false, Bool.and_false]
theorem vt_b3 : ∀ k, k < 8 → (((8 : Int32) * nI k).toInt64.toUInt64 &&& Int64.toUInt64 63).toBitVec = BitVec.ofNat 64 (8 * k) ∧ (((8 : Int32) * nI k).toInt64 &&& 63).toBitVec = BitVec.ofNat 64 (8 * k) := by decide +kernel
theorem vt_byte (x : Int64) {k : Nat} (hk : k < 8) : ∃ b, b < 256 ∧ ((x.toUInt64 >>> (((8 : Int32) * nI k).toInt64.toUInt64 &&& Int64.toUInt64 63)).toInt64).toInt32 &&& (255 : Int32) = nI b ∧ ((x >>> (((8 : Int32) * nI k).toInt64 &&& 63)).toInt32) &&& (255 : Int32) = nI b := by
  obtain ⟨h1, h2⟩ := vt_b3 k hk
  rw [vt_byte1 x (8 * k) (by omega) _ _ h1 h2]
  refine ⟨((x >>> (((8 : Int32) * nI k).toInt64 &&& 63)).toInt32 &&& 255).toBitVec.toNat, ?_, ?_, ?_⟩
  · generalize (x >>> (((8 : Int32) * nI k).toInt64 &&& 63)).toInt32 = y
    have : (y &&& 255).toBitVec = y.toBitVec &&& 255#32 := rfl
    rw [this, BitVec.toNat_and]
    have : (255#32).toNat = 2 ^ 8 - 1 := rfl
    rw [this, Nat.and_two_pow_sub_one_eq_mod]
    exact Nat.mod_lt _ (by decide)
  all_goals
    apply Int32.toBitVec_inj.mp
    show _ = BitVec.ofNat 32 _
    rw [BitVec.ofNat_toNat, BitVec.setWidth_eq]
theorem vt_feed {k : Nat} : ∀ (fu tl : Nat) (tp : Nat → Nat) (σ μ : kb_S) (x : Int64), k < fu → k ≤ 8 → tl + k ≤ 200 → vt_T tl tp σ μ → ∃ σ2 μ2 tp2, fp_X7_add_5 fu x (nI k - nI 1) σ = some σ2 ∧ fp_X9_feed_49 fu x (nI k - nI 1) μ = some (μ2, nI (tl + k)) ∧ vt_T (tl + k) tp2 σ2 μ2 ∧
    (∀ j, j ≠ 0 → kb_g σ2 j = kb_g σ j ∧ kb_a σ2 j = kb_a σ j) ∧ (∀ j, j ≠ 1 → kb_g μ2 j = kb_g μ j) ∧ (∀ j, j ≠ 0 → kb_a μ2 j = kb_a μ j) := by
  induction k with
  | zero =>
      intro fu tl tp σ μ x h1 h2 h3 hT
      obtain ⟨n, rfl⟩ : ∃ n, fu = n + 1 := ⟨fu - 1, by omega⟩
      refine ⟨σ, μ, tp, ?_, ?_, hT, fun _ _ => ⟨rfl, rfl⟩, fun _ _ => rfl, fun _ _ => rfl⟩
      · rw [fp_X7_add_5_s, if_pos (by decide)]
      · rw [fp_X9_feed_49_s, if_pos (by decide), hT.2.2.1]; rfl
  | succ k ih =>
      intro fu tl tp σ μ x h1 h2 h3 hT
      obtain ⟨n, rfl⟩ : ∃ n, fu = n + 1 := ⟨fu - 1, by omega⟩
      obtain ⟨t1, t2, t3, t4⟩ := hT
      obtain ⟨b, hb, b1, b2⟩ := vt_byte x (k := k) (by omega)
      have e : nI (k + 1) - nI 1 = nI k := by rw [pk_sub (by omega)]; rfl
      have e2 : nI k + (-1 : Int32) = nI k - nI 1 := by rw [Int32.sub_eq_add_neg]; rfl
      have hT2 : vt_T (tl + 1) (fun i => if i = tl then b else tp i) (kb_p (kb_ap σ 0 tl (nI b)) 0 (nI (tl + 1))) (kb_p (kb_ap μ 0 tl (nI b)) 1 (nI (tl + 1))) := by
        refine ⟨by omega, rfl, rfl, fun i hi => ?_⟩
        simp only [vt_ap, vt_aa, if_true, vt_upd]
        by_cases hi2 : i = tl
        · simp only [if_pos hi2, and_self, and_true]; exact hb
        · simp only [if_neg hi2]; exact t4 i (by omega)
      obtain ⟨σ2, μ2, tp2, r1, r2, r3, r4, r5, r6⟩ := ih n (tl + 1) _ _ _ x (by omega) (by omega) (by omega) hT2
      refine ⟨σ2, μ2, tp2, ?_, ?_, ?_, ?_, ?_, ?_⟩
      · rw [fp_X7_add_5_s, e, if_neg (vt_neg (by omega)), t2, if_neg (by rw [vt_200, vt_leI (by omega) (by omega)]; omega), if_pos (vt_in' (by omega) (by omega)), e2, b1, nI_clamp (by omega), vt_1, nI_add, r1]
      · rw [fp_X9_feed_49_s, e, if_neg (vt_neg (by omega)), t3, if_pos (vt_in' (by omega) (by omega)), e2, b2, nI_clamp (by omega), vt_1, nI_add, r2, show tl + 1 + k = tl + (k + 1) by omega]
      · rw [show tl + (k + 1) = tl + 1 + k by omega]; exact r3
      · intro j hj; obtain ⟨p1, p2⟩ := r4 j hj; rw [p1, p2]; simp only [vt_gp, vt_ga, vt_ap, vt_aa, if_neg hj, and_self]
      · intro j hj; rw [r5 j hj]; simp only [vt_gp, vt_ga, if_neg hj]
      · intro j hj; rw [r6 j hj]; simp only [vt_ap, vt_aa, if_neg hj]
theorem vt_ok_feed : ok_feed vt_I := by
  intro σ T μ x y h
  have hi : fn_X9_in y 1 8 = if y < 1 ∨ ¬ y ≤ 8 then 0 else 1 := by
    unfold fn_X9_in
    by_cases h1 : y < 1
    · rw [if_pos h1, if_pos (Or.inl h1)]
    · rw [if_neg h1]
      by_cases h2 : y ≤ 8
      · rw [if_neg (Int32.not_lt.mpr h2), if_neg (fun h3 => h3.elim h1 (fun h4 => h4 h2))]
      · rw [if_pos (Int32.not_le.mp h2), if_pos (Or.inr h2)]
  by_cases hb : y < 1 ∨ ¬ y ≤ 8
  · refine ⟨σ, kb_p μ 0 1, 1, 0, 0, ?_, ?_, h.thr 1, Or.inr (Or.inl ⟨rfl, rfl⟩)⟩
    · unfold fn_X8_feed fp_X8_feed_11
      by_cases h1 : y < 1
      · rw [if_pos h1]
      · rw [if_neg h1, if_neg (hb.resolve_left h1)]
    · unfold fn_X9_feed fp_X9_feed_32
      rw [if_pos (by rw [hi, if_pos hb]), if_neg (by decide)]
  · have h1 : ¬ y < 1 := fun h1 => hb (Or.inl h1)
    have h2 : y ≤ 8 := Classical.byContradiction fun h2 => hb (Or.inr h2)
    have h0 : ¬ y < 0 := fun h3 => h1 (Int32.lt_iff_toInt_lt.mpr (by have := Int32.lt_iff_toInt_lt.mp h3; have e0 : (0 : Int32).toInt = 0 := rfl; have e1 : (1 : Int32).toInt = 1 := rfl; omega))
    obtain ⟨n, hn, rfl⟩ := vt_nat h0
    rw [vt_1, vt_ltI hn (by omega)] at h1
    rw [vt_8, vt_leI hn (by omega)] at h2
    have hh := h.thr 2
    obtain ⟨⟨tl, tp, hT⟩, ⟨w, R, F, G, S, hK, hF⟩, hO⟩ := h
    have h3 := hT.1
    have e9 : fn_X9_feed x (nI n) μ = if tl + n ≤ 200 then fp_X9_feed_49 kb_FU x (nI n - nI 1) (kb_p μ 0 0) else some (kb_p μ 0 2, 0) := by
      unfold fn_X9_feed fp_X9_feed_32
      rw [if_neg (by rw [hi, if_neg hb]; decide), hT.2.2.1]
      by_cases h4 : tl + n ≤ 200
      · rw [if_pos (by rw [nI_add, vt_200, vt_leI (by omega) (by omega)]; exact h4), if_pos h4, if_pos (by decide)]; rfl
      · rw [if_neg (by rw [nI_add, vt_200, vt_leI (by omega) (by omega)]; exact h4), if_neg h4, if_neg (by decide)]
    have e8 : fn_X8_feed x (nI n) σ = if tl + n ≤ 200 then (fp_X7_add_5 kb_FU x (nI n - nI 1) σ).bind fun q => some (q, (0, kb_g q 0)) else some (σ, (2, 0)) := by
      unfold fn_X8_feed fn_X7_hasRoomFor fn_X7_add fn_X7_length
      rw [if_neg (by rw [vt_1, vt_ltI hn (by omega)]; omega), if_pos (by rw [vt_8, vt_leI hn (by omega)]; omega), hT.2.1, vt_200, pk_sub (by omega)]
      by_cases h4 : tl + n ≤ 200
      · rw [if_neg (by rw [if_neg (by rw [vt_ltI (by omega) (by omega)]; omega)]; decide), if_pos h4]; rfl
      · rw [if_pos (by rw [if_pos (by rw [vt_ltI (by omega) (by omega)]; omega)]), if_neg h4]
    by_cases h4 : tl + n ≤ 200
    · obtain ⟨σ2, μ2, tp2, r1, r2, r3, r4, r5, r6⟩ := vt_feed (k := n) kb_FU tl tp σ (kb_p μ 0 0) x (by rw [vt_fu]; omega) (by omega) h4 (hT.mu rfl rfl)
      refine ⟨σ2, μ2, 0, nI (tl + n), nI (tl + n), ?_, ?_, ⟨⟨tl + n, tp2, r3⟩, ⟨w, R, F, G, S, hK, hF.same (fun k hk _ => r4 k (by omega)) (fun k hk _ => ?_) (fun k hk _ => ?_)⟩, hO.mu ?_ ?_⟩, Or.inl ⟨rfl, ?_, rfl⟩⟩
      · rw [e8, if_pos h4, r1, Option.bind_some, r3.2.1]
      · rw [e9, if_pos h4, r2]
      · rw [r5 k (by omega), vt_gp, if_neg (by omega)]
      · rw [r6 k (by omega)]; rfl
      · rw [r5 11 (by decide)]; rfl
      · rw [r6 14 (by decide)]; rfl
      · unfold fn_X9_thrown; rw [r5 0 (by decide)]; rfl
    · refine ⟨σ, kb_p μ 0 2, 2, 0, 0, ?_, ?_, hh, Or.inr (Or.inr ⟨rfl, rfl⟩)⟩
      · rw [e8, if_neg h4]
      · rw [e9, if_neg h4]
