/-! stretches of a plan that are balanced: height, from, to, loops that they take, weight of stitches, of brackets -/
def kq_seg (K N O : Nat → Nat) (h a e T W B : Nat) : Prop :=
  ∀ Q : Nat → Nat → Nat → Nat → Nat → Nat → Prop, (∀ a, Q 0 a a 0 0 0) →
    (∀ h a e T W B wt, Q h a e T W B → vt_vs (K e) = true → 1 ≤ N e → N e ≤ 99 → 4 * (N e * vt_tk (K e)) ≤ 99 * wt → Q h a (e + 1) (T + N e * vt_tk (K e)) (W + wt) B) →
    (∀ h a e T W B h2 c T2 W2 B2, Q h a e T W B → Q h2 (e + 1) c T2 W2 B2 → K e = 20 → O e = c → K c = 21 → O c = e → 2 ≤ N e → N e ≤ 99 → Q (max h (h2 + 1)) a (c + 1) (T + N e * T2) (W + W2) (B + B2 + 4)) → Q h a e T W B
theorem kq_seg_nil {K N O : Nat → Nat} (a : Nat) : kq_seg K N O 0 a a 0 0 0 := fun _ h1 _ _ => h1 a
theorem kq_seg_st {K N O : Nat → Nat} {h a e T W B wt : Nat} (hs : kq_seg K N O h a e T W B) (h1 : vt_vs (K e) = true) (h2 : 1 ≤ N e) (h3 : N e ≤ 99) (h4 : 4 * (N e * vt_tk (K e)) ≤ 99 * wt) : kq_seg K N O h a (e + 1) (T + N e * vt_tk (K e)) (W + wt) B :=
  fun Q q1 q2 q3 => q2 _ _ _ _ _ _ _ (hs Q q1 q2 q3) h1 h2 h3 h4
theorem kq_seg_gr {K N O : Nat → Nat} {h a e T W B h2 c T2 W2 B2 : Nat} (hs : kq_seg K N O h a e T W B) (hs2 : kq_seg K N O h2 (e + 1) c T2 W2 B2) (k1 : K e = 20) (k2 : O e = c) (k3 : K c = 21) (k4 : O c = e) (k5 : 2 ≤ N e) (k6 : N e ≤ 99) : kq_seg K N O (max h (h2 + 1)) a (c + 1) (T + N e * T2) (W + W2) (B + B2 + 4) :=
  fun Q q1 q2 q3 => q3 _ _ _ _ _ _ _ _ _ _ _ (hs Q q1 q2 q3) (hs2 Q q1 q2 q3) k1 k2 k3 k4 k5 k6
theorem kq_seg_bd {K N O : Nat → Nat} {h a e T W B : Nat} (hs : kq_seg K N O h a e T W B) : a ≤ e ∧ 4 * T ≤ 99 ^ (h + 1) * W ∧ 4 * h ≤ B := by
  refine hs (fun h a e T W B => a ≤ e ∧ 4 * T ≤ 99 ^ (h + 1) * W ∧ 4 * h ≤ B) ?_ ?_ ?_
  · intro a; simp
  · intro h a e T W B wt ⟨q1, q2, q3⟩ h1 h2 h3 h4
    refine ⟨by omega, ?_, q3⟩
    have e1 : 99 ≤ 99 ^ (h + 1) := by
      have : 99 ^ 1 ≤ 99 ^ (h + 1) := Nat.pow_le_pow_right (by omega) (by omega)
      simpa using this
    have e2 : 99 * wt ≤ 99 ^ (h + 1) * wt := Nat.mul_le_mul_right _ e1
    rw [Nat.mul_add, Nat.mul_add]; omega
  · intro h a e T W B h2 c T2 W2 B2 ⟨q1, q2, q3⟩ ⟨r1, r2, r3⟩ k1 k2 k3 k4 k5 k6
    refine ⟨by omega, ?_, by omega⟩
    have e1 : 99 ^ (h + 1) ≤ 99 ^ (max h (h2 + 1) + 1) := Nat.pow_le_pow_right (by omega) (by omega)
    have e2 : 99 * 99 ^ (h2 + 1) ≤ 99 ^ (max h (h2 + 1) + 1) := by
      have : 99 * 99 ^ (h2 + 1) = 99 ^ (h2 + 1 + 1) := by rw [Nat.pow_succ 99 (h2 + 1)]; exact Nat.mul_comm _ _
      rw [this]; exact Nat.pow_le_pow_right (by omega) (by omega)
    have e3 : 99 ^ (h + 1) * W ≤ 99 ^ (max h (h2 + 1) + 1) * W := Nat.mul_le_mul_right _ e1
    have e4 : 4 * (N e * T2) ≤ 99 ^ (max h (h2 + 1) + 1) * W2 := by
      have f1 : 4 * (N e * T2) = N e * (4 * T2) := by rw [Nat.mul_left_comm]
      have f2 : N e * (4 * T2) ≤ 99 * (99 ^ (h2 + 1) * W2) := Nat.mul_le_mul k6 r2
      have f3 : 99 * (99 ^ (h2 + 1) * W2) = 99 * 99 ^ (h2 + 1) * W2 := (Nat.mul_assoc _ _ _).symm
      have f4 : 99 * 99 ^ (h2 + 1) * W2 ≤ 99 ^ (max h (h2 + 1) + 1) * W2 := Nat.mul_le_mul_right _ e2
      omega
    rw [Nat.mul_add, Nat.mul_add]; omega
theorem kq_seg_eq {K N O K2 N2 O2 : Nat → Nat} {h a e T W B : Nat} (hs : kq_seg K N O h a e T W B) (hq : ∀ k, a ≤ k → k < e → K2 k = K k ∧ N2 k = N k ∧ O2 k = O k) : kq_seg K2 N2 O2 h a e T W B := by
  refine (hs (fun h a e T W B => a ≤ e ∧ ((∀ k, a ≤ k → k < e → K2 k = K k ∧ N2 k = N k ∧ O2 k = O k) → kq_seg K2 N2 O2 h a e T W B)) ?_ ?_ ?_).2 hq
  · intro a; exact ⟨Nat.le_refl _, fun _ => kq_seg_nil a⟩
  · intro h a e T W B wt ⟨q1, q2⟩ h1 h2 h3 h4
    refine ⟨by omega, fun hq => ?_⟩
    obtain ⟨x1, x2, x3⟩ := hq e q1 (by omega)
    have := kq_seg_st (wt := wt) (q2 (fun k k1 k2 => hq k k1 (by omega))) (by rw [x1]; exact h1) (by rw [x2]; exact h2) (by rw [x2]; exact h3) (by rw [x1, x2]; exact h4)
    rw [x1, x2] at this; exact this
  · intro h a e T W B h2 c T2 W2 B2 ⟨q1, q2⟩ ⟨r1, r2⟩ k1 k2 k3 k4 k5 k6
    refine ⟨by omega, fun hq => ?_⟩
    obtain ⟨x1, x2, x3⟩ := hq e q1 (by omega)
    obtain ⟨y1, y2, y3⟩ := hq c (by omega) (by omega)
    have := kq_seg_gr (q2 (fun k k1 k2 => hq k k1 (by omega))) (r2 (fun k k1 k2 => hq k (by omega) (by omega))) (by rw [x1]; exact k1) (by rw [x3]; exact k2) (by rw [y1]; exact k3) (by rw [y3]; exact k4) (by rw [x2]; exact k5) (by rw [x2]; exact k6)
    rw [x2] at this; exact this
/-- the loops of a repeat's row are few enough for an int not to lie about them -/
theorem kq_seg_T {K N O : Nat → Nat} {h a e T W B : Nat} (hs : kq_seg K N O h a e T W B) (hh : h ≤ 3) (hW : W + B ≤ 189) : T ≤ 4250637345 := by
  obtain ⟨-, h2, h3⟩ := kq_seg_bd hs
  rcases Nat.lt_or_ge h 3 with h4 | h4
  · have e1 : 99 ^ (h + 1) ≤ 99 ^ 3 := Nat.pow_le_pow_right (by omega) (by omega)
    have e2 : 99 ^ (h + 1) * W ≤ 99 ^ 3 * 189 := Nat.mul_le_mul e1 (by omega)
    have e3 : (99 : Nat) ^ 3 = 970299 := by decide
    omega
  · have h5 : h = 3 := by omega
    subst h5
    have e3 : (99 : Nat) ^ (3 + 1) = 96059601 := by decide
    rw [e3] at h2
    have : 96059601 * W ≤ 96059601 * 177 := Nat.mul_le_mul_left _ (by omega)
    omega
theorem kq_i64 {N : Nat} (h : N < 2 ^ 31) : (nI N).toInt64 = Int64.ofNat N := by
  apply Int64.toInt_inj.mp
  rw [Int32.toInt_toInt64, vt_int h, Int64.toInt_ofNat_of_lt (by omega)]
/-! what a right word, number, item leaves -/
theorem kq_w_ok {b : Nat → Nat} : ∀ (cs : List Nat) {p : Nat}, (kq_w b cs (0, p)).1 = 0 → (kq_w b cs (0, p)).2 = p + cs.length
  | [], p, _ => rfl
  | c :: cs, p, h => by
      rw [kq_w, if_pos rfl] at *
      by_cases hb : b p = c
      · simp only [if_pos hb] at *
        rw [kq_w_ok cs h]; simp; omega
      · simp only [if_neg hb] at *
        rw [kq_w_wrong cs (s := (1, p)) (by simp)] at h
        exact absurd h (by simp)
theorem kq_n_ok {b : Nat → Nat} {least p : Nat} (hl : least ≤ 2) (h : (kq_n b least p).1 = 0) : least ≤ (kq_n b least p).2.2 ∧ (kq_n b least p).2.2 ≤ 99 ∧ (((kq_n b least p).2.1 = p + 1 ∧ (kq_n b least p).2.2 ≤ 9 ∧ b p < 256) ∨ ((kq_n b least p).2.1 = p + 2 ∧ b (p + 1) < 256)) := by
  by_cases h1 : kq_isd b p = true ∧ ¬ (b p = 48 ∧ 0 < least)
  · have hd := kq_isd_iff.mp h1.1
    by_cases h2 : b p = 48
    · have hl0 : least = 0 := by omega
      subst hl0
      rw [kq_n_zero h2] at *
      dsimp only at *
      omega
    · have hd1 : 49 ≤ b p ∧ b p ≤ 57 := by omega
      by_cases h3 : kq_isd b (p + 1) = true
      · have hd2 := kq_isd_iff.mp h3
        rw [kq_n_two hd1 h3] at *
        dsimp only at *
        omega
      · by_cases h4 : b p - 48 < least
        · rw [kq_n_less hd1 h3 h4] at h; exact absurd h (by simp)
        · rw [kq_n_one hd1 h3 h4] at *
          dsimp only at *
          omega
  · rw [kq_n_bad h1] at h; exact absurd h (by simp)
/-- a right item: what is known of it -/
def kq_good (b : Nat → Nat) (p : Nat) (r : Nat × Nat × Nat × Nat) : Prop := r.1 = 0 → vt_vs r.2.2.1 = true ∧ 1 ≤ r.2.2.2 ∧ r.2.2.2 ≤ 99 ∧ p < r.2.1 ∧ (∃ q, r.2.1 = q + 1 ∧ b q < 256) ∧ 4 * (r.2.2.2 * vt_tk r.2.2.1) ≤ 99 * (r.2.1 - p + 1)
theorem kq_w_last {b : Nat → Nat} : ∀ (cs : List Nat) (hc : ∀ c ∈ cs, c < 256) {p : Nat}, cs ≠ [] → (kq_w b cs (0, p)).1 = 0 → ∃ q, p + cs.length = q + 1 ∧ b q < 256
  | [], _, _, h, _ => absurd rfl h
  | [c], hc, p, _, h => by
      rw [kq_w1] at h
      by_cases hb : b p = c
      · exact ⟨p, rfl, by rw [hb]; exact hc c (List.mem_cons_self ..)⟩
      · rw [if_neg hb] at h; exact absurd h (by simp)
  | c :: d :: cs, hc, p, _, h => by
      rw [kq_w, if_pos rfl] at h
      by_cases hb : b p = c
      · simp only [if_pos hb] at h
        obtain ⟨q, q1, q2⟩ := kq_w_last (d :: cs) (fun x hx => hc x (List.mem_cons_of_mem _ hx)) (by simp) h
        exact ⟨q, by simp at *; omega, q2⟩
      · simp only [if_neg hb] at h
        rw [kq_w_wrong _ (s := (1, p)) (by simp)] at h
        exact absurd h (by simp)
theorem kq_nm_good {b : Nat → Nat} {cs : List Nat} {s p : Nat} (hc : ∀ c ∈ cs, c < 256) (h1 : cs ≠ []) (hs : vt_vs s = true) (h2 : vt_tk s ≤ 1) : kq_good b p (kq_nm b cs s p) := by
  unfold kq_good kq_nm kq_pl
  have hlen : 1 ≤ cs.length := by cases cs with | nil => exact absurd rfl h1 | cons => simp
  by_cases h0 : (kq_w b cs (0, p)).1 = 0
  · have e := kq_w_ok cs h0
    obtain ⟨q, q1, q2⟩ := kq_w_last cs hc h1 h0
    rw [if_pos h0]
    by_cases hd : kq_isd b (kq_w b cs (0, p)).2 = true
    · rw [if_pos hd]
      dsimp only
      intro h3
      obtain ⟨n1, n2, n3⟩ := kq_n_ok (by omega) h3
      have hm : (kq_n b 1 (kq_w b cs (0, p)).2).2.2 * vt_tk s ≤ (kq_n b 1 (kq_w b cs (0, p)).2).2.2 * 1 := Nat.mul_le_mul_left _ h2
      rcases n3 with ⟨a1, a2, a3⟩ | ⟨a1, a2⟩
      · exact ⟨hs, n1, n2, by omega, ⟨_, a1, a3⟩, by omega⟩
      · exact ⟨hs, n1, n2, by omega, ⟨(kq_w b cs (0, p)).2 + 1, by omega, a2⟩, by omega⟩
    · rw [if_neg hd]
      dsimp only
      intro _
      exact ⟨hs, by omega, by omega, by omega, ⟨q, by omega, q2⟩, by omega⟩
  · rw [if_neg h0]
    dsimp only
    intro h3; exact absurd h3 h0
theorem kq_sg_good {b : Nat → Nat} {cs : List Nat} {s p : Nat} (hc : ∀ c ∈ cs, c < 256) (h1 : cs ≠ []) (hs : vt_vs s = true) : kq_good b p (kq_sg b cs s p) := by
  unfold kq_good kq_sg
  dsimp only
  intro h0
  have hlen : 1 ≤ cs.length := by cases cs with | nil => exact absurd rfl h1 | cons => simp
  have e := kq_w_ok cs h0
  obtain ⟨q, q1, q2⟩ := kq_w_last cs hc h1 h0
  have ht := (vt_st hs).2.2.2.2.2.2.1
  exact ⟨hs, by omega, by omega, by omega, ⟨q, by omega, q2⟩, by omega⟩
theorem kq_st_good (b : Nat → Nat) (fst : Bool) (p : Nat) : kq_good b p (kq_st b fst p) := by
  unfold kq_st
  split
  · split
    · exact kq_sg_good (by decide) (by decide) (by decide)
    · split
      · exact kq_sg_good (by decide) (by decide) (by decide)
      · split
        · exact kq_sg_good (by decide) (by decide) (by decide)
        · exact kq_nm_good (by decide) (by decide) (by decide) (by decide)
  · split
    · exact kq_nm_good (by decide) (by decide) (by decide) (by decide)
    · split
      · split
        · exact kq_sg_good (by decide) (by decide) (by decide)
        · exact kq_nm_good (by decide) (by decide) (by decide) (by decide)
      · split
        · exact kq_nm_good (by decide) (by decide) (by decide) (by decide)
        · split
          · exact kq_nm_good (by decide) (by decide) (by decide) (by decide)
          · split
            · split
              · unfold kq_good kq_ct kq_cn
                by_cases h0 : (kq_w b [99, 97, 115, 116] (0, p)).1 = 0
                · have e := kq_w_ok _ h0
                  rw [if_pos h0]
                  dsimp only
                  intro h3
                  obtain ⟨n1, n2, n3⟩ := kq_n_ok (by omega) h3
                  have hz : vt_tk 9 = 0 := by decide
                  rw [hz, Nat.mul_zero]
                  simp only [List.length] at e
                  rcases n3 with ⟨a1, a2, a3⟩ | ⟨a1, a2⟩
                  · exact ⟨by decide, n1, n2, by omega, ⟨_, a1, a3⟩, by omega⟩
                  · exact ⟨by decide, n1, n2, by omega, ⟨(kq_w b [99, 97, 115, 116] (0, p)).2 + 1, by omega, a2⟩, by omega⟩
                · rw [if_neg h0]
                  dsimp only
                  intro h3; exact absurd h3 h0
              · unfold kq_good kq_cb
                intro h0
                obtain ⟨a0, a1, a2, a3, a4, a5, a6, a7⟩ := kq_cx_ok h0
                have hv := kq_cx_vs h0
                have ht := (vt_st hv).2.2.2.2.2.2.1
                have e := kq_w_ok _ a0
                simp only [List.length] at e
                have f1 : (kq_cx b (kq_w b [99] (0, p))).2.1 = (kq_w b [99] (0, p)).2 + 4 := by rw [a7]
                have f2 : (kq_cx b (kq_w b [99] (0, p))).2.2.2 = 1 := by rw [a7]
                refine ⟨hv, by omega, by omega, by omega, ⟨(kq_w b [99] (0, p)).2 + 3, by omega, by omega⟩, ?_⟩
                rw [f2, Nat.one_mul]; omega
            · unfold kq_good; intro h; exact absurd h (by simp)
