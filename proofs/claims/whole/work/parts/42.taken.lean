/-! the loops of a stretch, as the reference counts them -/
theorem kq_taken_seg {K N O : Nat → Nat} {μ : kb_S} {n : Nat} (hn : n ≤ 200) (hm : ∀ k, k < n → kb_a μ 9 k = nI (K k) ∧ kb_a μ 10 k = nI (N k) ∧ (K k = 21 → kb_a μ 12 k = nI (O k))) {h a e T W B : Nat} (hs : kq_seg K N O h a e T W B) : e ≤ n → ∀ t, t * 99 ^ h < 2 ^ 31 → ∀ E fu acc, e ≤ E → E ≤ n → fp_X9_taken_8 (fu + (e - a)) (nI E) acc (nI t) (nI a) μ = fp_X9_taken_8 fu (nI E) (acc + nI (t * T)) (nI t) (nI e) μ := by
  have key := hs (fun h a e T _ _ => a ≤ e ∧ (e ≤ n → ∀ t, t * 99 ^ h < 2 ^ 31 → ∀ E fu acc, e ≤ E → E ≤ n → fp_X9_taken_8 (fu + (e - a)) (nI E) acc (nI t) (nI a) μ = fp_X9_taken_8 fu (nI E) (acc + nI (t * T)) (nI t) (nI e) μ)) ?_ ?_ ?_
  · exact key.2
  · intro a
    refine ⟨Nat.le_refl a, fun _ t _ E fu acc _ _ => ?_⟩
    rw [Nat.sub_self, Nat.mul_zero, show nI 0 = 0 from rfl, Int32.add_zero]; rfl
  · intro h a e T W B wt ⟨ih1, ih2⟩ h1 h2 h3 h4
    refine ⟨by omega, fun he t ht E fu acc hE hE2 => ?_⟩
    have v3 := kq_vs3 h1
    have v4 := vt_vs_lt h1
    obtain ⟨m1, m2, _⟩ := hm e (by omega)
    rw [show fu + (e + 1 - a) = (fu + 1) + (e - a) by omega, ih2 (by omega) t ht E (fu + 1) acc (by omega) hE2, fp_X9_taken_8_s, if_neg (by rw [vt_leI (by omega) (by omega)]; omega), if_pos (vt_in' (by omega) (by omega)), nI_clamp (by omega), m1, m2, if_neg (by rw [show (20 : Int32) = nI 20 from rfl, vt_eqI (by omega) (by omega)]; exact v3.1), if_pos (vt_in' (by omega) (by omega)), if_neg (by rw [show (21 : Int32) = nI 21 from rfl, vt_eqI (by omega) (by omega)]; exact v3.2.1), if_pos (vt_in' (by omega) (by omega)), if_pos (vt_in' (by omega) (by omega)), (vt_st h1).2.2.1]
    unfold fp_X9_taken_97
    rw [pk_mul, pk_mul, Int32.add_assoc, nI_add, vt_1, nI_add, Nat.mul_add, Nat.mul_assoc]
  · intro h a e T W B h2 c T2 W2 B2 ⟨ih1, ih2⟩ ⟨jh1, jh2⟩ k1 k2 k3 k4 k5 k6
    refine ⟨by omega, fun he t ht E fu acc hE hE2 => ?_⟩
    obtain ⟨m1, m2, _⟩ := hm e (by omega)
    obtain ⟨m3, m4, m5⟩ := hm c (by omega)
    have m6 := m5 k3
    rw [k4] at m6
    have p1 : 99 ^ h ≤ 99 ^ max h (h2 + 1) := Nat.pow_le_pow_right (by decide) (by omega)
    have p2 : 99 ^ (h2 + 1) ≤ 99 ^ max h (h2 + 1) := Nat.pow_le_pow_right (by decide) (by omega)
    have p3 : t * 99 ^ h ≤ t * 99 ^ max h (h2 + 1) := Nat.mul_le_mul_left t p1
    have p4 : t * 99 ^ (h2 + 1) ≤ t * 99 ^ max h (h2 + 1) := Nat.mul_le_mul_left t p2
    have p5 : t * N e * 99 ^ h2 ≤ t * 99 ^ (h2 + 1) := by
      rw [Nat.pow_succ, Nat.mul_comm (99 ^ h2) 99, ← Nat.mul_assoc]
      exact Nat.mul_le_mul_right _ (Nat.mul_le_mul_left t k6)
    have p6 : t * N e ≤ t * N e * 99 ^ h2 := Nat.le_mul_of_pos_right _ (Nat.pow_pos (by decide))
    have p7 : t ≤ t * N e := Nat.le_mul_of_pos_right _ (by omega)
    rw [show fu + (c + 1 - a) = ((fu + 1) + (c - (e + 1)) + 1) + (e - a) by omega, ih2 (by omega) t (by omega) E _ acc (by omega) hE2, fp_X9_taken_8_s, if_neg (by rw [vt_leI (by omega) (by omega)]; omega), if_pos (vt_in' (by omega) (by omega)), nI_clamp (by omega), m1, m2, if_pos (by rw [k1]; rfl), if_pos (vt_in' (by omega) (by omega))]
    unfold fp_X9_taken_97
    rw [pk_mul, vt_1, nI_add, jh2 (by omega) (t * N e) (by omega) E (fu + 1) _ (by omega) hE2, fp_X9_taken_8_s, if_neg (by rw [vt_leI (by omega) (by omega)]; omega), if_pos (vt_in' (by omega) (by omega)), nI_clamp (by omega), m3, if_neg (by rw [k3]; decide), if_pos (vt_in' (by omega) (by omega)), if_pos (by rw [k3]; rfl), if_pos (vt_in' (by omega) (by omega)), m6, nI_clamp (by omega), if_pos (vt_in' (by omega) (by omega)), m2, if_pos (by rw [vt_0, vt_eqI (by omega) (by omega)]; omega)]
    unfold fp_X9_taken_97
    rw [pk_div (by omega) (by omega) (by omega), Nat.mul_div_cancel _ (by omega), vt_1, nI_add, Int32.add_assoc, nI_add, Nat.mul_add, Nat.mul_assoc]
theorem kq_taken {K N O : Nat → Nat} {μ : kb_S} {n : Nat} (hn : n ≤ 200) (hm : ∀ k, k < n → kb_a μ 9 k = nI (K k) ∧ kb_a μ 10 k = nI (N k) ∧ (K k = 21 → kb_a μ 12 k = nI (O k))) {h a e T W B : Nat} (hs : kq_seg K N O h a e T W B) (he : e ≤ n) (hh : h ≤ 3) : fn_X9_taken (nI a) (nI e) μ = some (nI T) := by
  have h1 : 99 ^ h ≤ 99 ^ 3 := Nat.pow_le_pow_right (by decide) hh
  have hae := (kq_seg_bd hs).1
  unfold fn_X9_taken
  rw [vt_fu, show 1000000000 = (999999999 - (e - a)) + 1 + (e - a) by omega, vt_1, kq_taken_seg hn hm hs he 1 (by omega) e _ 0 (Nat.le_refl e) he, fp_X9_taken_8_s, if_pos (by rw [vt_leI (by omega) (by omega)]; omega), Nat.one_mul, Int32.zero_add]
/-- the reference's remainder and quotient: a number up to 40 by the loops of a run -/
theorem kq_div32 {m T : Nat} (hm : m ≤ 40) (hT : 0 < T) (hT2 : T ≤ 4250637345) : nI m / nI T = nI (m / T) ∧ (¬ nI T = 0) ∧ ((nI m - nI m / nI T * nI T = 0) ↔ m % T = 0) := by
  have hne : ¬ nI T = 0 := by
    intro h
    have h2 := congrArg Int32.toInt h
    have h3 : (nI T).toInt = (T : Int).bmod (2 ^ 32) := Int32.toInt_ofNat
    have h4 : (0 : Int32).toInt = 0 := rfl
    rw [h3, h4] at h2
    have := Int.emod_emod_of_dvd
    rw [Int.bmod_def] at h2
    split at h2 <;> omega
  have hq : nI m / nI T = nI (m / T) := by
    by_cases h1 : T < 2 ^ 31
    · rw [pk_div (by omega) hT h1]
    · rw [Nat.div_eq_of_lt (by omega)]
      apply Int32.toInt_inj.mp
      have h3 : (nI T).toInt = (T : Int) - 2 ^ 32 := by
        have : (nI T).toInt = (T : Int).bmod (2 ^ 32) := Int32.toInt_ofNat
        rw [this, Int.bmod_def]; split <;> omega
      rw [Int32.toInt_div, h3, vt_int (by omega), show (nI 0).toInt = 0 from rfl, show ((T : Int) - 2 ^ 32) = -((2 ^ 32 - T : Nat) : Int) by omega, Int.tdiv_neg, Int.tdiv_eq_ediv_of_nonneg (by omega), Int.ediv_eq_zero_of_lt (by omega) (by omega)]
      decide
  refine ⟨hq, hne, ?_⟩
  rw [hq, pk_mul, pk_sub (by have := Nat.div_mul_le_self m T; omega), vt_0, vt_eqI (by omega) (by omega)]
  have := Nat.div_add_mod m T
  rw [Nat.mul_comm] at this
  omega
theorem kq_div64 {m T : Nat} (hm : m ≤ 40) (hT : 0 < T) (hT2 : T ≤ 4250637345) : (nI m).toInt64 / Int64.ofNat T = Int64.ofNat (m / T) ∧ (¬ Int64.ofNat T = 0) ∧ (((nI m).toInt64 - (nI m).toInt64 / Int64.ofNat T * Int64.ofNat T = 0) ↔ m % T = 0) ∧ ¬ Int64.ofNat T ≤ 0 := by
  have hTi : (Int64.ofNat T).toInt = T := lg_ofNat_toInt (by omega)
  have hne : ¬ Int64.ofNat T = 0 := by
    intro h
    have h2 := congrArg Int64.toInt h
    rw [hTi, show (0 : Int64).toInt = 0 from rfl] at h2
    omega
  have hq : (nI m).toInt64 / Int64.ofNat T = Int64.ofNat (m / T) := by
    rw [kq_i64 (by omega)]
    apply Int64.toInt_inj.mp
    rw [lg_ldiv_nonneg (by rw [lg_ofNat_toInt (by omega)]; omega) (by rw [hTi]; omega), hTi, lg_ofNat_toInt (by omega), lg_ofNat_toInt (by have := Nat.div_le_self m T; omega)]
    rfl
  refine ⟨hq, hne, ?_, ?_⟩
  · rw [hq, kq_i64 (by omega), ← Int64.ofNat_mul]
    have h3 := Nat.div_mul_le_self m T
    have h5 : Int64.ofNat m - Int64.ofNat (m / T * T) = Int64.ofNat (m - m / T * T) := by
      have : m = (m - m / T * T) + m / T * T := by omega
      have h6 : Int64.ofNat m = Int64.ofNat (m - m / T * T) + Int64.ofNat (m / T * T) := by rw [← Int64.ofNat_add, ← this]
      rw [h6, Int64.add_sub_cancel]
    rw [h5]
    have h7 := Nat.div_add_mod m T
    rw [Nat.mul_comm] at h7
    constructor
    · intro h8
      have h9 := congrArg Int64.toInt h8
      rw [lg_ofNat_toInt (by omega), show (0 : Int64).toInt = 0 from rfl] at h9
      omega
    · intro h8
      rw [show m - m / T * T = 0 by omega]; rfl
  · rw [Int64.le_iff_toInt_le, hTi, show (0 : Int64).toInt = 0 from rfl]; omega
