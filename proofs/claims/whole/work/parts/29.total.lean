theorem vt_ladder {w : Int32} {R : Nat} {F G S : Nat → Nat} {σ μ : kb_S} (hK : vt_K R F G S) (hF : vt_F w R F G S σ μ) : ∀ (r fu i x len : Nat), r < fu → i + r = R → F r ≤ x → x < F (r + 1) → ∃ n, fp_X0_ladderLength_7 fu (nI len) (nI x) (nI i) σ = some (nI n) ∧ fp_X9_ladder_28 fu (nI len) (nI x) μ = some (μ, nI n) := by
  have hR := hK.1
  have h600 := hK.2.2.2.2.1
  intro r
  induction r with
  | zero =>
      intro fu i x len h1 h2 h3 h4
      obtain ⟨k, rfl⟩ : ∃ k, fu = k + 1 := ⟨fu - 1, by omega⟩
      have h5 := (vt_mono hK (show 0 + 1 ≤ R + 1 by omega) (by omega)).1
      obtain ⟨l1, l2, l3, l4, c, l5, l6, l7, l8, l9⟩ := hF.2.2.2.2.2.2.2.2.2.2.2.2 0 (by omega) x h3 h4
      refine ⟨len, ?_, ?_⟩
      · rw [fp_X0_ladderLength_7_s, hF.2.2.2.1, if_pos (by rw [vt_leI (by omega) (by omega)]; omega)]
      · rw [fp_X9_ladder_28_s, if_pos (vt_in' (by omega) (by omega)), nI_clamp (by omega), l8, l6 rfl, if_pos (by decide)]
  | succ r ih =>
      intro fu i x len h1 h2 h3 h4
      obtain ⟨k, rfl⟩ : ∃ k, fu = k + 1 := ⟨fu - 1, by omega⟩
      have h5 := (vt_mono hK (show r + 1 + 1 ≤ R + 1 by omega) (by omega)).1
      obtain ⟨l1, l2, l3, l4, c, l5, l6, l7, l8, l9⟩ := hF.2.2.2.2.2.2.2.2.2.2.2.2 (r + 1) (by omega) x h3 h4
      have e7 : fp_X0_ladderLength_7 (k + 1) (nI len) (nI x) (nI i) σ = if nI c ≤ 0 then some (nI len) else fp_X0_ladderLength_7 k (nI (len + 1)) (kb_a σ 5 x + nI 0 * vt_stp w) (nI (i + 1)) σ := by
        rw [fp_X0_ladderLength_7_s, hF.2.2.2.1, if_neg (by rw [vt_leI (by omega) (by omega)]; omega), vt_pc hK hF (by omega), Option.bind_some, l7, vt_par hK hF (by omega), Option.bind_some, vt_1, nI_add, nI_add, vt_0]
      have e9 : fp_X9_ladder_28 (k + 1) (nI len) (nI x) μ = if nI c ≤ 0 then some (μ, nI len) else fp_X9_ladder_28 k (nI (len + 1)) (kb_a μ 5 (3 * x)) μ := by
        rw [fp_X9_ladder_28_s, if_pos (vt_in' (by omega) (by omega)), nI_clamp (by omega), l8, vt_3, pk_mul, if_pos (vt_in' (by omega) (by omega)), nI_clamp (by omega), vt_1, nI_add]
      rw [e7, e9]
      rcases Nat.eq_zero_or_pos c with rfl | hc
      · exact ⟨len, by rw [if_pos (by decide)], by rw [if_pos (by decide)]⟩
      · obtain ⟨y, y1, y2, y3, y4⟩ := l9 0 hc
        have hc0 : ¬ nI c ≤ 0 := by rw [vt_0, vt_leI (by omega) (by omega)]; omega
        rw [if_neg hc0, if_neg hc0, y4, show 3 * x = 3 * x + 0 by omega, y3]
        exact ih k (i + 1) y (len + 1) (by omega) (by omega) (by simpa using y1) y2
theorem vt_ok_ladder : ok_ladder vt_I := by
  intro σ T μ x h
  have hh := h.thr 1
  have hh0 := h.thr 0
  obtain ⟨-, ⟨w, R, F, G, S, hK, hF⟩, -⟩ := h
  have hR := hK.1
  have h600 := hK.2.2.2.2.1
  have e9 : fn_X9_ladder x μ = (fn_X9_says (if x < 0 ∨ nI (F (R + 1) - F R) ≤ x then 0 else 1) μ).bind fun q2 => if q2.2 = 0 then some (q2.1, 0) else (fn_X9_needle x q2.1).bind fun q4 => fp_X9_ladder_28 kb_FU 1 q4 q2.1 := by
    unfold fn_X9_ladder
    rw [vt_live9 hK hF, Option.bind_some, vt_1, vt_in0 (by omega)]; rfl
  rcases vt_needle0 hK hF x with ⟨h1, h3⟩ | ⟨j, hj, rfl, h3⟩
  · refine ⟨kb_p μ 0 1, 1, 0, 0, ?_, ?_, hh, Or.inr ⟨rfl, rfl⟩⟩
    · unfold fn_X8_ladder; rw [h1, if_neg (by decide)]
    · rw [e9, if_pos h3, vt_says0, Option.bind_some, if_pos rfl]
  · have h4 : ¬ (nI j < 0 ∨ nI (F (R + 1) - F R) ≤ nI j) := by
      rintro (h4 | h4)
      · exact vt_neg (by omega) h4
      · rw [vt_leI (by omega) (by omega)] at h4; omega
    obtain ⟨d1, d2⟩ := vt_nd_in (w := w) (R := R) (F := F) hj
    obtain ⟨n, n1, n2⟩ := vt_ladder hK (hF.thr 0) R kb_FU 0 (vt_nd w R F j) 1 (by rw [vt_fu]; omega) (by omega) d1 d2
    refine ⟨kb_p μ 0 0, 0, nI n, nI n, ?_, ?_, hh0, Or.inl ⟨rfl, rfl, rfl⟩⟩
    · unfold fn_X8_ladder fn_X0_ladderLength
      rw [h3, if_pos (Int32.not_lt.mp (vt_neg (by omega)))]
      exact congrArg (fun o => Option.bind o fun q2 => some ((0 : Nat), q2)) n1
    · rw [e9, if_neg h4, vt_says1, Option.bind_some, if_neg (show ¬ (1 : Int32) = 0 by decide), vt_needle9 hK (hF.thr 0) hj, Option.bind_some]
      exact n2
/-- what total counts of a loop -/
def vt_tv (μ : kb_S) (v x : Nat) : Nat := if v = 0 then 1 else if v = 1 then vt_is (kb_a μ 2 x = 0) else if v = 2 then vt_is (¬ kb_a μ 2 x ≤ 0 ∧ kb_a μ 3 x = 0) else vt_is (¬ kb_a μ 3 x = 0)
theorem vt_tot19 {L v : Nat} {μ : kb_S} (hL : L ≤ 600) (h3 : kb_g μ 3 = nI L) (hv : v ≤ 3) : ∀ m fu i acc, m < fu → i + m = L → fp_X9_total_19 fu (nI v) (nI acc) (nI i) μ = some (μ, nI (acc + vt_sum (vt_tv μ v) i m)) := by
  intro m
  induction m with
  | zero =>
      intro fu i acc h1 h2
      obtain ⟨n, rfl⟩ : ∃ n, fu = n + 1 := ⟨fu - 1, by omega⟩
      rw [fp_X9_total_19_s, h3, if_pos (by rw [vt_leI (by omega) (by omega)]; omega)]; rfl
  | succ m ih =>
      intro fu i acc h1 h2
      obtain ⟨n, rfl⟩ : ∃ n, fu = n + 1 := ⟨fu - 1, by omega⟩
      have e1 : kb_in (nI i) 600 = true := vt_in' (by omega) (by omega)
      have hstep : fp_X9_total_19 (n + 1) (nI v) (nI acc) (nI i) μ = fp_X9_total_19 n (nI v) (nI (acc + vt_tv μ v i)) (nI (i + 1)) μ := by
        rw [fp_X9_total_19_s, h3, if_neg (by rw [vt_leI (by omega) (by omega)]; omega)]
        simp only [fp_X9_total_45_e, fp_X9_total_68_e, fp_X9_total_82_e, fp_X9_total_88_e, fp_X9_total_89_e, if_pos e1, nI_clamp (show i < 2 ^ 31 by omega), vt_1, nI_add]
        unfold vt_tv vt_is
        have hv4 : v = 0 ∨ v = 1 ∨ v = 2 ∨ v = 3 := by omega
        rcases hv4 with rfl | rfl | rfl | rfl
        · rfl
        · rw [if_neg (show ¬ nI 1 = 0 by decide), if_pos (show nI 1 = nI 1 from rfl), if_neg (show ¬ nI 1 = 2 by decide), if_neg (show ¬ nI 1 = 3 by decide), if_neg (show ¬ 1 = 0 by decide), if_pos rfl]
          split <;> rfl
        · rw [if_neg (show ¬ nI 2 = 0 by decide), if_neg (show ¬ nI 2 = nI 1 by decide), if_pos (show nI 2 = 2 from rfl), if_neg (show ¬ nI 2 = 3 by decide), if_neg (show ¬ 2 = 0 by decide), if_neg (show ¬ 2 = 1 by decide), if_pos rfl]
          by_cases q1 : kb_a μ 2 i ≤ 0
          · rw [if_pos q1, if_neg (fun h => h.1 q1)]; rfl
          · rw [if_neg q1]
            by_cases q2 : kb_a μ 3 i = 0
            · rw [if_pos q2, if_pos ⟨q1, q2⟩]
            · rw [if_neg q2, if_neg (fun h => q2 h.2)]; rfl
        · rw [if_neg (show ¬ nI 3 = 0 by decide), if_neg (show ¬ nI 3 = nI 1 by decide), if_neg (show ¬ nI 3 = 2 by decide), if_pos (show nI 3 = 3 from rfl), if_neg (show ¬ 3 = 0 by decide), if_neg (show ¬ 3 = 1 by decide), if_neg (show ¬ 3 = 2 by decide)]
          by_cases q2 : kb_a μ 3 i = 0
          · rw [if_pos q2, if_neg (fun h => h q2)]; rfl
          · rw [if_neg q2, if_pos q2]
      rw [hstep, ih n (i + 1) _ (by omega) (by omega), vt_sum_front, Nat.add_assoc]
theorem vt_sum_const {f : Nat → Nat} {a c : Nat} : ∀ n, (∀ i, i < n → f (a + i) = c) → vt_sum f a n = c * n
  | 0, _ => by simp [vt_sum]
  | n + 1, h => by rw [vt_sum, vt_sum_const n (fun i hi => h i (by omega)), h n (by omega), Nat.mul_succ]
theorem vt_sum_add2 {f g h : Nat → Nat} {a : Nat} : ∀ n, (∀ i, i < n → f (a + i) + g (a + i) = h (a + i)) → vt_sum f a n + vt_sum g a n = vt_sum h a n
  | 0, _ => by simp [vt_sum]
  | n + 1, hh => by
      have h1 := vt_sum_add2 n (fun i hi => hh i (by omega))
      have h2 := hh n (by omega)
      simp only [vt_sum]; omega
theorem vt_bsum {w : Int32} {R : Nat} {F G S : Nat → Nat} {σ μ : kb_S} (hK : vt_K R F G S) (hF : vt_F w R F G S σ μ) : ∀ r, r ≤ R → vt_sum (fun x => vt_is (kb_a μ 3 x = 1)) 0 (F r) = vt_sum (fun i => vt_is (S i = 8)) (G 1) (G (r + 1) - G 1) := by
  intro r
  induction r with
  | zero => intro _; rw [hK.2.1, Nat.zero_add, Nat.sub_self]; rfl
  | succ r ih =>
      intro hr
      have k6 := hK.2.2.2.2.2.1 r (by omega)
      have k7 := hK.2.2.2.2.2.1 (r + 1) (by omega)
      have k1 := (vt_mono hK (show 1 ≤ r + 1 by omega) (by omega)).2
      have e1 : F (r + 1) = F r + (F (r + 1) - F r) := by omega
      have e2 : G (r + 1 + 1) - G 1 = (G (r + 1) - G 1) + (G (r + 1 + 1) - G (r + 1)) := by omega
      obtain ⟨-, -, g3⟩ := hF.2.2.2.2.2.2.2.2.2.2.2.1 (r + 1) (by omega) hr
      rw [show r + 1 - 1 = r by omega] at g3
      rw [e2, vt_sum_add, ← ih (by omega), e1, vt_sum_add, Nat.zero_add, g3, show G 1 + (G (r + 1) - G 1) = G (r + 1) by omega]
theorem vt_ok_total : ok_total vt_I := by
  intro σ T μ x h
  have hh := h.thr 1
  have hh0 := h.thr 0
  obtain ⟨-, ⟨w, R, F, G, S, hK, hF⟩, -⟩ := h
  have hR := hK.1
  have h600 := hK.2.2.2.2.1
  have kR := hK.2.2.2.2.2.1 R (Nat.le_refl _)
  have hb := vt_bsum hK hF R (Nat.le_refl _)
  have hlow : ∀ y, y < F R → ¬ kb_a μ 2 y = 0 ∧ ¬ kb_a μ 2 y ≤ 0 ∧ (kb_a μ 3 y = 0 ∨ kb_a μ 3 y = 1) := by
    intro y hy
    obtain ⟨r, hr, hr1, hr2⟩ := vt_rowOf hK (show y < F (R + 1) by omega)
    have hrR : r < R := by
      rcases Nat.lt_or_ge r R with h | h
      · exact h
      · have : r = R := by omega
        subst this; omega
    obtain ⟨l1, l2, l3, -⟩ := hF.2.2.2.2.2.2.2.2.2.2.2.2 r hr y hr1 hr2
    rw [if_pos hrR] at l2
    rw [l2]
    exact ⟨by rw [vt_0, vt_eqI (by omega) (by omega)]; omega, by rw [vt_0, vt_leI (by omega) (by omega)]; omega, l3⟩
  have hhigh : ∀ y, F R ≤ y → y < F (R + 1) → kb_a μ 2 y = 0 ∧ kb_a μ 3 y = 0 := by
    intro y h1 h2
    obtain ⟨l1, l2, l3, l4, -⟩ := hF.2.2.2.2.2.2.2.2.2.2.2.2 R (Nat.le_refl _) y h1 h2
    rw [if_neg (by omega)] at l2
    exact ⟨l2, l4 rfl⟩
  have hbi : fn_X0_boundIn 1 (fn_X0_rowCount σ) σ = some (nI (vt_sum (fun i => vt_is (S i = 8)) (G 1) (G (R + 1) - G 1))) := by
    unfold fn_X0_rowCount
    rw [hF.2.2.2.1]
    rcases Nat.eq_zero_or_pos R with rfl | h1
    · unfold fn_X0_boundIn fn_X0_hasRow
      rw [hF.2.2.2.1, if_pos (by rw [if_neg (by decide), if_pos (by decide)]), Nat.zero_add, Nat.sub_self]; rfl
    · exact vt_boundIn hK hF h1 (Nat.le_refl _)
  have hi : fn_X9_in x 0 3 = if x < 0 ∨ nI 4 ≤ x then 0 else 1 := by
    have e : (3 : Int32) = nI 4 - nI 1 := by decide
    rw [e, vt_in0 (by omega)]
  have e8 : fn_X8_total x σ = if x = 0 then some (0, nI (F (R + 1))) else if x = 1 then some (0, nI (F (R + 1) - F R)) else if x = 2 then some (0, nI (F (R + 1)) - nI (F (R + 1) - F R) - nI (vt_sum (fun i => vt_is (S i = 8)) (G 1) (G (R + 1) - G 1))) else if x = 3 then some (0, nI (vt_sum (fun i => vt_is (S i = 8)) (G 1) (G (R + 1) - G 1))) else some (1, 0) := by
    unfold fn_X8_total fn_X0_liveCount
    rw [vt_loopCount hK hF, Option.bind_some, hbi, Option.bind_some, hF.2.2.2.2.2.2.1]
  by_cases hx : x < 0 ∨ nI 4 ≤ x
  · refine ⟨kb_p μ 0 1, 1, 0, 0, ?_, ?_, hh, Or.inr ⟨rfl, rfl⟩⟩
    · have hne : ∀ k, k < 4 → x ≠ nI k := by
        rintro k hk rfl
        rcases hx with h4 | h4
        · exact vt_neg (by omega) h4
        · rw [vt_leI (by omega) (by omega)] at h4; omega
      rw [e8, vt_0, vt_1, vt_2, vt_3, if_neg (hne 0 (by omega)), if_neg (hne 1 (by omega)), if_neg (hne 2 (by omega)), if_neg (hne 3 (by omega))]
    · unfold fn_X9_total; rw [hi, if_pos hx, vt_says0, Option.bind_some, if_pos rfl]
  · have hx0 : ¬ x < 0 := fun h => hx (Or.inl h)
    obtain ⟨v, hv0, rfl⟩ := vt_nat hx0
    have hv : v < 4 := by
      have : ¬ nI 4 ≤ nI v := fun h => hx (Or.inr h)
      rw [vt_leI (by omega) hv0] at this; omega
    have e9 : fn_X9_total (nI v) μ = some (kb_p μ 0 0, nI (vt_sum (vt_tv μ v) 0 (F (R + 1)))) := by
      unfold fn_X9_total
      rw [hi, if_neg hx, vt_says1, Option.bind_some, if_neg (show ¬ (1 : Int32) = 0 by decide)]
      refine (vt_tot19 (L := F (R + 1)) (v := v) h600 (show kb_g (kb_p μ 0 0) 3 = _ from hF.2.2.2.2.2.1) (by omega) (F (R + 1)) kb_FU 0 0 (by rw [vt_fu]; omega) (by omega)).trans ?_
      rw [Nat.zero_add]; rfl
    have es : vt_sum (vt_tv μ v) 0 (F (R + 1)) = vt_sum (vt_tv μ v) 0 (F R) + vt_sum (vt_tv μ v) (F R) (F (R + 1) - F R) := by
      have e : F (R + 1) = F R + (F (R + 1) - F R) := by omega
      rw [e, vt_sum_add, Nat.zero_add, ← e]
    refine ⟨_, 0, _, _, ?_, e9, hh0, Or.inl ⟨rfl, rfl, rfl⟩⟩
    rw [e8, es]
    have hv4 : v = 0 ∨ v = 1 ∨ v = 2 ∨ v = 3 := by omega
    rcases hv4 with rfl | rfl | rfl | rfl
    · rw [if_pos (show nI 0 = 0 from rfl), vt_sum_const (c := 1) (F R) (fun i hi => rfl), vt_sum_const (c := 1) (F (R + 1) - F R) (fun i hi => rfl), show 1 * F R + 1 * (F (R + 1) - F R) = F (R + 1) by omega]
    · have u1 : vt_sum (vt_tv μ 1) 0 (F R) = 0 * F R := vt_sum_const _ (fun i hi => if_neg (hlow (0 + i) (by omega)).1)
      have u2 : vt_sum (vt_tv μ 1) (F R) (F (R + 1) - F R) = 1 * (F (R + 1) - F R) := vt_sum_const _ (fun i hi => if_pos (hhigh (F R + i) (by omega) (by omega)).1)
      rw [if_neg (by decide), if_pos (show nI 1 = 1 from rfl), u1, u2, show 0 * F R + 1 * (F (R + 1) - F R) = F (R + 1) - F R by omega]
    · have t1 : vt_sum (vt_tv μ 2) 0 (F R) + vt_sum (fun x => vt_is (kb_a μ 3 x = 1)) 0 (F R) = vt_sum (fun _ => 1) 0 (F R) := by
        apply vt_sum_add2
        intro i hi
        obtain ⟨q1, q2, q3⟩ := hlow (0 + i) (by omega)
        show vt_is (¬ kb_a μ 2 (0 + i) ≤ 0 ∧ kb_a μ 3 (0 + i) = 0) + vt_is (kb_a μ 3 (0 + i) = 1) = 1
        unfold vt_is
        rcases q3 with q3 | q3
        · rw [if_pos ⟨q2, q3⟩, q3, if_neg (by decide)]
        · rw [if_neg (by rw [q3]; exact fun h => absurd h.2 (by decide)), q3, if_pos rfl]
      rw [vt_sum_const (f := fun _ => 1) (c := 1) (F R) (fun i hi => rfl), hb] at t1
      have u2 : vt_sum (vt_tv μ 2) (F R) (F (R + 1) - F R) = 0 * (F (R + 1) - F R) := vt_sum_const _ (fun i hi => (show vt_is (¬ kb_a μ 2 (F R + i) ≤ 0 ∧ kb_a μ 3 (F R + i) = 0) = 0 from if_neg (fun h => h.1 (by rw [(hhigh (F R + i) (by omega) (by omega)).1]; exact Int32.le_refl _))))
      rw [if_neg (by decide), if_neg (by decide), if_pos (show nI 2 = 2 from rfl), u2, pk_sub (by omega), pk_sub (by omega), show F (R + 1) - (F (R + 1) - F R) - vt_sum (fun i => vt_is (S i = 8)) (G 1) (G (R + 1) - G 1) = vt_sum (vt_tv μ 2) 0 (F R) + 0 * (F (R + 1) - F R) by omega]
    · have u2 : vt_sum (vt_tv μ 3) (F R) (F (R + 1) - F R) = 0 * (F (R + 1) - F R) := vt_sum_const _ (fun i hi => (show vt_is (¬ kb_a μ 3 (F R + i) = 0) = 0 from if_neg (fun h => h (hhigh (F R + i) (by omega) (by omega)).2)))
      have u1 : vt_sum (fun x => vt_is (kb_a μ 3 x = 1)) 0 (F R) = vt_sum (vt_tv μ 3) 0 (F R) := by
        apply vt_sum_congr
        intro i hi
        obtain ⟨q1, q2, q3⟩ := hlow (0 + i) (by omega)
        show vt_is (kb_a μ 3 (0 + i) = 1) = vt_is (¬ kb_a μ 3 (0 + i) = 0)
        unfold vt_is
        rcases q3 with q3 | q3
        · rw [q3, if_neg (by decide), if_neg (by decide)]
        · rw [q3, if_pos rfl, if_pos (by decide)]
      rw [if_neg (by decide), if_neg (by decide), if_neg (by decide), if_pos (show nI 3 = 3 from rfl), u2, Nat.zero_mul, ← hb, u1]; rfl
