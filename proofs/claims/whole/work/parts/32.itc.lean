/-! an item: (fault, place behind it, stitch, number) -/
def kq_pl (b : Nat → Nat) (q : Nat × Nat) (s : Nat) : Nat × Nat × Nat × Nat :=
  if q.1 = 0 then (if kq_isd b q.2 = true then ((kq_n b 1 q.2).1, (kq_n b 1 q.2).2.1, s, (kq_n b 1 q.2).2.2) else (0, q.2, s, 1)) else (q.1, q.2, s, 1)
def kq_nm (b : Nat → Nat) (ws : List Nat) (s p : Nat) : Nat × Nat × Nat × Nat := kq_pl b (kq_w b ws (0, p)) s
def kq_sg (b : Nat → Nat) (ws : List Nat) (s p : Nat) : Nat × Nat × Nat × Nat := ((kq_w b ws (0, p)).1, (kq_w b ws (0, p)).2, s, 1)
def kq_cn (b : Nat → Nat) (q : Nat × Nat) : Nat × Nat × Nat × Nat := if q.1 = 0 then ((kq_n b 1 q.2).1, (kq_n b 1 q.2).2.1, 9, (kq_n b 1 q.2).2.2) else (q.1, q.2, 9, 1)
def kq_ct (b : Nat → Nat) (p : Nat) : Nat × Nat × Nat × Nat := kq_cn b (kq_w b [99, 97, 115, 116] (0, p))
/-- what is behind a cable's c: q0 the state there -/
def kq_cx (b : Nat → Nat) (q0 : Nat × Nat) : Nat × Nat × Nat × Nat :=
  let q2 := kq_w b [47] (kq_d b q0)
  let q3 := kq_d b q2
  let q4 := if b q3.2 = 102 then kq_w b [102] q3 else kq_w b [98] q3
  (q4.1, q4.2, 100 * (b q0.2 - 48) + 10 * (b q2.2 - 48) + (if b q3.2 = 102 then 10 else 11), 1)
def kq_cb (b : Nat → Nat) (p : Nat) : Nat × Nat × Nat × Nat := kq_cx b (kq_w b [99] (0, p))
def kq_st (b : Nat → Nat) (fst : Bool) (p : Nat) : Nat × Nat × Nat × Nat :=
  if b p = 107 then (if b (p + 1) = 102 then kq_sg b [107, 102, 98] 6 p else if b (p + 1) = 50 ∧ b (p + 2) = 116 then kq_sg b [107, 50, 116, 111, 103] 3 p else if b (p + 1) = 51 ∧ b (p + 2) = 116 then kq_sg b [107, 51, 116, 111, 103] 5 p else kq_nm b [107] 0 p)
  else if b p = 112 then kq_nm b [112] 1 p
  else if b p = 115 then (if b (p + 1) = 115 then kq_sg b [115, 115, 107] 4 p else kq_nm b [115, 108] 2 p)
  else if b p = 121 then kq_nm b [121, 111] 7 p
  else if b p = 98 then kq_nm b [98, 105, 110, 100] 8 p
  else if b p = 99 then (if fst = true ∧ b (p + 1) = 97 then kq_ct b p else kq_cb b p)
  else (1, p, 0, 1)
/-- a stitch is put to the plan -/
def kq_pc (σ0 : kb_S) (p n K N pl d : Nat) (σ : kb_S) : Prop :=
  kb_g σ 10 = nI p ∧ kb_g σ 11 = 0 ∧ kb_g σ 12 = 0 ∧ kb_g σ 16 = nI (n + 1) ∧ (∀ j, j ≠ 10 → j ≠ 11 → j ≠ 12 → j ≠ 16 → kb_g σ j = kb_g σ0 j) ∧
  (∀ j x, kb_a σ j x = if j = 8 ∧ x = n then nI pl else if j = 9 ∧ x = n then nI N else if j = 10 ∧ x = n then nI K else if j = 7 ∧ x = n then 0 else kb_a σ0 j x) ∧
  (∀ j x, kb_b σ j x = if j = 0 ∧ x = d then kb_b σ0 0 d + (nI N).toInt64 * (nI (vt_tk K)).toInt64 else if j = 2 ∧ x = n then 0 else kb_b σ0 j x)
def kq_rc (σ0 : kb_S) (n d pl : Nat) (r : Nat × Nat × Nat × Nat) (σ : kb_S) : Prop := (r.1 = 0 → kq_pc σ0 r.2.1 n r.2.2.1 r.2.2.2 pl d σ) ∧ (r.1 ≠ 0 → kq_c σ0 (r.1, r.2.1) σ)
theorem kq_addc {σ0 σ : kb_S} {n d K N pl f p : Nat} {v : Int32} (hn : kb_g σ0 16 = nI n) (hn2 : n < 200) (hd : kb_g σ0 9 = nI d) (hd2 : d ≤ 4) (hK : f = 0 → vt_vs K = true) (h : kq_c σ0 (f, p) σ) (hv : f = 0 → v = nI N) : ∃ σ2, fn_X4_addStitches (nI K) v (nI pl) σ = some σ2 ∧ kq_rc σ0 n d pl (f, p, K, N) σ2 := by
  unfold fn_X4_addStitches
  rw [kq_right h]
  by_cases h0 : f = 0
  · have hv2 := hv h0
    subst h0
    rw [if_pos rfl, if_neg (show ¬ (1 : Int32) = 0 by decide)]
    unfold fn_X3_addStitches fn_X3_add
    have e16 : kb_g σ 16 = nI n := by rw [h.1 16 (by decide) (by decide)]; exact hn
    have e9 : kb_g σ 9 = nI d := by rw [h.1 9 (by decide) (by decide)]; exact hd
    have i1 : kb_in (nI n) 200 = true := vt_in' (by omega) (by omega)
    have i2 : kb_in (nI d) 5 = true := vt_in' (by omega) (by omega)
    rw [e16, if_neg (by rw [vt_200, vt_leI (by omega) (by omega)]; omega)]
    simp only [if_pos i1, Option.bind_some, vt_gp, vt_ga, vt_gb, Nat.reduceEqDiff, if_false, e9, if_pos i2]
    rw [(vt_st (hK rfl)).1]
    simp only [Option.bind_some]
    rw [nI_clamp (by omega), nI_clamp (by omega), vt_1, nI_add]
    refine ⟨_, rfl, fun _ => ⟨?_, ?_, rfl, rfl, fun j a1 a2 a3 a4 => ?_, fun j x => ?_, fun j x => ?_⟩, fun h5 => absurd rfl h5⟩
    · exact h.2.2.2.2.1 rfl
    · exact h.2.2.2.1
    · simp only [vt_gp, vt_ga, vt_gb, if_neg a3, if_neg a4]; exact h.1 j a1 a2
    · simp only [vt_ap, vt_ab, vt_aax, hv2, h.2.1]
    · simp only [vt_bp, vt_ba, vt_bbx, h.2.2.1, hv2, Nat.reduceEqDiff, false_and, if_false]
  · rw [if_neg h0, if_pos rfl]
    exact ⟨σ, rfl, fun h5 => absurd h5 h0, fun _ => h⟩
section KQC
variable {tl : Nat} {b : Nat → Nat} {σ0 : kb_S} {n d pl : Nat}
theorem kq_named (ht : kq_tc tl b σ0) (hn : kb_g σ0 16 = nI n) (hn2 : n < 200) (hd : kb_g σ0 9 = nI d) (hd2 : d ≤ 4) {w : Nat} (hw : w < 19) {cs : List Nat} (hcs : kb_SL.getD w [] = cs.map nI) (hc : ∀ c ∈ cs, c < 256) {s : Nat} (hs : vt_vs s = true) {p : Nat} {σ : kb_S} (h : kq_c σ0 (0, p) σ) : ∃ σ2, fn_X4_readNamed w (nI s) (nI pl) σ = some σ2 ∧ kq_rc σ0 n d pl (kq_nm b cs s p) σ2 := by
  obtain ⟨σ1, r1, r2⟩ := kq_word ht hw hcs hc h
  unfold fn_X4_readNamed fp_X4_readNamed_24 kq_nm
  rw [r1, Option.bind_some]
  generalize kq_w b cs (0, p) = q at r2
  obtain ⟨f, q⟩ := q
  unfold kq_pl
  simp only
  by_cases h0 : f = 0
  · subst h0
    rw [if_pos rfl, kq_next ht r2, Option.bind_some, kq_digit]
    by_cases hd1 : kq_isd b q = true
    · rw [if_pos hd1, if_neg (show ¬ (1 : Int32) = 0 by decide), if_pos hd1]
      obtain ⟨σ3, v, u1, u2, u3⟩ := kq_num (least := 1) ht (by omega) r2
      rw [show (1 : Int32) = nI 1 from rfl, u1, Option.bind_some]
      obtain ⟨σ4, w1, w2⟩ := kq_addc (pl := pl) (K := s) hn hn2 hd hd2 (fun _ => hs) u2 u3
      rw [w1]; exact ⟨_, rfl, w2⟩
    · rw [if_neg hd1, if_pos rfl, if_neg hd1]
      obtain ⟨σ4, w1, w2⟩ := kq_addc (pl := pl) (K := s) (N := 1) (v := 1) hn hn2 hd hd2 (fun _ => hs) r2 (fun _ => rfl)
      rw [w1]; exact ⟨_, rfl, w2⟩
  · rw [if_neg h0]
    obtain ⟨v, hv⟩ := kq_next' ht r2
    rw [hv, Option.bind_some]
    obtain ⟨σ3, v3, u1, u2⟩ := kq_num' (least := 1) ht (s := (f, q)) h0 r2
    by_cases hdv : fn_X4_isDigit v = 0
    · rw [if_pos hdv]
      obtain ⟨σ4, w1, w2⟩ := kq_addc (pl := pl) (K := s) (N := 1) (v := 1) hn hn2 hd hd2 (fun _ => hs) r2 (fun _ => rfl)
      rw [w1]; exact ⟨_, rfl, w2⟩
    · rw [if_neg hdv, u1, Option.bind_some]
      obtain ⟨σ4, w1, w2⟩ := kq_addc (pl := pl) (K := s) (N := 1) (v := v3) hn hn2 hd hd2 (fun _ => hs) u2 (fun h5 => absurd h5 h0)
      rw [w1]; exact ⟨_, rfl, w2⟩
theorem kq_single (ht : kq_tc tl b σ0) (hn : kb_g σ0 16 = nI n) (hn2 : n < 200) (hd : kb_g σ0 9 = nI d) (hd2 : d ≤ 4) {w : Nat} (hw : w < 19) {cs : List Nat} (hcs : kb_SL.getD w [] = cs.map nI) (hc : ∀ c ∈ cs, c < 256) {s : Nat} (hs : vt_vs s = true) {p : Nat} {σ : kb_S} (h : kq_c σ0 (0, p) σ) : ∃ σ2, fn_X4_readSingle w (nI s) (nI pl) σ = some σ2 ∧ kq_rc σ0 n d pl (kq_sg b cs s p) σ2 := by
  obtain ⟨σ1, r1, r2⟩ := kq_word ht hw hcs hc h
  unfold fn_X4_readSingle kq_sg
  rw [r1, Option.bind_some]
  obtain ⟨σ4, w1, w2⟩ := kq_addc (pl := pl) (K := s) (N := 1) (v := 1) (f := (kq_w b cs (0, p)).1) (p := (kq_w b cs (0, p)).2) hn hn2 hd hd2 (fun _ => hs) r2 (fun _ => rfl)
  rw [w1]; exact ⟨_, rfl, w2⟩
theorem kq_castc (ht : kq_tc tl b σ0) (hn : kb_g σ0 16 = nI n) (hn2 : n < 200) (hd : kb_g σ0 9 = nI d) (hd2 : d ≤ 4) {p : Nat} {σ : kb_S} (h : kq_c σ0 (0, p) σ) : ∃ σ2, ((fn_X4_readWord 9 σ).bind fun q4 => (fn_X4_readNumber (1 : Int32) q4).bind fun q5 => (fn_X4_addStitches (9 : Int32) q5.2 (nI pl) q5.1).bind fun q6 => some q6) = some σ2 ∧ kq_rc σ0 n d pl (kq_ct b p) σ2 := by
  obtain ⟨σ1, r1, r2⟩ := kq_word (cs := [99, 97, 115, 116]) ht (w := 9) (by decide) (by decide) (by decide) h
  unfold kq_ct
  rw [r1, Option.bind_some]
  generalize kq_w b [99, 97, 115, 116] (0, p) = q at r2
  obtain ⟨f, q⟩ := q
  unfold kq_cn
  simp only
  by_cases h0 : f = 0
  · subst h0
    rw [if_pos rfl]
    obtain ⟨σ3, v, u1, u2, u3⟩ := kq_num (least := 1) ht (by omega) r2
    rw [show (1 : Int32) = nI 1 from rfl, u1, Option.bind_some]
    obtain ⟨σ4, w1, w2⟩ := kq_addc (pl := pl) (K := 9) hn hn2 hd hd2 (fun _ => by decide) u2 u3
    rw [show (9 : Int32) = nI 9 from rfl, w1]; exact ⟨_, rfl, w2⟩
  · rw [if_neg h0]
    obtain ⟨σ3, v3, u1, u2⟩ := kq_num' (least := 1) ht (s := (f, q)) h0 r2
    rw [u1, Option.bind_some]
    obtain ⟨σ4, w1, w2⟩ := kq_addc (pl := pl) (K := 9) (N := 1) (v := v3) hn hn2 hd hd2 (fun _ => by decide) u2 (fun h5 => absurd h5 h0)
    rw [show (9 : Int32) = nI 9 from rfl, w1]; exact ⟨_, rfl, w2⟩
theorem kq_d_wrong {b : Nat → Nat} {s : Nat × Nat} (h : s.1 ≠ 0) : kq_d b s = s := by unfold kq_d; rw [if_neg h]
theorem kq_cx_w3 {b : Nat → Nat} {q0 : Nat × Nat} {f p : Nat} (hf : f ≠ 0) (h : kq_d b (kq_w b [47] (kq_d b q0)) = (f, p)) : (kq_cx b q0).1 = f ∧ (kq_cx b q0).2.1 = p := by
  unfold kq_cx
  simp only [h, kq_w_wrong (b := b) [102] (s := (f, p)) hf, kq_w_wrong (b := b) [98] (s := (f, p)) hf, ite_self, and_self]
/-- the digits of a right cable -/
theorem kq_cx_ok {b : Nat → Nat} {q0 : Nat × Nat} (h : (kq_cx b q0).1 = 0) : q0.1 = 0 ∧ 49 ≤ b q0.2 ∧ b q0.2 ≤ 53 ∧ b (q0.2 + 1) = 47 ∧ 49 ≤ b (q0.2 + 2) ∧ b (q0.2 + 2) ≤ 53 ∧ (b (q0.2 + 3) = 102 ∨ b (q0.2 + 3) = 98) ∧ kq_cx b q0 = (0, q0.2 + 4, 100 * (b q0.2 - 48) + 10 * (b (q0.2 + 2) - 48) + (if b (q0.2 + 3) = 102 then 10 else 11), 1) := by
  obtain ⟨f, q⟩ := q0
  by_cases h0 : f = 0
  · subst h0
    by_cases h1 : 49 ≤ b q ∧ b q ≤ 53
    · by_cases h2 : b (q + 1) = 47
      · by_cases h3 : 49 ≤ b (q + 2) ∧ b (q + 2) ≤ 53
        · by_cases h4 : b (q + 3) = 102
          · simp [kq_cx, kq_d, kq_w, h1, h2, h3, h4]
          · by_cases h5 : b (q + 3) = 98
            · simp [kq_cx, kq_d, kq_w, h1, h2, h3, h5]
            · exfalso; revert h; simp [kq_cx, kq_d, kq_w, h1, h2, h3, h4, h5]
        · exfalso
          have d1 : kq_d b (0, q) = (0, q + 1) := by unfold kq_d; rw [if_pos rfl, if_pos h1]
          have d2 : kq_w b [47] (kq_d b (0, q)) = (0, q + 2) := by rw [d1]; simp [kq_w, h2]
          have d3 : kq_d b (kq_w b [47] (kq_d b (0, q))) = (1, q + 2) := by rw [d2]; unfold kq_d; rw [if_pos rfl, if_neg h3]
          rw [(kq_cx_w3 (by decide) d3).1] at h
          exact absurd h (by decide)
      · exfalso
        have d1 : kq_d b (0, q) = (0, q + 1) := by unfold kq_d; rw [if_pos rfl, if_pos h1]
        have d2 : kq_w b [47] (kq_d b (0, q)) = (1, q + 1) := by rw [d1]; simp [kq_w, h2]
        have d3 : kq_d b (kq_w b [47] (kq_d b (0, q))) = (1, q + 1) := by rw [d2]; exact kq_d_wrong (by simp)
        rw [(kq_cx_w3 (by decide) d3).1] at h
        exact absurd h (by decide)
    · exfalso
      have d1 : kq_d b (0, q) = (1, q) := by unfold kq_d; rw [if_pos rfl, if_neg h1]
      have d2 : kq_w b [47] (kq_d b (0, q)) = (1, q) := by rw [d1]; exact kq_w_wrong _ (by simp)
      have d3 : kq_d b (kq_w b [47] (kq_d b (0, q))) = (1, q) := by rw [d2]; exact kq_d_wrong (by simp)
      rw [(kq_cx_w3 (by decide) d3).1] at h
      exact absurd h (by decide)
  · exfalso
    have d1 : kq_d b (f, q) = (f, q) := kq_d_wrong h0
    have d2 : kq_w b [47] (kq_d b (f, q)) = (f, q) := by rw [d1]; exact kq_w_wrong _ h0
    have d3 : kq_d b (kq_w b [47] (kq_d b (f, q))) = (f, q) := by rw [d2]; exact kq_d_wrong h0
    rw [(kq_cx_w3 h0 d3).1] at h
    exact absurd h h0
theorem kq_cx_vs {b : Nat → Nat} {q0 : Nat × Nat} (h : (kq_cx b q0).1 = 0) : vt_vs (kq_cx b q0).2.2.1 = true := by
  obtain ⟨a0, a1, a2, a3, a4, a5, a6, a7⟩ := kq_cx_ok h
  rw [a7]
  simp only
  unfold vt_vs
  have e : ∀ x y z, 1 ≤ x → x ≤ 5 → 1 ≤ y → y ≤ 5 → (z = 10 ∨ z = 11) → (100 * x + 10 * y + z - 10) / 100 = x ∧ (100 * x + 10 * y + z - 10) / 10 % 10 = y ∧ (100 * x + 10 * y + z - 10) % 10 ≤ 1 := by
    intro x y z h1 h2 h3 h4 h5; omega
  have hz : (if b (q0.2 + 3) = 102 then 10 else 11) = 10 ∨ (if b (q0.2 + 3) = 102 then 10 else 11) = 11 := by split <;> simp
  obtain ⟨e1, e2, e3⟩ := e (b q0.2 - 48) (b (q0.2 + 2) - 48) _ (by omega) (by omega) (by omega) (by omega) hz
  simp only [e1, e2, Bool.or_eq_true, Bool.and_eq_true, decide_eq_true_eq]
  right
  exact ⟨⟨⟨⟨by omega, by omega⟩, by omega⟩, by omega⟩, e3⟩
theorem kq_cablec (ht : kq_tc tl b σ0) (hn : kb_g σ0 16 = nI n) (hn2 : n < 200) (hd : kb_g σ0 9 = nI d) (hd2 : d ≤ 4) {p : Nat} {σ : kb_S} (h : kq_c σ0 (0, p) σ) : ∃ σ2, fn_X4_readCable (nI pl) σ = some σ2 ∧ kq_rc σ0 n d pl (kq_cb b p) σ2 := by
  obtain ⟨σ1, r1, r2⟩ := kq_word (cs := [99]) ht (w := 10) (by decide) (by decide) (by decide) h
  unfold fn_X4_readCable kq_cb
  rw [r1, Option.bind_some]
  generalize kq_w b [99] (0, p) = q0 at r2
  have hvs := kq_cx_vs (b := b) (q0 := q0)
  obtain ⟨σ2, v2, s1, s2, s3⟩ := kq_dig ht r2
  rw [s1, Option.bind_some]
  obtain ⟨σ3, t1, t2⟩ := kq_word (cs := [47]) ht (w := 11) (by decide) (by decide) (by decide) s2
  simp only
  rw [t1, Option.bind_some]
  obtain ⟨σ4, v4, u1, u2, u3⟩ := kq_dig ht t2
  rw [u1, Option.bind_some]
  have key : ∀ (w : Nat) (c z : Nat), w < 19 → kb_SL.getD w [] = [nI c] → c < 256 → (kq_cx b q0).1 = (kq_w b [c] (kq_d b (kq_w b [47] (kq_d b q0)))).1 → (kq_cx b q0).2.1 = (kq_w b [c] (kq_d b (kq_w b [47] (kq_d b q0)))).2 → (kq_cx b q0).2.2.1 = 100 * (b q0.2 - 48) + 10 * (b (kq_w b [47] (kq_d b q0)).2 - 48) + z → (kq_cx b q0).2.2.2 = 1 →
      ∃ σ9, ((fn_X4_readWord w σ4).bind fun q7 => (fn_X4_addStitches (fn_X6_cable v2 v4 (nI z)) (1 : Int32) (nI pl) q7).bind fun q8 => some q8) = some σ9 ∧ kq_rc σ0 n d pl (kq_cx b q0) σ9 := by
    intro w c z hw hwc hc e1 e2 e3 e4
    obtain ⟨σ5, x1, x2⟩ := kq_word (cs := [c]) ht hw hwc (by intro y hy; simp at hy; omega) u2
    rw [x1, Option.bind_some]
    have hcx : kq_cx b q0 = ((kq_cx b q0).1, (kq_cx b q0).2.1, (kq_cx b q0).2.2.1, 1) := by rw [← e4]
    by_cases h0 : (kq_cx b q0).1 = 0
    · obtain ⟨a0, a1, a2, a3, a4, a5, a6, a7⟩ := kq_cx_ok h0
      have d1 : kq_d b q0 = (0, q0.2 + 1) := by unfold kq_d; rw [if_pos a0, if_pos ⟨a1, a2⟩]
      have d2 : kq_w b [47] (kq_d b q0) = (0, q0.2 + 2) := by rw [d1]; simp [kq_w, a3]
      have d3 : kq_d b (kq_w b [47] (kq_d b q0)) = (0, q0.2 + 3) := by rw [d2]; simp [kq_d, a4, a5]
      have v2e := s3 (by rw [d1])
      have v4e := u3 (by rw [d3])
      rw [d2] at v4e
      have ecab : fn_X6_cable v2 v4 (nI z) = nI (kq_cx b q0).2.2.1 := by
        rw [e3, d2]; unfold fn_X6_cable
        rw [v2e, v4e, show (100 : Int32) = nI 100 from rfl, show (10 : Int32) = nI 10 from rfl, pk_mul, pk_mul, nI_add, nI_add]
      rw [ecab]
      obtain ⟨σ6, w1, w2⟩ := kq_addc (pl := pl) (K := (kq_cx b q0).2.2.1) (N := 1) (v := 1) (f := (kq_cx b q0).1) (p := (kq_cx b q0).2.1) hn hn2 hd hd2 hvs (by rw [e1, e2]; exact x2) (fun _ => rfl)
      rw [w1, hcx]; exact ⟨_, rfl, w2⟩
    · have x3 : kq_c σ0 ((kq_cx b q0).1, (kq_cx b q0).2.1) σ5 := by rw [e1, e2]; exact x2
      unfold fn_X4_addStitches
      rw [kq_right x3, if_neg (show ¬ (kq_cx b q0).1 = 0 from h0), if_pos rfl]
      exact ⟨σ5, rfl, fun h5 => absurd h5 h0, fun _ => x3⟩
  obtain ⟨v5, hv5⟩ := kq_next' ht u2
  rw [hv5, Option.bind_some]
  by_cases hr : (kq_d b (kq_w b [47] (kq_d b q0))).1 = 0
  · have hs : kq_d b (kq_w b [47] (kq_d b q0)) = (0, (kq_d b (kq_w b [47] (kq_d b q0))).2) := by rw [← hr]
    rw [hs] at u2
    rw [kq_next ht u2] at hv5
    have hv6 : v5 = kq_see b (kq_d b (kq_w b [47] (kq_d b q0))).2 := (Option.some.inj hv5).symm
    by_cases hf : b (kq_d b (kq_w b [47] (kq_d b q0))).2 = 102
    · rw [if_pos (show v5 = 102 by rw [hv6]; exact (kq_see_eq (c := 102) (by omega)).mpr hf)]
      rw [← hs] at u2
      exact key 12 102 10 (by decide) rfl (by decide) (by simp only [kq_cx, if_pos hf]) (by simp only [kq_cx, if_pos hf]) (by simp only [kq_cx, if_pos hf]) rfl
    · rw [if_neg (show ¬ v5 = 102 by rw [hv6]; exact fun h5 => hf ((kq_see_eq (c := 102) (by omega)).mp h5))]
      rw [← hs] at u2
      exact key 13 98 11 (by decide) rfl (by decide) (by simp only [kq_cx, if_neg hf]) (by simp only [kq_cx, if_neg hf]) (by simp only [kq_cx, if_neg hf]) rfl
  · have hw : ∀ c, kq_w b [c] (kq_d b (kq_w b [47] (kq_d b q0))) = kq_d b (kq_w b [47] (kq_d b q0)) := fun c => kq_w_wrong _ hr
    have f1 : (kq_cx b q0).1 = (kq_d b (kq_w b [47] (kq_d b q0))).1 := by simp only [kq_cx, hw, ite_self]
    have f2 : (kq_cx b q0).2.1 = (kq_d b (kq_w b [47] (kq_d b q0))).2 := by simp only [kq_cx, hw, ite_self]
    have key2 : ∀ (w : Nat) (c : Nat) (z : Int32), w < 19 → kb_SL.getD w [] = [nI c] → c < 256 → ∃ σ9, ((fn_X4_readWord w σ4).bind fun q7 => (fn_X4_addStitches (fn_X6_cable v2 v4 z) (1 : Int32) (nI pl) q7).bind fun q8 => some q8) = some σ9 ∧ kq_rc σ0 n d pl (kq_cx b q0) σ9 := by
      intro w c z hw1 hwc hc
      obtain ⟨σ5, x1, x2⟩ := kq_word (cs := [c]) ht hw1 hwc (by intro y hy; simp at hy; omega) u2
      rw [hw c] at x2
      have x3 : kq_c σ0 ((kq_cx b q0).1, (kq_cx b q0).2.1) σ5 := by rw [f1, f2]; exact x2
      have h0 : ¬ (kq_cx b q0).1 = 0 := by rw [f1]; exact hr
      rw [x1, Option.bind_some]
      unfold fn_X4_addStitches
      rw [kq_right x3, if_neg (show ¬ (kq_cx b q0).1 = 0 from h0), if_pos rfl]
      exact ⟨σ5, rfl, fun h5 => absurd h5 h0, fun _ => x3⟩
    by_cases hv6 : v5 = 102
    · rw [if_pos hv6]; exact key2 12 102 10 (by decide) rfl (by decide)
    · rw [if_neg hv6]; exact key2 13 98 11 (by decide) rfl (by decide)
end KQC
