section KQPS
variable {σi μi σ μ : kb_S} {tl p n : Nat} {due : Bool} {K N O Wh : Nat → Nat} {sk : Nat → List Nat} {b : Nat → Nat}
theorem kq_ps_c (h : kq_ps σi μi tl p n due K N O Wh sk σ μ) (htl : tl ≤ 200) : kq_c σ (0, p) σ := by
  obtain ⟨_, ⟨a1, a2, a3, a4⟩, ⟨b1, b2, b3, b4⟩, _⟩ := h
  exact ⟨fun _ _ _ => rfl, fun _ => rfl, fun _ => rfl, b1, fun _ => a1, Nat.zero_le 9, Nat.le_trans a3 htl, p, Nat.le_trans a3 htl, a1⟩
theorem kq_ps_m (h : kq_ps σi μi tl p n due K N O Wh sk σ μ) (htl : tl ≤ 200) : kq_m μ (0, p) μ := by
  obtain ⟨_, ⟨a1, a2, a3, a4⟩, ⟨b1, b2, b3, b4⟩, _⟩ := h
  exact ⟨fun _ _ _ _ => rfl, fun _ => rfl, b2, fun _ => a2, fun h5 => absurd rfl h5, Nat.zero_le 9, Nat.le_trans a3 htl, p, by omega, a2⟩
theorem kq_ps_tc (h : kq_ps σi μi tl p n due K N O Wh sk σ μ) (ht : kq_tc tl b σi) : kq_tc tl b σ := by
  unfold kq_tc at *; rw [h.1.1 0 (by decide), h.1.2.1 0 (by decide)]; exact ht
theorem kq_ps_tm (h : kq_ps σi μi tl p n due K N O Wh sk σ μ) (ht : kq_tm tl b μi) : kq_tm tl b μ := by
  unfold kq_tm at *; rw [h.1.2.2.1 1 (by omega), h.1.2.2.2 0 (by omega)]; exact ht
theorem kq_ps_comma (h : kq_ps σi μi tl p n false K N O Wh sk σ μ) (hp : p < tl) : kq_ps σi μi tl (p + 1) n true K N O Wh sk (kb_p (kb_p σ 10 (nI (p + 1))) 12 1) (kb_p μ 5 (nI (p + 1))) := by
  obtain ⟨⟨f1, f2, f3, f4⟩, ⟨a1, a2, a3, a4⟩, ⟨b1, b2, b3, b4⟩, ⟨c1, c2, c3⟩, ⟨d1, d2⟩, e1, e2, e3, e4, e5⟩ := h
  refine ⟨⟨fun j hj => ?_, f2, fun j hj => ?_, f4⟩, ⟨rfl, rfl, by omega, fun _ => by omega, by omega⟩, ⟨b1, b2, b3, rfl⟩, ⟨c1, c2, c3⟩, ⟨d1, d2⟩, e1, fun k hk => (e2 k hk).same rfl rfl rfl rfl (fun _ _ _ => rfl) (fun _ _ _ => rfl), ?_, e4, fun h5 => absurd h5 (by decide)⟩
  · rw [vt_gp, if_neg (by omega), vt_gp, if_neg (by omega)]; exact f1 j hj
  · rw [vt_gp, if_neg (by omega)]; exact f3 j hj
  · exact e3.same (fun _ _ => ⟨rfl, rfl, rfl⟩) (fun _ _ => ⟨rfl, rfl, rfl⟩)
end KQPS
theorem kq_read {σi μi : kb_S} {tl : Nat} {b : Nat → Nat} (hti : kq_tc tl b σi) (htm : kq_tm tl b μi) : ∀ (m p n : Nat) (due : Bool) (K N O Wh : Nat → Nat) (sk : Nat → List Nat) (σ μ : kb_S) (t fu fm fs : Nat) (x1 : Int32), tl - p = m → kq_ps σi μi tl p n due K N O Wh sk σ μ → t ≤ p → m + 3 ≤ fu → m + 3 ≤ fm → m + 3 ≤ fs → (x1 = 0 ↔ decide (n = 0) = false) →
    ∃ σ2 v μ2 μ3, fp_X4_readTape_41 fu (nI t) σ = some (σ2, v) ∧ (if due = true then fp_X9_line_4 fm x1 1 μ else fp_X9_line_67 (fp_X9_line_4 fm) fs 0 μ) = some μ2 ∧ kq_tail μ2 = some μ3 ∧ kq_res σi μi σ2 v μ3 := by
  have htl := hti.1
  intro m
  induction m using Nat.strongRecOn with
  | _ m ih =>
  intro p n due K N O Wh sk σ μ t fu fm fs x1 hm hps ht hfu hfm hfs hx1
  have htc := kq_ps_tc hps hti
  have htmm := kq_ps_tm hps htm
  have hc := kq_ps_c hps htl
  have hmm := kq_ps_m hps htl
  have hptl : p ≤ tl := hps.2.1.2.2.1
  obtain ⟨F, rfl⟩ : ∃ F, fu = F + 1 + 1 := ⟨fu - 2, by omega⟩
  obtain ⟨M, rfl⟩ : ∃ M, fm = M + 1 + 1 := ⟨fm - 2, by omega⟩
  obtain ⟨G, rfl⟩ : ∃ G, fs = G + 1 + 1 := ⟨fs - 2, by omega⟩
  obtain ⟨q, hq⟩ : ∃ q, q = kq_b b 201 p := ⟨_, rfl⟩
  have hqle := kq_b_le htc 201 p hptl
  rw [← hq] at hqle
  obtain ⟨σq, s1, s2⟩ := kq_skip htc hc
  have e0 : kq_bl b (0, p) = (0, q) := by unfold kq_bl; rw [if_pos rfl, hq]
  rw [e0] at s2
  have hC : fp_X4_readTape_41 (F + 1 + 1) (nI t) σ = if due = true then (fn_X4_readItem σq).bind (fun q6 => fp_X4_readTape_41 (F + 1) (nI (t + 1)) q6) else (fn_X4_readSign σq).bind (fun q6 => fp_X4_readTape_41 (F + 1) (nI (t + 1)) q6) := by
    rw [fp_X4_readTape_41_s]
    unfold fn_X7_length
    rw [htc.2.1, if_neg (by rw [vt_ltI (by omega) (by omega)]; omega), if_pos hps.2.2.1.2.2.1, kq_right hc, if_pos rfl, if_neg (show ¬ (1 : Int32) = 0 by decide), s1, Option.bind_some]
    have g12 : kb_g σq 12 = if due = true then 1 else 0 := by rw [s2.1 12 (by decide) (by decide)]; exact hps.2.2.1.2.2.2
    unfold fp_X4_readTape_88
    rw [vt_1, nI_add]
    cases due
    · rw [if_pos (by rw [g12]; rfl)]; rfl
    · rw [if_neg (by rw [g12]; decide)]; rfl
  cases hdue : due with
  | true =>
    subst hdue
    rw [hC, if_pos rfl, if_pos rfl]
    obtain ⟨μq, r1, r2⟩ := kq_seeWord htmm hmm
    rw [← hq] at r1 r2
    have hpq := kq_ps_skip hps s2 r2 hqle.2 hqle.1
    have htcq := kq_ps_tc hpq hti
    have htmq := kq_ps_tm hpq htm
    have hcq := kq_ps_c hpq htl
    have hmq := kq_ps_m hpq htl
    have hd := hpq.2.2.2.1
    have hn := hpq.2.2.2.2.1
    have hn2 : n < 200 := by have := hpq.2.1.2.2.2.1 rfl; omega
    have hR : fp_X9_line_4 (M + 1 + 1) x1 1 μ = if b q = 40 ∨ (b q = 114 ∧ (sk n).length = 0) then (fn_X9_opens (kq_see b q) (nI q) μq).bind (fun q1 => fp_X9_line_4 (M + 1) 0 1 q1) else (fn_X9_named (kq_see b q) (nI q) x1 μq).bind (fun q1 => fp_X9_line_67 (fp_X9_line_4 (M + 1)) kb_FU 0 q1) := by
      rw [fp_X9_line_4_s, if_neg (by decide), if_pos (hmm.f0.mpr rfl), r1, Option.bind_some]
      simp only
      rw [hpq.2.1.2.1, hd.2.1]
      unfold fp_X9_line_45 fp_X9_line_57
      by_cases h40 : b q = 40
      · rw [if_pos (show kq_see b q = 40 from (kq_see_eq (c := 40) (by omega)).mpr h40), if_pos (Or.inl h40)]
      · rw [if_neg (fun h5 : kq_see b q = 40 => h40 ((kq_see_eq (c := 40) (by omega)).mp h5))]
        by_cases h114 : b q = 114
        · rw [if_pos (show kq_see b q = 114 from (kq_see_eq (c := 114) (by omega)).mpr h114)]
          by_cases h0 : (sk n).length = 0
          · rw [if_pos (by rw [h0]; rfl), if_pos (Or.inr ⟨h114, h0⟩)]
          · rw [if_neg (by rw [vt_0, vt_eqI (by omega) (by omega)]; exact h0), if_neg (by omega)]
        · rw [if_neg (fun h5 : kq_see b q = 114 => h114 ((kq_see_eq (c := 114) (by omega)).mp h5)), if_neg (by omega)]
    rw [hR]
    have hitem := kq_itemc htcq hn.1 hn2 hd.1 hd.2.2 hqle.1 hcq
    by_cases hb : b q = 40 ∨ b q = 114
    · obtain ⟨σ2, u1, u2⟩ := hitem.1 hb
      rw [u1, Option.bind_some]
      by_cases hb2 : b q = 40 ∨ (b q = 114 ∧ (sk n).length = 0)
      · obtain ⟨μ2, w1, w2⟩ := kq_opm (pl := q) htmq hn.2 (by omega) hd.2.1 hd.2.2 hqle.1 hb2 hmq
        rw [if_pos hb2, w1, Option.bind_some]
        by_cases hf : (kq_op b (sk n).length q).1 = 0
        · obtain ⟨o1, o2, o3, o4, x, o5, o6⟩ := kq_op_pos hd.2.2 hf
          have hx := kq_inb htcq o6
          obtain ⟨K', N', O', Wh', sk', hp2⟩ := kq_ps_op htl hpq o3 (u2.1 hf) (w2.1 hf) o1 (by omega) o2 o4
          obtain ⟨σ3, v, μ3, μ4, y1, y2, y3, y4⟩ := ih (tl - (kq_op b (sk n).length q).2.1) (by omega) _ (n + 1) true K' N' O' Wh' sk' σ2 μ2 (t + 1) (F + 1) (M + 1) kb_FU 0 rfl hp2 (by omega) (by omega) (by omega) (by rw [vt_fu]; omega) (by simp)
          rw [if_pos rfl] at y2
          exact ⟨σ3, v, μ3, μ4, y1, y2, y3, y4⟩
        · have k1 := u2.2 hf
          obtain ⟨z1, z2, z3⟩ := kq_bad hpq.1 hf k1.2.2.2.2.2.1 k1.2.2.2.2.2.2.1 k1.fc ((w2.2 hf).fm hf)
          exact ⟨σ2, _, μ2, μ2, z1 _ _, kq_stop4 z2 _ _ _, kq_stopt z2, z3⟩
      · have e1 : kq_op b (sk n).length q = (1, q, 2) := by
          unfold kq_op; rw [if_neg (by omega), if_neg (by omega)]
        rw [e1] at u2
        have k1 := u2.2 (by simp)
        obtain ⟨μ2, w1, _, w2⟩ := kq_namedm (pl := q) htmq hn.2 (by omega) hx1 (by omega) hmq
        have k2 := w2 (by omega)
        rw [if_neg hb2, w1, Option.bind_some]
        obtain ⟨z1, z2, z3⟩ := kq_bad (s := (1, q)) hpq.1 (by simp) k1.2.2.2.2.2.1 k1.2.2.2.2.2.2.1 k1.fc (k2.fm (by simp))
        exact ⟨σ2, _, μ2, μ2, z1 _ _, by rw [vt_fu]; exact kq_stop67 z2 _ _ _, kq_stopt z2, z3⟩
    · obtain ⟨σ2, u1, u2⟩ := hitem.2 hb
      obtain ⟨μ2, w1, w2, _⟩ := kq_namedm (pl := q) htmq hn.2 (by omega) hx1 (by omega) hmq
      have w3 := w2 (by omega)
      rw [u1, Option.bind_some, if_neg (by omega), w1, Option.bind_some]
      by_cases hf : (kq_st b (decide (n = 0)) q).1 = 0
      · obtain ⟨o1, o2, o3, o4, ⟨x, o5, o6⟩, o7⟩ := kq_st_good b (decide (n = 0)) q hf
        have hx := kq_inb htcq o6
        obtain ⟨K', N', O', Wh', sk', hp2⟩ := kq_ps_st htl hpq (u2.1 hf) (w3.1 hf) o4 (by omega) o1 o2 o3 o7
        obtain ⟨σ3, v, μ3, μ4, y1, y2, y3, y4⟩ := ih (tl - (kq_st b (decide (n = 0)) q).2.1) (by omega) _ (n + 1) false K' N' O' Wh' sk' σ2 μ2 (t + 1) (F + 1) (M + 1) kb_FU 0 rfl hp2 (by omega) (by omega) (by omega) (by rw [vt_fu]; omega) (by simp)
        rw [if_neg (by decide)] at y2
        exact ⟨σ3, v, μ3, μ4, y1, y2, y3, y4⟩
      · have k1 := u2.2 hf
        obtain ⟨z1, z2, z3⟩ := kq_bad hpq.1 hf k1.2.2.2.2.2.1 k1.2.2.2.2.2.2.1 k1.fc ((w3.2 hf).fm hf)
        exact ⟨σ2, _, μ2, μ2, z1 _ _, by rw [vt_fu]; exact kq_stop67 z2 _ _ _, kq_stopt z2, z3⟩
  | false =>
    subst hdue
    rw [hC, if_neg (by decide), if_neg (by decide)]
    obtain ⟨μq, r2, r3⟩ := kq_sign htmm hmm hps.2.2.2.1.2.1 hps.2.2.2.1.2.2 (fp_X9_line_4 (M + 1 + 1)) (G + 1) hq
    rw [r3]
    have hpq := kq_ps_skip hps s2 r2 hqle.2 hqle.1
    have htcq := kq_ps_tc hpq hti
    have htmq := kq_ps_tm hpq htm
    have hcq := kq_ps_c hpq htl
    have hmq := kq_ps_m hpq htl
    have hd := hpq.2.2.2.1
    have hn := hpq.2.2.2.2.1
    have hn2 : n < 200 := by have := hpq.2.1.2.2.2.2; omega
    have hn1 := (hpq.2.2.2.2.2.2.2.2.2 rfl).1
    have hnx := kq_next htcq hcq
    have hfail : ∃ σ2, fp_X4_readSign_73 σq = some σ2 ∧ kq_c σq (1, q) σ2 := by
      obtain ⟨σ2, f1, f2⟩ := kq_fail (k := 1) ⟨by omega, by omega⟩ hcq
      rw [if_pos rfl] at f2
      exact ⟨σ2, by unfold fp_X4_readSign_73; rw [vt_1, f1]; rfl, f2⟩
    unfold fn_X4_readSign
    rw [hnx, Option.bind_some, Option.bind_some, hd.1]
    by_cases h44 : b q = 44
    · have hqt := kq_inb htcq (p := q) (by omega)
      rw [if_pos (show kq_see b q = 44 from (kq_see_eq (c := 44) (by omega)).mpr h44), if_neg (by omega), if_pos h44, Option.bind_some, hpq.2.1.1, vt_1, nI_add]
      obtain ⟨σ3, v, μ3, μ4, y1, y2, y3, y4⟩ := ih (tl - (q + 1)) (by omega) (q + 1) n true K N O Wh sk _ _ (t + 1) (F + 1) (M + 1 + 1) kb_FU 0 rfl (kq_ps_comma hpq hqt) (by omega) (by omega) (by omega) (by rw [vt_fu]; omega) (by simp; omega)
      rw [if_pos rfl] at y2
      exact ⟨σ3, v, μ3, μ4, y1, y2, y3, y4⟩
    · rw [if_neg (fun h5 : kq_see b q = 44 => h44 ((kq_see_eq (c := 44) (by omega)).mp h5))]
      by_cases hcl : 0 < (sk n).length ∧ b q = 41
      · have hqt := kq_inb htcq (p := q) (by omega)
        rw [if_pos hcl, if_pos (show kq_see b q = 41 from (kq_see_eq (c := 41) (by omega)).mpr hcl.2), if_neg (by rw [vt_0, vt_leI (by omega) (by omega)]; omega)]
        obtain ⟨o, r, hsk⟩ : ∃ o r, sk n = o :: r := by
          cases hl : sk n with
          | nil => rw [hl] at hcl; exact absurd hcl.1 (by simp)
          | cons o r => exact ⟨o, r, rfl⟩
        have hlen : (sk n).length = r.length + 1 := by rw [hsk]; rfl
        have hok := hpq.2.2.2.2.2.1
        obtain ⟨ho, hro, hKK⟩ := kq_chain hok n (by omega) o r hsk
        have hlv := hpq.2.2.2.2.2.2.2.1
        rw [hsk] at hlv
        obtain ⟨l1, l2, _⟩ := hlv
        have hmk := hpq.2.2.2.2.2.2.1 o ho
        obtain ⟨rep, hrep⟩ : ∃ rep : Bool, K o = if rep = true then 22 else 20 := by
          rcases hKK with h | h
          · exact ⟨false, by rw [h]; rfl⟩
          · exact ⟨true, by rw [h]; rfl⟩
        have h7 : kb_a σq 7 o = nI (if rep = true then 2 else 1) := by rw [hmk.2.2.2.1, hrep]; cases rep <;> rfl
        have h9 : kb_a μq 9 o = nI (if rep = true then 22 else 20) := by rw [hmk.2.2.1, hrep]
        obtain ⟨σ2, u1, u2, u3⟩ := kq_closec htcq rep hcq hqt hn.1 hn2 hd.1 (by omega) hd.2.2 ho (by rw [hlen]; exact l1) h7
        obtain ⟨μ2, w1, w2, w3⟩ := kq_shuts htmq rep hmq hqt hn.2 hn2 hd.2.1 (by omega) hd.2.2 ho (by rw [hlen]; exact l2) h9
        rw [u1, Option.bind_some, Option.bind_some, w1, Option.bind_some]
        by_cases hf : (kq_cl b rep q).1 = 0
        · obtain ⟨o1, o2, o3, o4, x, o5, o6⟩ := kq_cl_pos hf
          have hx := kq_inb htcq o6
          obtain ⟨K', N', O', Wh', sk', hp2⟩ := kq_ps_cl htl hpq hsk hrep (u2 hf) (w2 hf) o1 (by omega) o2 o3 o4
          obtain ⟨σ3, v, μ3, μ4, y1, y2, y3, y4⟩ := ih (tl - (kq_cl b rep q).2.1) (by omega) _ (n + 1) false K' N' O' Wh' sk' σ2 μ2 (t + 1) (F + 1) (M + 1 + 1) (G + 1) 0 rfl hp2 (by omega) (by omega) (by omega) (by omega) (by simp)
          rw [if_neg (by decide)] at y2
          exact ⟨σ3, v, μ3, μ4, y1, y2, y3, y4⟩
        · have hb9 : (kq_cl b rep q).1 ≤ 9 ∧ (kq_cl b rep q).2.1 ≤ 200 := kq_cl_le htcq hqt
          obtain ⟨z1, z2, z3⟩ := kq_bad (s := ((kq_cl b rep q).1, (kq_cl b rep q).2.1)) hpq.1 hf hb9.1 hb9.2 (u3 hf) (w3 hf)
          exact ⟨σ2, _, μ2, μ2, z1 _ _, kq_stop67 z2 _ _ _, kq_stopt z2, z3⟩
      · rw [if_neg hcl, if_neg h44]
        obtain ⟨σf, f1, f2⟩ := hfail
        have e50 : (if kq_see b q = 41 then (if nI (sk n).length ≤ 0 then fp_X4_readSign_50 σq else (fn_X4_closeBracket σq).bind fun q6 => some q6) else fp_X4_readSign_50 σq) = fp_X4_readSign_50 σq := by
          by_cases h41 : b q = 41
          · rw [if_pos (show kq_see b q = 41 from (kq_see_eq (c := 41) (by omega)).mpr h41), if_pos (by rw [vt_0, vt_leI (by omega) (by omega)]; omega)]
          · rw [if_neg (fun h5 : kq_see b q = 41 => h41 ((kq_see_eq (c := 41) (by omega)).mp h5))]
        rw [e50]
        unfold fp_X4_readSign_50
        rw [hnx, Option.bind_some, hd.1, f1]
        have hm1 : (kq_see b q = (-1 : Int32)) ↔ ¬ b q < 256 := by
          unfold kq_see
          by_cases h5 : b q < 256
          · rw [if_pos h5]
            refine ⟨fun h6 => ?_, fun h6 => absurd h5 h6⟩
            have h7 : (nI (b q)).toInt = (-1 : Int32).toInt := by rw [h6]
            rw [vt_int (by omega)] at h7
            have h8 : (-1 : Int32).toInt = -1 := by decide
            omega
          · rw [if_neg h5]; exact ⟨fun _ => h5, fun _ => rfl⟩
        have h136 : fp_X9_line_4 (M + 1 + 1) 0 0 μq = if (sk n).length = 0 then some μq else fn_X9_wrong 1 μq := by
          rw [fp_X9_line_4_s, if_pos rfl]
          unfold fp_X9_line_136
          rw [if_pos (hmq.f0.mpr rfl), hd.2.1]
          by_cases h0 : (sk n).length = 0
          · rw [if_pos (by rw [h0]; decide), if_pos h0]
          · rw [if_neg (by rw [vt_0, vt_leI (by omega) (by omega)]; omega), if_neg h0]
            cases fn_X9_wrong 1 μq <;> rfl
        rw [h136]
        have hq32 : b q ≠ 32 := by rw [hq]; exact kq_b_stop hti.2.2.2 201 p (by omega)
        obtain ⟨μr, t1, t2⟩ := kq_seeWord htmq hmq
        rw [kq_b_stay hq32] at t1 t2
        by_cases h0 : (sk n).length = 0
        · rw [if_pos h0]
          have htail : kq_tail μq = if b q < 256 then fn_X9_wrong 1 μr else some μr := by
            unfold kq_tail
            rw [if_pos (hmq.f0.mpr rfl), t1, Option.bind_some]
            simp only
            unfold kq_see
            by_cases h5 : b q < 256
            · rw [if_pos h5, if_neg (vt_neg (by omega)), if_pos h5]
            · rw [if_neg h5, if_pos (by decide), if_neg h5]
          by_cases h5 : b q < 256
          · obtain ⟨μw, v1, v2⟩ := kq_wrong (k := 1) ⟨by omega, by omega⟩ t2
            rw [if_pos rfl] at v2
            rw [if_neg (fun h6 => hm1.mp h6 h5), Option.bind_some]
            obtain ⟨z1, z2, z3⟩ := kq_bad (s := (1, q)) hpq.1 (by simp) f2.2.2.2.2.2.1 f2.2.2.2.2.2.2.1 f2.fc (v2.fm (by simp))
            exact ⟨σf, _, μq, μw, z1 _ _, rfl, by rw [htail, if_pos h5]; exact v1, z3⟩
          · rw [if_pos (hm1.mpr h5), if_pos (show nI (sk n).length = 0 by rw [h0]; rfl), Option.bind_some]
            have hpr := kq_ps_skip hpq hcq t2 (Nat.le_refl q) hqle.1
            refine ⟨kb_p σq 13 1, 0, μq, μr, ?_, rfl, by rw [htail, if_neg h5], Or.inr ⟨rfl, n, K, N, O, Wh, sk, ?_⟩⟩
            · rw [fp_X4_readTape_41_s, show kb_g (kb_p σq 13 1) 11 = 0 from hpq.2.2.1.1, show kb_g (kb_p σq 13 1) 13 = 1 from rfl, if_neg (show ¬ (1 : Int32) = 0 by decide)]
              split <;> rfl
            · obtain ⟨⟨g1, g2, g3, g4⟩, ⟨a1, a2, a3, a4⟩, ⟨b1, b2, b3, b4⟩, ⟨c1, c2, c3⟩, ⟨d1, d2⟩, e1, e2, e3, e4, e5⟩ := hpr
              refine ⟨⟨fun j hj => ?_, g2, g3, g4⟩, ⟨by omega, d1, d2, b1, b2⟩, e1, fun k hk => (e2 k hk).same rfl rfl rfl rfl (fun _ _ _ => rfl) (fun _ _ _ => rfl), e4, List.eq_nil_of_length_eq_zero h0⟩
              rw [vt_gp, if_neg (by omega)]; exact g1 j hj
        · rw [if_neg h0]
          obtain ⟨μw, v1, v2⟩ := kq_wrong (k := 1) ⟨by omega, by omega⟩ hmq
          rw [if_pos rfl] at v2
          obtain ⟨z1, z2, z3⟩ := kq_bad (s := (1, q)) hpq.1 (by simp) f2.2.2.2.2.2.1 f2.2.2.2.2.2.2.1 f2.fc (v2.fm (by simp))
          refine ⟨σf, _, μw, μw, ?_, v1, kq_stopt z2, z3⟩
          have e3 : (if kq_see b q = (-1 : Int32) then (if nI (sk n).length = 0 then some (kb_p σq 13 1) else some σf) else some σf) = some σf := by
            rw [if_neg (show ¬ nI (sk n).length = 0 by rw [vt_0, vt_eqI (by omega) (by omega)]; exact h0)]; split <;> rfl
          rw [e3, Option.bind_some]; exact z1 _ _
