theorem kx_bind5 {f : kb_S → Option kb_S} {xs : List Nat} (hp : kx_pr 1 3 3 f xs) {τ : kb_S} {l : Nat} (hl : kb_g τ 1 = nI l) (hle : l + xs.length ≤ 480) : ∃ τ2, f τ = some τ2 ∧ kx_ap2 1 3 3 l τ xs τ2 := by
  obtain ⟨τ2, r1, r2⟩ := hp τ l hl hle
  exact ⟨τ2, r1, r2.ap2⟩
/-- one piece is told, when the shorter ones are -/
theorem kw_tellP {s : Nat → Nat} {c : Nat} {τ : kb_S} (h : kw_ht s c τ) {d i n l : Nat} (tp : Int32 → Int32 → Int32 → kb_S → Option kb_S) (hd : d ≤ 4) (hn : 1 ≤ n) (hi : i + n ≤ c) (hlm : n ≤ kw_lim c d) (hone : n = 1 ∨ kw_V s d i n < 1000) (hl : kb_g τ 1 = nI l) (hle : l + (kw_X s d i n).length ≤ 480)
    (htp : d < 4 → ∀ q, 1 ≤ q → q ≤ n / 2 → q ≤ kw_lim c (d + 1) → ∀ τ l, kw_ht s c τ → (∀ k, k ≤ q → kw_gd s τ (d + 1) (i + q - k) k) → kb_g τ 1 = nI l → l + (kw_X s (d + 1) i q).length ≤ 480 → ∃ τ2, tp (nI i) (nI q) (nI (d + 1)) τ = some τ2 ∧ kx_ap2 1 3 3 l τ (kw_X s (d + 1) i q) τ2) :
    ∃ τ2, fn_X5_tellPiece tp (nI i) (nI n) (nI d) τ = some τ2 ∧ kx_ap2 1 3 3 l τ (kw_X s d i n) τ2 := by
  have hc := h.1.1
  have hst := h.1.2.2.1 i (by omega)
  unfold fn_X5_tellPiece
  rw [kw_best h hd hn hi hlm, Option.bind_some]
  by_cases h1 : n = 1
  · subst h1
    have hb : (kw_bg s d i 1).2 = 0 := by
      unfold kw_bg
      split
      · rfl
      · rfl
    rw [hb, if_pos (by decide)]
    rw [kw_X1] at hle ⊢
    obtain ⟨τ2, r1, r2⟩ := kx_bind5 (kx_stitch5 hst.1) hl hle
    unfold fp_X5_tellPiece_20
    rw [if_pos (vt_in' (by omega) (by omega)), nI_clamp (by omega), hst.2, r1, Option.bind_some]
    exact ⟨τ2, rfl, r2⟩
  · have hV : kw_V s d i n < 1000 := by omega
    obtain ⟨hd4, a1, a2, a3, a4, a5⟩ := kw_bg_V (s := s) (d := d) (i := i) (n := n) (by omega) (by omega) hV
    have hX := kw_Xg (s := s) (d := d) (i := i) (n := n) (by omega) (by omega) rfl a1 a2
    rw [a5]
    generalize kw_V s d i n = q at *
    rw [hX] at hle ⊢
    simp only [List.length_append, List.length_cons, List.length_nil] at hle
    simp only
    have hls := kw_lim_s (c := c) (d := d) (by omega)
    have hqt : q * (n / q) = n := by have := Nat.div_add_mod n q; omega
    have h2nq : 2 ≤ n / q := by rw [Nat.le_div_iff_mul_le (by omega)]; omega
    have hnq := Nat.div_le_self n q
    have hti : n / q ≤ kw_ti s c i q := (kw_ti_iff a1 (by omega) h2nq).mpr ⟨by rw [hqt]; exact hi, by rw [hqt]; exact a4⟩
    rw [if_neg (by rw [vt_1, vt_ltI (by omega) (by omega)]; omega), if_pos (by rw [vt_4, vt_ltI (by omega) (by omega)]; exact hd4), show (40 : Int32) = nI 40 from rfl]
    obtain ⟨τ1, p1, p2⟩ := kx_bind5 (kx_put5 40) hl (by simp only [List.length_cons, List.length_nil]; omega)
    have h1' := h.ap p2
    obtain ⟨τ2, q1, q2⟩ := htp hd4 q a1 a2 (by rw [hls]; omega) τ1 (l + [40].length) h1' (fun k hk => h1'.2 (d + 1) (by omega) (by omega) i q a1 (by rw [hls]; omega) (by omega) (by omega) k hk) p2.1 (by simp only [List.length_cons, List.length_nil]; omega)
    obtain ⟨τ3, r1, r2⟩ := kx_bind5 (kx_put5 41) q2.1 (by simp only [List.length_cons, List.length_nil]; omega)
    obtain ⟨τ4, s1, s2⟩ := kx_bind5 (kx_put5 120) r2.1 (by simp only [List.length_cons, List.length_nil]; omega)
    obtain ⟨τ5, t1, t2⟩ := kx_bind5 (kx_num5 (t := n / q) (by omega)) s2.1 (by simp only [List.length_cons, List.length_nil]; omega)
    refine ⟨τ5, ?_, kx_ap2_app p2 (kx_ap2_app q2 (kx_ap2_app r2 (kx_ap2_app s2 t2)))⟩
    rw [p1, Option.bind_some, vt_1, nI_add, q1, Option.bind_some, show (41 : Int32) = nI 41 from rfl, r1, Option.bind_some, show (120 : Int32) = nI 120 from rfl, s1, Option.bind_some, if_pos (by rw [vt_0, vt_eqI (by omega) (by omega)]; omega), pk_div (by omega) (by omega) (by omega), t1, Option.bind_some]
theorem kw_tell5 {s : Nat → Nat} {c : Nat} : ∀ (n : Nat), 1 ≤ n → ∀ (d i l m : Nat) (τ : kb_S), d ≤ 4 → 4 ≤ m + d → i + n ≤ c → n ≤ kw_lim c d → kw_ht s c τ → (∀ k, k ≤ n → kw_gd s τ d (i + n - k) k) → kb_g τ 1 = nI l → l + (kw_X s d i n).length ≤ 480 → ∃ τ2, fn_X5_tell (m + 1) (nI i) (nI n) (nI d) τ = some τ2 ∧ kx_ap2 1 3 3 l τ (kw_X s d i n) τ2 := by
  intro n
  induction n using Nat.strongRecOn with
  | _ n ih =>
    intro hn d i l m τ hd hmd hi hlm hht hgd hl hle
    have hc := hht.1.1
    have htp : ∀ a p, p ≤ n → a + p ≤ c → d < 4 → ∀ q, 1 ≤ q → q ≤ p / 2 → q ≤ kw_lim c (d + 1) → ∀ τ l, kw_ht s c τ → (∀ k, k ≤ q → kw_gd s τ (d + 1) (a + q - k) k) → kb_g τ 1 = nI l → l + (kw_X s (d + 1) a q).length ≤ 480 → ∃ τ2, fn_X5_tell m (nI a) (nI q) (nI (d + 1)) τ = some τ2 ∧ kx_ap2 1 3 3 l τ (kw_X s (d + 1) a q) τ2 := by
      intro a p hp hap hd4 q b1 b2 b3 τ l c1 c2 c3 c4
      obtain ⟨m', rfl⟩ : ∃ m', m = m' + 1 := ⟨m - 1, by omega⟩
      exact ih q (by omega) b1 (d + 1) a l m' τ (by omega) (by omega) (by omega) b3 c1 c2 c3 c4
    have key : ∀ (rem : Nat), 1 ≤ rem → rem ≤ n → ∀ (t l : Nat) (τ : kb_S) (fu : Nat), t ≤ n - rem → rem + 1 < fu → kw_ht s c τ → (∀ k, k ≤ rem → kw_gd s τ d (i + n - k) k) → kb_g τ 1 = nI l → l + ((if rem < n then [44] else []) ++ kw_X s d (i + n - rem) rem).length ≤ 480 → ∃ τ2, fp_X5_tellPart_11 (fn_X5_tellPiece (fn_X5_tell m)) fu (nI i) (nI n) (nI d) (nI (i + n - rem)) (nI (i + n)) (nI t) τ = some τ2 ∧ kx_ap2 1 3 3 l τ ((if rem < n then [44] else []) ++ kw_X s d (i + n - rem) rem) τ2 := by
      intro rem
      induction rem using Nat.strongRecOn with
      | _ rem ihr =>
        intro h1 h2 t l τ fu ht hf hht hgd hl hle
        obtain ⟨f, rfl⟩ : ∃ f, fu = f + 1 + 1 := ⟨fu - 2, by omega⟩
        rw [List.length_append] at hle
        -- behind the comma
        have hrest : ∀ τ l, kw_ht s c τ → (∀ k, k ≤ rem → kw_gd s τ d (i + n - k) k) → kb_g τ 1 = nI l → l + (kw_X s d (i + n - rem) rem).length ≤ 480 → ∃ τ2, fp_X5_tellPart_36 (fn_X5_tellPiece (fn_X5_tell m)) (fp_X5_tellPart_11 (fn_X5_tellPiece (fn_X5_tell m)) (f + 1)) (nI i) (nI n) (nI d) (nI (i + n - rem)) (nI (i + n)) (nI t) τ = some τ2 ∧ kx_ap2 1 3 3 l τ (kw_X s d (i + n - rem) rem) τ2 := by
          intro τ l hht hgd hl hle
          unfold fp_X5_tellPart_36
          rw [pk_sub (by omega), show i + n - (i + n - rem) = rem by omega, kw_firstP hht hd h1 (by omega) (by omega) (fun k hk => by rw [show i + n - rem + rem - k = i + n - k by omega]; exact hgd k hk), Option.bind_some]
          unfold kw_fp
          by_cases hone : rem = 1 ∨ kw_V s d (i + n - rem) rem < 1000
          · rw [if_pos hone]
            obtain ⟨τ2, r1, r2⟩ := kw_tellP hht (fn_X5_tell m) hd h1 (show i + n - rem + rem ≤ c by omega) (by omega) hone hl hle (fun hd4 => htp (i + n - rem) rem h2 (by omega) hd4)
            refine ⟨τ2, ?_, r2⟩
            rw [r1, Option.bind_some, nI_add, show i + n - rem + rem = i + n by omega, fp_X5_tellPart_11_s, if_pos (show nI (i + n) ≤ nI (i + n) by rw [vt_leI (by omega) (by omega)]; omega), ite_self]
          · rw [if_neg hone]
            have hr2 : 2 ≤ rem := by omega
            rcases kw_S3 (s := s) d (i + n - rem) hr2 (by omega) with ⟨_, q, e, _, a2, _⟩ | ⟨q, e, a1, a2, a3, _⟩
            · exact absurd (Or.inr (by omega)) hone
            · have hX := kw_Xs (s := s) (d := d) (i := i + n - rem) (n := rem) hr2 (by omega) e a1 a2
              rw [e, Nat.add_sub_cancel_left]
              rw [hX] at hle ⊢
              simp only [List.length_append, List.length_cons, List.length_nil] at hle
              have honeq : q = 1 ∨ kw_V s d (i + n - rem) q < 1000 := by
                rcases kw_split (s := s) (d := d) (i := i + n - rem) (n := rem) hr2 (by omega) e with h | h
                · exact Or.inl h
                · exact Or.inr h.2
              obtain ⟨τ2, r1, r2⟩ := kw_tellP hht (fn_X5_tell m) hd a1 (show i + n - rem + q ≤ c by omega) (by omega) honeq hl (by omega) (fun hd4 => htp (i + n - rem) q (by omega) (by omega) hd4)
              have hht2 := hht.ap r2
              have hg2 : ∀ k, k ≤ rem - q → kw_gd s τ2 d (i + n - k) k := fun k hk => (hgd k (by omega)).same (r2.2.2.1 0 (by decide) (by decide))
              have hxe : ((if rem - q < n then [44] else []) ++ kw_X s d (i + n - (rem - q)) (rem - q)) = [44] ++ kw_X s d (i + n - rem + q) (rem - q) := by
                rw [if_pos (by omega), show i + n - (rem - q) = i + n - rem + q by omega]
              obtain ⟨τ3, s1, s2⟩ := ihr (rem - q) (by omega) (by omega) (by omega) (t + 1) (l + (kw_X s d (i + n - rem) q).length) τ2 (f + 1) (by omega) (by omega) hht2 hg2 r2.1 (by rw [hxe]; simp only [List.length_append, List.length_cons, List.length_nil]; omega)
              rw [hxe] at s2
              refine ⟨τ3, ?_, kx_ap2_app r2 s2⟩
              rw [r1, Option.bind_some, nI_add, show i + n - rem + q = i + n - (rem - q) by omega, vt_1, nI_add]; exact s1
        rw [fp_X5_tellPart_11_s, if_neg (by rw [vt_leI (by omega) (by omega)]; omega), if_neg (by rw [vt_leI (by omega) (by omega)]; omega)]
        by_cases hrn : rem < n
        · rw [if_pos hrn] at hle ⊢
          simp only [List.length_cons, List.length_nil] at hle
          rw [if_neg (by rw [vt_leI (by omega) (by omega)]; omega), show (44 : Int32) = nI 44 from rfl]
          obtain ⟨τ1, p1, p2⟩ := kx_bind5 (kx_put5 44) hl (by simp only [List.length_cons, List.length_nil]; omega)
          obtain ⟨τ2, r1, r2⟩ := hrest τ1 (l + [44].length) (hht.ap p2) (fun k hk => (hgd k hk).same (p2.2.2.1 0 (by decide) (by decide))) p2.1 (by simp only [List.length_cons, List.length_nil]; omega)
          refine ⟨τ2, ?_, kx_ap2_app p2 r2⟩
          rw [p1, Option.bind_some]; exact r1
        · rw [if_neg hrn] at hle ⊢
          simp only [List.length_nil] at hle
          rw [if_pos (by rw [vt_leI (by omega) (by omega)]; omega), List.nil_append]
          exact hrest τ l hht hgd hl (by omega)
    have hk := key n hn (Nat.le_refl n) 0 l τ kb_FU (by omega) (by rw [vt_fu]; omega) hht hgd hl (by rw [if_neg (by omega), List.nil_append, show i + n - n = i by omega]; exact hle)
    rw [if_neg (by omega), List.nil_append, show i + n - n = i by omega] at hk
    obtain ⟨τ2, r1, r2⟩ := hk
    refine ⟨τ2, ?_, r2⟩
    show fn_X5_tellPart (fn_X5_tellPiece (fn_X5_tell m)) (nI i) (nI n) (nI d) τ = _
    unfold fn_X5_tellPart
    rw [nI_add]; exact r1
