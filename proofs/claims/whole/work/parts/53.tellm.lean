/-! the shortest text -/
def kw_x (s : Nat → Nat) : Nat → Nat → Nat → Nat → List Nat
  | 0 => fun _ _ _ => []
  | m + 1 => fun d i n => if n ≤ 1 then kw_nm (s i) else if kw_V s d i n < 1000 then [40] ++ (kw_x s m (d + 1) i (kw_V s d i n) ++ ([41] ++ ([120] ++ kw_num (n / kw_V s d i n)))) else kw_x s m d i (kw_V s d i n - 1000) ++ ([44] ++ kw_x s m d (i + (kw_V s d i n - 1000)) (n - (kw_V s d i n - 1000)))
theorem kw_x_s (s : Nat → Nat) (m d i n : Nat) : kw_x s (m + 1) d i n = if n ≤ 1 then kw_nm (s i) else if kw_V s d i n < 1000 then [40] ++ (kw_x s m (d + 1) i (kw_V s d i n) ++ ([41] ++ ([120] ++ kw_num (n / kw_V s d i n)))) else kw_x s m d i (kw_V s d i n - 1000) ++ ([44] ++ kw_x s m d (i + (kw_V s d i n - 1000)) (n - (kw_V s d i n - 1000))) := rfl
def kw_X (s : Nat → Nat) (d i n : Nat) : List Nat := kw_x s n d i n
section KWX
variable {s : Nat → Nat}
theorem kw_x_ge : ∀ (n : Nat), 1 ≤ n → n < 1000 → ∀ d i m, n ≤ m → kw_x s m d i n = kw_X s d i n := by
  intro n
  induction n using Nat.strongRecOn with
  | _ n ih =>
    intro h1 h2 d i m hm
    obtain ⟨m, rfl⟩ : ∃ k, m = k + 1 := ⟨m - 1, by omega⟩
    obtain ⟨k, rfl⟩ : ∃ k, n = k + 1 := ⟨n - 1, by omega⟩
    unfold kw_X
    rw [kw_x_s, kw_x_s]
    by_cases hn1 : k + 1 ≤ 1
    · simp only [if_pos hn1]
    · simp only [if_neg hn1]
      rcases kw_S3 (s := s) d i (n := k + 1) (by omega) h2 with ⟨hd, q, e, a1, a2, _⟩ | ⟨q, e, a1, a2, _⟩
      · rw [e, if_pos (show q < 1000 by omega), if_pos (show q < 1000 by omega), ih q (by omega) a1 (by omega) (d + 1) i m (by omega), ih q (by omega) a1 (by omega) (d + 1) i k (by omega)]
      · rw [e, if_neg (show ¬ 1000 + q < 1000 by omega), if_neg (show ¬ 1000 + q < 1000 by omega), Nat.add_sub_cancel_left, ih q (by omega) a1 (by omega) d i m (by omega), ih q (by omega) a1 (by omega) d i k (by omega), ih (k + 1 - q) (by omega) (by omega) (by omega) d (i + q) m (by omega), ih (k + 1 - q) (by omega) (by omega) (by omega) d (i + q) k (by omega)]
theorem kw_X1 (d i : Nat) : kw_X s d i 1 = kw_nm (s i) := by
  unfold kw_X; rw [kw_x_s, if_pos (by omega)]
theorem kw_Xg {d i n q : Nat} (hn : 2 ≤ n) (hn2 : n < 1000) (hV : kw_V s d i n = q) (h1 : 1 ≤ q) (h2 : q ≤ n / 2) : kw_X s d i n = [40] ++ (kw_X s (d + 1) i q ++ ([41] ++ ([120] ++ kw_num (n / q)))) := by
  obtain ⟨k, rfl⟩ : ∃ k, n = k + 1 := ⟨n - 1, by omega⟩
  unfold kw_X
  rw [kw_x_s, if_neg (by omega), hV, if_pos (by omega), kw_x_ge q h1 (by omega) (d + 1) i k (by omega)]; rfl
theorem kw_Xs {d i n q : Nat} (hn : 2 ≤ n) (hn2 : n < 1000) (hV : kw_V s d i n = 1000 + q) (h1 : 1 ≤ q) (h2 : q < n) : kw_X s d i n = kw_X s d i q ++ ([44] ++ kw_X s d (i + q) (n - q)) := by
  obtain ⟨k, rfl⟩ : ∃ k, n = k + 1 := ⟨n - 1, by omega⟩
  unfold kw_X
  rw [kw_x_s, if_neg (by omega), hV, if_neg (by omega), Nat.add_sub_cancel_left, kw_x_ge q h1 (by omega) d i k (by omega), kw_x_ge (k + 1 - q) (by omega) (by omega) d (i + q) k (by omega)]; rfl
theorem kw_num_len (t : Nat) : (kw_num t).length ≤ 2 := by unfold kw_num; split <;> simp
theorem kw_X_len : ∀ (n : Nat), 1 ≤ n → n < 1000 → ∀ d i, (kw_X s d i n).length + 1 ≤ 6 * kw_W s d i n := by
  intro n
  induction n using Nat.strongRecOn with
  | _ n ih =>
    intro h1 h2 d i
    rcases (show n = 1 ∨ 2 ≤ n by omega) with h | h
    · rw [h, kw_X1, (kw_one d i).1]
      have := kw_nm_len (s i); omega
    · rcases kw_S3 (s := s) d i h h2 with ⟨hd, q, e, a1, a2, _, _, a3, _⟩ | ⟨q, e, a1, a2, a3, _⟩
      · have := ih q (by omega) a1 (by omega) (d + 1) i
        have := kw_num_len (n / q)
        rw [kw_Xg h h2 e a1 a2, a3]
        simp only [List.length_append, List.length_cons, List.length_nil]
        omega
      · have := ih q (by omega) a1 (by omega) d i
        have := ih (n - q) (by omega) (by omega) (by omega) d (i + q)
        rw [kw_Xs h h2 e a1 a2, a3]
        simp only [List.length_append, List.length_cons, List.length_nil]
        omega
end KWX
def kx_ap2 (gi ai ex l : Nat) (μ : kb_S) (xs : List Nat) (μ2 : kb_S) : Prop :=
  kb_g μ2 gi = nI (l + xs.length) ∧ (∀ j, j ≠ gi → kb_g μ2 j = kb_g μ j) ∧ (∀ j, j ≠ ai → j ≠ ex → kb_a μ2 j = kb_a μ j) ∧ (∀ x, x < l → kb_a μ2 ai x = kb_a μ ai x) ∧ ∀ k v, xs[k]? = some v → kb_a μ2 ai (l + k) = nI v
theorem kx_app.ap2 {gi ai ex l : Nat} {μ μ2 : kb_S} {xs : List Nat} (h : kx_app gi ai ex l μ xs μ2) : kx_ap2 gi ai ex l μ xs μ2 := ⟨h.1, h.2.1, h.2.2.1, h.2.2.2.2.1, h.2.2.2.2.2⟩
theorem kx_ap2_app {gi ai ex l : Nat} {μ μ2 μ3 : kb_S} {xs ys : List Nat} (h : kx_ap2 gi ai ex l μ xs μ2) (h2 : kx_ap2 gi ai ex (l + xs.length) μ2 ys μ3) : kx_ap2 gi ai ex l μ (xs ++ ys) μ3 := by
  obtain ⟨a1, a2, a3, a5, a6⟩ := h
  obtain ⟨b1, b2, b3, b5, b6⟩ := h2
  refine ⟨by rw [b1, List.length_append, Nat.add_assoc], fun j hj => by rw [b2 j hj, a2 j hj], fun j hj hj2 => by rw [b3 j hj hj2, a3 j hj hj2], fun x hx => by rw [b5 x (by omega), a5 x hx], fun k v hv => ?_⟩
  by_cases hk : k < xs.length
  · rw [List.getElem?_append_left hk] at hv
    rw [b5 _ (by omega)]; exact a6 k v hv
  · rw [List.getElem?_append_right (by omega)] at hv
    have := b6 _ v hv
    rw [show l + xs.length + (k - xs.length) = l + k by omega] at this; exact this
def kw_mc (s : Nat → Nat) (N r : Nat) (μ : kb_S) : Prop := kw_row s N r μ ∧ (∀ k, k < N → vt_vs (s k) = true) ∧ ∀ d i n, d ≤ 4 → 1 ≤ n → i + n ≤ N → kb_a μ 16 (kw_at d i n) = kw_vi (kw_V s d i n)
theorem kw_mc.same {s : Nat → Nat} {N r : Nat} {μ μ2 : kb_S} (h : kw_mc s N r μ) (h8 : kb_a μ2 8 = kb_a μ 8) (h16 : kb_a μ2 16 = kb_a μ 16) : kw_mc s N r μ2 := by
  unfold kw_mc kw_row at *; rw [h8, h16]; exact h
def kw_tk (μ : kb_S) (h : Nat) (a b c : Int32) : Prop := kb_a μ 19 (3 * h) = a ∧ kb_a μ 19 (3 * h + 1) = b ∧ kb_a μ 19 (3 * h + 2) = c
theorem kw_push {h : Nat} (hh : h ≤ 200) (a b c : Int32) (μ : kb_S) : ∃ μ2, fn_X9_push (nI h) a b c μ = some (μ2, nI (h + 1)) ∧ kw_tk μ2 h a b c ∧ (∀ x, x < 3 * h → kb_a μ2 19 x = kb_a μ 19 x) ∧ (∀ j, kb_g μ2 j = kb_g μ j) ∧ (∀ j, j ≠ 19 → kb_a μ2 j = kb_a μ j) := by
  unfold fn_X9_push
  rw [vt_3, pk_mul, vt_1, vt_2, nI_add, nI_add, nI_add, if_pos (vt_in' (by omega) (by omega)), if_pos (vt_in' (by omega) (by omega)), if_pos (vt_in' (by omega) (by omega)), nI_clamp (by omega), nI_clamp (by omega), nI_clamp (by omega)]
  refine ⟨_, rfl, ⟨?_, ?_, ?_⟩, fun x hx => ?_, fun _ => rfl, fun j hj => ?_⟩
  · rw [vt_aax, if_neg (by omega), vt_aax, if_neg (by omega), vt_aax, if_pos ⟨rfl, rfl⟩]
  · rw [vt_aax, if_neg (by omega), vt_aax, if_pos ⟨rfl, rfl⟩]
  · rw [vt_aax, if_pos ⟨rfl, rfl⟩]
  · rw [vt_aax, if_neg (by omega), vt_aax, if_neg (by omega), vt_aax, if_neg (by omega)]
  · rw [vt_aa, if_neg hj, vt_aa, if_neg hj, vt_aa, if_neg hj]
theorem kw_ends {h l t : Nat} {r : Int32} {μ : kb_S} {xs : List Nat} (hh : h ≤ 200) (hp : kx_pr 11 14 19 (fn_X9_ends (nI t)) xs) (ht : kw_tk μ h (-1) 0 (nI t)) (hl : kb_g μ 11 = nI l) (hle : l + xs.length ≤ 480) : ∃ μ2, (∀ fu, fp_X9_tell_14 (fu + 1) r (nI (h + 1)) μ = fp_X9_tell_14 fu r (nI h) μ2) ∧ kx_app 11 14 19 l μ xs μ2 := by
  obtain ⟨μ2, r1, r2⟩ := hp μ l hl hle
  obtain ⟨t1, t2, t3⟩ := ht
  refine ⟨μ2, fun fu => ?_, r2⟩
  rw [fp_X9_tell_14_s, if_neg (by rw [vt_0, vt_leI (by omega) (by omega)]; omega), show (-1 : Int32) = -(nI 1) from rfl, vt_an (by omega), Nat.add_sub_cancel, vt_3, pk_mul, vt_1, vt_2, nI_add, nI_add, if_pos (vt_in' (by omega) (by omega)), if_pos (vt_in' (by omega) (by omega)), if_pos (vt_in' (by omega) (by omega)), nI_clamp (by omega), nI_clamp (by omega), nI_clamp (by omega), t1, if_neg (by decide), t3, r1, Option.bind_some]
theorem kw_neg_le {q : Nat} (h : q < 2 ^ 30) : -(nI q) ≤ 0 := by
  have h1 : (-(nI q)).toInt = -(q : Int) := by
    have h2 := pk_sub_toInt (a := 0) (b := q) (by omega) h
    rw [show nI 0 = 0 from rfl, Int32.zero_sub] at h2
    rw [h2]; omega
  rw [Int32.le_iff_toInt_le, h1, show (0 : Int32).toInt = 0 from rfl]; omega
theorem kw_tellm {s : Nat → Nat} {N r : Nat} (hN : N ≤ 80) : ∀ (n : Nat), 1 ≤ n → n ≤ 80 → ∀ (d i h l : Nat) (μ : kb_S), d ≤ 4 → i + n ≤ N → h + 2 * n ≤ 200 → kw_mc s N r μ → kb_g μ 11 = nI l → l + (kw_X s d i n).length ≤ 480 → kw_tk μ h (nI d) (nI i) (nI n) →
    ∃ k μ2, k + 2 ≤ 4 * n ∧ (∀ fu, fp_X9_tell_14 (fu + k) (nI r) (nI (h + 1)) μ = fp_X9_tell_14 fu (nI r) (nI h) μ2) ∧ kx_ap2 11 14 19 l μ (kw_X s d i n) μ2 ∧ (∀ x, x < 3 * h → kb_a μ2 19 x = kb_a μ 19 x) := by
  intro n
  induction n using Nat.strongRecOn with
  | _ n ih =>
    intro h1 h2 d i h l μ hd hi hh hmc hl hle ht
    have hr := hmc.1.1
    have hat := kw_at_lt hd (show i < 80 by omega) h2
    have hV := hmc.2.2 d i n hd h1 hi
    have ht0 := ht
    obtain ⟨t1, t2, t3⟩ := ht
    have hstep : ∀ f, fp_X9_tell_14 (f + 1) (nI r) (nI (h + 1)) μ = if n = 1 then (fn_X9_name (nI (s i)) μ).bind (fun q9 => fp_X9_tell_14 f (nI r) (nI h) q9) else
        if kw_vi (kw_V s d i n) ≤ 0 then (fn_X9_push (nI h) (nI d) (nI i - kw_vi (kw_V s d i n)) (nI n + kw_vi (kw_V s d i n)) μ).bind fun q9 => (fn_X9_push q9.2 (-1) 0 0 q9.1).bind fun q10 => (fn_X9_push q10.2 (nI d) (nI i) (-(kw_vi (kw_V s d i n))) q10.1).bind fun q11 => fp_X9_tell_14 f (nI r) q11.2 q11.1
        else (fn_X9_put (40 : Int32) μ).bind fun q9 => if ¬ kw_vi (kw_V s d i n) = 0 then (fn_X9_push (nI h) (-1) 0 (nI n / kw_vi (kw_V s d i n)) q9).bind fun q11 => (fn_X9_push q11.2 (nI (d + 1)) (nI i) (kw_vi (kw_V s d i n)) q11.1).bind fun q12 => fp_X9_tell_14 f (nI r) q12.2 q12.1 else none := by
      intro f
      rw [fp_X9_tell_14_s, if_neg (by rw [vt_0, vt_leI (by omega) (by omega)]; omega), show (-1 : Int32) = -(nI 1) from rfl, vt_an (by omega), Nat.add_sub_cancel, vt_3, pk_mul, vt_1, vt_2, nI_add, nI_add, if_pos (vt_in' (by omega) (by omega)), if_pos (vt_in' (by omega) (by omega)), if_pos (vt_in' (by omega) (by omega)), nI_clamp (by omega), nI_clamp (by omega), nI_clamp (by omega), t1, t2, t3, if_pos (by rw [vt_0, vt_leI (by omega) (by omega)]; omega), kw_at_eq, if_pos (vt_in' (by omega) hat), nI_clamp (by omega), hV, nI_add, vt_80, pk_mul, nI_add, if_pos (vt_in' (n := r * 80 + i) (m := 2480) (by omega) (by omega)), nI_clamp (by omega), show r * 80 + i = 80 * r + i by omega, (hmc.1.2.2 i (by omega)).2]
      unfold fp_X9_tell_185
      by_cases hn1 : n = 1
      · rw [if_pos (by rw [hn1]), if_pos hn1]
      · rw [if_neg (by rw [vt_eqI (by omega) (by omega)]; exact hn1), if_neg hn1]
    rcases (show n = 1 ∨ 2 ≤ n by omega) with hn | hn
    · subst hn
      rw [kw_X1] at hle ⊢
      obtain ⟨μ2, r1, r2⟩ := kx_name9 (hmc.2.1 i (by omega)) μ l hl hle
      refine ⟨1, μ2, by omega, fun fu => ?_, r2.ap2, fun x hx => by rw [r2.2.2.2.1 19 (by decide) rfl]⟩
      rw [hstep, if_pos rfl, r1, Option.bind_some]
    · rcases kw_S3 (s := s) d i hn (by omega) with ⟨hd4, q, e, a1, a2, a3, _, _, _⟩ | ⟨q, e, a1, a2, _⟩
      · -- a group
        have hq40 : n / q < 100 ∧ 1 ≤ n / q := by
          have h3 := Nat.div_le_self n q
          have h4 := Nat.div_add_mod n q
          refine ⟨by omega, ?_⟩
          rcases Nat.eq_zero_or_pos (n / q) with h5 | h5
          · rw [h5, a3] at h4; omega
          · exact h5
        have hvi : kw_vi q = nI q := by unfold kw_vi; rw [if_pos (by omega)]
        have hX := kw_Xg (s := s) hn (by omega) e a1 a2
        rw [hX] at hle ⊢
        simp only [List.length_append, List.length_cons, List.length_nil] at hle
        obtain ⟨μ1, p1, p2⟩ := kx_put9 40 μ l hl (by simp only [List.length_cons, List.length_nil]; omega)
        obtain ⟨μa, b1, b2, b3, b4, b5⟩ := kw_push (h := h) (by omega) (-1) 0 (nI (n / q)) μ1
        obtain ⟨μb, c1, c2, c3, c4, c5⟩ := kw_push (h := h + 1) (by omega) (nI (d + 1)) (nI i) (nI q) μa
        have hmcb : kw_mc s N r μb := hmc.same (by rw [c5 8 (by decide), b5 8 (by decide), p2.2.2.1 8 (by decide) (by decide)]) (by rw [c5 16 (by decide), b5 16 (by decide), p2.2.2.1 16 (by decide) (by decide)])
        have hlb : kb_g μb 11 = nI (l + 1) := by rw [c4, b4, p2.1]; rfl
        obtain ⟨k1, μ2, i1, i2, i3, i4⟩ := ih q (by omega) a1 (by omega) (d + 1) i (h + 1) (l + 1) μb (by omega) (by omega) (by omega) hmcb hlb (by omega) c2
        have hends := kw_ends (r := nI r) (h := h) (l := l + 1 + (kw_X s (d + 1) i q).length) (μ := μ2) (by omega) (kx_ends hq40.2 hq40.1) ⟨by rw [i4 _ (by omega), c3 _ (by omega)]; exact b2.1, by rw [i4 _ (by omega), c3 _ (by omega)]; exact b2.2.1, by rw [i4 _ (by omega), c3 _ (by omega)]; exact b2.2.2⟩ i3.1 (by simp only [List.length_append, List.length_cons, List.length_nil]; omega)
        obtain ⟨μ3, e1, e2⟩ := hends
        refine ⟨1 + k1 + 1, μ3, by omega, fun fu => ?_, ?_, fun x hx => ?_⟩
        · rw [show fu + (1 + k1 + 1) = (fu + 1 + k1) + 1 by omega, hstep, if_neg (by omega), e, hvi, if_neg (by rw [vt_0, vt_leI (by omega) (by omega)]; omega), show (40 : Int32) = nI 40 from rfl, p1, Option.bind_some, if_pos (by rw [vt_0, vt_eqI (by omega) (by omega)]; omega), pk_div (by omega) (by omega) (by omega), b1, Option.bind_some]
          simp only
          rw [c1, Option.bind_some]
          simp only
          rw [i2, e1]
        · have hp0 : kx_ap2 11 14 19 l μ [40] μb := ⟨by rw [c4, b4]; exact p2.1, fun j hj => by rw [c4, b4, p2.2.1 j hj], fun j hj hj2 => by rw [c5 j hj2, b5 j hj2, p2.2.2.1 j hj hj2], fun x hx => by rw [c5 14 (by decide), b5 14 (by decide), p2.2.2.2.2.1 x hx], fun k v hv => by rw [c5 14 (by decide), b5 14 (by decide)]; exact p2.2.2.2.2.2 k v hv⟩
          exact kx_ap2_app hp0 (kx_ap2_app i3 e2.ap2)
        · rw [e2.2.2.2.1 19 (by decide) rfl, i4 x (by omega), c3 x (by omega), b3 x hx, p2.2.2.2.1 19 (by decide) rfl]
      · -- two parts
        have hvi : kw_vi (1000 + q) = -(nI q) := by unfold kw_vi; rw [if_neg (by omega), Nat.add_sub_cancel_left]
        have hX := kw_Xs (s := s) hn (by omega) e a1 a2
        rw [hX] at hle ⊢
        simp only [List.length_append, List.length_cons, List.length_nil] at hle
        obtain ⟨μa, b1, b2, b3, b4, b5⟩ := kw_push (h := h) (by omega) (nI d) (nI (i + q)) (nI (n - q)) μ
        obtain ⟨μb, c1, c2, c3, c4, c5⟩ := kw_push (h := h + 1) (by omega) (-1) 0 0 μa
        obtain ⟨μc, d1, d2, d3, d4, d5⟩ := kw_push (h := h + 2) (by omega) (nI d) (nI i) (nI q) μb
        have hmcc : kw_mc s N r μc := hmc.same (by rw [d5 8 (by decide), c5 8 (by decide), b5 8 (by decide)]) (by rw [d5 16 (by decide), c5 16 (by decide), b5 16 (by decide)])
        have hlc : kb_g μc 11 = nI l := by rw [d4, c4, b4]; exact hl
        obtain ⟨k1, μ2, i1, i2, i3, i4⟩ := ih q (by omega) a1 (by omega) d i (h + 2) l μc hd (by omega) (by omega) hmcc hlc (by omega) d2
        have hends := kw_ends (r := nI r) (h := h + 1) (l := l + (kw_X s d i q).length) (t := 0) (μ := μ2) (by omega) kx_ends0 ⟨by rw [i4 _ (by omega), d3 _ (by omega)]; exact c2.1, by rw [i4 _ (by omega), d3 _ (by omega)]; exact c2.2.1, by rw [i4 _ (by omega), d3 _ (by omega)]; exact c2.2.2⟩ i3.1 (by simp only [List.length_cons, List.length_nil]; omega)
        obtain ⟨μ3, e1, e2⟩ := hends
        have hmc3 : kw_mc s N r μ3 := hmcc.same (by rw [e2.2.2.1 8 (by decide) (by decide), i3.2.2.1 8 (by decide) (by decide)]) (by rw [e2.2.2.1 16 (by decide) (by decide), i3.2.2.1 16 (by decide) (by decide)])
        have h19 : ∀ x, x < 3 * (h + 1) → kb_a μ3 19 x = kb_a μa 19 x := fun x hx => by rw [e2.2.2.2.1 19 (by decide) rfl, i4 x (by omega), d3 x (by omega), c3 x hx]
        obtain ⟨k2, μ4, j1, j2, j3, j4⟩ := ih (n - q) (by omega) (by omega) (by omega) d (i + q) h (l + (kw_X s d i q).length + [44].length) μ3 hd (by omega) (by omega) hmc3 e2.1 (by simp only [List.length_cons, List.length_nil]; omega) ⟨by rw [h19 _ (by omega)]; exact b2.1, by rw [h19 _ (by omega)]; exact b2.2.1, by rw [h19 _ (by omega)]; exact b2.2.2⟩
        refine ⟨1 + k1 + 1 + k2, μ4, by omega, fun fu => ?_, ?_, fun x hx => ?_⟩
        · rw [show fu + (1 + k1 + 1 + k2) = (fu + k2 + 1 + k1) + 1 by omega, hstep, if_neg (by omega), e, hvi, if_pos, Int32.sub_neg, nI_add, vt_an (by omega), Int32.neg_neg, b1, Option.bind_some]
          · simp only
            rw [c1, Option.bind_some]
            simp only
            rw [d1, Option.bind_some]
            simp only
            rw [i2, e1, j2]
          · exact kw_neg_le (by omega)
        · have hp0 : kx_ap2 11 14 19 l μ [] μc := ⟨hlc, fun j hj => by rw [d4, c4, b4], fun j hj hj2 => by rw [d5 j hj2, c5 j hj2, b5 j hj2], fun x hx => by rw [d5 14 (by decide), c5 14 (by decide), b5 14 (by decide)], fun k v hv => by cases hv⟩
          exact kx_ap2_app (kx_ap2_app hp0 i3) (kx_ap2_app e2.ap2 j3)
        · rw [j4 x hx, h19 x (by omega), b3 x hx]
