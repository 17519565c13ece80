/-! the shortest: the words of a part, and the way to tell it -/
def kw_per (s : Nat → Nat) (i n q : Nat) : Bool := decide (∀ k, k < n - q → s (i + q + k) = s (i + k))
theorem kw_per_iff {s : Nat → Nat} {i n q : Nat} : kw_per s i n q = true ↔ ∀ k, k < n - q → s (i + q + k) = s (i + k) := by unfold kw_per; rw [decide_eq_true_eq]
def kw_gl (s : Nat → Nat) (f : Nat → Nat → Nat → Nat) (d i n : Nat) : Nat → Nat → Nat × Nat → Nat × Nat
  | 0, _, b => b
  | k + 1, q, b => kw_gl s f d i n k (q + 1) (if n % q = 0 ∧ 1 + f (d + 1) i q < b.1 ∧ kw_per s i n q = true then (1 + f (d + 1) i q, q) else b)
def kw_sl (f : Nat → Nat → Nat → Nat) (d i n : Nat) : Nat → Nat → Nat × Nat → Nat × Nat
  | 0, _, b => b
  | k + 1, q, b => kw_sl f d i n k (q + 1) (if f d i q + f d (i + q) (n - q) < b.1 then (f d i q + f d (i + q) (n - q), 1000 + q) else b)
def kw_b0 (n : Nat) : Nat × Nat := (if n = 1 then 1 else 1000000, 0)
def kw_c (s : Nat → Nat) (f : Nat → Nat → Nat → Nat) (d i n : Nat) : Nat × Nat := kw_sl f d i n (n - 1) 1 (if d < 4 then kw_gl s f d i n (n / 2) 1 (kw_b0 n) else kw_b0 n)
def kw_t (s : Nat → Nat) : Nat → Nat → Nat → Nat → Nat × Nat
  | 0 => fun _ _ _ => (0, 0)
  | m + 1 => fun d i n => if n = m + 1 then kw_c s (fun d i n => (kw_t s m d i n).1) d i n else kw_t s m d i n
def kw_W (s : Nat → Nat) (d i n : Nat) : Nat := (kw_t s n d i n).1
def kw_V (s : Nat → Nat) (d i n : Nat) : Nat := (kw_t s n d i n).2
theorem kw_t_ge {s : Nat → Nat} {d i n : Nat} : ∀ m, n ≤ m → kw_t s m d i n = kw_t s n d i n := by
  intro m
  induction m with
  | zero => intro h; rw [show n = 0 by omega]
  | succ m ih =>
      intro h
      by_cases h1 : n = m + 1
      · rw [h1]
      · rw [← ih (by omega)]
        show (if n = m + 1 then _ else kw_t s m d i n) = _
        rw [if_neg h1]
theorem kw_gl_congr {s : Nat → Nat} {f g : Nat → Nat → Nat → Nat} {d i n : Nat} : ∀ k q b, (∀ x, q ≤ x → x < q + k → f (d + 1) i x = g (d + 1) i x) → kw_gl s f d i n k q b = kw_gl s g d i n k q b := by
  intro k
  induction k with
  | zero => intro q b _; rfl
  | succ k ih =>
      intro q b h
      rw [kw_gl, kw_gl, h q (by omega) (by omega)]
      exact ih (q + 1) _ (fun x h1 h2 => h x (by omega) (by omega))
theorem kw_sl_congr {f g : Nat → Nat → Nat → Nat} {d i n : Nat} : ∀ k q b, (∀ x, q ≤ x → x < q + k → f d i x = g d i x ∧ f d (i + x) (n - x) = g d (i + x) (n - x)) → kw_sl f d i n k q b = kw_sl g d i n k q b := by
  intro k
  induction k with
  | zero => intro q b _; rfl
  | succ k ih =>
      intro q b h
      obtain ⟨h1, h2⟩ := h q (by omega) (by omega)
      rw [kw_sl, kw_sl, h1, h2]
      exact ih (q + 1) _ (fun x h1 h2 => h x (by omega) (by omega))
theorem kw_eq (s : Nat → Nat) (d i : Nat) {n : Nat} (hn : 1 ≤ n) : (kw_W s d i n, kw_V s d i n) = kw_c s (kw_W s) d i n := by
  obtain ⟨m, rfl⟩ : ∃ m, n = m + 1 := ⟨n - 1, by omega⟩
  have e : (kw_W s d i (m + 1), kw_V s d i (m + 1)) = kw_t s (m + 1) d i (m + 1) := rfl
  rw [e]
  show (if m + 1 = m + 1 then _ else _) = _
  rw [if_pos rfl]
  have hf : ∀ d i x, x ≤ m → (fun d i n => (kw_t s m d i n).1) d i x = kw_W s d i x := fun d i x hx => by
    show (kw_t s m d i x).1 = (kw_t s x d i x).1
    rw [kw_t_ge m hx]
  unfold kw_c
  rw [kw_gl_congr (g := kw_W s) _ _ _ (fun x h1 h2 => hf _ _ _ (by omega)), kw_sl_congr (g := kw_W s) _ _ _ (fun x h1 h2 => ⟨hf _ _ _ (by omega), hf _ _ _ (by omega)⟩)]
theorem kw_gl_spec {s : Nat → Nat} {f : Nat → Nat → Nat → Nat} {d i n : Nat} : ∀ k q b, (kw_gl s f d i n k q b).1 ≤ b.1 ∧ (∀ x, q ≤ x → x < q + k → n % x = 0 → kw_per s i n x = true → (kw_gl s f d i n k q b).1 ≤ 1 + f (d + 1) i x) ∧
    (kw_gl s f d i n k q b = b ∨ ∃ x, q ≤ x ∧ x < q + k ∧ n % x = 0 ∧ kw_per s i n x = true ∧ kw_gl s f d i n k q b = (1 + f (d + 1) i x, x) ∧ 1 + f (d + 1) i x < b.1 ∧ ∀ y, q ≤ y → y < x → n % y = 0 → kw_per s i n y = true → 1 + f (d + 1) i x < 1 + f (d + 1) i y) := by
  intro k
  induction k with
  | zero => intro q b; exact ⟨Nat.le_refl _, fun x h1 h2 => absurd h2 (by omega), Or.inl rfl⟩
  | succ k ih =>
      intro q b
      rw [kw_gl]
      by_cases hc : n % q = 0 ∧ 1 + f (d + 1) i q < b.1 ∧ kw_per s i n q = true
      · rw [if_pos hc]
        obtain ⟨h1, h2, h3⟩ := ih (q + 1) (1 + f (d + 1) i q, q)
        refine ⟨by have : (1 + f (d + 1) i q, q).1 = 1 + f (d + 1) i q := rfl; omega, fun x k1 k2 k3 k4 => ?_, Or.inr ?_⟩
        · by_cases hx : x = q
          · rw [hx]; exact h1
          · exact h2 x (by omega) (by omega) k3 k4
        · rcases h3 with h3 | ⟨x, a1, a2, a3, a4, a5, a6, a7⟩
          · exact ⟨q, by omega, by omega, hc.1, hc.2.2, h3, hc.2.1, fun y h1 h2 => absurd h2 (by omega)⟩
          · refine ⟨x, by omega, by omega, a3, a4, a5, by have : (1 + f (d + 1) i q, q).1 = 1 + f (d + 1) i q := rfl; omega, fun y k1 k2 k3 k4 => ?_⟩
            by_cases hy : y = q
            · rw [hy]; exact a6
            · exact a7 y (by omega) k2 k3 k4
      · rw [if_neg hc]
        obtain ⟨h1, h2, h3⟩ := ih (q + 1) b
        refine ⟨h1, fun x k1 k2 k3 k4 => ?_, ?_⟩
        · by_cases hx : x = q
          · subst hx
            have : ¬ 1 + f (d + 1) i x < b.1 := fun h => hc ⟨k3, h, k4⟩
            omega
          · exact h2 x (by omega) (by omega) k3 k4
        · rcases h3 with h3 | ⟨x, a1, a2, a3, a4, a5, a6, a7⟩
          · exact Or.inl h3
          · refine Or.inr ⟨x, by omega, by omega, a3, a4, a5, a6, fun y k1 k2 k3 k4 => ?_⟩
            by_cases hy : y = q
            · subst hy
              have : ¬ 1 + f (d + 1) i y < b.1 := fun h => hc ⟨k3, h, k4⟩
              omega
            · exact a7 y (by omega) k2 k3 k4
theorem kw_sl_spec {f : Nat → Nat → Nat → Nat} {d i n : Nat} : ∀ k q b, (kw_sl f d i n k q b).1 ≤ b.1 ∧ (∀ x, q ≤ x → x < q + k → (kw_sl f d i n k q b).1 ≤ f d i x + f d (i + x) (n - x)) ∧
    (kw_sl f d i n k q b = b ∨ ∃ x, q ≤ x ∧ x < q + k ∧ kw_sl f d i n k q b = (f d i x + f d (i + x) (n - x), 1000 + x) ∧ f d i x + f d (i + x) (n - x) < b.1 ∧ ∀ y, q ≤ y → y < x → f d i x + f d (i + x) (n - x) < f d i y + f d (i + y) (n - y)) := by
  intro k
  induction k with
  | zero => intro q b; exact ⟨Nat.le_refl _, fun x h1 h2 => absurd h2 (by omega), Or.inl rfl⟩
  | succ k ih =>
      intro q b
      rw [kw_sl]
      by_cases hc : f d i q + f d (i + q) (n - q) < b.1
      · rw [if_pos hc]
        obtain ⟨h1, h2, h3⟩ := ih (q + 1) (f d i q + f d (i + q) (n - q), 1000 + q)
        have e1 : (f d i q + f d (i + q) (n - q), 1000 + q).1 = f d i q + f d (i + q) (n - q) := rfl
        refine ⟨by omega, fun x k1 k2 => ?_, Or.inr ?_⟩
        · by_cases hx : x = q
          · rw [hx]; exact h1
          · exact h2 x (by omega) (by omega)
        · rcases h3 with h3 | ⟨x, a1, a2, a5, a6, a7⟩
          · exact ⟨q, by omega, by omega, h3, hc, fun y h1 h2 => absurd h2 (by omega)⟩
          · refine ⟨x, by omega, by omega, a5, by omega, fun y k1 k2 => ?_⟩
            by_cases hy : y = q
            · rw [hy]; exact a6
            · exact a7 y (by omega) k2
      · rw [if_neg hc]
        obtain ⟨h1, h2, h3⟩ := ih (q + 1) b
        refine ⟨h1, fun x k1 k2 => ?_, ?_⟩
        · by_cases hx : x = q
          · subst hx; omega
          · exact h2 x (by omega) (by omega)
        · rcases h3 with h3 | ⟨x, a1, a2, a5, a6, a7⟩
          · exact Or.inl h3
          · refine Or.inr ⟨x, by omega, by omega, a5, a6, fun y k1 k2 => ?_⟩
            by_cases hy : y = q
            · subst hy; omega
            · exact a7 y (by omega) k2
section KW
variable {s : Nat → Nat}
theorem kw_zero (d i : Nat) : kw_W s d i 0 = 0 := rfl
theorem kw_one (d i : Nat) : kw_W s d i 1 = 1 ∧ kw_V s d i 1 = 0 := by
  have h := kw_eq s d i (n := 1) (by omega)
  unfold kw_c at h
  rw [show 1 - 1 = 0 from rfl, show 1 / 2 = 0 from rfl, kw_sl, kw_gl, ite_self] at h
  injection h with h1 h2
  exact ⟨h1, h2⟩
theorem kw_S1 (d i : Nat) {n q : Nat} (h1 : 1 ≤ q) (h2 : q < n) : kw_W s d i n ≤ kw_W s d i q + kw_W s d (i + q) (n - q) := by
  have h := congrArg Prod.fst (kw_eq s d i (n := n) (by omega))
  have h3 := (kw_sl_spec (f := kw_W s) (d := d) (i := i) (n := n) (n - 1) 1 (if d < 4 then kw_gl s (kw_W s) d i n (n / 2) 1 (kw_b0 n) else kw_b0 n)).2.1 q h1 (by omega)
  unfold kw_c at h
  rw [← h] at h3; exact h3
theorem kw_le (d i n : Nat) : kw_W s d i n ≤ n := by
  induction n using Nat.strongRecOn generalizing i with
  | _ n ih =>
    rcases (show n = 0 ∨ n = 1 ∨ 2 ≤ n by omega) with h | h | h
    · rw [h, kw_zero]; omega
    · rw [h, (kw_one d i).1]; omega
    · have h1 := kw_S1 (s := s) d i (n := n) (q := 1) (by omega) (by omega)
      have h2 := ih (n - 1) (by omega) (i + 1)
      rw [(kw_one d i).1] at h1
      omega
theorem kw_S2 {d i : Nat} (hd : d < 4) {n q : Nat} (h1 : 1 ≤ q) (h2 : q ≤ n / 2) (h3 : n % q = 0) (h4 : kw_per s i n q = true) : kw_W s d i n ≤ 1 + kw_W s (d + 1) i q := by
  have h := congrArg Prod.fst (kw_eq s d i (n := n) (by omega))
  unfold kw_c at h
  rw [if_pos hd] at h
  have h5 := (kw_sl_spec (f := kw_W s) (d := d) (i := i) (n := n) (n - 1) 1 (kw_gl s (kw_W s) d i n (n / 2) 1 (kw_b0 n))).1
  have h6 := (kw_gl_spec (s := s) (f := kw_W s) (d := d) (i := i) (n := n) (n / 2) 1 (kw_b0 n)).2.1 q h1 (by omega) h3 h4
  rw [← h] at h5
  exact Nat.le_trans h5 h6
theorem kw_S3 (d i : Nat) {n : Nat} (hn : 2 ≤ n) (hn2 : n < 1000) :
    (d < 4 ∧ ∃ q, kw_V s d i n = q ∧ 1 ≤ q ∧ q ≤ n / 2 ∧ n % q = 0 ∧ kw_per s i n q = true ∧ kw_W s d i n = 1 + kw_W s (d + 1) i q ∧ ∀ y, 1 ≤ y → y < q → n % y = 0 → kw_per s i n y = true → kw_W s d i n < 1 + kw_W s (d + 1) i y) ∨
    (∃ q, kw_V s d i n = 1000 + q ∧ 1 ≤ q ∧ q < n ∧ kw_W s d i n = kw_W s d i q + kw_W s d (i + q) (n - q) ∧ (∀ y, 1 ≤ y → y < q → kw_W s d i n < kw_W s d i y + kw_W s d (i + y) (n - y)) ∧ (d < 4 → ∀ y, 1 ≤ y → y ≤ n / 2 → n % y = 0 → kw_per s i n y = true → kw_W s d i n < 1 + kw_W s (d + 1) i y)) := by
  have h := kw_eq s d i (n := n) (by omega)
  unfold kw_c at h
  have hb : kw_b0 n = (1000000, 0) := by unfold kw_b0; rw [if_neg (by omega)]
  have hle := kw_le (s := s) d i n
  have hsp := kw_sl_spec (f := kw_W s) (d := d) (i := i) (n := n) (n - 1) 1 (if d < 4 then kw_gl s (kw_W s) d i n (n / 2) 1 (kw_b0 n) else kw_b0 n)
  rw [← h] at hsp
  obtain ⟨h1, h2, h3⟩ := hsp
  rcases h3 with h3 | ⟨q, a1, a2, a3, a4, a5⟩
  · left
    by_cases hd : d < 4
    · rw [if_pos hd] at h3
      have hg := kw_gl_spec (s := s) (f := kw_W s) (d := d) (i := i) (n := n) (n / 2) 1 (kw_b0 n)
      rw [← h3] at hg
      obtain ⟨g1, g2, g3⟩ := hg
      rcases g3 with g3 | ⟨q, b1, b2, b3, b4, b5, b6, b7⟩
      · rw [hb] at g3
        have := congrArg Prod.fst g3
        simp only at this
        omega
      · have e1 : kw_W s d i n = 1 + kw_W s (d + 1) i q := congrArg Prod.fst b5
        have e2 : kw_V s d i n = q := congrArg Prod.snd b5
        exact ⟨hd, q, e2, b1, by omega, b3, b4, e1, fun y y1 y2 y3 y4 => by rw [e1]; exact b7 y y1 y2 y3 y4⟩
    · rw [if_neg hd, hb] at h3
      have := congrArg Prod.fst h3
      simp only at this
      omega
  · right
    have e1 : kw_W s d i n = kw_W s d i q + kw_W s d (i + q) (n - q) := congrArg Prod.fst a3
    have e2 : kw_V s d i n = 1000 + q := congrArg Prod.snd a3
    refine ⟨q, e2, a1, by omega, e1, fun y y1 y2 => by rw [e1]; exact a5 y y1 y2, fun hd y y1 y2 y3 y4 => ?_⟩
    rw [if_pos hd] at a4
    have h6 := (kw_gl_spec (s := s) (f := kw_W s) (d := d) (i := i) (n := n) (n / 2) 1 (kw_b0 n)).2.1 y y1 (by omega) y3 y4
    omega
theorem kw_pos (d i : Nat) {n : Nat} (hn : 1 ≤ n) (hn2 : n < 1000) : 1 ≤ kw_W s d i n := by
  induction n using Nat.strongRecOn generalizing i d with
  | _ n ih =>
    rcases (show n = 1 ∨ 2 ≤ n by omega) with h | h
    · rw [h, (kw_one d i).1]; omega
    · rcases kw_S3 (s := s) d i h hn2 with ⟨_, q, _, _, _, _, _, h1, _⟩ | ⟨q, _, h1, h2, h3, _⟩
      · omega
      · have := ih q (by omega) d i h1 (by omega)
        omega
theorem kw_four (i : Nat) {n : Nat} (hn2 : n < 1000) : kw_W s 4 i n = n := by
  induction n using Nat.strongRecOn generalizing i with
  | _ n ih =>
    rcases (show n = 0 ∨ n = 1 ∨ 2 ≤ n by omega) with h | h | h
    · rw [h]; rfl
    · rw [h, (kw_one 4 i).1]
    · rcases kw_S3 (s := s) 4 i h hn2 with ⟨h1, _⟩ | ⟨q, _, h1, h2, h3, _⟩
      · omega
      · rw [h3, ih q h2 i (by omega), ih (n - q) (by omega) (i + q) (by omega)]; omega
/-- a piece of p stitches in b words: a name, or a group -/
def kw_pc (s : Nat → Nat) (d i p b : Nat) : Prop := (p = 1 ∧ b = 1) ∨ (d < 4 ∧ ∃ q, 1 ≤ q ∧ q ≤ p / 2 ∧ p % q = 0 ∧ kw_per s i p q = true ∧ b = 1 + kw_W s (d + 1) i q)
theorem kw_pc_le {d i p b : Nat} (h : kw_pc s d i p b) : 1 ≤ p ∧ kw_W s d i p ≤ b := by
  rcases h with ⟨h1, h2⟩ | ⟨h1, q, h2, h3, h4, h5, h6⟩
  · rw [h1, h2, (kw_one d i).1]; omega
  · exact ⟨by omega, by rw [h6]; exact kw_S2 h1 h2 h3 h4 h5⟩
theorem kw_up {d i n p b : Nat} (h : kw_pc s d i p b) (hp : p ≤ n) : kw_W s d i n ≤ b + kw_W s d (i + p) (n - p) := by
  obtain ⟨h1, h2⟩ := kw_pc_le h
  by_cases h3 : p = n
  · rw [h3] at h2 ⊢; omega
  · have := kw_S1 (s := s) d i (n := n) (q := p) h1 (by omega)
    omega
theorem kw_first (d i : Nat) {n : Nat} (hn : 1 ≤ n) (hn2 : n < 1000) : ∃ p b, p ≤ n ∧ kw_pc s d i p b ∧ kw_W s d i n = b + kw_W s d (i + p) (n - p) := by
  induction n using Nat.strongRecOn with
  | _ n ih =>
    rcases (show n = 1 ∨ 2 ≤ n by omega) with h | h
    · refine ⟨1, 1, by omega, Or.inl ⟨rfl, rfl⟩, ?_⟩
      rw [h, (kw_one d i).1]; rfl
    · rcases kw_S3 (s := s) d i h hn2 with ⟨hd, q, _, h1, h2, h3, h4, h5, _⟩ | ⟨q, _, h1, h2, h3, _⟩
      · refine ⟨n, 1 + kw_W s (d + 1) i q, Nat.le_refl n, Or.inr ⟨hd, q, h1, h2, h3, h4, rfl⟩, ?_⟩
        rw [Nat.sub_self, kw_zero]; exact h5
      · obtain ⟨p, b, p1, p2, p3⟩ := ih q h2 h1 (by omega)
        refine ⟨p, b, by omega, p2, Nat.le_antisymm (kw_up p2 (by omega)) ?_⟩
        by_cases hpq : p = q
        · subst hpq
          rw [Nat.sub_self, kw_zero] at p3
          omega
        · have h6 := kw_S1 (s := s) d (i + p) (n := n - p) (q := q - p) (by omega) (by omega)
          rw [show i + p + (q - p) = i + q by omega, show n - p - (q - p) = n - q by omega] at h6
          omega
/-- the first part of a parted one is a piece -/
theorem kw_split {d i n q : Nat} (hn : 2 ≤ n) (hn2 : n < 1000) (hV : kw_V s d i n = 1000 + q) : q = 1 ∨ (2 ≤ q ∧ kw_V s d i q < 1000) := by
  rcases kw_S3 (s := s) d i hn hn2 with ⟨hd, q2, e, h1, h2, _⟩ | ⟨q2, e, h1, h2, h3, h4, _⟩
  · omega
  · have hq : q2 = q := by omega
    subst hq
    rcases (show q2 = 1 ∨ 2 ≤ q2 by omega) with h | h
    · exact Or.inl h
    · right
      refine ⟨h, ?_⟩
      rcases kw_S3 (s := s) d i h (by omega) with ⟨_, q3, e3, _, g2, _⟩ | ⟨q3, e3, g1, g2, g3, _⟩
      · omega
      · have h5 := h4 q3 g1 g2
        have h6 := kw_S1 (s := s) d (i + q3) (n := n - q3) (q := q2 - q3) (by omega) (by omega)
        rw [show i + q3 + (q2 - q3) = i + q2 by omega, show n - q3 - (q2 - q3) = n - q2 by omega] at h6
        omega
end KW
