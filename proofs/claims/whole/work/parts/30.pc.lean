/-! reading: the text as numbers, 300 behind its end; a state is (fault, place) -/
def kq_see (b : Nat → Nat) (p : Nat) : Int32 := if b p < 256 then nI (b p) else -(nI 1)
theorem kq_see_eq {b : Nat → Nat} {p c : Nat} (hc : c < 256) : (kq_see b p = nI c) ↔ b p = c := by
  unfold kq_see
  by_cases h : b p < 256
  · rw [if_pos h, vt_eqI (by omega) (by omega)]
  · rw [if_neg h]
    constructor
    · intro h2
      have h3 : (nI c).toInt = c := vt_int (by omega)
      rw [← h2] at h3
      have h4 : (-(nI 1)).toInt = -1 := by decide
      omega
    · intro h2; omega
theorem kq_see_lt {b : Nat → Nat} {p c : Nat} (hc : c < 256) : (kq_see b p < nI c) ↔ b p < c ∨ 256 ≤ b p := by
  unfold kq_see
  by_cases h : b p < 256
  · rw [if_pos h, vt_ltI (by omega) (by omega)]; omega
  · rw [if_neg h, Int32.lt_iff_toInt_lt, vt_int (by omega)]
    have h4 : (-(nI 1)).toInt = -1 := by decide
    omega
theorem kq_lt_see {b : Nat → Nat} {p c : Nat} (hc : c < 256) : (nI c < kq_see b p) ↔ c < b p ∧ b p < 256 := by
  unfold kq_see
  by_cases h : b p < 256
  · rw [if_pos h, vt_ltI (by omega) (by omega)]; omega
  · rw [if_neg h, Int32.lt_iff_toInt_lt, vt_int (by omega)]
    have h4 : (-(nI 1)).toInt = -1 := by decide
    omega
def kq_isd (b : Nat → Nat) (p : Nat) : Bool := decide (48 ≤ b p) && decide (b p ≤ 57)
theorem kq_isd_iff {b : Nat → Nat} {p : Nat} : kq_isd b p = true ↔ 48 ≤ b p ∧ b p ≤ 57 := by unfold kq_isd; simp
def kq_tc (tl : Nat) (b : Nat → Nat) (σ : kb_S) : Prop := tl ≤ 200 ∧ kb_g σ 0 = nI tl ∧ (∀ i, i < tl → b i < 256 ∧ kb_a σ 0 i = nI (b i)) ∧ ∀ i, tl ≤ i → b i = 300
def kq_tm (tl : Nat) (b : Nat → Nat) (μ : kb_S) : Prop := tl ≤ 200 ∧ kb_g μ 1 = nI tl ∧ (∀ i, i < tl → b i < 256 ∧ kb_a μ 0 i = nI (b i)) ∧ ∀ i, tl ≤ i → b i = 300
theorem kq_inb {tl : Nat} {b : Nat → Nat} {σ : kb_S} (h : kq_tc tl b σ) {p : Nat} (hp : b p < 256) : p < tl := by
  rcases Nat.lt_or_ge p tl with h1 | h1
  · exact h1
  · have := h.2.2.2 p h1; omega
/-- what a fault's number is in the class -/
def kq_code (s : Nat × Nat) : Int32 := if s.1 = 0 then 0 else -(nI (1000 * s.1 + s.2))
theorem kq_code0 {s : Nat × Nat} (h1 : s.1 ≤ 9) (h2 : s.2 ≤ 200) : kq_code s = 0 ↔ s.1 = 0 := by
  unfold kq_code
  by_cases h : s.1 = 0
  · rw [if_pos h]; exact ⟨fun _ => h, fun _ => rfl⟩
  · rw [if_neg h]
    refine ⟨fun h3 => ?_, fun h3 => absurd h3 h⟩
    have h4 : nI (1000 * s.1 + s.2) = 0 := by
      have := congrArg (fun x : Int32 => -x) h3
      simpa using this
    rw [vt_0, vt_eqI (by omega) (by omega)] at h4
    omega
/-- the class's memory σ0 with the reader at s -/
def kq_c (σ0 : kb_S) (s : Nat × Nat) (σ : kb_S) : Prop :=
  (∀ j, j ≠ 10 → j ≠ 11 → kb_g σ j = kb_g σ0 j) ∧ (∀ j, kb_a σ j = kb_a σ0 j) ∧ (∀ j, kb_b σ j = kb_b σ0 j) ∧ kb_g σ 11 = kq_code s ∧ (s.1 = 0 → kb_g σ 10 = nI s.2) ∧ s.1 ≤ 9 ∧ s.2 ≤ 200 ∧ ∃ p, p ≤ 200 ∧ kb_g σ 10 = nI p
theorem kq_c.tc {tl : Nat} {b : Nat → Nat} {σ0 σ : kb_S} {s : Nat × Nat} (h : kq_c σ0 s σ) (ht : kq_tc tl b σ0) : kq_tc tl b σ := by
  unfold kq_tc; rw [h.1 0 (by decide) (by decide), h.2.1]; exact ht
theorem kq_byte {tl : Nat} {b : Nat → Nat} {σ : kb_S} (ht : kq_tc tl b σ) {p : Nat} (hp : p ≤ 1000) : fn_X7_byteAt (nI p) σ = some (kq_see b p) := by
  have h1 := ht.1
  unfold fn_X7_byteAt kq_see
  rw [if_neg (vt_neg (by omega)), ht.2.1]
  by_cases h : p < tl
  · obtain ⟨h2, h3⟩ := ht.2.2.1 p h
    rw [if_neg (by rw [vt_leI (by omega) (by omega)]; omega), if_pos (vt_in' (by omega) (by omega)), nI_clamp (by omega), h3, if_pos h2]
  · rw [if_pos (by rw [vt_leI (by omega) (by omega)]; omega), ht.2.2.2 p (by omega), if_neg (by decide)]; rfl
theorem kq_next {tl : Nat} {b : Nat → Nat} {σ0 σ : kb_S} (ht : kq_tc tl b σ0) {p : Nat} (h : kq_c σ0 (0, p) σ) : fn_X4_next σ = some (kq_see b p) := by
  unfold fn_X4_next
  have h7 : p ≤ 200 := h.2.2.2.2.2.2.1
  rw [h.2.2.2.2.1 rfl, kq_byte (h.tc ht) (by omega)]; rfl
theorem kq_next' {tl : Nat} {b : Nat → Nat} {σ0 σ : kb_S} (ht : kq_tc tl b σ0) {s : Nat × Nat} (h : kq_c σ0 s σ) : ∃ v, fn_X4_next σ = some v := by
  obtain ⟨p, hp, hp2⟩ := h.2.2.2.2.2.2.2
  unfold fn_X4_next
  rw [hp2, kq_byte (h.tc ht) (by omega)]; exact ⟨_, rfl⟩
theorem kq_right {σ0 σ : kb_S} {s : Nat × Nat} (h : kq_c σ0 s σ) : fn_X4_isRight σ = if s.1 = 0 then 1 else 0 := by
  unfold fn_X4_isRight
  by_cases h1 : s.1 = 0
  · rw [if_pos h1, if_pos (by rw [h.2.2.2.1]; exact (kq_code0 h.2.2.2.2.2.1 h.2.2.2.2.2.2.1).mpr h1)]
  · rw [if_neg h1, if_neg (by rw [h.2.2.2.1]; exact fun h2 => h1 ((kq_code0 h.2.2.2.2.2.1 h.2.2.2.2.2.2.1).mp h2))]
/-- the state goes to s2 when the reader's own two numbers are written so -/
theorem kq_c.go {σ0 σ : kb_S} {s : Nat × Nat} (h : kq_c σ0 s σ) (h0 : s.1 = 0) {p : Nat} (hp : p ≤ 200) : kq_c σ0 (0, p) (kb_p σ 10 (nI p)) := by
  refine ⟨fun j h1 h2 => ?_, h.2.1, h.2.2.1, ?_, fun _ => rfl, by simp, hp, p, hp, rfl⟩
  · rw [vt_gp, if_neg h1]; exact h.1 j h1 h2
  · rw [vt_gp, if_neg (by decide), h.2.2.2.1]; unfold kq_code; rw [if_pos h0, if_pos rfl]
theorem kq_fail {σ0 σ : kb_S} {s : Nat × Nat} {k : Nat} (hk : 1 ≤ k ∧ k ≤ 9) (h : kq_c σ0 s σ) : ∃ σ2, fn_X4_fail (nI k) σ = some σ2 ∧ kq_c σ0 (if s.1 = 0 then (k, s.2) else s) σ2 := by
  unfold fn_X4_fail
  rw [kq_right h]
  by_cases h1 : s.1 = 0
  · rw [if_pos h1, if_neg (show ¬ (1 : Int32) = 0 by decide), if_pos h1]
    refine ⟨_, rfl, fun j h2 h3 => ?_, h.2.1, h.2.2.1, ?_, fun h2 => ?_, hk.2, h.2.2.2.2.2.2.1, ?_⟩
    · rw [vt_gp, if_neg h3]; exact h.1 j h2 h3
    · rw [vt_gp, if_pos rfl, h.2.2.2.2.1 h1]; unfold fn_X1_answer kq_code
      rw [if_neg (by show ¬ k = 0; omega), show (1000 : Int32) = nI 1000 from rfl, pk_mul, nI_add]
    · exact absurd h2 (by show ¬ k = 0; omega)
    · obtain ⟨p, hp, hp2⟩ := h.2.2.2.2.2.2.2
      exact ⟨p, hp, by rw [vt_gp, if_neg (by decide)]; exact hp2⟩
  · rw [if_neg h1, if_pos rfl, if_neg h1]
    exact ⟨σ, rfl, h⟩
/-- a word, byte by byte -/
def kq_w (b : Nat → Nat) : List Nat → Nat × Nat → Nat × Nat
  | [], s => s
  | c :: cs, s => kq_w b cs (if s.1 = 0 then (if b s.2 = c then (0, s.2 + 1) else (1, s.2)) else s)
theorem kq_w_wrong {b : Nat → Nat} : ∀ (cs : List Nat) {s : Nat × Nat}, s.1 ≠ 0 → kq_w b cs s = s
  | [], _, _ => rfl
  | c :: cs, s, h => by rw [kq_w, if_neg h, kq_w_wrong cs h]
theorem kq_w_app {b : Nat → Nat} : ∀ (cs ds : List Nat) (s : Nat × Nat), kq_w b (cs ++ ds) s = kq_w b ds (kq_w b cs s)
  | [], _, _ => rfl
  | c :: cs, ds, s => by rw [List.cons_append, kq_w, kq_w, kq_w_app cs ds]
theorem kq_word {tl : Nat} {b : Nat → Nat} {σ0 : kb_S} (ht : kq_tc tl b σ0) {w : Nat} (hw : w < 19) {cs : List Nat} (hcs : kb_SL.getD w [] = cs.map nI) (hc : ∀ c ∈ cs, c < 256) {s : Nat × Nat} {σ : kb_S} (h : kq_c σ0 s σ) : ∃ σ2, fn_X4_readWord w σ = some σ2 ∧ kq_c σ0 (kq_w b cs s) σ2 := by
  have hlen : kb_sln w = cs.length := by unfold kb_sln; rw [hcs, List.length_map]
  have h20 : cs.length < 1000 := by
    have : ∀ w, w < 19 → kb_sln w < 1000 := by decide
    rw [← hlen]; exact this w hw
  have key : ∀ (ds : List Nat) (i fu : Nat) (s : Nat × Nat) (σ : kb_S), ds.length < fu → (∀ k, k < ds.length → cs[i + k]? = ds[k]?) → i + ds.length = cs.length → kq_c σ0 s σ → ∃ σ2, fp_X4_readWord_2 fu w (nI i) σ = some σ2 ∧ kq_c σ0 (kq_w b ds s) σ2 := by
    intro ds
    induction ds with
    | nil =>
        intro i fu s σ hf hd he h
        obtain ⟨n, rfl⟩ : ∃ n, fu = n + 1 := ⟨fu - 1, by simp at hf; omega⟩
        refine ⟨σ, ?_, h⟩
        rw [fp_X4_readWord_2_s, if_pos hw, hlen, if_pos (by rw [vt_of, vt_leI (by omega) (by omega)]; simp at he; omega)]
    | cons c ds ih =>
        intro i fu s σ hf hd he h
        obtain ⟨n, rfl⟩ : ∃ n, fu = n + 1 := ⟨fu - 1, by simp at hf; omega⟩
        have hil : i < cs.length := by simp at he; omega
        have hci : cs[i]? = some c := by have := hd 0 (by simp); simpa using this
        have hch : kb_sch w i = nI c := by
          unfold kb_sch
          rw [hcs, List.getD_eq_getElem?_getD, List.getElem?_map, hci]; rfl
        have hc256 : c < 256 := hc c (List.mem_of_getElem? hci)
        have hd2 : ∀ k, k < ds.length → cs[i + 1 + k]? = ds[k]? := by
          intro k hk
          have := hd (k + 1) (by simp; omega)
          rw [show i + 1 + k = i + (k + 1) by omega, this]; rfl
        by_cases h1 : s.1 = 0
        · obtain ⟨f, p⟩ := s
          simp only at h1
          subst h1
          have hp : p ≤ 200 := h.2.2.2.2.2.2.1
          have hstep : ∀ k : Int32 → kb_S → Option kb_S, True := fun _ => trivial
          by_cases hb : b p = c
          · have hpt := kq_inb ht (p := p) (by omega)
            have htl := ht.1
            obtain ⟨σ2, r1, r2⟩ := ih (i + 1) n (0, p + 1) (kb_p σ 10 (nI (p + 1))) (by simp at hf; omega) hd2 (by simp at he; omega) (h.go rfl (by omega))
            refine ⟨σ2, ?_, ?_⟩
            · rw [fp_X4_readWord_2_s, if_pos hw, hlen, if_neg (by rw [vt_of, vt_leI (by omega) (by omega)]; omega), kq_right h, if_pos rfl, if_neg (show ¬ (1 : Int32) = 0 by decide), kq_next ht h, Option.bind_some, if_pos ⟨hw, vt_in' (by omega) hil⟩, nI_clamp (by omega), hch, if_pos ((kq_see_eq hc256).mpr hb), fp_X4_readWord_47_e, h.2.2.2.2.1 rfl, vt_1, nI_add, nI_add]
              exact r1
            · rw [kq_w, if_pos rfl, if_pos hb]; exact r2
          · obtain ⟨σ1, q1, q2⟩ := kq_fail (k := 1) ⟨by omega, by omega⟩ h
            rw [if_pos rfl] at q2
            obtain ⟨σ2, r1, r2⟩ := ih (i + 1) n (1, p) σ1 (by simp at hf; omega) hd2 (by simp at he; omega) q2
            refine ⟨σ2, ?_, ?_⟩
            · rw [fp_X4_readWord_2_s, if_pos hw, hlen, if_neg (by rw [vt_of, vt_leI (by omega) (by omega)]; omega), kq_right h, if_pos rfl, if_neg (show ¬ (1 : Int32) = 0 by decide), kq_next ht h, Option.bind_some, if_pos ⟨hw, vt_in' (by omega) hil⟩, nI_clamp (by omega), hch, if_neg (fun h3 => hb ((kq_see_eq hc256).mp h3)), show (1 : Int32) = nI 1 from rfl, q1, Option.bind_some, fp_X4_readWord_47_e, vt_1, nI_add]
              exact r1
            · rw [kq_w, if_pos rfl, if_neg hb]; exact r2
        · refine ⟨σ, ?_, ?_⟩
          · rw [fp_X4_readWord_2_s, if_pos hw, hlen, if_neg (by rw [vt_of, vt_leI (by omega) (by omega)]; omega), kq_right h, if_neg h1, if_pos rfl]
          · rw [kq_w_wrong _ h1]; exact h
  exact key cs 0 kb_FU s σ (by rw [vt_fu]; omega) (fun k _ => by rw [Nat.zero_add]) (by omega) h
/-- blanks -/
def kq_b (b : Nat → Nat) : Nat → Nat → Nat
  | 0, p => p
  | n + 1, p => if b p = 32 then kq_b b n (p + 1) else p
theorem kq_blank {tl : Nat} {b : Nat → Nat} {σ0 : kb_S} (ht : kq_tc tl b σ0) : ∀ (m fu p : Nat) (σ : kb_S), tl ≤ p + m → m < fu → kq_c σ0 (0, p) σ → ∃ σ2, fp_X4_skipBlanks_0 fu σ = some σ2 ∧ kq_c σ0 (0, kq_b b m p) σ2 := by
  have htl := ht.1
  intro m
  induction m with
  | zero =>
      intro fu p σ h1 h3 h
      obtain ⟨n, rfl⟩ : ∃ n, fu = n + 1 := ⟨fu - 1, by omega⟩
      have h2 : p ≤ 200 := h.2.2.2.2.2.2.1
      refine ⟨σ, ?_, h⟩
      rw [fp_X4_skipBlanks_0_s]; unfold fn_X7_length
      rw [(h.tc ht).2.1, h.2.2.2.2.1 rfl, if_pos (by rw [vt_leI (by omega) (by omega)]; omega)]
  | succ m ih =>
      intro fu p σ h1 h3 h
      obtain ⟨n, rfl⟩ : ∃ n, fu = n + 1 := ⟨fu - 1, by omega⟩
      have h2 : p ≤ 200 := h.2.2.2.2.2.2.1
      have h4 := h.2.2.2.2.1 rfl
      by_cases hb : b p = 32
      · have hpt := kq_inb ht (p := p) (by omega)
        have hstep : fp_X4_skipBlanks_0 (n + 1) σ = fp_X4_skipBlanks_0 n (kb_p σ 10 (nI (p + 1))) := by
          rw [fp_X4_skipBlanks_0_s]; unfold fn_X7_length
          rw [(h.tc ht).2.1, if_neg (by rw [h4, vt_leI (by omega) (by omega)]; omega), kq_next ht h, Option.bind_some, show (32 : Int32) = nI 32 from rfl, if_pos ((kq_see_eq (c := 32) (by omega)).mpr hb), h4, vt_1, nI_add]
        rw [hstep, kq_b, if_pos hb]
        exact ih n (p + 1) _ (by omega) (by omega) (h.go rfl (by omega))
      · refine ⟨σ, ?_, ?_⟩
        · rw [fp_X4_skipBlanks_0_s]; unfold fn_X7_length
          by_cases hpl : tl ≤ p
          · rw [(h.tc ht).2.1, h4, if_pos (by rw [vt_leI (by omega) (by omega)]; omega)]
          · rw [(h.tc ht).2.1, if_neg (by rw [h4, vt_leI (by omega) (by omega)]; omega), kq_next ht h, Option.bind_some, show (32 : Int32) = nI 32 from rfl, if_neg (fun h5 => hb ((kq_see_eq (c := 32) (by omega)).mp h5))]
        · rw [kq_b, if_neg hb]; exact h
theorem kq_c.at {σ0 σ : kb_S} {s : Nat × Nat} (h : kq_c σ0 s σ) (h0 : s.1 ≠ 0) {p : Nat} (hp : p ≤ 200) : kq_c σ0 s (kb_p σ 10 (nI p)) := by
  refine ⟨fun j h1 h2 => ?_, h.2.1, h.2.2.1, ?_, fun h5 => absurd h5 h0, h.2.2.2.2.2.1, h.2.2.2.2.2.2.1, p, hp, rfl⟩
  · rw [vt_gp, if_neg h1]; exact h.1 j h1 h2
  · rw [vt_gp, if_neg (by decide)]; exact h.2.2.2.1
theorem kq_blank' {tl : Nat} {b : Nat → Nat} {σ0 : kb_S} (ht : kq_tc tl b σ0) {s : Nat × Nat} (h0 : s.1 ≠ 0) : ∀ (m fu p : Nat) (σ : kb_S), tl ≤ p + m → p ≤ 200 → m < fu → kq_c σ0 s σ → kb_g σ 10 = nI p → ∃ σ2, fp_X4_skipBlanks_0 fu σ = some σ2 ∧ kq_c σ0 s σ2 := by
  have htl := ht.1
  intro m
  induction m with
  | zero =>
      intro fu p σ h1 h2 h3 h h4
      obtain ⟨n, rfl⟩ : ∃ n, fu = n + 1 := ⟨fu - 1, by omega⟩
      refine ⟨σ, ?_, h⟩
      rw [fp_X4_skipBlanks_0_s]; unfold fn_X7_length
      rw [(h.tc ht).2.1, h4, if_pos (by rw [vt_leI (by omega) (by omega)]; omega)]
  | succ m ih =>
      intro fu p σ h1 h2 h3 h h4
      obtain ⟨n, rfl⟩ : ∃ n, fu = n + 1 := ⟨fu - 1, by omega⟩
      have hn : fn_X4_next σ = some (kq_see b p) := by
        unfold fn_X4_next
        rw [h4, kq_byte (h.tc ht) (by omega)]; rfl
      by_cases hpl : tl ≤ p
      · refine ⟨σ, ?_, h⟩
        rw [fp_X4_skipBlanks_0_s]; unfold fn_X7_length
        rw [(h.tc ht).2.1, h4, if_pos (by rw [vt_leI (by omega) (by omega)]; omega)]
      · rw [fp_X4_skipBlanks_0_s]; unfold fn_X7_length
        rw [(h.tc ht).2.1, if_neg (by rw [h4, vt_leI (by omega) (by omega)]; omega), hn, Option.bind_some]
        by_cases hb : kq_see b p = 32
        · rw [if_pos hb, h4, vt_1, nI_add]
          exact ih n (p + 1) _ (by omega) (by omega) (by omega) (h.at h0 (by omega)) rfl
        · rw [if_neg hb]; exact ⟨σ, rfl, h⟩
/-- blanks from a state: only a right one moves -/
def kq_bl (b : Nat → Nat) (s : Nat × Nat) : Nat × Nat := if s.1 = 0 then (0, kq_b b 201 s.2) else s
theorem kq_skip {tl : Nat} {b : Nat → Nat} {σ0 σ : kb_S} (ht : kq_tc tl b σ0) {s : Nat × Nat} (h : kq_c σ0 s σ) : ∃ σ2, fn_X4_skipBlanks σ = some σ2 ∧ kq_c σ0 (kq_bl b s) σ2 := by
  have htl := ht.1
  unfold fn_X4_skipBlanks kq_bl
  by_cases h0 : s.1 = 0
  · rw [if_pos h0]
    obtain ⟨f, p⟩ := s
    simp only at h0
    subst h0
    exact kq_blank ht 201 kb_FU p σ (by omega) (by rw [vt_fu]; omega) h
  · rw [if_neg h0]
    obtain ⟨p, hp, hp2⟩ := h.2.2.2.2.2.2.2
    exact kq_blank' ht h0 201 kb_FU p σ (by omega) hp (by rw [vt_fu]; omega) h hp2
/-- a number -/
def kq_n (b : Nat → Nat) (least p : Nat) : Nat × Nat × Nat :=
  if kq_isd b p = true ∧ ¬ (b p = 48 ∧ 0 < least) then
    if b p = 48 then (0, p + 1, 0)
    else if kq_isd b (p + 1) = true then (0, p + 2, 10 * (b p - 48) + (b (p + 1) - 48))
    else if b p - 48 < least then (1, p + 1, 0) else (0, p + 1, b p - 48)
  else (1, p, 0)
theorem kq_digit {b : Nat → Nat} {p : Nat} : fn_X4_isDigit (kq_see b p) = if kq_isd b p = true then 1 else 0 := by
  unfold fn_X4_isDigit
  rw [show (48 : Int32) = nI 48 from rfl, show (57 : Int32) = nI 57 from rfl]
  by_cases h1 : kq_see b p < nI 48
  · rw [if_pos h1, if_neg]
    rw [kq_see_lt (by omega)] at h1
    rw [kq_isd_iff]; omega
  · rw [if_neg h1]
    rw [kq_see_lt (by omega)] at h1
    by_cases h2 : nI 57 < kq_see b p
    · rw [if_pos h2, if_neg]
      rw [kq_lt_see (by omega)] at h2
      rw [kq_isd_iff]; omega
    · rw [if_neg h2, if_pos]
      rw [kq_lt_see (by omega)] at h2
      rw [kq_isd_iff]; omega
theorem kq_num {tl : Nat} {b : Nat → Nat} {σ0 σ : kb_S} (ht : kq_tc tl b σ0) {least : Nat} (hl : least ≤ 2) {p : Nat} (h : kq_c σ0 (0, p) σ) : ∃ σ2 v, fn_X4_readNumber (nI least) σ = some (σ2, v) ∧ kq_c σ0 ((kq_n b least p).1, (kq_n b least p).2.1) σ2 ∧ ((kq_n b least p).1 = 0 → v = nI (kq_n b least p).2.2) := by
  have htl := ht.1
  have hp : p ≤ 200 := h.2.2.2.2.2.2.1
  have h10 := h.2.2.2.2.1 rfl
  obtain ⟨σf, f1, f2⟩ := kq_fail (k := 1) ⟨by omega, by omega⟩ h
  rw [if_pos rfl] at f2
  have e33 : fp_X4_readNumber_33 (nI least) σ = some (σf, nI least) := by
    unfold fp_X4_readNumber_33; rw [show (1 : Int32) = nI 1 from rfl, f1]; rfl
  have e40 : ∀ x, fp_X4_readNumber_40 (nI least) x σ = if x = 0 then some (kb_p σ 10 (nI (p + 1)), 0) else (fn_X4_next (kb_p σ 10 (nI (p + 1)))).bind fun q2 => if fn_X4_isDigit q2 = 0 then (if nI least ≤ x then some (kb_p σ 10 (nI (p + 1)), x) else (fn_X4_fail (nI 1) (kb_p σ 10 (nI (p + 1)))).bind fun q5 => some (q5, x)) else (fn_X4_next (kb_p σ 10 (nI (p + 1)))).bind fun q4 => some (kb_p (kb_p σ 10 (nI (p + 1))) 10 (nI (p + 2)), nI 10 * x + q4 - nI 48) := by
    intro x
    unfold fp_X4_readNumber_40
    rw [h10, vt_1, nI_add, nI_add]; rfl
  have hmain : fn_X4_readNumber (nI least) σ = if kq_isd b p = true ∧ ¬ (b p = 48 ∧ 0 < least) then fp_X4_readNumber_40 (nI least) (nI (b p - 48)) σ else some (σf, nI least) := by
    unfold fn_X4_readNumber
    rw [kq_next ht h, Option.bind_some, kq_right h, if_pos rfl, if_neg (show ¬ (1 : Int32) = 0 by decide), Option.bind_some, kq_digit, e33]
    by_cases hd : kq_isd b p = true
    · have hd2 := kq_isd_iff.mp hd
      have e : kq_see b p - 48 = nI (b p - 48) := by
        unfold kq_see; rw [if_pos (by omega), show (48 : Int32) = nI 48 from rfl, pk_sub (by omega)]
      rw [if_pos hd, if_neg (show ¬ (1 : Int32) = 0 by decide), e]
      by_cases h48 : b p = 48
      · rw [if_pos (show nI (b p - 48) = 0 by rw [h48]; rfl)]
        by_cases hl0 : least = 0
        · rw [if_pos (show nI least ≤ 0 by rw [hl0]; decide), if_pos ⟨hd, by omega⟩]
        · rw [if_neg (show ¬ nI least ≤ 0 by rw [vt_0, vt_leI (by omega) (by omega)]; omega), if_neg (by omega)]
      · rw [if_neg (show ¬ nI (b p - 48) = 0 by rw [vt_0, vt_eqI (by omega) (by omega)]; omega), if_pos ⟨hd, by omega⟩]
    · rw [if_neg hd, if_pos rfl, if_neg (fun h5 => hd h5.1)]
  unfold kq_n
  rw [hmain]
  by_cases hc : kq_isd b p = true ∧ ¬ (b p = 48 ∧ 0 < least)
  · rw [if_pos hc, if_pos hc, e40]
    have hd2 := kq_isd_iff.mp hc.1
    have hpt := kq_inb ht (p := p) (by omega)
    have g1 := h.go rfl (show p + 1 ≤ 200 by omega)
    by_cases h48 : b p = 48
    · rw [if_pos (show nI (b p - 48) = 0 by rw [h48]; rfl), if_pos h48]
      exact ⟨_, _, rfl, g1, fun _ => rfl⟩
    · rw [if_neg (show ¬ nI (b p - 48) = 0 by rw [vt_0, vt_eqI (by omega) (by omega)]; omega), if_neg h48, kq_next ht g1, Option.bind_some, kq_digit, Option.bind_some]
      by_cases hd3 : kq_isd b (p + 1) = true
      · have hd4 := kq_isd_iff.mp hd3
        have hpt2 := kq_inb ht (p := p + 1) (by omega)
        rw [if_pos hd3, if_neg (show ¬ (1 : Int32) = 0 by decide), if_pos hd3]
        refine ⟨_, _, rfl, g1.go rfl (show p + 2 ≤ 200 by omega), fun _ => ?_⟩
        unfold kq_see
        rw [if_pos (by omega), pk_mul, nI_add, pk_sub (by omega), show 10 * (b p - 48) + b (p + 1) - 48 = 10 * (b p - 48) + (b (p + 1) - 48) by omega]
      · rw [if_neg hd3, if_pos rfl, if_neg hd3]
        by_cases hl2 : b p - 48 < least
        · rw [if_neg (show ¬ nI least ≤ nI (b p - 48) by rw [vt_leI (by omega) (by omega)]; omega), if_pos hl2]
          obtain ⟨σg, k1, k2⟩ := kq_fail (k := 1) ⟨by omega, by omega⟩ g1
          rw [if_pos rfl] at k2
          rw [k1]
          exact ⟨_, _, rfl, k2, fun h5 => absurd h5 (by simp)⟩
        · rw [if_pos (show nI least ≤ nI (b p - 48) by rw [vt_leI (by omega) (by omega)]; omega), if_neg hl2]
          exact ⟨_, _, rfl, g1, fun _ => rfl⟩
  · rw [if_neg hc, if_neg hc]
    exact ⟨_, _, rfl, f2, fun h5 => absurd h5 (by simp)⟩
theorem kq_num' {tl : Nat} {b : Nat → Nat} {σ0 σ : kb_S} (ht : kq_tc tl b σ0) {least : Int32} {s : Nat × Nat} (h0 : s.1 ≠ 0) (h : kq_c σ0 s σ) : ∃ σ2 v, fn_X4_readNumber least σ = some (σ2, v) ∧ kq_c σ0 s σ2 := by
  obtain ⟨v, hv⟩ := kq_next' ht h
  obtain ⟨σf, f1, f2⟩ := kq_fail (k := 1) ⟨by omega, by omega⟩ h
  rw [if_neg h0] at f2
  unfold fn_X4_readNumber fp_X4_readNumber_33
  rw [hv, Option.bind_some, kq_right h, if_neg h0, if_pos rfl, show (1 : Int32) = nI 1 from rfl, f1]
  exact ⟨_, _, rfl, f2⟩
/-- a digit of a cable -/
def kq_d (b : Nat → Nat) (s : Nat × Nat) : Nat × Nat := if s.1 = 0 then (if 49 ≤ b s.2 ∧ b s.2 ≤ 53 then (0, s.2 + 1) else (1, s.2)) else s
theorem kq_dig {tl : Nat} {b : Nat → Nat} {σ0 σ : kb_S} (ht : kq_tc tl b σ0) {s : Nat × Nat} (h : kq_c σ0 s σ) : ∃ σ2 v, fn_X4_readCableDigit σ = some (σ2, v) ∧ kq_c σ0 (kq_d b s) σ2 ∧ ((kq_d b s).1 = 0 → v = nI (b s.2 - 48)) := by
  have htl := ht.1
  obtain ⟨σf, f1, f2⟩ := kq_fail (k := 1) ⟨by omega, by omega⟩ h
  have e25 : fp_X4_readCableDigit_25 σ = some (σf, 1) := by
    unfold fp_X4_readCableDigit_25; rw [show (1 : Int32) = nI 1 from rfl, f1]; rfl
  obtain ⟨v, hv⟩ := kq_next' ht h
  unfold fn_X4_readCableDigit kq_d
  rw [hv, Option.bind_some, kq_right h, e25]
  by_cases h0 : s.1 = 0
  · obtain ⟨f, p⟩ := s
    simp only at h0
    subst h0
    have hp : p ≤ 200 := h.2.2.2.2.2.2.1
    rw [kq_next ht h] at hv
    have hv2 : v = kq_see b p := (Option.some.inj hv).symm
    rw [if_pos rfl] at f2
    rw [if_pos rfl, if_neg (show ¬ (1 : Int32) = 0 by decide), if_pos rfl]
    show ∃ σ2 v_1, _ ∧ kq_c σ0 (if 49 ≤ b p ∧ b p ≤ 53 then (0, p + 1) else (1, p)) σ2 ∧ ((if 49 ≤ b p ∧ b p ≤ 53 then (0, p + 1) else (1, p)).1 = 0 → v_1 = nI (b p - 48))
    by_cases hd : 49 ≤ b p ∧ b p ≤ 53
    · have hpt := kq_inb ht (p := p) (by omega)
      have e : v - 48 = nI (b p - 48) := by
        rw [hv2]; unfold kq_see; rw [if_pos (by omega), show (48 : Int32) = nI 48 from rfl, pk_sub (by omega)]
      rw [e, if_neg (by rw [vt_1, vt_ltI (by omega) (by omega)]; omega), if_pos (by rw [vt_5, vt_leI (by omega) (by omega)]; omega), if_pos hd, h.2.2.2.2.1 rfl, vt_1, nI_add]
      exact ⟨_, _, rfl, h.go rfl (by omega), fun _ => rfl⟩
    · rw [if_neg hd]
      have hx : v - 48 < 1 ∨ ¬ (v - 48 ≤ 5) := by
        rw [hv2]; unfold kq_see
        by_cases h256 : b p < 256
        · rw [if_pos h256]
          by_cases h48 : 48 ≤ b p
          · rw [show (48 : Int32) = nI 48 from rfl, pk_sub h48, vt_1, vt_5, vt_ltI (by omega) (by omega), vt_leI (by omega) (by omega)]; omega
          · left
            have : ∀ x, x < 48 → nI x - 48 < (1 : Int32) := by decide
            exact this _ (by omega)
        · rw [if_neg h256]; left; decide
      refine ⟨σf, 1, ?_, f2, fun h5 => absurd h5 (by simp)⟩
      by_cases h1 : v - 48 < 1
      · rw [if_pos h1]
      · rw [if_neg h1, if_neg (hx.resolve_left h1)]
  · rw [if_neg h0, if_pos rfl, if_neg h0]
    rw [if_neg h0] at f2
    exact ⟨_, _, rfl, f2, fun h5 => absurd h5 h0⟩
