/-! text behind text -/
def kx_app (gi ai ex l : Nat) (μ : kb_S) (xs : List Nat) (μ2 : kb_S) : Prop :=
  kb_g μ2 gi = nI (l + xs.length) ∧ (∀ j, j ≠ gi → kb_g μ2 j = kb_g μ j) ∧ (∀ j, j ≠ ai → j ≠ ex → kb_a μ2 j = kb_a μ j) ∧ (∀ j, ex ≠ ai → j = ex → kb_a μ2 j = kb_a μ j) ∧ (∀ x, x < l → kb_a μ2 ai x = kb_a μ ai x) ∧ ∀ k v, xs[k]? = some v → kb_a μ2 ai (l + k) = nI v
def kx_pr (gi ai ex : Nat) (f : kb_S → Option kb_S) (xs : List Nat) : Prop := ∀ μ l, kb_g μ gi = nI l → l + xs.length ≤ 480 → ∃ μ2, f μ = some μ2 ∧ kx_app gi ai ex l μ xs μ2
theorem kx_app_nil {gi ai ex l : Nat} {μ : kb_S} (h : kb_g μ gi = nI l) : kx_app gi ai ex l μ [] μ := ⟨h, fun _ _ => rfl, fun _ _ _ => rfl, fun _ _ _ => rfl, fun _ _ => rfl, fun k v hv => by cases hv⟩
theorem kx_app_app {gi ai ex l : Nat} {μ μ2 μ3 : kb_S} {xs ys : List Nat} (h : kx_app gi ai ex l μ xs μ2) (h2 : kx_app gi ai ex (l + xs.length) μ2 ys μ3) : kx_app gi ai ex l μ (xs ++ ys) μ3 := by
  obtain ⟨a1, a2, a3, a4, a5, a6⟩ := h
  obtain ⟨b1, b2, b3, b4, b5, b6⟩ := h2
  refine ⟨by rw [b1, List.length_append, Nat.add_assoc], fun j hj => by rw [b2 j hj, a2 j hj], fun j hj hj2 => by rw [b3 j hj hj2, a3 j hj hj2], fun j hj hj2 => by rw [b4 j hj hj2, a4 j hj hj2], fun x hx => by rw [b5 x (by omega), a5 x hx], fun k v hv => ?_⟩
  by_cases hk : k < xs.length
  · rw [List.getElem?_append_left hk] at hv
    rw [b5 _ (by omega)]; exact a6 k v hv
  · rw [List.getElem?_append_right (by omega)] at hv
    have := b6 _ v hv
    rw [show l + xs.length + (k - xs.length) = l + k by omega] at this; exact this
theorem kx_seq {gi ai ex : Nat} {f g : kb_S → Option kb_S} {xs ys : List Nat} (h : kx_pr gi ai ex f xs) (h2 : kx_pr gi ai ex g ys) : kx_pr gi ai ex (fun μ => (f μ).bind g) (xs ++ ys) := by
  intro μ l hl hle
  rw [List.length_append] at hle
  obtain ⟨μ2, r1, r2⟩ := h μ l hl (by omega)
  obtain ⟨μ3, r3, r4⟩ := h2 μ2 (l + xs.length) r2.1 (by omega)
  exact ⟨μ3, by show (f μ).bind g = _; rw [r1]; exact r3, kx_app_app r2 r4⟩
theorem kx_eq {gi ai ex : Nat} {f g : kb_S → Option kb_S} {xs ys : List Nat} (h : kx_pr gi ai ex f xs) (hf : ∀ μ, g μ = f μ) (hx : ys = xs) : kx_pr gi ai ex g ys := by
  rw [hx, show g = f from funext hf]; exact h
theorem kx_put9 (v : Nat) : kx_pr 11 14 19 (fn_X9_put (nI v)) [v] := by
  intro μ l hl hle
  unfold fn_X9_put
  rw [hl, if_pos (vt_in' (by simp at hle; omega) (by simp at hle; omega)), nI_clamp (by simp at hle; omega), vt_1, nI_add]
  refine ⟨_, rfl, rfl, fun j hj => by rw [vt_gp, if_neg hj]; rfl, fun j hj _ => by rw [vt_ap, vt_aa, if_neg hj], fun j _ hj => by rw [vt_ap, vt_aa, if_neg (by omega)], fun x hx => by rw [vt_ap, vt_aax, if_neg (by omega)], fun k w hw => ?_⟩
  match k, hw with
  | 0, hw => injection hw with hw; rw [← hw, vt_ap, vt_aax, if_pos ⟨rfl, rfl⟩]
theorem kx_put5 (v : Nat) : kx_pr 1 3 3 (fn_X5_put (nI v)) [v] := by
  intro μ l hl hle
  unfold fn_X5_put
  rw [hl, if_neg (by rw [show (480 : Int32) = nI 480 from rfl, vt_leI (by omega) (by simp at hle; omega)]; simp at hle; omega), if_pos (vt_in' (by simp at hle; omega) (by simp at hle; omega)), nI_clamp (by simp at hle; omega), vt_1, nI_add]
  refine ⟨_, rfl, rfl, fun j hj => by rw [vt_gp, if_neg hj]; rfl, fun j hj _ => by rw [vt_ap, vt_aa, if_neg hj], fun j h _ => absurd rfl h, fun x hx => by rw [vt_ap, vt_aax, if_neg (by omega)], fun k w hw => ?_⟩
  match k, hw with
  | 0, hw => injection hw with hw; rw [← hw, vt_ap, vt_aax, if_pos ⟨rfl, rfl⟩]
/-! numbers, names -/
def kw_num (t : Nat) : List Nat := if t < 10 then [48 + t] else [48 + t / 10, 48 + t % 10]
theorem kw_dig {t : Nat} (ht : t < 100) : (48 : Int32) + (nI t - nI t / (10 : Int32) * (10 : Int32)) = nI (48 + t % 10) := by
  rw [vt_10, pk_rem (by omega) (by omega) (by omega), show (48 : Int32) = nI 48 from rfl, nI_add]
theorem kx_num5 {t : Nat} (ht : t < 100) : kx_pr 1 3 3 (fn_X5_putNumber (nI t)) (kw_num t) := by
  have e17 : ∀ τ, fp_X5_putNumber_17 (nI t) τ = fn_X5_put (nI (48 + t % 10)) τ := fun τ => by
    unfold fp_X5_putNumber_17; rw [kw_dig ht]; cases fn_X5_put (nI (48 + t % 10)) τ <;> rfl
  by_cases h : t < 10
  · refine kx_eq (kx_put5 (48 + t)) (fun τ => ?_) (by unfold kw_num; rw [if_pos h])
    unfold fn_X5_putNumber
    rw [if_pos (by rw [vt_10, vt_ltI (by omega) (by omega)]; exact h), e17, Nat.mod_eq_of_lt h]
  · refine kx_eq (kx_seq (kx_put5 (48 + t / 10)) (kx_put5 (48 + t % 10))) (fun τ => ?_) (by unfold kw_num; rw [if_neg h]; rfl)
    unfold fn_X5_putNumber
    rw [if_neg (by rw [vt_10, vt_ltI (by omega) (by omega)]; exact h), vt_10, pk_div (by omega) (by omega) (by omega), show (48 : Int32) = nI 48 from rfl, nI_add]
    congr 1; funext q; exact e17 q
def kw_nm (s : Nat) : List Nat :=
  if s < 10 then (if s = 0 then [107] else if s = 1 then [112] else if s = 2 then [115, 108] else if s = 3 then [107, 50, 116, 111, 103] else if s = 4 then [115, 115, 107] else if s = 5 then [107, 51, 116, 111, 103] else if s = 6 then [107, 102, 98] else if s = 7 then [121, 111] else if s = 8 then [98, 105, 110, 100] else [99, 97, 115, 116, 49])
  else [99, 48 + vt_ca s, 47, 48 + vt_cb s, if (s - 10) % 10 = 0 then 102 else 98]
theorem kw_nm_len (s : Nat) : 1 ≤ (kw_nm s).length ∧ (kw_nm s).length ≤ 5 := by
  unfold kw_nm
  by_cases h : s < 10
  · rw [if_pos h]
    rcases (show s = 0 ∨ s = 1 ∨ s = 2 ∨ s = 3 ∨ s = 4 ∨ s = 5 ∨ s = 6 ∨ s = 7 ∨ s = 8 ∨ s = 9 by omega) with h | h | h | h | h | h | h | h | h | h <;> subst h <;> decide
  · rw [if_neg h]; simp
theorem kx_61 {w : Nat} (hw : w < 19) {cs : List Nat} (hcs : kb_SL.getD w [] = cs.map nI) (hlen : cs.length ≤ 20) : kx_pr 1 3 3 (fp_X5_tellStitch_61 kb_FU w 0) cs := by
  have hln : kb_sln w = cs.length := by unfold kb_sln; rw [hcs, List.length_map]
  have key : ∀ (ds : List Nat) (i fu : Nat), ds.length < fu → (∀ k, k < ds.length → cs[i + k]? = ds[k]?) → i + ds.length = cs.length → kx_pr 1 3 3 (fp_X5_tellStitch_61 fu w (nI i)) ds := by
    intro ds
    induction ds with
    | nil =>
        intro i fu hf hd he τ l hl hle
        obtain ⟨f, rfl⟩ : ∃ f, fu = f + 1 := ⟨fu - 1, by simp at hf; omega⟩
        refine ⟨τ, ?_, kx_app_nil hl⟩
        rw [fp_X5_tellStitch_61_s, if_pos hw, hln, if_pos (by rw [vt_of, vt_leI (by omega) (by omega)]; simp at he; omega)]
    | cons c ds ih =>
        intro i fu hf hd he
        obtain ⟨f, rfl⟩ : ∃ f, fu = f + 1 := ⟨fu - 1, by simp at hf; omega⟩
        have hil : i < cs.length := by simp at he; omega
        have hci : cs[i]? = some c := by have := hd 0 (by simp); simpa using this
        have hch : kb_sch w i = nI c := by
          unfold kb_sch
          rw [hcs, List.getD_eq_getElem?_getD, List.getElem?_map, hci]; rfl
        have hd2 : ∀ k, k < ds.length → cs[i + 1 + k]? = ds[k]? := by
          intro k hk
          have := hd (k + 1) (by simp; omega)
          rw [show i + 1 + k = i + (k + 1) by omega, this]; rfl
        refine kx_eq (kx_seq (kx_put5 c) (ih (i + 1) f (by simp at hf; omega) hd2 (by simp at he; omega))) (fun τ => ?_) rfl
        rw [fp_X5_tellStitch_61_s, if_pos hw, hln, if_neg (by rw [vt_of, vt_leI (by omega) (by omega)]; omega), if_pos ⟨hw, vt_in' (by omega) hil⟩, nI_clamp (by omega), hch, vt_1, nI_add]
  exact key cs 0 kb_FU (by rw [vt_fu]; omega) (fun k _ => by rw [Nat.zero_add]) (by omega)
theorem kw_beh : ∀ s, s < 600 → vt_vs s = true → 100 ≤ s → (fn_X6_isBehind (nI s) = (if (s - 10) % 10 = 0 then 0 else 1)) ∧ ((nI s - nI s / (10 : Int32) * (10 : Int32) = 0) ↔ (s - 10) % 10 = 0) := by decide +kernel
theorem kx_stitch5 {s : Nat} (hs : vt_vs s = true) : kx_pr 1 3 3 (fn_X5_tellStitch (nI s)) (kw_nm s) := by
  have hst := vt_st hs
  have hlt := vt_vs_lt hs
  by_cases h100 : s < 100
  · have h10 := (hst.2.2.2.2.2.2.2.2.2 h100).1
    have hw : ∀ s, s < 10 → fn_X6_nameOf (nI s) < 19 ∧ kb_SL.getD (fn_X6_nameOf (nI s)) [] = (kw_nm s).map nI := by decide
    obtain ⟨w1, w2⟩ := hw s h10
    refine kx_eq (kx_61 w1 w2 (by have := kw_nm_len s; omega)) (fun τ => ?_) rfl
    unfold fn_X5_tellStitch
    rw [hst.2.2.2.2.1, if_pos (by rw [if_pos h100])]
  · have hcab := hst.2.2.2.2.2.1 (by omega)
    obtain ⟨hb, _⟩ := kw_beh s hlt hs (by omega)
    have e : kw_nm s = [99] ++ (kw_num (vt_ca s) ++ ([47] ++ (kw_num (vt_cb s) ++ [if (s - 10) % 10 = 0 then 102 else 98]))) := by
      unfold kw_nm kw_num
      rw [if_neg (by omega), if_pos (show vt_ca s < 10 by omega), if_pos (show vt_cb s < 10 by omega)]; rfl
    refine kx_eq (kx_seq (kx_put5 99) (kx_seq (kx_num5 (by omega)) (kx_seq (kx_put5 47) (kx_seq (kx_num5 (by omega)) (kx_put5 (if (s - 10) % 10 = 0 then 102 else 98)))))) (fun τ => ?_) e
    unfold fn_X5_tellStitch
    rw [hst.2.2.2.2.1, if_neg (by rw [if_neg h100]; decide), hcab.1, hcab.2.1, hb]
    congr 1; funext q2; congr 1; funext q3; congr 1; funext q4; congr 1; funext q5
    unfold fp_X5_tellStitch_50
    by_cases h0 : (s - 10) % 10 = 0
    · rw [if_pos (by rw [if_pos h0]), if_pos h0, show (102 : Int32) = nI 102 from rfl]; cases fn_X5_put (nI 102) q5 <;> rfl
    · rw [if_neg (by rw [if_neg h0]; decide), if_neg h0, show (98 : Int32) = nI 98 from rfl]; cases fn_X5_put (nI 98) q5 <;> rfl
/-! the reference spells -/
def kw_sb (v : Int64) (x : Int32) : Int64 := ((v.toUInt64 >>> (x.toInt64.toUInt64 &&& Int64.toUInt64 63)).toInt64) &&& (255 : Int64)
def kw_sp (v : Int64) : Nat → List Nat
  | 0 => []
  | k + 1 => (if kw_sb v (nI (8 * k)) = 0 then [] else [(kw_sb v (nI (8 * k))).toInt32.toNatClampNeg]) ++ kw_sp v k
theorem kx_spell3 {v : Int64} : ∀ (k fu : Nat), k ≤ 8 → k < fu → (∀ j, j < k → (kw_sb v (nI (8 * j))).toInt32 = nI (kw_sb v (nI (8 * j))).toInt32.toNatClampNeg) → kx_pr 11 14 19 (fp_X9_spell_3 fu v (if k = 0 then -8 else nI (8 * (k - 1)))) (kw_sp v k) := by
  intro k
  induction k with
  | zero =>
      intro fu _ hf _ μ l hl hle
      obtain ⟨f, rfl⟩ : ∃ f, fu = f + 1 := ⟨fu - 1, by omega⟩
      refine ⟨μ, ?_, kx_app_nil hl⟩
      rw [fp_X9_spell_3_s, if_pos rfl, if_pos (by decide)]
  | succ k ih =>
      intro fu hk hf hv
      obtain ⟨f, rfl⟩ : ∃ f, fu = f + 1 := ⟨fu - 1, by omega⟩
      have hih := ih f (by omega) (by omega) (fun j hj => hv j (by omega))
      have e : nI (8 * k) + (-8) = if k = 0 then -8 else nI (8 * (k - 1)) := by
        by_cases h0 : k = 0
        · rw [h0]; rfl
        · rw [if_neg h0, show (-8 : Int32) = -(nI 8) from rfl, vt_an (by omega), show 8 * k - 8 = 8 * (k - 1) by omega]
      rw [if_neg (by omega), Nat.add_sub_cancel, kw_sp]
      by_cases hz : kw_sb v (nI (8 * k)) = 0
      · rw [if_pos hz]
        refine kx_eq hih (fun μ => ?_) rfl
        rw [fp_X9_spell_3_s, if_neg (vt_neg (by omega)), if_pos (by rw [lg_cmp_eq]; exact hz)]
        unfold fp_X9_spell_31
        rw [e]
      · rw [if_neg hz]
        refine kx_eq (kx_seq (kx_put9 (kw_sb v (nI (8 * k))).toInt32.toNatClampNeg) hih) (fun μ => ?_) rfl
        rw [fp_X9_spell_3_s, if_neg (vt_neg (by omega)), if_neg (by rw [lg_cmp_eq]; exact hz)]
        unfold fp_X9_spell_31
        rw [e, ← hv k (by omega)]; rfl
theorem kx_spell {v : Int64} {xs : List Nat} (hv : ∀ j, j < 8 → (kw_sb v (nI (8 * j))).toInt32 = nI (kw_sb v (nI (8 * j))).toInt32.toNatClampNeg) (hx : kw_sp v 8 = xs) : kx_pr 11 14 19 (fun μ => (fn_X9_spell v μ).bind fun q => some q) xs := by
  refine kx_eq (kx_spell3 (v := v) 8 kb_FU (by omega) (by rw [vt_fu]; omega) hv) (fun μ => ?_) hx.symm
  show (fn_X9_spell v μ).bind (fun q => some q) = _
  unfold fn_X9_spell
  rw [if_neg (by decide), show (56 : Int32) = nI (8 * (8 - 1)) from rfl]
  cases fp_X9_spell_3 kb_FU v (nI (8 * (8 - 1))) μ <;> rfl
theorem kx_name9 {s : Nat} (hs : vt_vs s = true) : kx_pr 11 14 19 (fn_X9_name (nI s)) (kw_nm s) := by
  have hst := vt_st hs
  have hlt := vt_vs_lt hs
  by_cases h100 : s < 100
  · have h10 := (hst.2.2.2.2.2.2.2.2.2 h100).1
    have e : ∀ μ, fn_X9_name (nI s) μ = fp_X9_name_12 (nI s) (nI s) μ := fun μ => by
      unfold fn_X9_name; rw [if_neg (by rw [vt_100, vt_leI (by omega) (by omega)]; omega)]
    rcases (show s = 0 ∨ s = 1 ∨ s = 2 ∨ s = 3 ∨ s = 4 ∨ s = 5 ∨ s = 6 ∨ s = 7 ∨ s = 8 ∨ s = 9 by omega) with h | h | h | h | h | h | h | h | h | h <;> subst h
    · exact kx_eq (kx_spell (v := 107) (xs := [107]) (by decide) (by decide)) (fun μ => by rw [e]; rfl) (by decide)
    · exact kx_eq (kx_spell (v := 112) (xs := [112]) (by decide) (by decide)) (fun μ => by rw [e]; rfl) (by decide)
    · exact kx_eq (kx_spell (v := 29548) (xs := [115, 108]) (by decide) (by decide)) (fun μ => by rw [e]; rfl) (by decide)
    · exact kx_eq (kx_spell (v := 460407992167) (xs := [107, 50, 116, 111, 103]) (by decide) (by decide)) (fun μ => by rw [e]; rfl) (by decide)
    · exact kx_eq (kx_spell (v := 7566187) (xs := [115, 115, 107]) (by decide) (by decide)) (fun μ => by rw [e]; rfl) (by decide)
    · exact kx_eq (kx_spell (v := 460424769383) (xs := [107, 51, 116, 111, 103]) (by decide) (by decide)) (fun μ => by rw [e]; rfl) (by decide)
    · exact kx_eq (kx_spell (v := 7038562) (xs := [107, 102, 98]) (by decide) (by decide)) (fun μ => by rw [e]; rfl) (by decide)
    · exact kx_eq (kx_spell (v := 31087) (xs := [121, 111]) (by decide) (by decide)) (fun μ => by rw [e]; rfl) (by decide)
    · exact kx_eq (kx_spell (v := 1651076708) (xs := [98, 105, 110, 100]) (by decide) (by decide)) (fun μ => by rw [e]; rfl) (by decide)
    · exact kx_eq (kx_spell (v := 426836718641) (xs := [99, 97, 115, 116, 49]) (by decide) (by decide)) (fun μ => by rw [e]; rfl) (by decide)
  · have hcab := hst.2.2.2.2.2.1 (by omega)
    obtain ⟨_, hb⟩ := kw_beh s hlt hs (by omega)
    have e : kw_nm s = [99] ++ ([48 + vt_ca s] ++ ([47] ++ ([48 + vt_cb s] ++ [if (s - 10) % 10 = 0 then 102 else 98]))) := by
      unfold kw_nm
      rw [if_neg (by omega)]; rfl
    refine kx_eq (kx_seq (kx_put9 99) (kx_seq (kx_put9 (48 + vt_ca s)) (kx_seq (kx_put9 47) (kx_seq (kx_put9 (48 + vt_cb s)) (kx_put9 (if (s - 10) % 10 = 0 then 102 else 98)))))) (fun μ => ?_) e
    unfold fn_X9_name fp_X9_name_12
    rw [if_pos (by rw [vt_100, vt_leI (by omega) (by omega)]; omega), if_neg (by decide), if_neg (by decide), if_neg (by decide), if_neg (by decide), if_neg (by decide), if_neg (by decide), if_neg (by decide), if_neg (by decide), if_neg (by decide), if_neg (by decide), hcab.2.2.1, hcab.2.2.2.1, show (48 : Int32) = nI 48 from rfl, nI_add, nI_add]
    congr 1; funext q2; congr 1; funext q3; congr 1; funext q4; congr 1; funext q5
    unfold fp_X9_name_217
    by_cases h0 : (s - 10) % 10 = 0
    · rw [if_pos (hb.mpr h0), if_pos h0, show (102 : Int32) = nI 102 from rfl]; cases fn_X9_put (nI 102) q5 <;> rfl
    · rw [if_neg (fun h => h0 (hb.mp h)), if_neg h0, show (98 : Int32) = nI 98 from rfl]; cases fn_X9_put (nI 98) q5 <;> rfl
theorem kx_ends0 : kx_pr 11 14 19 (fn_X9_ends (nI 0)) [44] := by
  refine kx_eq (kx_put9 44) (fun μ => ?_) rfl
  unfold fn_X9_ends
  rw [if_pos (show nI 0 = 0 from rfl), show (44 : Int32) = nI 44 from rfl]; cases fn_X9_put (nI 44) μ <;> rfl
theorem kx_ends {t : Nat} (h1 : 1 ≤ t) (ht : t < 100) : kx_pr 11 14 19 (fn_X9_ends (nI t)) ([41] ++ ([120] ++ kw_num t)) := by
  have e40 : ∀ μ, fp_X9_ends_40 (nI t) μ = fn_X9_put (nI (48 + t % 10)) μ := fun μ => by
    unfold fp_X9_ends_40; rw [kw_dig ht]; cases fn_X9_put (nI (48 + t % 10)) μ <;> rfl
  by_cases h : t < 10
  · refine kx_eq (kx_seq (kx_put9 41) (kx_seq (kx_put9 120) (kx_put9 (48 + t)))) (fun μ => ?_) (by unfold kw_num; rw [if_pos h])
    unfold fn_X9_ends
    rw [if_neg (by rw [vt_0, vt_eqI (by omega) (by omega)]; omega)]
    congr 1; funext q2; congr 1; funext q3
    rw [if_pos (by rw [vt_9, vt_leI (by omega) (by omega)]; omega), e40, Nat.mod_eq_of_lt h]
  · refine kx_eq (kx_seq (kx_put9 41) (kx_seq (kx_put9 120) (kx_seq (kx_put9 (48 + t / 10)) (kx_put9 (48 + t % 10))))) (fun μ => ?_) (by unfold kw_num; rw [if_neg h]; rfl)
    unfold fn_X9_ends
    rw [if_neg (by rw [vt_0, vt_eqI (by omega) (by omega)]; omega)]
    congr 1; funext q2; congr 1; funext q3
    rw [if_neg (by rw [vt_9, vt_leI (by omega) (by omega)]; omega), vt_10, pk_div (by omega) (by omega) (by omega), show (48 : Int32) = nI 48 from rfl, nI_add]
    congr 1; funext q4; exact e40 q4
