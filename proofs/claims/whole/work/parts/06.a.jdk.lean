/-! the JDK's own members over String constants: length, charAt -/
theorem kb_shr0 (x : Int32) : x >>> ((0 : Int32) &&& 31) = x := by
  have h : (0 : Int32) &&& 31 = 0 := by decide
  rw [h]
  simp
theorem kb_chr : ∀ i, i < 19 → ∀ j, j < kb_sln i → (((kb_sch i j) &&& 255).toUInt32 % 65536).toInt32 = kb_sch i j ∧ narrow .char (.int (kb_sch i j)) = .int (kb_sch i j) := by decide +kernel
theorem hd_J0_coder : yJ0_coder_7d493.cls = RJ0 ∧ yJ0_coder_7d493.cls ≠ "java/lang/invoke/MethodHandle" ∧ yJ0_coder_7d493.cls ≠ "java/lang/invoke/VarHandle" ∧ (parseMethodDescriptor yJ0_coder_7d493.desc).map (fun d => d.parameters.length) = some 0 := by decide +kernel
theorem hd_J0_isLatin1 : yJ0_isLatin1_aae02.cls = RJ0 ∧ yJ0_isLatin1_aae02.cls ≠ "java/lang/invoke/MethodHandle" ∧ yJ0_isLatin1_aae02.cls ≠ "java/lang/invoke/VarHandle" ∧ (parseMethodDescriptor yJ0_isLatin1_aae02.desc).map (fun d => d.parameters.length) = some 0 := by decide +kernel
theorem hd_J0_length : yJ0_length_8abf5.cls = RJ0 ∧ yJ0_length_8abf5.cls ≠ "java/lang/invoke/MethodHandle" ∧ yJ0_length_8abf5.cls ≠ "java/lang/invoke/VarHandle" ∧ (parseMethodDescriptor yJ0_length_8abf5.desc).map (fun d => d.parameters.length) = some 0 := by decide +kernel
theorem hd_J0_charAt : yJ0_charAt_5068e.cls = RJ0 ∧ yJ0_charAt_5068e.cls ≠ "java/lang/invoke/MethodHandle" ∧ yJ0_charAt_5068e.cls ≠ "java/lang/invoke/VarHandle" ∧ (parseMethodDescriptor yJ0_charAt_5068e.desc).map (fun d => d.parameters.length) = some 1 := by decide +kernel
theorem hd_J3_checkIndex : yJ3_checkIndex_8e157.cls ≠ "java/lang/invoke/MethodHandle" ∧ yJ3_checkIndex_8e157.cls ≠ "java/lang/invoke/VarHandle" ∧ (parseMethodDescriptor yJ3_checkIndex_8e157.desc).map (fun d => d.parameters.length) = some 3 := by decide +kernel
theorem hd_J0_checkIndex : yJ0_checkIndex_df160.cls ≠ "java/lang/invoke/MethodHandle" ∧ yJ0_checkIndex_df160.cls ≠ "java/lang/invoke/VarHandle" ∧ (parseMethodDescriptor yJ0_checkIndex_df160.desc).map (fun d => d.parameters.length) = some 2 := by decide +kernel
theorem hd_J1_charAt : yJ1_charAt_3b067.cls ≠ "java/lang/invoke/MethodHandle" ∧ yJ1_charAt_3b067.cls ≠ "java/lang/invoke/VarHandle" ∧ (parseMethodDescriptor yJ1_charAt_3b067.desc).map (fun d => d.parameters.length) = some 2 := by decide +kernel
set_option maxRecDepth 100000 in
set_option maxHeartbeats 4000000 in
theorem ct_J0_coder (l : Launch) (V : kb_V) (A : Nat → Prop) {i : Nat} (hi : i < 19) (ws : va_W) : kb_T l yJ0_coder_7d493 cJ0_coder_7d493 1 (some .byte) ({ frames := 0, cells := 0, slots := 0, locals := 0 } : Room) V A [.ref (V.2.2 (10 + i))] ws (some (.int 0)) ws 0 0 := by
  refine kb_start (cc := cJ0_coder_7d493) (nL := 1) (ret := some .byte) (own := RJ0) (by decide) rfl (Nat.le_of_ble_eq_true rfl) ?_
  intro p e s m args below meth c C
  have hz := C.2.1.2.2.2.2.1 i hi
  refine kj_sub [0] (L2 := [(0, .ref (V.2.2 (10 + i)))]) rfl ?_
  refine kj_getsV (pc := 0) C C.2.1.2.2.2.2.2.2.1 wf_J0_38 dJ0_coder_7d493_0 ?_
  refine kj_if_eq (pc := 3) 13 C dJ0_coder_7d493_3 (by decide) (fun c1 => absurd c1 (by decide)) (fun _ => ?_)
  refine kj_aload_n (pc := 6) C 0 dJ0_coder_7d493_6 rfl rfl ?_
  refine kj_sfld (pc := 7) C hz.2.1 wf_J0_15 dJ0_coder_7d493_7 ?_
  refine kj_goto (pc := 10) 14 C dJ0_coder_7d493_10 (by decide) ?_
  exact kj_nret (pc := 14) C (by decide) dJ0_coder_7d493_14
set_option maxRecDepth 100000 in
set_option maxHeartbeats 4000000 in
theorem ct_J0_isLatin1 (l : Launch) (V : kb_V) (A : Nat → Prop) {i : Nat} (hi : i < 19) (ws : va_W) : kb_T l yJ0_isLatin1_aae02 cJ0_isLatin1_aae02 1 (some .boolean) ({ frames := 0, cells := 0, slots := 0, locals := 0 } : Room) V A [.ref (V.2.2 (10 + i))] ws (some (.int 1)) ws 0 0 := by
  refine kb_start (cc := cJ0_isLatin1_aae02) (nL := 1) (ret := some .boolean) (own := RJ0) (by decide) rfl (Nat.le_of_ble_eq_true rfl) ?_
  intro p e s m args below meth c C
  have hz := C.2.1.2.2.2.2.1 i hi
  refine kj_sub [0] (L2 := [(0, .ref (V.2.2 (10 + i)))]) rfl ?_
  refine kj_getsV (pc := 0) C C.2.1.2.2.2.2.2.2.1 wf_J0_38 dJ0_isLatin1_aae02_0 ?_
  refine kj_if_eq (pc := 3) 17 C dJ0_isLatin1_aae02_3 (by decide) (fun c1 => absurd c1 (by decide)) (fun _ => ?_)
  refine kj_aload_n (pc := 6) C 0 dJ0_isLatin1_aae02_6 rfl rfl ?_
  refine kj_sfld (pc := 7) C hz.2.1 wf_J0_15 dJ0_isLatin1_aae02_7 ?_
  refine kj_if_ne (pc := 10) 17 C dJ0_isLatin1_aae02_10 (by decide) (fun c1 => absurd rfl c1) (fun _ => ?_)
  refine kj_iconst (pc := 13) (v := 1) C dJ0_isLatin1_aae02_13 (by decide) ?_
  refine kj_goto (pc := 14) 18 C dJ0_isLatin1_aae02_14 (by decide) ?_
  exact kj_nret (pc := 18) C (by decide) dJ0_isLatin1_aae02_18
set_option maxRecDepth 100000 in
set_option maxHeartbeats 4000000 in
theorem ct_J0_length (l : Launch) (V : kb_V) (A : Nat → Prop) {i : Nat} (hi : i < 19) (ws : va_W) : kb_T l yJ0_length_8abf5 cJ0_length_8abf5 1 (some .int) ({ frames := 1, cells := 0, slots := 0, locals := 20 } : Room) V A [.ref (V.2.2 (10 + i))] ws (some (.int (Int32.ofNat (kb_sln i)))) ws 0 0 := by
  refine kb_start (cc := cJ0_length_8abf5) (nL := 1) (ret := some .int) (own := RJ0) (by decide) rfl (Nat.le_of_ble_eq_true rfl) ?_
  intro p e s m args below meth c C
  have hz := C.2.1.2.2.2.2.1 i hi
  refine kj_sub [0] (L2 := [(0, .ref (V.2.2 (10 + i)))]) rfl ?_
  refine kj_aload_n (pc := 0) C 0 dJ0_length_8abf5_0 rfl rfl ?_
  refine kj_sfld (pc := 1) C hz.2.2.1 wf_J0_9 dJ0_length_8abf5_1 ?_
  refine kj_tlen (pc := 4) C hz.2.2.2 rfl dJ0_length_8abf5_4 ?_
  refine kj_aload_n (pc := 5) C 0 dJ0_length_8abf5_5 rfl rfl ?_
  refine kj_callVR (pc := 6) (as := []) (rest := [.int (Int32.ofNat (kb_sln i))]) (b := V.2.2 (10 + i)) C (ct_J0_coder l V A hi ws) wd_J0_coder_7d493 wk_J0_335 wi_J0_coder_7d493 ws_J0_coder_7d493 wz_J0 rfl rfl hd_J0_coder ⟨by decide, by decide⟩ hz.1 rfl (Nat.le_of_ble_eq_true rfl) (by decide) dJ0_length_8abf5_6 ?_
  refine kj_ishr (pc := 9) C dJ0_length_8abf5_9 ?_
  rw [kb_shr0]
  exact kj_iret (pc := 10) C dJ0_length_8abf5_10
set_option maxRecDepth 100000 in
set_option maxHeartbeats 4000000 in
theorem ct_J3_checkIndex (l : Launch) (V : kb_V) (A : Nat → Prop) {x n : Int32} (h0 : ¬ x < 0) (h1 : x < n) (w : Value) (hw : w = .null ∨ ∃ t, w = .ref t) (ws : va_W) : kb_T l yJ3_checkIndex_8e157 cJ3_checkIndex_8e157 3 (some .int) ({ frames := 0, cells := 0, slots := 0, locals := 0 } : Room) V A [.int x, .int n, w] ws (some (.int x)) ws 0 0 := by
  have hc : w.category = 1 := by rcases hw with rfl | ⟨t, rfl⟩ <;> rfl
  refine kb_start (cc := cJ3_checkIndex_8e157) (nL := 3) (ret := some .int) (own := RJ3) (by decide) rfl (by rcases hw with rfl | ⟨t, rfl⟩ <;> exact Nat.le_of_ble_eq_true rfl) ?_
  intro p e s m args below meth c C
  refine kj_sub [0, 1] (L2 := [(0, .int x), (1, .int n)]) (by rcases hw with rfl | ⟨t, rfl⟩ <;> rfl) ?_
  refine kj_iload_n (pc := 0) C 0 dJ3_checkIndex_8e157_0 rfl rfl ?_
  refine kj_if_lt (pc := 1) 9 C dJ3_checkIndex_8e157_1 (by decide) (fun c1 => absurd c1 h0) (fun _ => ?_)
  refine kj_iload_n (pc := 4) C 0 dJ3_checkIndex_8e157_4 rfl rfl ?_
  refine kj_iload_n (pc := 5) C 1 dJ3_checkIndex_8e157_5 rfl rfl ?_
  refine kj_icmp_lt (pc := 6) 16 C dJ3_checkIndex_8e157_6 (by decide) (fun _ => ?_) (fun c1 => absurd h1 c1)
  refine kj_iload_n (pc := 16) C 0 dJ3_checkIndex_8e157_16 rfl rfl ?_
  exact kj_iret (pc := 17) C dJ3_checkIndex_8e157_17
set_option maxRecDepth 100000 in
set_option maxHeartbeats 4000000 in
theorem ct_J0_checkIndex (l : Launch) (V : kb_V) (A : Nat → Prop) {x n : Int32} (h0 : ¬ x < 0) (h1 : x < n) (ws : va_W) : kb_T l yJ0_checkIndex_df160 cJ0_checkIndex_df160 2 none ({ frames := 1, cells := 0, slots := 0, locals := 22 } : Room) V A [.int x, .int n] ws none ws 0 0 := by
  refine kb_start (cc := cJ0_checkIndex_df160) (nL := 2) (ret := none) (own := RJ0) (by decide) rfl (Nat.le_of_ble_eq_true rfl) ?_
  intro p e s m args below meth c C
  refine kj_sub [0, 1] (L2 := [(0, .int x), (1, .int n)]) rfl ?_
  refine kj_iload_n (pc := 0) C 0 dJ0_checkIndex_df160_0 rfl rfl ?_
  refine kj_iload_n (pc := 1) C 1 dJ0_checkIndex_df160_1 rfl rfl ?_
  have hw : ∃ w : Value, (w = .null ∨ ∃ t, w = .ref t) ∧ va_Z "jdk/internal/util/Preconditions" "SIOOBE_FORMATTER" "Ljava/util/function/BiFunction;" w A s s.heap := by
    rcases C.2.1.2.2.2.2.2.2.2.1 with h | ⟨t, h⟩
    · exact ⟨_, Or.inl rfl, h⟩
    · exact ⟨_, Or.inr ⟨t, rfl⟩, h⟩
  obtain ⟨w, hw, hz⟩ := hw
  refine kj_getsV (pc := 2) C hz wf_J0_1053 dJ0_checkIndex_df160_2 ?_
  refine kj_callS0 (pc := 5) (as := [.int x, .int n, w]) (rest := []) C (ct_J3_checkIndex l V A h0 h1 w hw ws) wd_J3_checkIndex_8e157 wk_J0_1059 wi_J3_checkIndex_8e157 wz_J3 rfl rfl hd_J3_checkIndex ⟨by decide, by decide⟩ rfl (Nat.le_of_ble_eq_true rfl) (by decide) dJ0_checkIndex_df160_5 ?_
  refine kj_pop (pc := 8) C dJ0_checkIndex_df160_8 rfl ?_
  exact kj_vret (pc := 9) C dJ0_checkIndex_df160_9
theorem kb_sl31 : ∀ i, i < 19 → kb_sln i < 10 := by decide +kernel
theorem kb_inlt {x : Int32} {n : Nat} (h : kb_in x n = true) (hn : n < 10) : ¬ x < 0 ∧ x < Int32.ofNat n ∧ x.toNatClampNeg < n := by
  have h1 := of_decide_eq_true h
  have h2 : (Int32.ofNat n).toInt = n := nI_toInt (n := n) (by omega)
  refine ⟨fun q => ?_, ?_, ?_⟩
  · have := Int32.lt_iff_toInt_lt.mp q
    simp at this
    omega
  · rw [Int32.lt_iff_toInt_lt, h2]; exact h1.2
  · have : ((x.toNatClampNeg : Nat) : Int) = x.toInt := by
      unfold Int32.toNatClampNeg
      omega
    omega
set_option maxRecDepth 100000 in
set_option maxHeartbeats 4000000 in
theorem ct_J1_charAt (l : Launch) (V : kb_V) (A : Nat → Prop) {i : Nat} (hi : i < 19) {x : Int32} (hx : kb_in x (kb_sln i) = true) (ws : va_W) : kb_T l yJ1_charAt_3b067 cJ1_charAt_3b067 2 (some .char) ({ frames := 2, cells := 0, slots := 0, locals := 43 } : Room) V A [.ref (V.2.2 (40 + i)), .int x] ws (some (.int (kb_sch i x.toNatClampNeg))) ws 0 0 := by
  obtain ⟨h0, h1, h2⟩ := kb_inlt hx (kb_sl31 i hi)
  obtain ⟨hv, hn⟩ := kb_chr i hi _ h2
  refine kb_start (cc := cJ1_charAt_3b067) (nL := 2) (ret := some .char) (own := RJ1) (by decide) rfl (Nat.le_of_ble_eq_true rfl) ?_
  intro p e s m args below meth c C
  have hz := C.2.1.2.2.2.2.1 i hi
  refine kj_sub [0, 1] (L2 := [(0, .ref (V.2.2 (40 + i))), (1, .int x)]) rfl ?_
  refine kj_iload_n (pc := 0) C 1 dJ1_charAt_3b067_0 rfl rfl ?_
  refine kj_aload_n (pc := 1) C 0 dJ1_charAt_3b067_1 rfl rfl ?_
  refine kj_tlen (pc := 2) C hz.2.2.2 rfl dJ1_charAt_3b067_2 ?_
  refine kj_callS0 (pc := 3) (as := [.int x, .int (Int32.ofNat (kb_sln i))]) (rest := []) C (ct_J0_checkIndex l V A h0 h1 ws) wd_J0_checkIndex_df160 wk_J1_9 wi_J0_checkIndex_df160 wz_J0 rfl rfl hd_J0_checkIndex ⟨by decide, by decide⟩ rfl (Nat.le_of_ble_eq_true rfl) (by decide) dJ1_charAt_3b067_3 ?_
  refine kj_aload_n (pc := 6) C 0 dJ1_charAt_3b067_6 rfl rfl ?_
  refine kj_iload_n (pc := 7) C 1 dJ1_charAt_3b067_7 rfl rfl ?_
  refine kj_tb (pc := 8) (v := .int (kb_sch i x.toNatClampNeg)) C hz.2.2.2 (kb_inv hx) rfl dJ1_charAt_3b067_8 ?_
  refine kj_sipush (pc := 9) (v := 255) C dJ1_charAt_3b067_9 (by decide) ?_
  refine kj_iand (pc := 12) C dJ1_charAt_3b067_12 ?_
  refine kj_i2c (pc := 13) C dJ1_charAt_3b067_13 ?_
  rw [hv]
  exact kj_nret (pc := 14) C hn dJ1_charAt_3b067_14
set_option maxRecDepth 100000 in
set_option maxHeartbeats 4000000 in
theorem ct_J0_charAt (l : Launch) (V : kb_V) (A : Nat → Prop) {i : Nat} (hi : i < 19) {x : Int32} (hx : kb_in x (kb_sln i) = true) (ws : va_W) : kb_T l yJ0_charAt_5068e cJ0_charAt_5068e 2 (some .char) ({ frames := 3, cells := 0, slots := 0, locals := 64 } : Room) V A [.ref (V.2.2 (10 + i)), .int x] ws (some (.int (kb_sch i x.toNatClampNeg))) ws 0 0 := by
  obtain ⟨h0, h1, h2⟩ := kb_inlt hx (kb_sl31 i hi)
  obtain ⟨hv, hn⟩ := kb_chr i hi _ h2
  refine kb_start (cc := cJ0_charAt_5068e) (nL := 2) (ret := some .char) (own := RJ0) (by decide) rfl (Nat.le_of_ble_eq_true rfl) ?_
  intro p e s m args below meth c C
  have hz := C.2.1.2.2.2.2.1 i hi
  refine kj_sub [0, 1] (L2 := [(0, .ref (V.2.2 (10 + i))), (1, .int x)]) rfl ?_
  refine kj_aload_n (pc := 0) C 0 dJ0_charAt_5068e_0 rfl rfl ?_
  refine kj_callVR (pc := 1) (as := []) (rest := []) (b := V.2.2 (10 + i)) C (ct_J0_isLatin1 l V A hi ws) wd_J0_isLatin1_aae02 wk_J0_492 wi_J0_isLatin1_aae02 ws_J0_isLatin1_aae02 wz_J0 rfl rfl hd_J0_isLatin1 ⟨by decide, by decide⟩ hz.1 rfl (Nat.le_of_ble_eq_true rfl) (by decide) dJ0_charAt_5068e_1 ?_
  refine kj_if_eq (pc := 4) 16 C dJ0_charAt_5068e_4 (by decide) (fun c1 => absurd c1 (by decide)) (fun _ => ?_)
  refine kj_aload_n (pc := 7) C 0 dJ0_charAt_5068e_7 rfl rfl ?_
  refine kj_sfld (pc := 8) C hz.2.2.1 wf_J0_9 dJ0_charAt_5068e_8 ?_
  refine kj_iload_n (pc := 11) C 1 dJ0_charAt_5068e_11 rfl rfl ?_
  refine kj_callS0 (pc := 12) (as := [.ref (V.2.2 (40 + i)), .int x]) (rest := []) C (ct_J1_charAt l V A hi hx ws) wd_J1_charAt_3b067 wk_J0_495 wi_J1_charAt_3b067 wz_J1 rfl rfl hd_J1_charAt ⟨by decide, by decide⟩ rfl (Nat.le_of_ble_eq_true rfl) (by decide) dJ0_charAt_5068e_12 ?_
  exact kj_nret (pc := 15) C hn dJ0_charAt_5068e_15
section KBS
variable {p : Program} {l : Launch} {e : Env} {R : Room} {s : State} {m : MethodId} {args : Array Value} {below : List Frame} {meth : Method} {c : Code} {k n : Nat} {Q : State → Prop} {cc : ByteArray} {nL : Nat} {own : String} {w0 : Cond} {ret : Option FieldType} {V : kb_V} {A : Nat → Prop} {pc : Nat} {L : List (Nat × Value)} {st : List Value} {ws : va_W} {index : Nat}
/-- length() of a constant -/
theorem kj_strlen {i : Nat} (C : kb_C p s m args meth c cc nL own w0 ret V A) (hi : i < 19) (h2 : Cond.methodLink own index yJ0_length_8abf5 ∈ kb_TB) (hR : 2 ≤ R.frames ∧ 40 ≤ R.locals) (hroom : (st.map fun v => v.category).sum ≤ 8) (hcs : k ≤ R.cells ∧ n ≤ R.slots) (d : decode cc pc = .ok (.invokevirtual index, 3)) (K : kb_J p l e R s m args below meth c nL V A k n Q (pc + 3) L (.int (Int32.ofNat (kb_sln i)) :: st) ws) : kb_J p l e R s m args below meth c nL V A k n Q pc L (.ref (V.2.2 (10 + i)) :: st) ws :=
  kj_callVR (as := []) (rest := st) C (ct_J0_length l V A hi ws) wd_J0_length_8abf5 h2 wi_J0_length_8abf5 ws_J0_length_8abf5 wz_J0 rfl rfl hd_J0_length ⟨hR.1, hR.2⟩ (C.2.1.2.2.2.2.1 i hi).1 rfl hroom hcs d K
/-- charAt(x) of a constant -/
theorem kj_charAt {i : Nat} {x : Int32} (C : kb_C p s m args meth c cc nL own w0 ret V A) (hi : i < 19) (hx : kb_in x (kb_sln i) = true) (h2 : Cond.methodLink own index yJ0_charAt_5068e ∈ kb_TB) (hR : 4 ≤ R.frames ∧ 85 ≤ R.locals) (hroom : (st.map fun v => v.category).sum ≤ 8) (hcs : k ≤ R.cells ∧ n ≤ R.slots) (d : decode cc pc = .ok (.invokevirtual index, 3)) (K : kb_J p l e R s m args below meth c nL V A k n Q (pc + 3) L (.int (kb_sch i x.toNatClampNeg) :: st) ws) : kb_J p l e R s m args below meth c nL V A k n Q pc L (.int x :: .ref (V.2.2 (10 + i)) :: st) ws :=
  kj_callVR (as := [.int x]) (rest := st) C (ct_J0_charAt l V A hi hx ws) wd_J0_charAt_5068e h2 wi_J0_charAt_5068e ws_J0_charAt_5068e wz_J0 rfl rfl hd_J0_charAt ⟨hR.1, hR.2⟩ (C.2.1.2.2.2.2.1 i hi).1 rfl hroom hcs d K
end KBS
