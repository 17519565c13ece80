def fp_X8_feed_11   (σ : kb_S) : Option (kb_S × (Nat × Int32)) :=
  some (σ, (1, 0))
theorem fp_X8_feed_11_e   (σ : kb_S) : fp_X8_feed_11  σ =
  some (σ, (1, 0)) := rfl
def fn_X8_feed  (x1 : Int64) (x3 : Int32) (σ : kb_S) : Option (kb_S × (Nat × Int32)) :=
  if x3 < (1 : Int32) then
    fp_X8_feed_11   σ
  else
    if x3 ≤ (8 : Int32) then
      if (fn_X7_hasRoomFor x3 σ) = 0 then
        some (σ, (2, 0))
      else
        (fn_X7_add x1 x3 σ).bind fun q4 =>
        some (q4, (0, (fn_X7_length  q4)))
    else
      fp_X8_feed_11   σ
theorem fe_X8_feed  (x1 : Int64) (x3 : Int32) (σ : kb_S) : fn_X8_feed  x1 x3 σ =
  if x3 < (1 : Int32) then
    fp_X8_feed_11   σ
  else
    if x3 ≤ (8 : Int32) then
      if (fn_X7_hasRoomFor x3 σ) = 0 then
        some (σ, (2, 0))
      else
        (fn_X7_add x1 x3 σ).bind fun q4 =>
        some (q4, (0, (fn_X7_length  q4)))
    else
      fp_X8_feed_11   σ := rfl
theorem hd_X8_feed : yX8_feed.cls = RX8 ∧ yX8_feed.cls ≠ "java/lang/invoke/MethodHandle" ∧ yX8_feed.cls ≠ "java/lang/invoke/VarHandle" ∧ (parseMethodDescriptor yX8_feed.desc).map (fun d => d.parameters.length) = some 2 := by decide +kernel
set_option maxRecDepth 100000 in
set_option maxHeartbeats 4000000 in
theorem ct_X8_feed (l : Launch) (V : kb_V) (A : Nat → Prop)  (x1 : Int64) (x3 : Int32) (a : Nat → Nat) (σ : kb_S) (sh : Value) (ex : va_W) {σ9 : kb_S} {r : Int32} (hf : fn_X8_feed  x1 x3 σ = some (σ9, (0, r))) : kb_T l yX8_feed cX8_feed 4 (some .int) ({ frames := 1, cells := 0, slots := 0, locals := 24 } : Room) V A [.ref (a 0), .long x1, .int x3] (kb_W V a σ sh ex) (some (.int r)) (kb_W V a σ9 sh ex) 0 0 := by
  refine kb_start (cc := cX8_feed) (nL := 4) (ret := (some .int)) (own := RX8) (by decide) rfl (Nat.le_of_ble_eq_true rfl) ?_
  intro p e s m args below meth c C
  have hp11 : ∀ (σ : kb_S), fp_X8_feed_11   σ = some (σ9, (0, r)) → kb_J p l e ({ frames := 1, cells := 0, slots := 0, locals := 24 } : Room) s m args below meth c 4 V A 0 0 (MQ below (kb_post V A (some (.int r)) (kb_W V a σ9 sh ex)) args s 0 0 A) 11 [] [] (kb_W V a σ sh ex) := by
    intro σ hf
    rw [fp_X8_feed_11_e] at hf
    cases hf
  refine kj_sub [0, 1, 2] (L2 := [(0, .ref (a 0)), (1, .long x1), (3, .int x3)]) rfl ?_
  rw [fe_X8_feed] at hf
  refine kj_iload_n (pc := 0) C 2 dX8_feed_0 rfl rfl ?_
  refine kj_iconst (pc := 1) (v := (1 : Int32)) C dX8_feed_1 (by decide) ?_
  refine kj_icmp_lt (pc := 2) 11 C dX8_feed_2 (by decide) (fun c1 => ?_) (fun c1 => ?_)
  · have hf := kb_ift hf c1
    refine kj_sub [] (L2 := []) rfl ?_
    exact hp11 σ hf
  · have hf := kb_ife hf c1
    refine kj_iload_n (pc := 5) C 2 dX8_feed_5 rfl rfl ?_
    refine kj_bipush (pc := 6) (v := (8 : Int32)) C dX8_feed_6 (by decide) ?_
    refine kj_icmp_le (pc := 8) 21 C dX8_feed_8 (by decide) (fun c2 => ?_) (fun c2 => ?_)
    · have hf := kb_ift hf c2
      refine kj_aload_n (pc := 21) C 0 dX8_feed_21 rfl rfl ?_
      refine kg_X8_tape (pc := 22) C wf_X8_13 dX8_feed_22 ?_
      refine kj_iload_n (pc := 25) C 2 dX8_feed_25 rfl rfl ?_
      refine kj_callV0 (pc := 26) (as := [.int x3]) (rest := []) (b := (a 1)) C (ct_X7_hasRoomFor l V A x3 a σ sh ex rfl) wd_X7_hasRoomFor wk_X8_66 wi_X7_hasRoomFor ws_X7_hasRoomFor wz_X7 rfl rfl hd_X7_hasRoomFor ⟨by decide, by decide⟩ 1 rfl rfl rfl rfl (Nat.le_of_ble_eq_true rfl) (by decide) dX8_feed_26 ?_
      refine kj_if_ne (pc := 29) 42 C dX8_feed_29 (by decide) (fun c3 => ?_) (fun c3 => ?_)
      · have hf := kb_ife hf c3
        refine kj_aload_n (pc := 42) C 0 dX8_feed_42 rfl rfl ?_
        refine kg_X8_tape (pc := 43) C wf_X8_13 dX8_feed_43 ?_
        refine kj_lload_n (pc := 46) C 1 dX8_feed_46 rfl rfl ?_
        refine kj_iload_n (pc := 47) C 2 dX8_feed_47 rfl rfl ?_
        obtain ⟨q4, hq4, hf⟩ := kb_bd hf
        refine kj_callV0 (pc := 48) (as := [.long x1, .int x3]) (rest := []) (b := (a 1)) C (ct_X7_add l V A x1 x3 a σ sh ex hq4) wd_X7_add wk_X8_75 wi_X7_add ws_X7_add wz_X7 rfl rfl hd_X7_add ⟨by decide, by decide⟩ 1 rfl rfl rfl rfl (Nat.le_of_ble_eq_true rfl) (by decide) dX8_feed_48 ?_
        refine kj_aload_n (pc := 51) C 0 dX8_feed_51 rfl rfl ?_
        refine kg_X8_tape (pc := 52) C wf_X8_13 dX8_feed_52 ?_
        refine kj_callV0 (pc := 55) (as := []) (rest := []) (b := (a 1)) C (ct_X7_length l V A  a q4 sh ex rfl) wd_X7_length wk_X8_79 wi_X7_length ws_X7_length wz_X7 rfl rfl hd_X7_length ⟨by decide, by decide⟩ 1 rfl rfl rfl rfl (Nat.le_of_ble_eq_true rfl) (by decide) dX8_feed_55 ?_
        cases hf
        exact kj_iret (pc := 58) C dX8_feed_58
      · have hf := kb_ift hf c3
        cases hf
    · have hf := kb_ife hf c2
      refine kj_sub [] (L2 := []) rfl ?_
      exact hp11 σ hf
set_option maxRecDepth 100000 in
set_option maxHeartbeats 4000000 in
theorem cx_X8_feed (l : Launch) (V : kb_V) (A : Nat → Prop) (x1 : Int64) (x3 : Int32) (a : Nat → Nat) (σ : kb_S) (sh : Value) (ex : va_W) {σ9 : kb_S} {r : Int32} {ec : Nat} (hl : l.stackTraces = false) (hne : ¬ ec = 0) (hf : fn_X8_feed x1 x3 σ = some (σ9, (ec, r))) : kb_TX l yX8_feed cX8_feed 4 (some .int) ({ frames := 9, cells := 1, slots := 6, locals := 200 } : Room) V A [.ref (a 0), .long x1, .int x3] (kb_W V a σ sh ex) (kb_EN ec) (kb_W V a σ9 sh ex) 1 6 := by
  refine kb_startX (cc := cX8_feed) (nL := 4) (ret := (some .int)) (own := RX8) (by decide) rfl (Nat.le_of_ble_eq_true rfl) ?_
  intro p e s m args below meth c C htb
  have hp11 : ∀ (σ : kb_S), fp_X8_feed_11   σ = some (σ9, (ec, r)) → kb_J p l e ({ frames := 9, cells := 1, slots := 6, locals := 200 } : Room) s m args below meth c 4 V A 0 0 (vx_MQ below (fun _ _ _ _ => False) (kb_XC V A (kb_EN ec) (kb_W V a σ9 sh ex)) args s 1 6 A) 11 [] [] (kb_W V a σ sh ex) := by
    intro σ hf
    rw [fp_X8_feed_11_e] at hf
    cases hf
    exact kj_throw (pc := 11) (cls := "java/lang/IllegalArgumentException") (text := "n is 1 .. 8") (names := ["java/lang/RuntimeException", "java/lang/Exception"]) (ik := 48) (is := 64) (ic := 52) (sa := 71) C hl htb (by decide +kernel) (by decide +kernel) wq_X8_48 wz_IllegalArgumentException (by decide +kernel) (kb_hat1 C) kb_hgd1 dX8_feed_11 dX8_feed_14 dX8_feed_15 dX8_feed_17 dX8_feed_20 (by decide) (Nat.le_of_ble_eq_true rfl) ⟨by decide, by decide⟩ (by decide) (by decide)
  refine kj_sub [0, 1, 2] (L2 := [(0, .ref (a 0)), (1, .long x1), (3, .int x3)]) rfl ?_
  rw [fe_X8_feed] at hf
  refine kj_iload_n (pc := 0) C 2 dX8_feed_0 rfl rfl ?_
  refine kj_iconst (pc := 1) (v := (1 : Int32)) C dX8_feed_1 (by decide) ?_
  refine kj_icmp_lt (pc := 2) 11 C dX8_feed_2 (by decide) (fun c1 => ?_) (fun c1 => ?_)
  · have hf := kb_ift hf c1
    refine kj_sub [] (L2 := []) rfl ?_
    exact hp11 σ hf
  · have hf := kb_ife hf c1
    refine kj_iload_n (pc := 5) C 2 dX8_feed_5 rfl rfl ?_
    refine kj_bipush (pc := 6) (v := (8 : Int32)) C dX8_feed_6 (by decide) ?_
    refine kj_icmp_le (pc := 8) 21 C dX8_feed_8 (by decide) (fun c2 => ?_) (fun c2 => ?_)
    · have hf := kb_ift hf c2
      refine kj_aload_n (pc := 21) C 0 dX8_feed_21 rfl rfl ?_
      refine kg_X8_tape (pc := 22) C wf_X8_13 dX8_feed_22 ?_
      refine kj_iload_n (pc := 25) C 2 dX8_feed_25 rfl rfl ?_
      refine kj_callV0 (pc := 26) (as := [.int x3]) (rest := []) (b := (a 1)) C (ct_X7_hasRoomFor l V A x3 a σ sh ex rfl) wd_X7_hasRoomFor wk_X8_66 wi_X7_hasRoomFor ws_X7_hasRoomFor wz_X7 rfl rfl hd_X7_hasRoomFor ⟨by decide, by decide⟩ 1 rfl rfl rfl rfl (Nat.le_of_ble_eq_true rfl) (by decide) dX8_feed_26 ?_
      refine kj_if_ne (pc := 29) 42 C dX8_feed_29 (by decide) (fun c3 => ?_) (fun c3 => ?_)
      · have hf := kb_ife hf c3
        refine kj_aload_n (pc := 42) C 0 dX8_feed_42 rfl rfl ?_
        refine kg_X8_tape (pc := 43) C wf_X8_13 dX8_feed_43 ?_
        refine kj_lload_n (pc := 46) C 1 dX8_feed_46 rfl rfl ?_
        refine kj_iload_n (pc := 47) C 2 dX8_feed_47 rfl rfl ?_
        obtain ⟨q4, hq4, hf⟩ := kb_bd hf
        refine kj_callV0 (pc := 48) (as := [.long x1, .int x3]) (rest := []) (b := (a 1)) C (ct_X7_add l V A x1 x3 a σ sh ex hq4) wd_X7_add wk_X8_75 wi_X7_add ws_X7_add wz_X7 rfl rfl hd_X7_add ⟨by decide, by decide⟩ 1 rfl rfl rfl rfl (Nat.le_of_ble_eq_true rfl) (by decide) dX8_feed_48 ?_
        refine kj_aload_n (pc := 51) C 0 dX8_feed_51 rfl rfl ?_
        refine kg_X8_tape (pc := 52) C wf_X8_13 dX8_feed_52 ?_
        refine kj_callV0 (pc := 55) (as := []) (rest := []) (b := (a 1)) C (ct_X7_length l V A  a q4 sh ex rfl) wd_X7_length wk_X8_79 wi_X7_length ws_X7_length wz_X7 rfl rfl hd_X7_length ⟨by decide, by decide⟩ 1 rfl rfl rfl rfl (Nat.le_of_ble_eq_true rfl) (by decide) dX8_feed_55 ?_
        cases hf
        exact absurd rfl hne
      · have hf := kb_ift hf c3
        cases hf
        exact kj_throw (pc := 32) (cls := "java/lang/IllegalStateException") (text := "the tape has at most 200 bytes") (names := ["java/lang/RuntimeException", "java/lang/Exception"]) (ik := 70) (is := 72) (ic := 74) (sa := 72) C hl htb (by decide +kernel) (by decide +kernel) wq_X8_70 wz_IllegalStateException (by decide +kernel) (kb_hat2 C) kb_hgd2 dX8_feed_32 dX8_feed_35 dX8_feed_36 dX8_feed_38 dX8_feed_41 (by decide) (Nat.le_of_ble_eq_true rfl) ⟨by decide, by decide⟩ (by decide) (by decide)
    · have hf := kb_ife hf c2
      refine kj_sub [] (L2 := []) rfl ?_
      exact hp11 σ hf
def fp_X8_work_27   (x1 : Int32) (σ : kb_S) : Option (kb_S × Int32) :=
  (fn_X7_clear  σ).bind fun q1 =>
  some (q1, x1)
theorem fp_X8_work_27_e   (x1 : Int32) (σ : kb_S) : fp_X8_work_27  x1 σ =
  (fn_X7_clear  σ).bind fun q1 =>
  some (q1, x1) := rfl
def fn_X8_work   (σ : kb_S) : Option (kb_S × Int32) :=
  (fn_X4_readTape  σ).bind fun q1 =>
  if q1.2 = 0 then
    (fn_X2_knitPlan (fn_X7_length  q1.1) q1.1).bind fun q3 =>
    fp_X8_work_27   q3.2 q3.1
  else
    fp_X8_work_27   q1.2 q1.1
theorem fe_X8_work   (σ : kb_S) : fn_X8_work   σ =
  (fn_X4_readTape  σ).bind fun q1 =>
  if q1.2 = 0 then
    (fn_X2_knitPlan (fn_X7_length  q1.1) q1.1).bind fun q3 =>
    fp_X8_work_27   q3.2 q3.1
  else
    fp_X8_work_27   q1.2 q1.1 := rfl
theorem hd_X8_work : yX8_work.cls = RX8 ∧ yX8_work.cls ≠ "java/lang/invoke/MethodHandle" ∧ yX8_work.cls ≠ "java/lang/invoke/VarHandle" ∧ (parseMethodDescriptor yX8_work.desc).map (fun d => d.parameters.length) = some 0 := by decide +kernel
set_option maxRecDepth 100000 in
set_option maxHeartbeats 4000000 in
theorem ct_X8_work (l : Launch) (V : kb_V) (A : Nat → Prop)   (a : Nat → Nat) (σ : kb_S) (sh : Value) (ex : va_W) {σ9 : kb_S} {r : Int32} (hf : fn_X8_work   σ = some (σ9, r)) : kb_T l yX8_work cX8_work 2 (some .int) ({ frames := 9, cells := 0, slots := 0, locals := 196 } : Room) V A [.ref (a 0)] (kb_W V a σ sh ex) (some (.int r)) (kb_W V a σ9 sh ex) 0 0 := by
  refine kb_start (cc := cX8_work) (nL := 2) (ret := (some .int)) (own := RX8) (by decide) rfl (Nat.le_of_ble_eq_true rfl) ?_
  intro p e s m args below meth c C
  have hp27 : ∀ (x1 : Int32) (σ : kb_S), fp_X8_work_27   x1 σ = some (σ9, r) → kb_J p l e ({ frames := 9, cells := 0, slots := 0, locals := 196 } : Room) s m args below meth c 2 V A 0 0 (MQ below (kb_post V A (some (.int r)) (kb_W V a σ9 sh ex)) args s 0 0 A) 27 [(0, .ref (a 0)), (1, .int x1)] [] (kb_W V a σ sh ex) := by
    intro x1 σ hf
    rw [fp_X8_work_27_e] at hf
    refine kj_aload_n (pc := 27) C 0 dX8_work_27 rfl rfl ?_
    refine kg_X8_tape (pc := 28) C wf_X8_13 dX8_work_28 ?_
    obtain ⟨q1, hq1, hf⟩ := kb_bd hf
    refine kj_callV0 (pc := 31) (as := []) (rest := []) (b := (a 1)) C (ct_X7_clear l V A  a σ sh ex hq1) wd_X7_clear wk_X8_90 wi_X7_clear ws_X7_clear wz_X7 rfl rfl hd_X7_clear ⟨by decide, by decide⟩ 1 rfl rfl rfl rfl (Nat.le_of_ble_eq_true rfl) (by decide) dX8_work_31 ?_
    refine kj_iload_n (pc := 34) C 1 dX8_work_34 rfl rfl ?_
    cases hf
    exact kj_iret (pc := 35) C dX8_work_35
  refine kj_sub [0] (L2 := [(0, .ref (a 0))]) rfl ?_
  rw [fe_X8_work] at hf
  refine kj_aload_n (pc := 0) C 0 dX8_work_0 rfl rfl ?_
  refine kg_X8_reader (pc := 1) C wf_X8_31 dX8_work_1 ?_
  obtain ⟨q1, hq1, hf⟩ := kb_bd hf
  refine kj_callV0 (pc := 4) (as := []) (rest := []) (b := (a 3)) C (ct_X4_readTape l V A  a σ sh ex hq1) wd_X4_readTape wk_X8_83 wi_X4_readTape ws_X4_readTape wz_X4 rfl rfl hd_X4_readTape ⟨by decide, by decide⟩ 3 rfl rfl rfl rfl (Nat.le_of_ble_eq_true rfl) (by decide) dX8_work_4 ?_
  refine kj_istore_n (pc := 7) C [1, 0] (L2 := [(0, .ref (a 0)), (1, .int q1.2)]) dX8_work_7 rfl (by decide) rfl ?_
  refine kj_iload_n (pc := 8) C 1 dX8_work_8 rfl rfl ?_
  refine kj_if_ne (pc := 9) 27 C dX8_work_9 (by decide) (fun c2 => ?_) (fun c2 => ?_)
  · have hf := kb_ife hf c2
    exact hp27 q1.2 q1.1 hf
  · have hf := kb_ift hf c2
    refine kj_aload_n (pc := 12) C 0 dX8_work_12 rfl rfl ?_
    refine kg_X8_knitter (pc := 13) C wf_X8_40 dX8_work_13 ?_
    refine kj_aload_n (pc := 16) C 0 dX8_work_16 rfl rfl ?_
    refine kg_X8_tape (pc := 17) C wf_X8_13 dX8_work_17 ?_
    refine kj_callV0 (pc := 20) (as := []) (rest := [.ref (a 4)]) (b := (a 1)) C (ct_X7_length l V A  a q1.1 sh ex rfl) wd_X7_length wk_X8_79 wi_X7_length ws_X7_length wz_X7 rfl rfl hd_X7_length ⟨by decide, by decide⟩ 1 rfl rfl rfl rfl (Nat.le_of_ble_eq_true rfl) (by decide) dX8_work_20 ?_
    obtain ⟨q3, hq3, hf⟩ := kb_bd hf
    refine kj_callV0 (pc := 23) (as := [.int (fn_X7_length  q1.1)]) (rest := []) (b := (a 4)) C (ct_X2_knitPlan l V A (fn_X7_length  q1.1) a q1.1 sh ex hq3) wd_X2_knitPlan wk_X8_86 wi_X2_knitPlan ws_X2_knitPlan wz_X2 rfl rfl hd_X2_knitPlan ⟨by decide, by decide⟩ 4 rfl rfl rfl rfl (Nat.le_of_ble_eq_true rfl) (by decide) dX8_work_23 ?_
    refine kj_istore_n (pc := 26) C [1, 0] (L2 := [(0, .ref (a 0)), (1, .int q3.2)]) dX8_work_26 rfl (by decide) rfl ?_
    exact hp27 q3.2 q3.1 hf
def fn_X8_rows   (σ : kb_S) : Int32 :=
  (fn_X0_rowCount  σ)
theorem fe_X8_rows   (σ : kb_S) : fn_X8_rows   σ =
  (fn_X0_rowCount  σ) := rfl
theorem hd_X8_rows : yX8_rows.cls = RX8 ∧ yX8_rows.cls ≠ "java/lang/invoke/MethodHandle" ∧ yX8_rows.cls ≠ "java/lang/invoke/VarHandle" ∧ (parseMethodDescriptor yX8_rows.desc).map (fun d => d.parameters.length) = some 0 := by decide +kernel
set_option maxRecDepth 100000 in
set_option maxHeartbeats 4000000 in
theorem ct_X8_rows (l : Launch) (V : kb_V) (A : Nat → Prop)   (a : Nat → Nat) (σ : kb_S) (sh : Value) (ex : va_W) {r : Int32} (hf : fn_X8_rows   σ = r) : kb_T l yX8_rows cX8_rows 1 (some .int) ({ frames := 1, cells := 0, slots := 0, locals := 20 } : Room) V A [.ref (a 0)] (kb_W V a σ sh ex) (some (.int r)) (kb_W V a σ sh ex) 0 0 := by
  refine kb_start (cc := cX8_rows) (nL := 1) (ret := (some .int)) (own := RX8) (by decide) rfl (Nat.le_of_ble_eq_true rfl) ?_
  intro p e s m args below meth c C
  refine kj_sub [0] (L2 := [(0, .ref (a 0))]) rfl ?_
  rw [fe_X8_rows] at hf
  refine kj_aload_n (pc := 0) C 0 dX8_rows_0 rfl rfl ?_
  refine kg_X8_fabric (pc := 1) C wf_X8_22 dX8_rows_1 ?_
  refine kj_callV0 (pc := 4) (as := []) (rest := []) (b := (a 2)) C (ct_X0_rowCount l V A  a σ sh ex rfl) wd_X0_rowCount wk_X8_93 wi_X0_rowCount ws_X0_rowCount wz_X0 rfl rfl hd_X0_rowCount ⟨by decide, by decide⟩ 2 rfl rfl rfl rfl (Nat.le_of_ble_eq_true rfl) (by decide) dX8_rows_4 ?_
  subst hf
  exact kj_iret (pc := 7) C dX8_rows_7
def fp_X8_unravel_15   (σ : kb_S) : Option (kb_S × (Nat × Int32)) :=
  some (σ, (1, 0))
theorem fp_X8_unravel_15_e   (σ : kb_S) : fp_X8_unravel_15  σ =
  some (σ, (1, 0)) := rfl
def fn_X8_unravel  (x1 : Int32) (σ : kb_S) : Option (kb_S × (Nat × Int32)) :=
  if x1 < 0 then
    fp_X8_unravel_15   σ
  else
    if x1 ≤ (fn_X0_rowCount  σ) then
      (fn_X0_takeBack x1 σ).bind fun q3 =>
      some (q3, (0, (fn_X0_rowCount  q3)))
    else
      fp_X8_unravel_15   σ
theorem fe_X8_unravel  (x1 : Int32) (σ : kb_S) : fn_X8_unravel  x1 σ =
  if x1 < 0 then
    fp_X8_unravel_15   σ
  else
    if x1 ≤ (fn_X0_rowCount  σ) then
      (fn_X0_takeBack x1 σ).bind fun q3 =>
      some (q3, (0, (fn_X0_rowCount  q3)))
    else
      fp_X8_unravel_15   σ := rfl
theorem hd_X8_unravel : yX8_unravel.cls = RX8 ∧ yX8_unravel.cls ≠ "java/lang/invoke/MethodHandle" ∧ yX8_unravel.cls ≠ "java/lang/invoke/VarHandle" ∧ (parseMethodDescriptor yX8_unravel.desc).map (fun d => d.parameters.length) = some 1 := by decide +kernel
set_option maxRecDepth 100000 in
set_option maxHeartbeats 4000000 in
theorem ct_X8_unravel (l : Launch) (V : kb_V) (A : Nat → Prop)  (x1 : Int32) (a : Nat → Nat) (σ : kb_S) (sh : Value) (ex : va_W) {σ9 : kb_S} {r : Int32} (hf : fn_X8_unravel  x1 σ = some (σ9, (0, r))) : kb_T l yX8_unravel cX8_unravel 2 (some .int) ({ frames := 2, cells := 0, slots := 0, locals := 51 } : Room) V A [.ref (a 0), .int x1] (kb_W V a σ sh ex) (some (.int r)) (kb_W V a σ9 sh ex) 0 0 := by
  refine kb_start (cc := cX8_unravel) (nL := 2) (ret := (some .int)) (own := RX8) (by decide) rfl (Nat.le_of_ble_eq_true rfl) ?_
  intro p e s m args below meth c C
  have hp15 : ∀ (σ : kb_S), fp_X8_unravel_15   σ = some (σ9, (0, r)) → kb_J p l e ({ frames := 2, cells := 0, slots := 0, locals := 51 } : Room) s m args below meth c 2 V A 0 0 (MQ below (kb_post V A (some (.int r)) (kb_W V a σ9 sh ex)) args s 0 0 A) 15 [] [] (kb_W V a σ sh ex) := by
    intro σ hf
    rw [fp_X8_unravel_15_e] at hf
    cases hf
  refine kj_sub [0, 1] (L2 := [(0, .ref (a 0)), (1, .int x1)]) rfl ?_
  rw [fe_X8_unravel] at hf
  refine kj_iload_n (pc := 0) C 1 dX8_unravel_0 rfl rfl ?_
  refine kj_if_lt (pc := 1) 15 C dX8_unravel_1 (by decide) (fun c1 => ?_) (fun c1 => ?_)
  · have hf := kb_ift hf c1
    refine kj_sub [] (L2 := []) rfl ?_
    exact hp15 σ hf
  · have hf := kb_ife hf c1
    refine kj_iload_n (pc := 4) C 1 dX8_unravel_4 rfl rfl ?_
    refine kj_aload_n (pc := 5) C 0 dX8_unravel_5 rfl rfl ?_
    refine kg_X8_fabric (pc := 6) C wf_X8_22 dX8_unravel_6 ?_
    refine kj_callV0 (pc := 9) (as := []) (rest := [.int x1]) (b := (a 2)) C (ct_X0_rowCount l V A  a σ sh ex rfl) wd_X0_rowCount wk_X8_93 wi_X0_rowCount ws_X0_rowCount wz_X0 rfl rfl hd_X0_rowCount ⟨by decide, by decide⟩ 2 rfl rfl rfl rfl (Nat.le_of_ble_eq_true rfl) (by decide) dX8_unravel_9 ?_
    refine kj_icmp_le (pc := 12) 25 C dX8_unravel_12 (by decide) (fun c2 => ?_) (fun c2 => ?_)
    · have hf := kb_ift hf c2
      refine kj_aload_n (pc := 25) C 0 dX8_unravel_25 rfl rfl ?_
      refine kg_X8_fabric (pc := 26) C wf_X8_22 dX8_unravel_26 ?_
      refine kj_iload_n (pc := 29) C 1 dX8_unravel_29 rfl rfl ?_
      obtain ⟨q3, hq3, hf⟩ := kb_bd hf
      refine kj_callV0 (pc := 30) (as := [.int x1]) (rest := []) (b := (a 2)) C (ct_X0_takeBack l V A x1 a σ sh ex hq3) wd_X0_takeBack wk_X8_98 wi_X0_takeBack ws_X0_takeBack wz_X0 rfl rfl hd_X0_takeBack ⟨by decide, by decide⟩ 2 rfl rfl rfl rfl (Nat.le_of_ble_eq_true rfl) (by decide) dX8_unravel_30 ?_
      refine kj_aload_n (pc := 33) C 0 dX8_unravel_33 rfl rfl ?_
      refine kg_X8_fabric (pc := 34) C wf_X8_22 dX8_unravel_34 ?_
      refine kj_callV0 (pc := 37) (as := []) (rest := []) (b := (a 2)) C (ct_X0_rowCount l V A  a q3 sh ex rfl) wd_X0_rowCount wk_X8_93 wi_X0_rowCount ws_X0_rowCount wz_X0 rfl rfl hd_X0_rowCount ⟨by decide, by decide⟩ 2 rfl rfl rfl rfl (Nat.le_of_ble_eq_true rfl) (by decide) dX8_unravel_37 ?_
      cases hf
      exact kj_iret (pc := 40) C dX8_unravel_40
    · have hf := kb_ife hf c2
      refine kj_sub [] (L2 := []) rfl ?_
      exact hp15 σ hf
set_option maxRecDepth 100000 in
set_option maxHeartbeats 4000000 in
theorem cx_X8_unravel (l : Launch) (V : kb_V) (A : Nat → Prop) (x1 : Int32) (a : Nat → Nat) (σ : kb_S) (sh : Value) (ex : va_W) {σ9 : kb_S} {r : Int32} {ec : Nat} (hl : l.stackTraces = false) (hne : ¬ ec = 0) (hf : fn_X8_unravel x1 σ = some (σ9, (ec, r))) : kb_TX l yX8_unravel cX8_unravel 2 (some .int) ({ frames := 9, cells := 1, slots := 6, locals := 200 } : Room) V A [.ref (a 0), .int x1] (kb_W V a σ sh ex) (kb_EN ec) (kb_W V a σ9 sh ex) 1 6 := by
  refine kb_startX (cc := cX8_unravel) (nL := 2) (ret := (some .int)) (own := RX8) (by decide) rfl (Nat.le_of_ble_eq_true rfl) ?_
  intro p e s m args below meth c C htb
  have hp15 : ∀ (σ : kb_S), fp_X8_unravel_15   σ = some (σ9, (ec, r)) → kb_J p l e ({ frames := 9, cells := 1, slots := 6, locals := 200 } : Room) s m args below meth c 2 V A 0 0 (vx_MQ below (fun _ _ _ _ => False) (kb_XC V A (kb_EN ec) (kb_W V a σ9 sh ex)) args s 1 6 A) 15 [] [] (kb_W V a σ sh ex) := by
    intro σ hf
    rw [fp_X8_unravel_15_e] at hf
    cases hf
    exact kj_throw (pc := 15) (cls := "java/lang/IllegalArgumentException") (text := "k is 0 .. the number of rows") (names := ["java/lang/RuntimeException", "java/lang/Exception"]) (ik := 48) (is := 96) (ic := 52) (sa := 73) C hl htb (by decide +kernel) (by decide +kernel) wq_X8_48 wz_IllegalArgumentException (by decide +kernel) (kb_hat1 C) kb_hgd1 dX8_unravel_15 dX8_unravel_18 dX8_unravel_19 dX8_unravel_21 dX8_unravel_24 (by decide) (Nat.le_of_ble_eq_true rfl) ⟨by decide, by decide⟩ (by decide) (by decide)
  refine kj_sub [0, 1] (L2 := [(0, .ref (a 0)), (1, .int x1)]) rfl ?_
  rw [fe_X8_unravel] at hf
  refine kj_iload_n (pc := 0) C 1 dX8_unravel_0 rfl rfl ?_
  refine kj_if_lt (pc := 1) 15 C dX8_unravel_1 (by decide) (fun c1 => ?_) (fun c1 => ?_)
  · have hf := kb_ift hf c1
    refine kj_sub [] (L2 := []) rfl ?_
    exact hp15 σ hf
  · have hf := kb_ife hf c1
    refine kj_iload_n (pc := 4) C 1 dX8_unravel_4 rfl rfl ?_
    refine kj_aload_n (pc := 5) C 0 dX8_unravel_5 rfl rfl ?_
    refine kg_X8_fabric (pc := 6) C wf_X8_22 dX8_unravel_6 ?_
    refine kj_callV0 (pc := 9) (as := []) (rest := [.int x1]) (b := (a 2)) C (ct_X0_rowCount l V A  a σ sh ex rfl) wd_X0_rowCount wk_X8_93 wi_X0_rowCount ws_X0_rowCount wz_X0 rfl rfl hd_X0_rowCount ⟨by decide, by decide⟩ 2 rfl rfl rfl rfl (Nat.le_of_ble_eq_true rfl) (by decide) dX8_unravel_9 ?_
    refine kj_icmp_le (pc := 12) 25 C dX8_unravel_12 (by decide) (fun c2 => ?_) (fun c2 => ?_)
    · have hf := kb_ift hf c2
      refine kj_aload_n (pc := 25) C 0 dX8_unravel_25 rfl rfl ?_
      refine kg_X8_fabric (pc := 26) C wf_X8_22 dX8_unravel_26 ?_
      refine kj_iload_n (pc := 29) C 1 dX8_unravel_29 rfl rfl ?_
      obtain ⟨q3, hq3, hf⟩ := kb_bd hf
      refine kj_callV0 (pc := 30) (as := [.int x1]) (rest := []) (b := (a 2)) C (ct_X0_takeBack l V A x1 a σ sh ex hq3) wd_X0_takeBack wk_X8_98 wi_X0_takeBack ws_X0_takeBack wz_X0 rfl rfl hd_X0_takeBack ⟨by decide, by decide⟩ 2 rfl rfl rfl rfl (Nat.le_of_ble_eq_true rfl) (by decide) dX8_unravel_30 ?_
      refine kj_aload_n (pc := 33) C 0 dX8_unravel_33 rfl rfl ?_
      refine kg_X8_fabric (pc := 34) C wf_X8_22 dX8_unravel_34 ?_
      refine kj_callV0 (pc := 37) (as := []) (rest := []) (b := (a 2)) C (ct_X0_rowCount l V A  a q3 sh ex rfl) wd_X0_rowCount wk_X8_93 wi_X0_rowCount ws_X0_rowCount wz_X0 rfl rfl hd_X0_rowCount ⟨by decide, by decide⟩ 2 rfl rfl rfl rfl (Nat.le_of_ble_eq_true rfl) (by decide) dX8_unravel_37 ?_
      cases hf
      exact absurd rfl hne
    · have hf := kb_ife hf c2
      refine kj_sub [] (L2 := []) rfl ?_
      exact hp15 σ hf
def fn_X8_live  (x1 : Int32) (σ : kb_S) : Int32 :=
  (fn_X0_needleLoop x1 σ)
theorem fe_X8_live  (x1 : Int32) (σ : kb_S) : fn_X8_live  x1 σ =
  (fn_X0_needleLoop x1 σ) := rfl
theorem hd_X8_live : yX8_live.cls = RX8 ∧ yX8_live.cls ≠ "java/lang/invoke/MethodHandle" ∧ yX8_live.cls ≠ "java/lang/invoke/VarHandle" ∧ (parseMethodDescriptor yX8_live.desc).map (fun d => d.parameters.length) = some 1 := by decide +kernel
set_option maxRecDepth 100000 in
set_option maxHeartbeats 4000000 in
theorem ct_X8_live (l : Launch) (V : kb_V) (A : Nat → Prop)  (x1 : Int32) (a : Nat → Nat) (σ : kb_S) (sh : Value) (ex : va_W) {r : Int32} (hf : fn_X8_live  x1 σ = r) : kb_T l yX8_live cX8_live 2 (some .int) ({ frames := 1, cells := 0, slots := 0, locals := 21 } : Room) V A [.ref (a 0), .int x1] (kb_W V a σ sh ex) (some (.int r)) (kb_W V a σ sh ex) 0 0 := by
  refine kb_start (cc := cX8_live) (nL := 2) (ret := (some .int)) (own := RX8) (by decide) rfl (Nat.le_of_ble_eq_true rfl) ?_
  intro p e s m args below meth c C
  refine kj_sub [0, 1] (L2 := [(0, .ref (a 0)), (1, .int x1)]) rfl ?_
  rw [fe_X8_live] at hf
  refine kj_aload_n (pc := 0) C 0 dX8_live_0 rfl rfl ?_
  refine kg_X8_fabric (pc := 1) C wf_X8_22 dX8_live_1 ?_
  refine kj_iload_n (pc := 4) C 1 dX8_live_4 rfl rfl ?_
  refine kj_callV0 (pc := 5) (as := [.int x1]) (rest := []) (b := (a 2)) C (ct_X0_needleLoop l V A x1 a σ sh ex rfl) wd_X0_needleLoop wk_X8_102 wi_X0_needleLoop ws_X0_needleLoop wz_X0 rfl rfl hd_X0_needleLoop ⟨by decide, by decide⟩ 2 rfl rfl rfl rfl (Nat.le_of_ble_eq_true rfl) (by decide) dX8_live_5 ?_
  subst hf
  exact kj_iret (pc := 8) C dX8_live_8
def fp_X8_loop_39   (σ : kb_S) : Option ((Nat × Int32)) :=
  some (1, 0)
theorem fp_X8_loop_39_e   (σ : kb_S) : fp_X8_loop_39  σ =
  some (1, 0) := rfl
def fn_X8_loop  (x1 : Int32) (x2 : Int32) (σ : kb_S) : Option ((Nat × Int32)) :=
  (fn_X0_hasLoop x1 σ).bind fun q1 =>
  if q1 = 0 then
    some (1, 0)
  else
    if x2 < 0 then
      fp_X8_loop_39   σ
    else
      (fn_X0_parentCount x1 σ).bind fun q4 =>
      if x2 < ((3 : Int32) + q4) then
        if x2 = (0 : Int32) then
          (fn_X0_bornIn x1 σ).bind fun q7 =>
          some (0, q7)
        else if x2 = (1 : Int32) then
          (fn_X0_diedIn x1 σ).bind fun q7 =>
          some (0, q7)
        else if x2 = (2 : Int32) then
          (fn_X0_parentCount x1 σ).bind fun q7 =>
          some (0, q7)
        else
          (fn_X0_parent x1 (x2 - (3 : Int32)) σ).bind fun q7 =>
          some (0, q7)
      else
        fp_X8_loop_39   σ
theorem fe_X8_loop  (x1 : Int32) (x2 : Int32) (σ : kb_S) : fn_X8_loop  x1 x2 σ =
  (fn_X0_hasLoop x1 σ).bind fun q1 =>
  if q1 = 0 then
    some (1, 0)
  else
    if x2 < 0 then
      fp_X8_loop_39   σ
    else
      (fn_X0_parentCount x1 σ).bind fun q4 =>
      if x2 < ((3 : Int32) + q4) then
        if x2 = (0 : Int32) then
          (fn_X0_bornIn x1 σ).bind fun q7 =>
          some (0, q7)
        else if x2 = (1 : Int32) then
          (fn_X0_diedIn x1 σ).bind fun q7 =>
          some (0, q7)
        else if x2 = (2 : Int32) then
          (fn_X0_parentCount x1 σ).bind fun q7 =>
          some (0, q7)
        else
          (fn_X0_parent x1 (x2 - (3 : Int32)) σ).bind fun q7 =>
          some (0, q7)
      else
        fp_X8_loop_39   σ := rfl
theorem hd_X8_loop : yX8_loop.cls = RX8 ∧ yX8_loop.cls ≠ "java/lang/invoke/MethodHandle" ∧ yX8_loop.cls ≠ "java/lang/invoke/VarHandle" ∧ (parseMethodDescriptor yX8_loop.desc).map (fun d => d.parameters.length) = some 2 := by decide +kernel
set_option maxRecDepth 100000 in
set_option maxHeartbeats 4000000 in
theorem ct_X8_loop (l : Launch) (V : kb_V) (A : Nat → Prop)  (x1 : Int32) (x2 : Int32) (a : Nat → Nat) (σ : kb_S) (sh : Value) (ex : va_W) {r : Int32} (hf : fn_X8_loop  x1 x2 σ = some (0, r)) : kb_T l yX8_loop cX8_loop 3 (some .int) ({ frames := 3, cells := 0, slots := 0, locals := 63 } : Room) V A [.ref (a 0), .int x1, .int x2] (kb_W V a σ sh ex) (some (.int r)) (kb_W V a σ sh ex) 0 0 := by
  refine kb_start (cc := cX8_loop) (nL := 3) (ret := (some .int)) (own := RX8) (by decide) rfl (Nat.le_of_ble_eq_true rfl) ?_
  intro p e s m args below meth c C
  have hp39 : ∀ (σ : kb_S), fp_X8_loop_39   σ = some (0, r) → kb_J p l e ({ frames := 3, cells := 0, slots := 0, locals := 63 } : Room) s m args below meth c 3 V A 0 0 (MQ below (kb_post V A (some (.int r)) (kb_W V a σ sh ex)) args s 0 0 A) 39 [] [] (kb_W V a σ sh ex) := by
    intro σ hf
    rw [fp_X8_loop_39_e] at hf
    cases hf
  refine kj_sub [0, 1, 2] (L2 := [(0, .ref (a 0)), (1, .int x1), (2, .int x2)]) rfl ?_
  rw [fe_X8_loop] at hf
  refine kj_aload_n (pc := 0) C 0 dX8_loop_0 rfl rfl ?_
  refine kg_X8_fabric (pc := 1) C wf_X8_22 dX8_loop_1 ?_
  refine kj_iload_n (pc := 4) C 1 dX8_loop_4 rfl rfl ?_
  obtain ⟨q1, hq1, hf⟩ := kb_bd hf
  refine kj_callV0 (pc := 5) (as := [.int x1]) (rest := []) (b := (a 2)) C (ct_X0_hasLoop l V A x1 a σ sh ex hq1) wd_X0_hasLoop wk_X8_105 wi_X0_hasLoop ws_X0_hasLoop wz_X0 rfl rfl hd_X0_hasLoop ⟨by decide, by decide⟩ 2 rfl rfl rfl rfl (Nat.le_of_ble_eq_true rfl) (by decide) dX8_loop_5 ?_
  refine kj_if_ne (pc := 8) 21 C dX8_loop_8 (by decide) (fun c2 => ?_) (fun c2 => ?_)
  · have hf := kb_ife hf c2
    refine kj_iload_n (pc := 21) C 2 dX8_loop_21 rfl rfl ?_
    refine kj_if_lt (pc := 22) 39 C dX8_loop_22 (by decide) (fun c3 => ?_) (fun c3 => ?_)
    · have hf := kb_ift hf c3
      refine kj_sub [] (L2 := []) rfl ?_
      exact hp39 σ hf
    · have hf := kb_ife hf c3
      refine kj_iload_n (pc := 25) C 2 dX8_loop_25 rfl rfl ?_
      refine kj_iconst (pc := 26) (v := (3 : Int32)) C dX8_loop_26 (by decide) ?_
      refine kj_aload_n (pc := 27) C 0 dX8_loop_27 rfl rfl ?_
      refine kg_X8_fabric (pc := 28) C wf_X8_22 dX8_loop_28 ?_
      refine kj_iload_n (pc := 31) C 1 dX8_loop_31 rfl rfl ?_
      obtain ⟨q4, hq4, hf⟩ := kb_bd hf
      refine kj_callV0 (pc := 32) (as := [.int x1]) (rest := [.int (3 : Int32), .int x2]) (b := (a 2)) C (ct_X0_parentCount l V A x1 a σ sh ex hq4) wd_X0_parentCount wk_X8_110 wi_X0_parentCount ws_X0_parentCount wz_X0 rfl rfl hd_X0_parentCount ⟨by decide, by decide⟩ 2 rfl rfl rfl rfl (Nat.le_of_ble_eq_true rfl) (by decide) dX8_loop_32 ?_
      refine kj_iadd (pc := 35) C dX8_loop_35 ?_
      refine kj_icmp_lt (pc := 36) 49 C dX8_loop_36 (by decide) (fun c5 => ?_) (fun c5 => ?_)
      · have hf := kb_ift hf c5
        refine kj_iload_n (pc := 49) C 2 dX8_loop_49 rfl rfl ?_
        by_cases c6_0 : x2 = (0 : Int32)
        · have hf := kb_ift hf c6_0
          refine kj_tabIn (pc := 50) 76 C dX8_loop_50 (by rw [c6_0]; decide) (by rw [c6_0]; decide) (by rw [c6_0]; rfl) (by decide) ?_
          refine kj_aload_n (pc := 76) C 0 dX8_loop_76 rfl rfl ?_
          refine kg_X8_fabric (pc := 77) C wf_X8_22 dX8_loop_77 ?_
          refine kj_iload_n (pc := 80) C 1 dX8_loop_80 rfl rfl ?_
          obtain ⟨q7, hq7, hf⟩ := kb_bd hf
          refine kj_callV0 (pc := 81) (as := [.int x1]) (rest := []) (b := (a 2)) C (ct_X0_bornIn l V A x1 a σ sh ex hq7) wd_X0_bornIn wk_X8_115 wi_X0_bornIn ws_X0_bornIn wz_X0 rfl rfl hd_X0_bornIn ⟨by decide, by decide⟩ 2 rfl rfl rfl rfl (Nat.le_of_ble_eq_true rfl) (by decide) dX8_loop_81 ?_
          cases hf
          exact kj_iret (pc := 84) C dX8_loop_84
        have hf := kb_ife hf c6_0
        by_cases c6_1 : x2 = (1 : Int32)
        · have hf := kb_ift hf c6_1
          refine kj_tabIn (pc := 50) 85 C dX8_loop_50 (by rw [c6_1]; decide) (by rw [c6_1]; decide) (by rw [c6_1]; rfl) (by decide) ?_
          refine kj_aload_n (pc := 85) C 0 dX8_loop_85 rfl rfl ?_
          refine kg_X8_fabric (pc := 86) C wf_X8_22 dX8_loop_86 ?_
          refine kj_iload_n (pc := 89) C 1 dX8_loop_89 rfl rfl ?_
          obtain ⟨q7, hq7, hf⟩ := kb_bd hf
          refine kj_callV0 (pc := 90) (as := [.int x1]) (rest := []) (b := (a 2)) C (ct_X0_diedIn l V A x1 a σ sh ex hq7) wd_X0_diedIn wk_X8_118 wi_X0_diedIn ws_X0_diedIn wz_X0 rfl rfl hd_X0_diedIn ⟨by decide, by decide⟩ 2 rfl rfl rfl rfl (Nat.le_of_ble_eq_true rfl) (by decide) dX8_loop_90 ?_
          cases hf
          exact kj_iret (pc := 93) C dX8_loop_93
        have hf := kb_ife hf c6_1
        by_cases c6_2 : x2 = (2 : Int32)
        · have hf := kb_ift hf c6_2
          refine kj_tabIn (pc := 50) 94 C dX8_loop_50 (by rw [c6_2]; decide) (by rw [c6_2]; decide) (by rw [c6_2]; rfl) (by decide) ?_
          refine kj_aload_n (pc := 94) C 0 dX8_loop_94 rfl rfl ?_
          refine kg_X8_fabric (pc := 95) C wf_X8_22 dX8_loop_95 ?_
          refine kj_iload_n (pc := 98) C 1 dX8_loop_98 rfl rfl ?_
          obtain ⟨q7, hq7, hf⟩ := kb_bd hf
          refine kj_callV0 (pc := 99) (as := [.int x1]) (rest := []) (b := (a 2)) C (ct_X0_parentCount l V A x1 a σ sh ex hq7) wd_X0_parentCount wk_X8_110 wi_X0_parentCount ws_X0_parentCount wz_X0 rfl rfl hd_X0_parentCount ⟨by decide, by decide⟩ 2 rfl rfl rfl rfl (Nat.le_of_ble_eq_true rfl) (by decide) dX8_loop_99 ?_
          cases hf
          exact kj_iret (pc := 102) C dX8_loop_102
        have hf := kb_ife hf c6_2
        refine kj_tabOut (pc := 50) 103 C dX8_loop_50 (kb_out (fun z h1 h2 => by
          have hz : z = 0 ∨ z = 1 ∨ z = 2 := by omega
          rcases hz with rfl | rfl | rfl
          · exact c6_0
          · exact c6_1
          · exact c6_2)) (by decide) ?_
        refine kj_aload_n (pc := 103) C 0 dX8_loop_103 rfl rfl ?_
        refine kg_X8_fabric (pc := 104) C wf_X8_22 dX8_loop_104 ?_
        refine kj_iload_n (pc := 107) C 1 dX8_loop_107 rfl rfl ?_
        refine kj_iload_n (pc := 108) C 2 dX8_loop_108 rfl rfl ?_
        refine kj_iconst (pc := 109) (v := (3 : Int32)) C dX8_loop_109 (by decide) ?_
        refine kj_isub (pc := 110) C dX8_loop_110 ?_
        obtain ⟨q7, hq7, hf⟩ := kb_bd hf
        refine kj_callV0 (pc := 111) (as := [.int x1, .int (x2 - (3 : Int32))]) (rest := []) (b := (a 2)) C (ct_X0_parent l V A x1 (x2 - (3 : Int32)) a σ sh ex hq7) wd_X0_parent wk_X8_121 wi_X0_parent ws_X0_parent wz_X0 rfl rfl hd_X0_parent ⟨by decide, by decide⟩ 2 rfl rfl rfl rfl (Nat.le_of_ble_eq_true rfl) (by decide) dX8_loop_111 ?_
        cases hf
        exact kj_iret (pc := 114) C dX8_loop_114
      · have hf := kb_ife hf c5
        refine kj_sub [] (L2 := []) rfl ?_
        exact hp39 σ hf
  · have hf := kb_ift hf c2
    cases hf
set_option maxRecDepth 100000 in
set_option maxHeartbeats 4000000 in
theorem cx_X8_loop (l : Launch) (V : kb_V) (A : Nat → Prop) (x1 : Int32) (x2 : Int32) (a : Nat → Nat) (σ : kb_S) (sh : Value) (ex : va_W) {r : Int32} {ec : Nat} (hl : l.stackTraces = false) (hne : ¬ ec = 0) (hf : fn_X8_loop x1 x2 σ = some (ec, r)) : kb_TX l yX8_loop cX8_loop 3 (some .int) ({ frames := 9, cells := 1, slots := 6, locals := 200 } : Room) V A [.ref (a 0), .int x1, .int x2] (kb_W V a σ sh ex) (kb_EN ec) (kb_W V a σ sh ex) 1 6 := by
  refine kb_startX (cc := cX8_loop) (nL := 3) (ret := (some .int)) (own := RX8) (by decide) rfl (Nat.le_of_ble_eq_true rfl) ?_
  intro p e s m args below meth c C htb
  have hp39 : ∀ (σ : kb_S), fp_X8_loop_39   σ = some (ec, r) → kb_J p l e ({ frames := 9, cells := 1, slots := 6, locals := 200 } : Room) s m args below meth c 3 V A 0 0 (vx_MQ below (fun _ _ _ _ => False) (kb_XC V A (kb_EN ec) (kb_W V a σ sh ex)) args s 1 6 A) 39 [] [] (kb_W V a σ sh ex) := by
    intro σ hf
    rw [fp_X8_loop_39_e] at hf
    cases hf
    exact kj_throw (pc := 39) (cls := "java/lang/IllegalArgumentException") (text := "no such what") (names := ["java/lang/RuntimeException", "java/lang/Exception"]) (ik := 48) (is := 113) (ic := 52) (sa := 75) C hl htb (by decide +kernel) (by decide +kernel) wq_X8_48 wz_IllegalArgumentException (by decide +kernel) (kb_hat1 C) kb_hgd1 dX8_loop_39 dX8_loop_42 dX8_loop_43 dX8_loop_45 dX8_loop_48 (by decide) (Nat.le_of_ble_eq_true rfl) ⟨by decide, by decide⟩ (by decide) (by decide)
  refine kj_sub [0, 1, 2] (L2 := [(0, .ref (a 0)), (1, .int x1), (2, .int x2)]) rfl ?_
  rw [fe_X8_loop] at hf
  refine kj_aload_n (pc := 0) C 0 dX8_loop_0 rfl rfl ?_
  refine kg_X8_fabric (pc := 1) C wf_X8_22 dX8_loop_1 ?_
  refine kj_iload_n (pc := 4) C 1 dX8_loop_4 rfl rfl ?_
  obtain ⟨q1, hq1, hf⟩ := kb_bd hf
  refine kj_callV0 (pc := 5) (as := [.int x1]) (rest := []) (b := (a 2)) C (ct_X0_hasLoop l V A x1 a σ sh ex hq1) wd_X0_hasLoop wk_X8_105 wi_X0_hasLoop ws_X0_hasLoop wz_X0 rfl rfl hd_X0_hasLoop ⟨by decide, by decide⟩ 2 rfl rfl rfl rfl (Nat.le_of_ble_eq_true rfl) (by decide) dX8_loop_5 ?_
  refine kj_if_ne (pc := 8) 21 C dX8_loop_8 (by decide) (fun c2 => ?_) (fun c2 => ?_)
  · have hf := kb_ife hf c2
    refine kj_iload_n (pc := 21) C 2 dX8_loop_21 rfl rfl ?_
    refine kj_if_lt (pc := 22) 39 C dX8_loop_22 (by decide) (fun c3 => ?_) (fun c3 => ?_)
    · have hf := kb_ift hf c3
      refine kj_sub [] (L2 := []) rfl ?_
      exact hp39 σ hf
    · have hf := kb_ife hf c3
      refine kj_iload_n (pc := 25) C 2 dX8_loop_25 rfl rfl ?_
      refine kj_iconst (pc := 26) (v := (3 : Int32)) C dX8_loop_26 (by decide) ?_
      refine kj_aload_n (pc := 27) C 0 dX8_loop_27 rfl rfl ?_
      refine kg_X8_fabric (pc := 28) C wf_X8_22 dX8_loop_28 ?_
      refine kj_iload_n (pc := 31) C 1 dX8_loop_31 rfl rfl ?_
      obtain ⟨q4, hq4, hf⟩ := kb_bd hf
      refine kj_callV0 (pc := 32) (as := [.int x1]) (rest := [.int (3 : Int32), .int x2]) (b := (a 2)) C (ct_X0_parentCount l V A x1 a σ sh ex hq4) wd_X0_parentCount wk_X8_110 wi_X0_parentCount ws_X0_parentCount wz_X0 rfl rfl hd_X0_parentCount ⟨by decide, by decide⟩ 2 rfl rfl rfl rfl (Nat.le_of_ble_eq_true rfl) (by decide) dX8_loop_32 ?_
      refine kj_iadd (pc := 35) C dX8_loop_35 ?_
      refine kj_icmp_lt (pc := 36) 49 C dX8_loop_36 (by decide) (fun c5 => ?_) (fun c5 => ?_)
      · have hf := kb_ift hf c5
        refine kj_iload_n (pc := 49) C 2 dX8_loop_49 rfl rfl ?_
        by_cases c6_0 : x2 = (0 : Int32)
        · have hf := kb_ift hf c6_0
          refine kj_tabIn (pc := 50) 76 C dX8_loop_50 (by rw [c6_0]; decide) (by rw [c6_0]; decide) (by rw [c6_0]; rfl) (by decide) ?_
          refine kj_aload_n (pc := 76) C 0 dX8_loop_76 rfl rfl ?_
          refine kg_X8_fabric (pc := 77) C wf_X8_22 dX8_loop_77 ?_
          refine kj_iload_n (pc := 80) C 1 dX8_loop_80 rfl rfl ?_
          obtain ⟨q7, hq7, hf⟩ := kb_bd hf
          refine kj_callV0 (pc := 81) (as := [.int x1]) (rest := []) (b := (a 2)) C (ct_X0_bornIn l V A x1 a σ sh ex hq7) wd_X0_bornIn wk_X8_115 wi_X0_bornIn ws_X0_bornIn wz_X0 rfl rfl hd_X0_bornIn ⟨by decide, by decide⟩ 2 rfl rfl rfl rfl (Nat.le_of_ble_eq_true rfl) (by decide) dX8_loop_81 ?_
          cases hf
          exact absurd rfl hne
        have hf := kb_ife hf c6_0
        by_cases c6_1 : x2 = (1 : Int32)
        · have hf := kb_ift hf c6_1
          refine kj_tabIn (pc := 50) 85 C dX8_loop_50 (by rw [c6_1]; decide) (by rw [c6_1]; decide) (by rw [c6_1]; rfl) (by decide) ?_
          refine kj_aload_n (pc := 85) C 0 dX8_loop_85 rfl rfl ?_
          refine kg_X8_fabric (pc := 86) C wf_X8_22 dX8_loop_86 ?_
          refine kj_iload_n (pc := 89) C 1 dX8_loop_89 rfl rfl ?_
          obtain ⟨q7, hq7, hf⟩ := kb_bd hf
          refine kj_callV0 (pc := 90) (as := [.int x1]) (rest := []) (b := (a 2)) C (ct_X0_diedIn l V A x1 a σ sh ex hq7) wd_X0_diedIn wk_X8_118 wi_X0_diedIn ws_X0_diedIn wz_X0 rfl rfl hd_X0_diedIn ⟨by decide, by decide⟩ 2 rfl rfl rfl rfl (Nat.le_of_ble_eq_true rfl) (by decide) dX8_loop_90 ?_
          cases hf
          exact absurd rfl hne
        have hf := kb_ife hf c6_1
        by_cases c6_2 : x2 = (2 : Int32)
        · have hf := kb_ift hf c6_2
          refine kj_tabIn (pc := 50) 94 C dX8_loop_50 (by rw [c6_2]; decide) (by rw [c6_2]; decide) (by rw [c6_2]; rfl) (by decide) ?_
          refine kj_aload_n (pc := 94) C 0 dX8_loop_94 rfl rfl ?_
          refine kg_X8_fabric (pc := 95) C wf_X8_22 dX8_loop_95 ?_
          refine kj_iload_n (pc := 98) C 1 dX8_loop_98 rfl rfl ?_
          obtain ⟨q7, hq7, hf⟩ := kb_bd hf
          refine kj_callV0 (pc := 99) (as := [.int x1]) (rest := []) (b := (a 2)) C (ct_X0_parentCount l V A x1 a σ sh ex hq7) wd_X0_parentCount wk_X8_110 wi_X0_parentCount ws_X0_parentCount wz_X0 rfl rfl hd_X0_parentCount ⟨by decide, by decide⟩ 2 rfl rfl rfl rfl (Nat.le_of_ble_eq_true rfl) (by decide) dX8_loop_99 ?_
          cases hf
          exact absurd rfl hne
        have hf := kb_ife hf c6_2
        refine kj_tabOut (pc := 50) 103 C dX8_loop_50 (kb_out (fun z h1 h2 => by
          have hz : z = 0 ∨ z = 1 ∨ z = 2 := by omega
          rcases hz with rfl | rfl | rfl
          · exact c6_0
          · exact c6_1
          · exact c6_2)) (by decide) ?_
        refine kj_aload_n (pc := 103) C 0 dX8_loop_103 rfl rfl ?_
        refine kg_X8_fabric (pc := 104) C wf_X8_22 dX8_loop_104 ?_
        refine kj_iload_n (pc := 107) C 1 dX8_loop_107 rfl rfl ?_
        refine kj_iload_n (pc := 108) C 2 dX8_loop_108 rfl rfl ?_
        refine kj_iconst (pc := 109) (v := (3 : Int32)) C dX8_loop_109 (by decide) ?_
        refine kj_isub (pc := 110) C dX8_loop_110 ?_
        obtain ⟨q7, hq7, hf⟩ := kb_bd hf
        refine kj_callV0 (pc := 111) (as := [.int x1, .int (x2 - (3 : Int32))]) (rest := []) (b := (a 2)) C (ct_X0_parent l V A x1 (x2 - (3 : Int32)) a σ sh ex hq7) wd_X0_parent wk_X8_121 wi_X0_parent ws_X0_parent wz_X0 rfl rfl hd_X0_parent ⟨by decide, by decide⟩ 2 rfl rfl rfl rfl (Nat.le_of_ble_eq_true rfl) (by decide) dX8_loop_111 ?_
        cases hf
        exact absurd rfl hne
      · have hf := kb_ife hf c5
        refine kj_sub [] (L2 := []) rfl ?_
        exact hp39 σ hf
  · have hf := kb_ift hf c2
    cases hf
    exact kj_throw (pc := 11) (cls := "java/lang/IllegalArgumentException") (text := "no such loop") (names := ["java/lang/RuntimeException", "java/lang/Exception"]) (ik := 48) (is := 108) (ic := 52) (sa := 74) C hl htb (by decide +kernel) (by decide +kernel) wq_X8_48 wz_IllegalArgumentException (by decide +kernel) (kb_hat1 C) kb_hgd1 dX8_loop_11 dX8_loop_14 dX8_loop_15 dX8_loop_17 dX8_loop_20 (by decide) (Nat.le_of_ble_eq_true rfl) ⟨by decide, by decide⟩ (by decide) (by decide)
def fp_X8_requireRow_16   (σ : kb_S) : Option ((Nat × Int32)) :=
  some (1, 0)
theorem fp_X8_requireRow_16_e   (σ : kb_S) : fp_X8_requireRow_16  σ =
  some (1, 0) := rfl
def fn_X8_requireRow  (x1 : Int32) (σ : kb_S) : Option ((Nat × Int32)) :=
  if x1 < (1 : Int32) then
    fp_X8_requireRow_16   σ
  else
    if x1 ≤ (fn_X0_rowCount  σ) then
      some (0, 0)
    else
      fp_X8_requireRow_16   σ
theorem fe_X8_requireRow  (x1 : Int32) (σ : kb_S) : fn_X8_requireRow  x1 σ =
  if x1 < (1 : Int32) then
    fp_X8_requireRow_16   σ
  else
    if x1 ≤ (fn_X0_rowCount  σ) then
      some (0, 0)
    else
      fp_X8_requireRow_16   σ := rfl
theorem hd_X8_requireRow : yX8_requireRow.cls = RX8 ∧ yX8_requireRow.cls ≠ "java/lang/invoke/MethodHandle" ∧ yX8_requireRow.cls ≠ "java/lang/invoke/VarHandle" ∧ (parseMethodDescriptor yX8_requireRow.desc).map (fun d => d.parameters.length) = some 1 := by decide +kernel
set_option maxRecDepth 100000 in
set_option maxHeartbeats 4000000 in
theorem ct_X8_requireRow (l : Launch) (V : kb_V) (A : Nat → Prop)  (x1 : Int32) (a : Nat → Nat) (σ : kb_S) (sh : Value) (ex : va_W) {r : Int32} (hf : fn_X8_requireRow  x1 σ = some (0, r)) : kb_T l yX8_requireRow cX8_requireRow 2 none ({ frames := 1, cells := 0, slots := 0, locals := 20 } : Room) V A [.ref (a 0), .int x1] (kb_W V a σ sh ex) none (kb_W V a σ sh ex) 0 0 := by
  refine kb_start (cc := cX8_requireRow) (nL := 2) (ret := none) (own := RX8) (by decide) rfl (Nat.le_of_ble_eq_true rfl) ?_
  intro p e s m args below meth c C
  have hp16 : ∀ (σ : kb_S), fp_X8_requireRow_16   σ = some (0, r) → kb_J p l e ({ frames := 1, cells := 0, slots := 0, locals := 20 } : Room) s m args below meth c 2 V A 0 0 (MQ below (kb_post V A none (kb_W V a σ sh ex)) args s 0 0 A) 16 [] [] (kb_W V a σ sh ex) := by
    intro σ hf
    rw [fp_X8_requireRow_16_e] at hf
    cases hf
  refine kj_sub [0, 1] (L2 := [(0, .ref (a 0)), (1, .int x1)]) rfl ?_
  rw [fe_X8_requireRow] at hf
  refine kj_iload_n (pc := 0) C 1 dX8_requireRow_0 rfl rfl ?_
  refine kj_iconst (pc := 1) (v := (1 : Int32)) C dX8_requireRow_1 (by decide) ?_
  refine kj_icmp_lt (pc := 2) 16 C dX8_requireRow_2 (by decide) (fun c1 => ?_) (fun c1 => ?_)
  · have hf := kb_ift hf c1
    refine kj_sub [] (L2 := []) rfl ?_
    exact hp16 σ hf
  · have hf := kb_ife hf c1
    refine kj_iload_n (pc := 5) C 1 dX8_requireRow_5 rfl rfl ?_
    refine kj_aload_n (pc := 6) C 0 dX8_requireRow_6 rfl rfl ?_
    refine kg_X8_fabric (pc := 7) C wf_X8_22 dX8_requireRow_7 ?_
    refine kj_callV0 (pc := 10) (as := []) (rest := [.int x1]) (b := (a 2)) C (ct_X0_rowCount l V A  a σ sh ex rfl) wd_X0_rowCount wk_X8_93 wi_X0_rowCount ws_X0_rowCount wz_X0 rfl rfl hd_X0_rowCount ⟨by decide, by decide⟩ 2 rfl rfl rfl rfl (Nat.le_of_ble_eq_true rfl) (by decide) dX8_requireRow_10 ?_
    refine kj_icmp_le (pc := 13) 26 C dX8_requireRow_13 (by decide) (fun c2 => ?_) (fun c2 => ?_)
    · have hf := kb_ift hf c2
      cases hf
      exact kj_vret (pc := 26) C dX8_requireRow_26
    · have hf := kb_ife hf c2
      refine kj_sub [] (L2 := []) rfl ?_
      exact hp16 σ hf
set_option maxRecDepth 100000 in
set_option maxHeartbeats 4000000 in
theorem cx_X8_requireRow (l : Launch) (V : kb_V) (A : Nat → Prop) (x1 : Int32) (a : Nat → Nat) (σ : kb_S) (sh : Value) (ex : va_W) {r : Int32} {ec : Nat} (hl : l.stackTraces = false) (hne : ¬ ec = 0) (hf : fn_X8_requireRow x1 σ = some (ec, r)) : kb_TX l yX8_requireRow cX8_requireRow 2 none ({ frames := 7, cells := 1, slots := 6, locals := 120 } : Room) V A [.ref (a 0), .int x1] (kb_W V a σ sh ex) (kb_EN ec) (kb_W V a σ sh ex) 1 6 := by
  refine kb_startX (cc := cX8_requireRow) (nL := 2) (ret := none) (own := RX8) (by decide) rfl (Nat.le_of_ble_eq_true rfl) ?_
  intro p e s m args below meth c C htb
  have hp16 : ∀ (σ : kb_S), fp_X8_requireRow_16   σ = some (ec, r) → kb_J p l e ({ frames := 7, cells := 1, slots := 6, locals := 120 } : Room) s m args below meth c 2 V A 0 0 (vx_MQ below (fun _ _ _ _ => False) (kb_XC V A (kb_EN ec) (kb_W V a σ sh ex)) args s 1 6 A) 16 [] [] (kb_W V a σ sh ex) := by
    intro σ hf
    rw [fp_X8_requireRow_16_e] at hf
    cases hf
    exact kj_throw (pc := 16) (cls := "java/lang/IllegalArgumentException") (text := "no such row") (names := ["java/lang/RuntimeException", "java/lang/Exception"]) (ik := 48) (is := 169) (ic := 52) (sa := 76) C hl htb (by decide +kernel) (by decide +kernel) wq_X8_48 wz_IllegalArgumentException (by decide +kernel) (kb_hat1 C) kb_hgd1 dX8_requireRow_16 dX8_requireRow_19 dX8_requireRow_20 dX8_requireRow_22 dX8_requireRow_25 (by decide) (Nat.le_of_ble_eq_true rfl) ⟨by decide, by decide⟩ (by decide) (by decide)
  refine kj_sub [0, 1] (L2 := [(0, .ref (a 0)), (1, .int x1)]) rfl ?_
  rw [fe_X8_requireRow] at hf
  refine kj_iload_n (pc := 0) C 1 dX8_requireRow_0 rfl rfl ?_
  refine kj_iconst (pc := 1) (v := (1 : Int32)) C dX8_requireRow_1 (by decide) ?_
  refine kj_icmp_lt (pc := 2) 16 C dX8_requireRow_2 (by decide) (fun c1 => ?_) (fun c1 => ?_)
  · have hf := kb_ift hf c1
    refine kj_sub [] (L2 := []) rfl ?_
    exact hp16 σ hf
  · have hf := kb_ife hf c1
    refine kj_iload_n (pc := 5) C 1 dX8_requireRow_5 rfl rfl ?_
    refine kj_aload_n (pc := 6) C 0 dX8_requireRow_6 rfl rfl ?_
    refine kg_X8_fabric (pc := 7) C wf_X8_22 dX8_requireRow_7 ?_
    refine kj_callV0 (pc := 10) (as := []) (rest := [.int x1]) (b := (a 2)) C (ct_X0_rowCount l V A  a σ sh ex rfl) wd_X0_rowCount wk_X8_93 wi_X0_rowCount ws_X0_rowCount wz_X0 rfl rfl hd_X0_rowCount ⟨by decide, by decide⟩ 2 rfl rfl rfl rfl (Nat.le_of_ble_eq_true rfl) (by decide) dX8_requireRow_10 ?_
    refine kj_icmp_le (pc := 13) 26 C dX8_requireRow_13 (by decide) (fun c2 => ?_) (fun c2 => ?_)
    · have hf := kb_ift hf c2
      cases hf
      exact absurd rfl hne
    · have hf := kb_ife hf c2
      refine kj_sub [] (L2 := []) rfl ?_
      exact hp16 σ hf
def fp_X8_chart_21   (σ : kb_S) : Option ((Nat × Int32)) :=
  some (3, 0)
theorem fp_X8_chart_21_e   (σ : kb_S) : fp_X8_chart_21  σ =
  some (3, 0) := rfl
def fn_X8_chart  (x1 : Int32) (x2 : Int32) (σ : kb_S) : Option ((Nat × Int32)) :=
  (fn_X8_requireRow x1 σ).bind fun q1 =>
  if q1.1 = 0 then
    if x2 < 0 then
      fp_X8_chart_21   σ
    else
      (fn_X0_stitchCount x1 σ).bind fun q3 =>
      if x2 < q3 then
        (fn_X0_stitchSeen x1 x2 σ).bind fun q5 =>
        some (0, q5)
      else
        fp_X8_chart_21   σ
  else some (q1.1, 0)
theorem fe_X8_chart  (x1 : Int32) (x2 : Int32) (σ : kb_S) : fn_X8_chart  x1 x2 σ =
  (fn_X8_requireRow x1 σ).bind fun q1 =>
  if q1.1 = 0 then
    if x2 < 0 then
      fp_X8_chart_21   σ
    else
      (fn_X0_stitchCount x1 σ).bind fun q3 =>
      if x2 < q3 then
        (fn_X0_stitchSeen x1 x2 σ).bind fun q5 =>
        some (0, q5)
      else
        fp_X8_chart_21   σ
  else some (q1.1, 0) := rfl
theorem hd_X8_chart : yX8_chart.cls = RX8 ∧ yX8_chart.cls ≠ "java/lang/invoke/MethodHandle" ∧ yX8_chart.cls ≠ "java/lang/invoke/VarHandle" ∧ (parseMethodDescriptor yX8_chart.desc).map (fun d => d.parameters.length) = some 2 := by decide +kernel
set_option maxRecDepth 100000 in
set_option maxHeartbeats 4000000 in
theorem ct_X8_chart (l : Launch) (V : kb_V) (A : Nat → Prop)  (x1 : Int32) (x2 : Int32) (a : Nat → Nat) (σ : kb_S) (sh : Value) (ex : va_W) {r : Int32} (hf : fn_X8_chart  x1 x2 σ = some (0, r)) : kb_T l yX8_chart cX8_chart 3 (some .int) ({ frames := 4, cells := 0, slots := 0, locals := 87 } : Room) V A [.ref (a 0), .int x1, .int x2] (kb_W V a σ sh ex) (some (.int r)) (kb_W V a σ sh ex) 0 0 := by
  refine kb_start (cc := cX8_chart) (nL := 3) (ret := (some .int)) (own := RX8) (by decide) rfl (Nat.le_of_ble_eq_true rfl) ?_
  intro p e s m args below meth c C
  have hp21 : ∀ (σ : kb_S), fp_X8_chart_21   σ = some (0, r) → kb_J p l e ({ frames := 4, cells := 0, slots := 0, locals := 87 } : Room) s m args below meth c 3 V A 0 0 (MQ below (kb_post V A (some (.int r)) (kb_W V a σ sh ex)) args s 0 0 A) 21 [] [] (kb_W V a σ sh ex) := by
    intro σ hf
    rw [fp_X8_chart_21_e] at hf
    cases hf
  refine kj_sub [0, 1, 2] (L2 := [(0, .ref (a 0)), (1, .int x1), (2, .int x2)]) rfl ?_
  rw [fe_X8_chart] at hf
  refine kj_aload_n (pc := 0) C 0 dX8_chart_0 rfl rfl ?_
  refine kj_iload_n (pc := 1) C 1 dX8_chart_1 rfl rfl ?_
  obtain ⟨⟨eq1, rq1⟩, hq1, hf⟩ := kb_bd hf
  by_cases cq1 : eq1 = 0
  · have hf := kb_ift hf cq1
    rw [cq1] at hq1
    refine kj_callV0 (pc := 2) (as := [.int x1]) (rest := []) (b := (a 0)) C (ct_X8_requireRow l V A x1 a σ sh ex hq1) wd_X8_requireRow wk_X8_125 wi_X8_requireRow ws_X8_requireRow wz_X8 rfl rfl hd_X8_requireRow ⟨by decide, by decide⟩ 0 rfl rfl rfl rfl (Nat.le_of_ble_eq_true rfl) (by decide) dX8_chart_2 ?_
    refine kj_iload_n (pc := 5) C 2 dX8_chart_5 rfl rfl ?_
    refine kj_if_lt (pc := 6) 21 C dX8_chart_6 (by decide) (fun c2 => ?_) (fun c2 => ?_)
    · have hf := kb_ift hf c2
      refine kj_sub [] (L2 := []) rfl ?_
      exact hp21 σ hf
    · have hf := kb_ife hf c2
      refine kj_iload_n (pc := 9) C 2 dX8_chart_9 rfl rfl ?_
      refine kj_aload_n (pc := 10) C 0 dX8_chart_10 rfl rfl ?_
      refine kg_X8_fabric (pc := 11) C wf_X8_22 dX8_chart_11 ?_
      refine kj_iload_n (pc := 14) C 1 dX8_chart_14 rfl rfl ?_
      obtain ⟨q3, hq3, hf⟩ := kb_bd hf
      refine kj_callV0 (pc := 15) (as := [.int x1]) (rest := [.int x2]) (b := (a 2)) C (ct_X0_stitchCount l V A x1 a σ sh ex hq3) wd_X0_stitchCount wk_X8_128 wi_X0_stitchCount ws_X0_stitchCount wz_X0 rfl rfl hd_X0_stitchCount ⟨by decide, by decide⟩ 2 rfl rfl rfl rfl (Nat.le_of_ble_eq_true rfl) (by decide) dX8_chart_15 ?_
      refine kj_icmp_lt (pc := 18) 31 C dX8_chart_18 (by decide) (fun c4 => ?_) (fun c4 => ?_)
      · have hf := kb_ift hf c4
        refine kj_aload_n (pc := 31) C 0 dX8_chart_31 rfl rfl ?_
        refine kg_X8_fabric (pc := 32) C wf_X8_22 dX8_chart_32 ?_
        refine kj_iload_n (pc := 35) C 1 dX8_chart_35 rfl rfl ?_
        refine kj_iload_n (pc := 36) C 2 dX8_chart_36 rfl rfl ?_
        obtain ⟨q5, hq5, hf⟩ := kb_bd hf
        refine kj_callV0 (pc := 37) (as := [.int x1, .int x2]) (rest := []) (b := (a 2)) C (ct_X0_stitchSeen l V A x1 x2 a σ sh ex hq5) wd_X0_stitchSeen wk_X8_136 wi_X0_stitchSeen ws_X0_stitchSeen wz_X0 rfl rfl hd_X0_stitchSeen ⟨by decide, by decide⟩ 2 rfl rfl rfl rfl (Nat.le_of_ble_eq_true rfl) (by decide) dX8_chart_37 ?_
        cases hf
        exact kj_iret (pc := 40) C dX8_chart_40
      · have hf := kb_ife hf c4
        refine kj_sub [] (L2 := []) rfl ?_
        exact hp21 σ hf
  · have hf := kb_ife hf cq1
    cases hf
    exact absurd rfl cq1
set_option maxRecDepth 100000 in
set_option maxHeartbeats 4000000 in
theorem cx_X8_chart (l : Launch) (V : kb_V) (A : Nat → Prop) (x1 : Int32) (x2 : Int32) (a : Nat → Nat) (σ : kb_S) (sh : Value) (ex : va_W) {r : Int32} {ec : Nat} (hl : l.stackTraces = false) (hne : ¬ ec = 0) (hf : fn_X8_chart x1 x2 σ = some (ec, r)) : kb_TX l yX8_chart cX8_chart 3 (some .int) ({ frames := 9, cells := 1, slots := 6, locals := 200 } : Room) V A [.ref (a 0), .int x1, .int x2] (kb_W V a σ sh ex) (kb_EN ec) (kb_W V a σ sh ex) 1 6 := by
  refine kb_startX (cc := cX8_chart) (nL := 3) (ret := (some .int)) (own := RX8) (by decide) rfl (Nat.le_of_ble_eq_true rfl) ?_
  intro p e s m args below meth c C htb
  have hp21 : ∀ (σ : kb_S), fp_X8_chart_21   σ = some (ec, r) → kb_J p l e ({ frames := 9, cells := 1, slots := 6, locals := 200 } : Room) s m args below meth c 3 V A 0 0 (vx_MQ below (fun _ _ _ _ => False) (kb_XC V A (kb_EN ec) (kb_W V a σ sh ex)) args s 1 6 A) 21 [] [] (kb_W V a σ sh ex) := by
    intro σ hf
    rw [fp_X8_chart_21_e] at hf
    cases hf
    exact kj_throw (pc := 21) (cls := "java/lang/IndexOutOfBoundsException") (text := "no such stitch") (names := ["java/lang/RuntimeException", "java/lang/Exception"]) (ik := 131) (is := 133) (ic := 135) (sa := 77) C hl htb (by decide +kernel) (by decide +kernel) wq_X8_131 wz_IndexOutOfBoundsException (by decide +kernel) (kb_hat3 C) kb_hgd3 dX8_chart_21 dX8_chart_24 dX8_chart_25 dX8_chart_27 dX8_chart_30 (by decide) (Nat.le_of_ble_eq_true rfl) ⟨by decide, by decide⟩ (by decide) (by decide)
  refine kj_sub [0, 1, 2] (L2 := [(0, .ref (a 0)), (1, .int x1), (2, .int x2)]) rfl ?_
  rw [fe_X8_chart] at hf
  refine kj_aload_n (pc := 0) C 0 dX8_chart_0 rfl rfl ?_
  refine kj_iload_n (pc := 1) C 1 dX8_chart_1 rfl rfl ?_
  obtain ⟨⟨eq1, rq1⟩, hq1, hf⟩ := kb_bd hf
  by_cases cq1 : eq1 = 0
  · have hf := kb_ift hf cq1
    rw [cq1] at hq1
    refine kj_callV0 (pc := 2) (as := [.int x1]) (rest := []) (b := (a 0)) C (ct_X8_requireRow l V A x1 a σ sh ex hq1) wd_X8_requireRow wk_X8_125 wi_X8_requireRow ws_X8_requireRow wz_X8 rfl rfl hd_X8_requireRow ⟨by decide, by decide⟩ 0 rfl rfl rfl rfl (Nat.le_of_ble_eq_true rfl) (by decide) dX8_chart_2 ?_
    refine kj_iload_n (pc := 5) C 2 dX8_chart_5 rfl rfl ?_
    refine kj_if_lt (pc := 6) 21 C dX8_chart_6 (by decide) (fun c2 => ?_) (fun c2 => ?_)
    · have hf := kb_ift hf c2
      refine kj_sub [] (L2 := []) rfl ?_
      exact hp21 σ hf
    · have hf := kb_ife hf c2
      refine kj_iload_n (pc := 9) C 2 dX8_chart_9 rfl rfl ?_
      refine kj_aload_n (pc := 10) C 0 dX8_chart_10 rfl rfl ?_
      refine kg_X8_fabric (pc := 11) C wf_X8_22 dX8_chart_11 ?_
      refine kj_iload_n (pc := 14) C 1 dX8_chart_14 rfl rfl ?_
      obtain ⟨q3, hq3, hf⟩ := kb_bd hf
      refine kj_callV0 (pc := 15) (as := [.int x1]) (rest := [.int x2]) (b := (a 2)) C (ct_X0_stitchCount l V A x1 a σ sh ex hq3) wd_X0_stitchCount wk_X8_128 wi_X0_stitchCount ws_X0_stitchCount wz_X0 rfl rfl hd_X0_stitchCount ⟨by decide, by decide⟩ 2 rfl rfl rfl rfl (Nat.le_of_ble_eq_true rfl) (by decide) dX8_chart_15 ?_
      refine kj_icmp_lt (pc := 18) 31 C dX8_chart_18 (by decide) (fun c4 => ?_) (fun c4 => ?_)
      · have hf := kb_ift hf c4
        refine kj_aload_n (pc := 31) C 0 dX8_chart_31 rfl rfl ?_
        refine kg_X8_fabric (pc := 32) C wf_X8_22 dX8_chart_32 ?_
        refine kj_iload_n (pc := 35) C 1 dX8_chart_35 rfl rfl ?_
        refine kj_iload_n (pc := 36) C 2 dX8_chart_36 rfl rfl ?_
        obtain ⟨q5, hq5, hf⟩ := kb_bd hf
        refine kj_callV0 (pc := 37) (as := [.int x1, .int x2]) (rest := []) (b := (a 2)) C (ct_X0_stitchSeen l V A x1 x2 a σ sh ex hq5) wd_X0_stitchSeen wk_X8_136 wi_X0_stitchSeen ws_X0_stitchSeen wz_X0 rfl rfl hd_X0_stitchSeen ⟨by decide, by decide⟩ 2 rfl rfl rfl rfl (Nat.le_of_ble_eq_true rfl) (by decide) dX8_chart_37 ?_
        cases hf
        exact absurd rfl hne
      · have hf := kb_ife hf c4
        refine kj_sub [] (L2 := []) rfl ?_
        exact hp21 σ hf
  · have hf := kb_ife hf cq1
    cases hf
    exact kj_callVX (pc := 2) (as := [.int x1]) (rest := []) (b := (a 0)) C htb (cx_X8_requireRow l V A x1 a σ sh ex hl hne hq1) wd_X8_requireRow wk_X8_125 wi_X8_requireRow ws_X8_requireRow wz_X8 rfl rfl hd_X8_requireRow ⟨by decide, by decide⟩ 0 rfl rfl rfl rfl (Nat.le_of_ble_eq_true rfl) ⟨by decide, by decide⟩ dX8_chart_2 (by decide) (by decide)
def fn_X8_row  (x1 : Int32) (x2 : Int32) (σ : kb_S) : Option ((Nat × Int32)) :=
  (fn_X8_requireRow x1 σ).bind fun q1 =>
  if q1.1 = 0 then
    if x2 = (0 : Int32) then
      (fn_X0_stitchCount x1 σ).bind fun q3 =>
      some (0, q3)
    else if x2 = (1 : Int32) then
      (fn_X0_crossings x1 σ).bind fun q3 =>
      some (0, q3)
    else if x2 = (2 : Int32) then
      (fn_X0_madeIn (x1 - (1 : Int32)) σ).bind fun q3 =>
      some (0, q3)
    else if x2 = (3 : Int32) then
      (fn_X0_madeIn x1 σ).bind fun q3 =>
      some (0, q3)
    else if x2 = (4 : Int32) then
      (fn_X0_boundIn x1 x1 σ).bind fun q3 =>
      some (0, q3)
    else
      some (1, 0)
  else some (q1.1, 0)
theorem fe_X8_row  (x1 : Int32) (x2 : Int32) (σ : kb_S) : fn_X8_row  x1 x2 σ =
  (fn_X8_requireRow x1 σ).bind fun q1 =>
  if q1.1 = 0 then
    if x2 = (0 : Int32) then
      (fn_X0_stitchCount x1 σ).bind fun q3 =>
      some (0, q3)
    else if x2 = (1 : Int32) then
      (fn_X0_crossings x1 σ).bind fun q3 =>
      some (0, q3)
    else if x2 = (2 : Int32) then
      (fn_X0_madeIn (x1 - (1 : Int32)) σ).bind fun q3 =>
      some (0, q3)
    else if x2 = (3 : Int32) then
      (fn_X0_madeIn x1 σ).bind fun q3 =>
      some (0, q3)
    else if x2 = (4 : Int32) then
      (fn_X0_boundIn x1 x1 σ).bind fun q3 =>
      some (0, q3)
    else
      some (1, 0)
  else some (q1.1, 0) := rfl
theorem hd_X8_row : yX8_row.cls = RX8 ∧ yX8_row.cls ≠ "java/lang/invoke/MethodHandle" ∧ yX8_row.cls ≠ "java/lang/invoke/VarHandle" ∧ (parseMethodDescriptor yX8_row.desc).map (fun d => d.parameters.length) = some 2 := by decide +kernel
set_option maxRecDepth 100000 in
set_option maxHeartbeats 4000000 in
theorem ct_X8_row (l : Launch) (V : kb_V) (A : Nat → Prop)  (x1 : Int32) (x2 : Int32) (a : Nat → Nat) (σ : kb_S) (sh : Value) (ex : va_W) {r : Int32} (hf : fn_X8_row  x1 x2 σ = some (0, r)) : kb_T l yX8_row cX8_row 3 (some .int) ({ frames := 4, cells := 0, slots := 0, locals := 89 } : Room) V A [.ref (a 0), .int x1, .int x2] (kb_W V a σ sh ex) (some (.int r)) (kb_W V a σ sh ex) 0 0 := by
  refine kb_start (cc := cX8_row) (nL := 3) (ret := (some .int)) (own := RX8) (by decide) rfl (Nat.le_of_ble_eq_true rfl) ?_
  intro p e s m args below meth c C
  refine kj_sub [0, 1, 2] (L2 := [(0, .ref (a 0)), (1, .int x1), (2, .int x2)]) rfl ?_
  rw [fe_X8_row] at hf
  refine kj_aload_n (pc := 0) C 0 dX8_row_0 rfl rfl ?_
  refine kj_iload_n (pc := 1) C 1 dX8_row_1 rfl rfl ?_
  obtain ⟨⟨eq1, rq1⟩, hq1, hf⟩ := kb_bd hf
  by_cases cq1 : eq1 = 0
  · have hf := kb_ift hf cq1
    rw [cq1] at hq1
    refine kj_callV0 (pc := 2) (as := [.int x1]) (rest := []) (b := (a 0)) C (ct_X8_requireRow l V A x1 a σ sh ex hq1) wd_X8_requireRow wk_X8_125 wi_X8_requireRow ws_X8_requireRow wz_X8 rfl rfl hd_X8_requireRow ⟨by decide, by decide⟩ 0 rfl rfl rfl rfl (Nat.le_of_ble_eq_true rfl) (by decide) dX8_row_2 ?_
    refine kj_iload_n (pc := 5) C 2 dX8_row_5 rfl rfl ?_
    by_cases c2_0 : x2 = (0 : Int32)
    · have hf := kb_ift hf c2_0
      refine kj_tabIn (pc := 6) 40 C dX8_row_6 (by rw [c2_0]; decide) (by rw [c2_0]; decide) (by rw [c2_0]; rfl) (by decide) ?_
      refine kj_aload_n (pc := 40) C 0 dX8_row_40 rfl rfl ?_
      refine kg_X8_fabric (pc := 41) C wf_X8_22 dX8_row_41 ?_
      refine kj_iload_n (pc := 44) C 1 dX8_row_44 rfl rfl ?_
      obtain ⟨q3, hq3, hf⟩ := kb_bd hf
      refine kj_callV0 (pc := 45) (as := [.int x1]) (rest := []) (b := (a 2)) C (ct_X0_stitchCount l V A x1 a σ sh ex hq3) wd_X0_stitchCount wk_X8_128 wi_X0_stitchCount ws_X0_stitchCount wz_X0 rfl rfl hd_X0_stitchCount ⟨by decide, by decide⟩ 2 rfl rfl rfl rfl (Nat.le_of_ble_eq_true rfl) (by decide) dX8_row_45 ?_
      cases hf
      exact kj_iret (pc := 48) C dX8_row_48
    have hf := kb_ife hf c2_0
    by_cases c2_1 : x2 = (1 : Int32)
    · have hf := kb_ift hf c2_1
      refine kj_tabIn (pc := 6) 49 C dX8_row_6 (by rw [c2_1]; decide) (by rw [c2_1]; decide) (by rw [c2_1]; rfl) (by decide) ?_
      refine kj_aload_n (pc := 49) C 0 dX8_row_49 rfl rfl ?_
      refine kg_X8_fabric (pc := 50) C wf_X8_22 dX8_row_50 ?_
      refine kj_iload_n (pc := 53) C 1 dX8_row_53 rfl rfl ?_
      obtain ⟨q3, hq3, hf⟩ := kb_bd hf
      refine kj_callV0 (pc := 54) (as := [.int x1]) (rest := []) (b := (a 2)) C (ct_X0_crossings l V A x1 a σ sh ex hq3) wd_X0_crossings wk_X8_139 wi_X0_crossings ws_X0_crossings wz_X0 rfl rfl hd_X0_crossings ⟨by decide, by decide⟩ 2 rfl rfl rfl rfl (Nat.le_of_ble_eq_true rfl) (by decide) dX8_row_54 ?_
      cases hf
      exact kj_iret (pc := 57) C dX8_row_57
    have hf := kb_ife hf c2_1
    by_cases c2_2 : x2 = (2 : Int32)
    · have hf := kb_ift hf c2_2
      refine kj_tabIn (pc := 6) 58 C dX8_row_6 (by rw [c2_2]; decide) (by rw [c2_2]; decide) (by rw [c2_2]; rfl) (by decide) ?_
      refine kj_aload_n (pc := 58) C 0 dX8_row_58 rfl rfl ?_
      refine kg_X8_fabric (pc := 59) C wf_X8_22 dX8_row_59 ?_
      refine kj_iload_n (pc := 62) C 1 dX8_row_62 rfl rfl ?_
      refine kj_iconst (pc := 63) (v := (1 : Int32)) C dX8_row_63 (by decide) ?_
      refine kj_isub (pc := 64) C dX8_row_64 ?_
      obtain ⟨q3, hq3, hf⟩ := kb_bd hf
      refine kj_callV0 (pc := 65) (as := [.int (x1 - (1 : Int32))]) (rest := []) (b := (a 2)) C (ct_X0_madeIn l V A (x1 - (1 : Int32)) a σ sh ex hq3) wd_X0_madeIn wk_X8_142 wi_X0_madeIn ws_X0_madeIn wz_X0 rfl rfl hd_X0_madeIn ⟨by decide, by decide⟩ 2 rfl rfl rfl rfl (Nat.le_of_ble_eq_true rfl) (by decide) dX8_row_65 ?_
      cases hf
      exact kj_iret (pc := 68) C dX8_row_68
    have hf := kb_ife hf c2_2
    by_cases c2_3 : x2 = (3 : Int32)
    · have hf := kb_ift hf c2_3
      refine kj_tabIn (pc := 6) 69 C dX8_row_6 (by rw [c2_3]; decide) (by rw [c2_3]; decide) (by rw [c2_3]; rfl) (by decide) ?_
      refine kj_aload_n (pc := 69) C 0 dX8_row_69 rfl rfl ?_
      refine kg_X8_fabric (pc := 70) C wf_X8_22 dX8_row_70 ?_
      refine kj_iload_n (pc := 73) C 1 dX8_row_73 rfl rfl ?_
      obtain ⟨q3, hq3, hf⟩ := kb_bd hf
      refine kj_callV0 (pc := 74) (as := [.int x1]) (rest := []) (b := (a 2)) C (ct_X0_madeIn l V A x1 a σ sh ex hq3) wd_X0_madeIn wk_X8_142 wi_X0_madeIn ws_X0_madeIn wz_X0 rfl rfl hd_X0_madeIn ⟨by decide, by decide⟩ 2 rfl rfl rfl rfl (Nat.le_of_ble_eq_true rfl) (by decide) dX8_row_74 ?_
      cases hf
      exact kj_iret (pc := 77) C dX8_row_77
    have hf := kb_ife hf c2_3
    by_cases c2_4 : x2 = (4 : Int32)
    · have hf := kb_ift hf c2_4
      refine kj_tabIn (pc := 6) 78 C dX8_row_6 (by rw [c2_4]; decide) (by rw [c2_4]; decide) (by rw [c2_4]; rfl) (by decide) ?_
      refine kj_aload_n (pc := 78) C 0 dX8_row_78 rfl rfl ?_
      refine kg_X8_fabric (pc := 79) C wf_X8_22 dX8_row_79 ?_
      refine kj_iload_n (pc := 82) C 1 dX8_row_82 rfl rfl ?_
      refine kj_iload_n (pc := 83) C 1 dX8_row_83 rfl rfl ?_
      obtain ⟨q3, hq3, hf⟩ := kb_bd hf
      refine kj_callV0 (pc := 84) (as := [.int x1, .int x1]) (rest := []) (b := (a 2)) C (ct_X0_boundIn l V A x1 x1 a σ sh ex hq3) wd_X0_boundIn wk_X8_145 wi_X0_boundIn ws_X0_boundIn wz_X0 rfl rfl hd_X0_boundIn ⟨by decide, by decide⟩ 2 rfl rfl rfl rfl (Nat.le_of_ble_eq_true rfl) (by decide) dX8_row_84 ?_
      cases hf
      exact kj_iret (pc := 87) C dX8_row_87
    have hf := kb_ife hf c2_4
    refine kj_tabOut (pc := 6) 88 C dX8_row_6 (kb_out (fun z h1 h2 => by
      have hz : z = 0 ∨ z = 1 ∨ z = 2 ∨ z = 3 ∨ z = 4 := by omega
      rcases hz with rfl | rfl | rfl | rfl | rfl
      · exact c2_0
      · exact c2_1
      · exact c2_2
      · exact c2_3
      · exact c2_4)) (by decide) ?_
    cases hf
  · have hf := kb_ife hf cq1
    cases hf
    exact absurd rfl cq1
set_option maxRecDepth 100000 in
set_option maxHeartbeats 4000000 in
theorem cx_X8_row (l : Launch) (V : kb_V) (A : Nat → Prop) (x1 : Int32) (x2 : Int32) (a : Nat → Nat) (σ : kb_S) (sh : Value) (ex : va_W) {r : Int32} {ec : Nat} (hl : l.stackTraces = false) (hne : ¬ ec = 0) (hf : fn_X8_row x1 x2 σ = some (ec, r)) : kb_TX l yX8_row cX8_row 3 (some .int) ({ frames := 9, cells := 1, slots := 6, locals := 200 } : Room) V A [.ref (a 0), .int x1, .int x2] (kb_W V a σ sh ex) (kb_EN ec) (kb_W V a σ sh ex) 1 6 := by
  refine kb_startX (cc := cX8_row) (nL := 3) (ret := (some .int)) (own := RX8) (by decide) rfl (Nat.le_of_ble_eq_true rfl) ?_
  intro p e s m args below meth c C htb
  refine kj_sub [0, 1, 2] (L2 := [(0, .ref (a 0)), (1, .int x1), (2, .int x2)]) rfl ?_
  rw [fe_X8_row] at hf
  refine kj_aload_n (pc := 0) C 0 dX8_row_0 rfl rfl ?_
  refine kj_iload_n (pc := 1) C 1 dX8_row_1 rfl rfl ?_
  obtain ⟨⟨eq1, rq1⟩, hq1, hf⟩ := kb_bd hf
  by_cases cq1 : eq1 = 0
  · have hf := kb_ift hf cq1
    rw [cq1] at hq1
    refine kj_callV0 (pc := 2) (as := [.int x1]) (rest := []) (b := (a 0)) C (ct_X8_requireRow l V A x1 a σ sh ex hq1) wd_X8_requireRow wk_X8_125 wi_X8_requireRow ws_X8_requireRow wz_X8 rfl rfl hd_X8_requireRow ⟨by decide, by decide⟩ 0 rfl rfl rfl rfl (Nat.le_of_ble_eq_true rfl) (by decide) dX8_row_2 ?_
    refine kj_iload_n (pc := 5) C 2 dX8_row_5 rfl rfl ?_
    by_cases c2_0 : x2 = (0 : Int32)
    · have hf := kb_ift hf c2_0
      refine kj_tabIn (pc := 6) 40 C dX8_row_6 (by rw [c2_0]; decide) (by rw [c2_0]; decide) (by rw [c2_0]; rfl) (by decide) ?_
      refine kj_aload_n (pc := 40) C 0 dX8_row_40 rfl rfl ?_
      refine kg_X8_fabric (pc := 41) C wf_X8_22 dX8_row_41 ?_
      refine kj_iload_n (pc := 44) C 1 dX8_row_44 rfl rfl ?_
      obtain ⟨q3, hq3, hf⟩ := kb_bd hf
      refine kj_callV0 (pc := 45) (as := [.int x1]) (rest := []) (b := (a 2)) C (ct_X0_stitchCount l V A x1 a σ sh ex hq3) wd_X0_stitchCount wk_X8_128 wi_X0_stitchCount ws_X0_stitchCount wz_X0 rfl rfl hd_X0_stitchCount ⟨by decide, by decide⟩ 2 rfl rfl rfl rfl (Nat.le_of_ble_eq_true rfl) (by decide) dX8_row_45 ?_
      cases hf
      exact absurd rfl hne
    have hf := kb_ife hf c2_0
    by_cases c2_1 : x2 = (1 : Int32)
    · have hf := kb_ift hf c2_1
      refine kj_tabIn (pc := 6) 49 C dX8_row_6 (by rw [c2_1]; decide) (by rw [c2_1]; decide) (by rw [c2_1]; rfl) (by decide) ?_
      refine kj_aload_n (pc := 49) C 0 dX8_row_49 rfl rfl ?_
      refine kg_X8_fabric (pc := 50) C wf_X8_22 dX8_row_50 ?_
      refine kj_iload_n (pc := 53) C 1 dX8_row_53 rfl rfl ?_
      obtain ⟨q3, hq3, hf⟩ := kb_bd hf
      refine kj_callV0 (pc := 54) (as := [.int x1]) (rest := []) (b := (a 2)) C (ct_X0_crossings l V A x1 a σ sh ex hq3) wd_X0_crossings wk_X8_139 wi_X0_crossings ws_X0_crossings wz_X0 rfl rfl hd_X0_crossings ⟨by decide, by decide⟩ 2 rfl rfl rfl rfl (Nat.le_of_ble_eq_true rfl) (by decide) dX8_row_54 ?_
      cases hf
      exact absurd rfl hne
    have hf := kb_ife hf c2_1
    by_cases c2_2 : x2 = (2 : Int32)
    · have hf := kb_ift hf c2_2
      refine kj_tabIn (pc := 6) 58 C dX8_row_6 (by rw [c2_2]; decide) (by rw [c2_2]; decide) (by rw [c2_2]; rfl) (by decide) ?_
      refine kj_aload_n (pc := 58) C 0 dX8_row_58 rfl rfl ?_
      refine kg_X8_fabric (pc := 59) C wf_X8_22 dX8_row_59 ?_
      refine kj_iload_n (pc := 62) C 1 dX8_row_62 rfl rfl ?_
      refine kj_iconst (pc := 63) (v := (1 : Int32)) C dX8_row_63 (by decide) ?_
      refine kj_isub (pc := 64) C dX8_row_64 ?_
      obtain ⟨q3, hq3, hf⟩ := kb_bd hf
      refine kj_callV0 (pc := 65) (as := [.int (x1 - (1 : Int32))]) (rest := []) (b := (a 2)) C (ct_X0_madeIn l V A (x1 - (1 : Int32)) a σ sh ex hq3) wd_X0_madeIn wk_X8_142 wi_X0_madeIn ws_X0_madeIn wz_X0 rfl rfl hd_X0_madeIn ⟨by decide, by decide⟩ 2 rfl rfl rfl rfl (Nat.le_of_ble_eq_true rfl) (by decide) dX8_row_65 ?_
      cases hf
      exact absurd rfl hne
    have hf := kb_ife hf c2_2
    by_cases c2_3 : x2 = (3 : Int32)
    · have hf := kb_ift hf c2_3
      refine kj_tabIn (pc := 6) 69 C dX8_row_6 (by rw [c2_3]; decide) (by rw [c2_3]; decide) (by rw [c2_3]; rfl) (by decide) ?_
      refine kj_aload_n (pc := 69) C 0 dX8_row_69 rfl rfl ?_
      refine kg_X8_fabric (pc := 70) C wf_X8_22 dX8_row_70 ?_
      refine kj_iload_n (pc := 73) C 1 dX8_row_73 rfl rfl ?_
      obtain ⟨q3, hq3, hf⟩ := kb_bd hf
      refine kj_callV0 (pc := 74) (as := [.int x1]) (rest := []) (b := (a 2)) C (ct_X0_madeIn l V A x1 a σ sh ex hq3) wd_X0_madeIn wk_X8_142 wi_X0_madeIn ws_X0_madeIn wz_X0 rfl rfl hd_X0_madeIn ⟨by decide, by decide⟩ 2 rfl rfl rfl rfl (Nat.le_of_ble_eq_true rfl) (by decide) dX8_row_74 ?_
      cases hf
      exact absurd rfl hne
    have hf := kb_ife hf c2_3
    by_cases c2_4 : x2 = (4 : Int32)
    · have hf := kb_ift hf c2_4
      refine kj_tabIn (pc := 6) 78 C dX8_row_6 (by rw [c2_4]; decide) (by rw [c2_4]; decide) (by rw [c2_4]; rfl) (by decide) ?_
      refine kj_aload_n (pc := 78) C 0 dX8_row_78 rfl rfl ?_
      refine kg_X8_fabric (pc := 79) C wf_X8_22 dX8_row_79 ?_
      refine kj_iload_n (pc := 82) C 1 dX8_row_82 rfl rfl ?_
      refine kj_iload_n (pc := 83) C 1 dX8_row_83 rfl rfl ?_
      obtain ⟨q3, hq3, hf⟩ := kb_bd hf
      refine kj_callV0 (pc := 84) (as := [.int x1, .int x1]) (rest := []) (b := (a 2)) C (ct_X0_boundIn l V A x1 x1 a σ sh ex hq3) wd_X0_boundIn wk_X8_145 wi_X0_boundIn ws_X0_boundIn wz_X0 rfl rfl hd_X0_boundIn ⟨by decide, by decide⟩ 2 rfl rfl rfl rfl (Nat.le_of_ble_eq_true rfl) (by decide) dX8_row_84 ?_
      cases hf
      exact absurd rfl hne
    have hf := kb_ife hf c2_4
    refine kj_tabOut (pc := 6) 88 C dX8_row_6 (kb_out (fun z h1 h2 => by
      have hz : z = 0 ∨ z = 1 ∨ z = 2 ∨ z = 3 ∨ z = 4 := by omega
      rcases hz with rfl | rfl | rfl | rfl | rfl
      · exact c2_0
      · exact c2_1
      · exact c2_2
      · exact c2_3
      · exact c2_4)) (by decide) ?_
    cases hf
    exact kj_throw (pc := 88) (cls := "java/lang/IllegalArgumentException") (text := "no such what") (names := ["java/lang/RuntimeException", "java/lang/Exception"]) (ik := 48) (is := 113) (ic := 52) (sa := 75) C hl htb (by decide +kernel) (by decide +kernel) wq_X8_48 wz_IllegalArgumentException (by decide +kernel) (kb_hat1 C) kb_hgd1 dX8_row_88 dX8_row_91 dX8_row_92 dX8_row_94 dX8_row_97 (by decide) (Nat.le_of_ble_eq_true rfl) ⟨by decide, by decide⟩ (by decide) (by decide)
  · have hf := kb_ife hf cq1
    cases hf
    exact kj_callVX (pc := 2) (as := [.int x1]) (rest := []) (b := (a 0)) C htb (cx_X8_requireRow l V A x1 a σ sh ex hl hne hq1) wd_X8_requireRow wk_X8_125 wi_X8_requireRow ws_X8_requireRow wz_X8 rfl rfl hd_X8_requireRow ⟨by decide, by decide⟩ 0 rfl rfl rfl rfl (Nat.le_of_ble_eq_true rfl) ⟨by decide, by decide⟩ dX8_row_2 (by decide) (by decide)
def fn_X8_ladder  (x1 : Int32) (σ : kb_S) : Option ((Nat × Int32)) :=
  if 0 ≤ (fn_X0_needleLoop x1 σ) then
    (fn_X0_ladderLength (fn_X0_needleLoop x1 σ) σ).bind fun q2 =>
    some (0, q2)
  else
    some (1, 0)
theorem fe_X8_ladder  (x1 : Int32) (σ : kb_S) : fn_X8_ladder  x1 σ =
  if 0 ≤ (fn_X0_needleLoop x1 σ) then
    (fn_X0_ladderLength (fn_X0_needleLoop x1 σ) σ).bind fun q2 =>
    some (0, q2)
  else
    some (1, 0) := rfl
theorem hd_X8_ladder : yX8_ladder.cls = RX8 ∧ yX8_ladder.cls ≠ "java/lang/invoke/MethodHandle" ∧ yX8_ladder.cls ≠ "java/lang/invoke/VarHandle" ∧ (parseMethodDescriptor yX8_ladder.desc).map (fun d => d.parameters.length) = some 1 := by decide +kernel
set_option maxRecDepth 100000 in
set_option maxHeartbeats 4000000 in
theorem ct_X8_ladder (l : Launch) (V : kb_V) (A : Nat → Prop)  (x1 : Int32) (a : Nat → Nat) (σ : kb_S) (sh : Value) (ex : va_W) {r : Int32} (hf : fn_X8_ladder  x1 σ = some (0, r)) : kb_T l yX8_ladder cX8_ladder 3 (some .int) ({ frames := 4, cells := 0, slots := 0, locals := 87 } : Room) V A [.ref (a 0), .int x1] (kb_W V a σ sh ex) (some (.int r)) (kb_W V a σ sh ex) 0 0 := by
  refine kb_start (cc := cX8_ladder) (nL := 3) (ret := (some .int)) (own := RX8) (by decide) rfl (Nat.le_of_ble_eq_true rfl) ?_
  intro p e s m args below meth c C
  refine kj_sub [0, 1] (L2 := [(0, .ref (a 0)), (1, .int x1)]) rfl ?_
  rw [fe_X8_ladder] at hf
  refine kj_aload_n (pc := 0) C 0 dX8_ladder_0 rfl rfl ?_
  refine kg_X8_fabric (pc := 1) C wf_X8_22 dX8_ladder_1 ?_
  refine kj_iload_n (pc := 4) C 1 dX8_ladder_4 rfl rfl ?_
  refine kj_callV0 (pc := 5) (as := [.int x1]) (rest := []) (b := (a 2)) C (ct_X0_needleLoop l V A x1 a σ sh ex rfl) wd_X0_needleLoop wk_X8_102 wi_X0_needleLoop ws_X0_needleLoop wz_X0 rfl rfl hd_X0_needleLoop ⟨by decide, by decide⟩ 2 rfl rfl rfl rfl (Nat.le_of_ble_eq_true rfl) (by decide) dX8_ladder_5 ?_
  refine kj_istore_n (pc := 8) C [1, 2, 0] (L2 := [(0, .ref (a 0)), (1, .int x1), (2, .int (fn_X0_needleLoop x1 σ))]) dX8_ladder_8 rfl (by decide) rfl ?_
  refine kj_iload_n (pc := 9) C 2 dX8_ladder_9 rfl rfl ?_
  refine kj_if_ge (pc := 10) 23 C dX8_ladder_10 (by decide) (fun c1 => ?_) (fun c1 => ?_)
  · have hf := kb_ift hf c1
    refine kj_aload_n (pc := 23) C 0 dX8_ladder_23 rfl rfl ?_
    refine kg_X8_fabric (pc := 24) C wf_X8_22 dX8_ladder_24 ?_
    refine kj_iload_n (pc := 27) C 2 dX8_ladder_27 rfl rfl ?_
    obtain ⟨q2, hq2, hf⟩ := kb_bd hf
    refine kj_callV0 (pc := 28) (as := [.int (fn_X0_needleLoop x1 σ)]) (rest := []) (b := (a 2)) C (ct_X0_ladderLength l V A (fn_X0_needleLoop x1 σ) a σ sh ex hq2) wd_X0_ladderLength wk_X8_160 wi_X0_ladderLength ws_X0_ladderLength wz_X0 rfl rfl hd_X0_ladderLength ⟨by decide, by decide⟩ 2 rfl rfl rfl rfl (Nat.le_of_ble_eq_true rfl) (by decide) dX8_ladder_28 ?_
    cases hf
    exact kj_iret (pc := 31) C dX8_ladder_31
  · have hf := kb_ife hf c1
    cases hf
set_option maxRecDepth 100000 in
set_option maxHeartbeats 4000000 in
theorem cx_X8_ladder (l : Launch) (V : kb_V) (A : Nat → Prop) (x1 : Int32) (a : Nat → Nat) (σ : kb_S) (sh : Value) (ex : va_W) {r : Int32} {ec : Nat} (hl : l.stackTraces = false) (hne : ¬ ec = 0) (hf : fn_X8_ladder x1 σ = some (ec, r)) : kb_TX l yX8_ladder cX8_ladder 3 (some .int) ({ frames := 9, cells := 1, slots := 6, locals := 200 } : Room) V A [.ref (a 0), .int x1] (kb_W V a σ sh ex) (kb_EN ec) (kb_W V a σ sh ex) 1 6 := by
  refine kb_startX (cc := cX8_ladder) (nL := 3) (ret := (some .int)) (own := RX8) (by decide) rfl (Nat.le_of_ble_eq_true rfl) ?_
  intro p e s m args below meth c C htb
  refine kj_sub [0, 1] (L2 := [(0, .ref (a 0)), (1, .int x1)]) rfl ?_
  rw [fe_X8_ladder] at hf
  refine kj_aload_n (pc := 0) C 0 dX8_ladder_0 rfl rfl ?_
  refine kg_X8_fabric (pc := 1) C wf_X8_22 dX8_ladder_1 ?_
  refine kj_iload_n (pc := 4) C 1 dX8_ladder_4 rfl rfl ?_
  refine kj_callV0 (pc := 5) (as := [.int x1]) (rest := []) (b := (a 2)) C (ct_X0_needleLoop l V A x1 a σ sh ex rfl) wd_X0_needleLoop wk_X8_102 wi_X0_needleLoop ws_X0_needleLoop wz_X0 rfl rfl hd_X0_needleLoop ⟨by decide, by decide⟩ 2 rfl rfl rfl rfl (Nat.le_of_ble_eq_true rfl) (by decide) dX8_ladder_5 ?_
  refine kj_istore_n (pc := 8) C [1, 2, 0] (L2 := [(0, .ref (a 0)), (1, .int x1), (2, .int (fn_X0_needleLoop x1 σ))]) dX8_ladder_8 rfl (by decide) rfl ?_
  refine kj_iload_n (pc := 9) C 2 dX8_ladder_9 rfl rfl ?_
  refine kj_if_ge (pc := 10) 23 C dX8_ladder_10 (by decide) (fun c1 => ?_) (fun c1 => ?_)
  · have hf := kb_ift hf c1
    refine kj_aload_n (pc := 23) C 0 dX8_ladder_23 rfl rfl ?_
    refine kg_X8_fabric (pc := 24) C wf_X8_22 dX8_ladder_24 ?_
    refine kj_iload_n (pc := 27) C 2 dX8_ladder_27 rfl rfl ?_
    obtain ⟨q2, hq2, hf⟩ := kb_bd hf
    refine kj_callV0 (pc := 28) (as := [.int (fn_X0_needleLoop x1 σ)]) (rest := []) (b := (a 2)) C (ct_X0_ladderLength l V A (fn_X0_needleLoop x1 σ) a σ sh ex hq2) wd_X0_ladderLength wk_X8_160 wi_X0_ladderLength ws_X0_ladderLength wz_X0 rfl rfl hd_X0_ladderLength ⟨by decide, by decide⟩ 2 rfl rfl rfl rfl (Nat.le_of_ble_eq_true rfl) (by decide) dX8_ladder_28 ?_
    cases hf
    exact absurd rfl hne
  · have hf := kb_ife hf c1
    cases hf
    exact kj_throw (pc := 13) (cls := "java/lang/IllegalArgumentException") (text := "no loop at this place") (names := ["java/lang/RuntimeException", "java/lang/Exception"]) (ik := 48) (is := 158) (ic := 52) (sa := 79) C hl htb (by decide +kernel) (by decide +kernel) wq_X8_48 wz_IllegalArgumentException (by decide +kernel) (kb_hat1 C) kb_hgd1 dX8_ladder_13 dX8_ladder_16 dX8_ladder_17 dX8_ladder_19 dX8_ladder_22 (by decide) (Nat.le_of_ble_eq_true rfl) ⟨by decide, by decide⟩ (by decide) (by decide)
def fn_X8_total  (x1 : Int32) (σ : kb_S) : Option ((Nat × Int32)) :=
  (fn_X0_loopCount  σ).bind fun q1 =>
  (fn_X0_boundIn (1 : Int32) (fn_X0_rowCount  σ) σ).bind fun q2 =>
  if x1 = (0 : Int32) then
    some (0, q1)
  else if x1 = (1 : Int32) then
    some (0, (fn_X0_liveCount  σ))
  else if x1 = (2 : Int32) then
    some (0, ((q1 - (fn_X0_liveCount  σ)) - q2))
  else if x1 = (3 : Int32) then
    some (0, q2)
  else
    some (1, 0)
theorem fe_X8_total  (x1 : Int32) (σ : kb_S) : fn_X8_total  x1 σ =
  (fn_X0_loopCount  σ).bind fun q1 =>
  (fn_X0_boundIn (1 : Int32) (fn_X0_rowCount  σ) σ).bind fun q2 =>
  if x1 = (0 : Int32) then
    some (0, q1)
  else if x1 = (1 : Int32) then
    some (0, (fn_X0_liveCount  σ))
  else if x1 = (2 : Int32) then
    some (0, ((q1 - (fn_X0_liveCount  σ)) - q2))
  else if x1 = (3 : Int32) then
    some (0, q2)
  else
    some (1, 0) := rfl
theorem hd_X8_total : yX8_total.cls = RX8 ∧ yX8_total.cls ≠ "java/lang/invoke/MethodHandle" ∧ yX8_total.cls ≠ "java/lang/invoke/VarHandle" ∧ (parseMethodDescriptor yX8_total.desc).map (fun d => d.parameters.length) = some 1 := by decide +kernel
set_option maxRecDepth 100000 in
set_option maxHeartbeats 4000000 in
theorem ct_X8_total (l : Launch) (V : kb_V) (A : Nat → Prop)  (x1 : Int32) (a : Nat → Nat) (σ : kb_S) (sh : Value) (ex : va_W) {r : Int32} (hf : fn_X8_total  x1 σ = some (0, r)) : kb_T l yX8_total cX8_total 5 (some .int) ({ frames := 2, cells := 0, slots := 0, locals := 45 } : Room) V A [.ref (a 0), .int x1] (kb_W V a σ sh ex) (some (.int r)) (kb_W V a σ sh ex) 0 0 := by
  refine kb_start (cc := cX8_total) (nL := 5) (ret := (some .int)) (own := RX8) (by decide) rfl (Nat.le_of_ble_eq_true rfl) ?_
  intro p e s m args below meth c C
  refine kj_sub [0, 1] (L2 := [(0, .ref (a 0)), (1, .int x1)]) rfl ?_
  rw [fe_X8_total] at hf
  refine kj_aload_n (pc := 0) C 0 dX8_total_0 rfl rfl ?_
  refine kg_X8_fabric (pc := 1) C wf_X8_22 dX8_total_1 ?_
  obtain ⟨q1, hq1, hf⟩ := kb_bd hf
  refine kj_callV0 (pc := 4) (as := []) (rest := []) (b := (a 2)) C (ct_X0_loopCount l V A  a σ sh ex hq1) wd_X0_loopCount wk_X8_163 wi_X0_loopCount ws_X0_loopCount wz_X0 rfl rfl hd_X0_loopCount ⟨by decide, by decide⟩ 2 rfl rfl rfl rfl (Nat.le_of_ble_eq_true rfl) (by decide) dX8_total_4 ?_
  refine kj_istore_n (pc := 7) C [1, 2, 0] (L2 := [(0, .ref (a 0)), (1, .int x1), (2, .int q1)]) dX8_total_7 rfl (by decide) rfl ?_
  refine kj_aload_n (pc := 8) C 0 dX8_total_8 rfl rfl ?_
  refine kg_X8_fabric (pc := 9) C wf_X8_22 dX8_total_9 ?_
  refine kj_callV0 (pc := 12) (as := []) (rest := []) (b := (a 2)) C (ct_X0_liveCount l V A  a σ sh ex rfl) wd_X0_liveCount wk_X8_166 wi_X0_liveCount ws_X0_liveCount wz_X0 rfl rfl hd_X0_liveCount ⟨by decide, by decide⟩ 2 rfl rfl rfl rfl (Nat.le_of_ble_eq_true rfl) (by decide) dX8_total_12 ?_
  refine kj_istore_n (pc := 15) C [1, 2, 3, 0] (L2 := [(0, .ref (a 0)), (1, .int x1), (2, .int q1), (3, .int (fn_X0_liveCount  σ))]) dX8_total_15 rfl (by decide) rfl ?_
  refine kj_aload_n (pc := 16) C 0 dX8_total_16 rfl rfl ?_
  refine kg_X8_fabric (pc := 17) C wf_X8_22 dX8_total_17 ?_
  refine kj_iconst (pc := 20) (v := (1 : Int32)) C dX8_total_20 (by decide) ?_
  refine kj_aload_n (pc := 21) C 0 dX8_total_21 rfl rfl ?_
  refine kg_X8_fabric (pc := 22) C wf_X8_22 dX8_total_22 ?_
  refine kj_callV0 (pc := 25) (as := []) (rest := [.int (1 : Int32), .ref (a 2)]) (b := (a 2)) C (ct_X0_rowCount l V A  a σ sh ex rfl) wd_X0_rowCount wk_X8_93 wi_X0_rowCount ws_X0_rowCount wz_X0 rfl rfl hd_X0_rowCount ⟨by decide, by decide⟩ 2 rfl rfl rfl rfl (Nat.le_of_ble_eq_true rfl) (by decide) dX8_total_25 ?_
  obtain ⟨q2, hq2, hf⟩ := kb_bd hf
  refine kj_callV0 (pc := 28) (as := [.int (1 : Int32), .int (fn_X0_rowCount  σ)]) (rest := []) (b := (a 2)) C (ct_X0_boundIn l V A (1 : Int32) (fn_X0_rowCount  σ) a σ sh ex hq2) wd_X0_boundIn wk_X8_145 wi_X0_boundIn ws_X0_boundIn wz_X0 rfl rfl hd_X0_boundIn ⟨by decide, by decide⟩ 2 rfl rfl rfl rfl (Nat.le_of_ble_eq_true rfl) (by decide) dX8_total_28 ?_
  refine kj_istore (pc := 31) C [1, 2, 3, 4, 0] (L2 := [(0, .ref (a 0)), (1, .int x1), (2, .int q1), (3, .int (fn_X0_liveCount  σ)), (4, .int q2)]) dX8_total_31 (by decide) rfl ?_
  refine kj_iload_n (pc := 33) C 1 dX8_total_33 rfl rfl ?_
  by_cases c3_0 : x1 = (0 : Int32)
  · have hf := kb_ift hf c3_0
    refine kj_tabIn (pc := 34) 64 C dX8_total_34 (by rw [c3_0]; decide) (by rw [c3_0]; decide) (by rw [c3_0]; rfl) (by decide) ?_
    refine kj_iload_n (pc := 64) C 2 dX8_total_64 rfl rfl ?_
    cases hf
    exact kj_iret (pc := 65) C dX8_total_65
  have hf := kb_ife hf c3_0
  by_cases c3_1 : x1 = (1 : Int32)
  · have hf := kb_ift hf c3_1
    refine kj_tabIn (pc := 34) 66 C dX8_total_34 (by rw [c3_1]; decide) (by rw [c3_1]; decide) (by rw [c3_1]; rfl) (by decide) ?_
    refine kj_iload_n (pc := 66) C 3 dX8_total_66 rfl rfl ?_
    cases hf
    exact kj_iret (pc := 67) C dX8_total_67
  have hf := kb_ife hf c3_1
  by_cases c3_2 : x1 = (2 : Int32)
  · have hf := kb_ift hf c3_2
    refine kj_tabIn (pc := 34) 68 C dX8_total_34 (by rw [c3_2]; decide) (by rw [c3_2]; decide) (by rw [c3_2]; rfl) (by decide) ?_
    refine kj_iload_n (pc := 68) C 2 dX8_total_68 rfl rfl ?_
    refine kj_iload_n (pc := 69) C 3 dX8_total_69 rfl rfl ?_
    refine kj_isub (pc := 70) C dX8_total_70 ?_
    refine kj_iload (pc := 71) C 4 dX8_total_71 rfl ?_
    refine kj_isub (pc := 73) C dX8_total_73 ?_
    cases hf
    exact kj_iret (pc := 74) C dX8_total_74
  have hf := kb_ife hf c3_2
  by_cases c3_3 : x1 = (3 : Int32)
  · have hf := kb_ift hf c3_3
    refine kj_tabIn (pc := 34) 75 C dX8_total_34 (by rw [c3_3]; decide) (by rw [c3_3]; decide) (by rw [c3_3]; rfl) (by decide) ?_
    refine kj_iload (pc := 75) C 4 dX8_total_75 rfl ?_
    cases hf
    exact kj_iret (pc := 77) C dX8_total_77
  have hf := kb_ife hf c3_3
  refine kj_tabOut (pc := 34) 78 C dX8_total_34 (kb_out (fun z h1 h2 => by
    have hz : z = 0 ∨ z = 1 ∨ z = 2 ∨ z = 3 := by omega
    rcases hz with rfl | rfl | rfl | rfl
    · exact c3_0
    · exact c3_1
    · exact c3_2
    · exact c3_3)) (by decide) ?_
  cases hf
set_option maxRecDepth 100000 in
set_option maxHeartbeats 4000000 in
theorem cx_X8_total (l : Launch) (V : kb_V) (A : Nat → Prop) (x1 : Int32) (a : Nat → Nat) (σ : kb_S) (sh : Value) (ex : va_W) {r : Int32} {ec : Nat} (hl : l.stackTraces = false) (hne : ¬ ec = 0) (hf : fn_X8_total x1 σ = some (ec, r)) : kb_TX l yX8_total cX8_total 5 (some .int) ({ frames := 9, cells := 1, slots := 6, locals := 200 } : Room) V A [.ref (a 0), .int x1] (kb_W V a σ sh ex) (kb_EN ec) (kb_W V a σ sh ex) 1 6 := by
  refine kb_startX (cc := cX8_total) (nL := 5) (ret := (some .int)) (own := RX8) (by decide) rfl (Nat.le_of_ble_eq_true rfl) ?_
  intro p e s m args below meth c C htb
  refine kj_sub [0, 1] (L2 := [(0, .ref (a 0)), (1, .int x1)]) rfl ?_
  rw [fe_X8_total] at hf
  refine kj_aload_n (pc := 0) C 0 dX8_total_0 rfl rfl ?_
  refine kg_X8_fabric (pc := 1) C wf_X8_22 dX8_total_1 ?_
  obtain ⟨q1, hq1, hf⟩ := kb_bd hf
  refine kj_callV0 (pc := 4) (as := []) (rest := []) (b := (a 2)) C (ct_X0_loopCount l V A  a σ sh ex hq1) wd_X0_loopCount wk_X8_163 wi_X0_loopCount ws_X0_loopCount wz_X0 rfl rfl hd_X0_loopCount ⟨by decide, by decide⟩ 2 rfl rfl rfl rfl (Nat.le_of_ble_eq_true rfl) (by decide) dX8_total_4 ?_
  refine kj_istore_n (pc := 7) C [1, 2, 0] (L2 := [(0, .ref (a 0)), (1, .int x1), (2, .int q1)]) dX8_total_7 rfl (by decide) rfl ?_
  refine kj_aload_n (pc := 8) C 0 dX8_total_8 rfl rfl ?_
  refine kg_X8_fabric (pc := 9) C wf_X8_22 dX8_total_9 ?_
  refine kj_callV0 (pc := 12) (as := []) (rest := []) (b := (a 2)) C (ct_X0_liveCount l V A  a σ sh ex rfl) wd_X0_liveCount wk_X8_166 wi_X0_liveCount ws_X0_liveCount wz_X0 rfl rfl hd_X0_liveCount ⟨by decide, by decide⟩ 2 rfl rfl rfl rfl (Nat.le_of_ble_eq_true rfl) (by decide) dX8_total_12 ?_
  refine kj_istore_n (pc := 15) C [1, 2, 3, 0] (L2 := [(0, .ref (a 0)), (1, .int x1), (2, .int q1), (3, .int (fn_X0_liveCount  σ))]) dX8_total_15 rfl (by decide) rfl ?_
  refine kj_aload_n (pc := 16) C 0 dX8_total_16 rfl rfl ?_
  refine kg_X8_fabric (pc := 17) C wf_X8_22 dX8_total_17 ?_
  refine kj_iconst (pc := 20) (v := (1 : Int32)) C dX8_total_20 (by decide) ?_
  refine kj_aload_n (pc := 21) C 0 dX8_total_21 rfl rfl ?_
  refine kg_X8_fabric (pc := 22) C wf_X8_22 dX8_total_22 ?_
  refine kj_callV0 (pc := 25) (as := []) (rest := [.int (1 : Int32), .ref (a 2)]) (b := (a 2)) C (ct_X0_rowCount l V A  a σ sh ex rfl) wd_X0_rowCount wk_X8_93 wi_X0_rowCount ws_X0_rowCount wz_X0 rfl rfl hd_X0_rowCount ⟨by decide, by decide⟩ 2 rfl rfl rfl rfl (Nat.le_of_ble_eq_true rfl) (by decide) dX8_total_25 ?_
  obtain ⟨q2, hq2, hf⟩ := kb_bd hf
  refine kj_callV0 (pc := 28) (as := [.int (1 : Int32), .int (fn_X0_rowCount  σ)]) (rest := []) (b := (a 2)) C (ct_X0_boundIn l V A (1 : Int32) (fn_X0_rowCount  σ) a σ sh ex hq2) wd_X0_boundIn wk_X8_145 wi_X0_boundIn ws_X0_boundIn wz_X0 rfl rfl hd_X0_boundIn ⟨by decide, by decide⟩ 2 rfl rfl rfl rfl (Nat.le_of_ble_eq_true rfl) (by decide) dX8_total_28 ?_
  refine kj_istore (pc := 31) C [1, 2, 3, 4, 0] (L2 := [(0, .ref (a 0)), (1, .int x1), (2, .int q1), (3, .int (fn_X0_liveCount  σ)), (4, .int q2)]) dX8_total_31 (by decide) rfl ?_
  refine kj_iload_n (pc := 33) C 1 dX8_total_33 rfl rfl ?_
  by_cases c3_0 : x1 = (0 : Int32)
  · have hf := kb_ift hf c3_0
    refine kj_tabIn (pc := 34) 64 C dX8_total_34 (by rw [c3_0]; decide) (by rw [c3_0]; decide) (by rw [c3_0]; rfl) (by decide) ?_
    refine kj_iload_n (pc := 64) C 2 dX8_total_64 rfl rfl ?_
    cases hf
    exact absurd rfl hne
  have hf := kb_ife hf c3_0
  by_cases c3_1 : x1 = (1 : Int32)
  · have hf := kb_ift hf c3_1
    refine kj_tabIn (pc := 34) 66 C dX8_total_34 (by rw [c3_1]; decide) (by rw [c3_1]; decide) (by rw [c3_1]; rfl) (by decide) ?_
    refine kj_iload_n (pc := 66) C 3 dX8_total_66 rfl rfl ?_
    cases hf
    exact absurd rfl hne
  have hf := kb_ife hf c3_1
  by_cases c3_2 : x1 = (2 : Int32)
  · have hf := kb_ift hf c3_2
    refine kj_tabIn (pc := 34) 68 C dX8_total_34 (by rw [c3_2]; decide) (by rw [c3_2]; decide) (by rw [c3_2]; rfl) (by decide) ?_
    refine kj_iload_n (pc := 68) C 2 dX8_total_68 rfl rfl ?_
    refine kj_iload_n (pc := 69) C 3 dX8_total_69 rfl rfl ?_
    refine kj_isub (pc := 70) C dX8_total_70 ?_
    refine kj_iload (pc := 71) C 4 dX8_total_71 rfl ?_
    refine kj_isub (pc := 73) C dX8_total_73 ?_
    cases hf
    exact absurd rfl hne
  have hf := kb_ife hf c3_2
  by_cases c3_3 : x1 = (3 : Int32)
  · have hf := kb_ift hf c3_3
    refine kj_tabIn (pc := 34) 75 C dX8_total_34 (by rw [c3_3]; decide) (by rw [c3_3]; decide) (by rw [c3_3]; rfl) (by decide) ?_
    refine kj_iload (pc := 75) C 4 dX8_total_75 rfl ?_
    cases hf
    exact absurd rfl hne
  have hf := kb_ife hf c3_3
  refine kj_tabOut (pc := 34) 78 C dX8_total_34 (kb_out (fun z h1 h2 => by
    have hz : z = 0 ∨ z = 1 ∨ z = 2 ∨ z = 3 := by omega
    rcases hz with rfl | rfl | rfl | rfl
    · exact c3_0
    · exact c3_1
    · exact c3_2
    · exact c3_3)) (by decide) ?_
  cases hf
  exact kj_throw (pc := 78) (cls := "java/lang/IllegalArgumentException") (text := "no such what") (names := ["java/lang/RuntimeException", "java/lang/Exception"]) (ik := 48) (is := 113) (ic := 52) (sa := 75) C hl htb (by decide +kernel) (by decide +kernel) wq_X8_48 wz_IllegalArgumentException (by decide +kernel) (kb_hat1 C) kb_hgd1 dX8_total_78 dX8_total_81 dX8_total_82 dX8_total_84 dX8_total_87 (by decide) (Nat.le_of_ble_eq_true rfl) ⟨by decide, by decide⟩ (by decide) (by decide)
