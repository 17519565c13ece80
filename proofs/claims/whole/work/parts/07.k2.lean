def fp_X2_enter_14   (x1 : Int32) (σ : kb_S) : Option (kb_S × Int32) :=
  (fn_X3_link x1 σ).bind fun q1 =>
  some (σ, (q1 + (1 : Int32)))
theorem fp_X2_enter_14_e   (x1 : Int32) (σ : kb_S) : fp_X2_enter_14  x1 σ =
  (fn_X3_link x1 σ).bind fun q1 =>
  some (σ, (q1 + (1 : Int32))) := rfl
def fn_X2_enter  (x1 : Int32) (x2 : Int64) (σ : kb_S) : Option (kb_S × Int32) :=
  if (lg_cmp x2 (0 : Int64)) ≤ 0 then
    fp_X2_enter_14   x1 σ
  else
    if (kb_g σ 14) < (4 : Int32) then
      if kb_in ((kb_g σ 14) + (1 : Int32)) 5 = true then
        some ((kb_bp (kb_p σ 14 ((kb_g σ 14) + (1 : Int32))) 1 ((kb_g σ 14) + (1 : Int32)).toNatClampNeg x2), (x1 + (1 : Int32)))
      else none
    else
      fp_X2_enter_14   x1 σ
theorem fe_X2_enter  (x1 : Int32) (x2 : Int64) (σ : kb_S) : fn_X2_enter  x1 x2 σ =
  if (lg_cmp x2 (0 : Int64)) ≤ 0 then
    fp_X2_enter_14   x1 σ
  else
    if (kb_g σ 14) < (4 : Int32) then
      if kb_in ((kb_g σ 14) + (1 : Int32)) 5 = true then
        some ((kb_bp (kb_p σ 14 ((kb_g σ 14) + (1 : Int32))) 1 ((kb_g σ 14) + (1 : Int32)).toNatClampNeg x2), (x1 + (1 : Int32)))
      else none
    else
      fp_X2_enter_14   x1 σ := rfl
theorem hd_X2_enter : yX2_enter.cls = RX2 ∧ yX2_enter.cls ≠ "java/lang/invoke/MethodHandle" ∧ yX2_enter.cls ≠ "java/lang/invoke/VarHandle" ∧ (parseMethodDescriptor yX2_enter.desc).map (fun d => d.parameters.length) = some 2 := by decide +kernel
set_option maxRecDepth 100000 in
set_option maxHeartbeats 4000000 in
theorem ct_X2_enter (l : Launch) (V : kb_V) (A : Nat → Prop)  (x1 : Int32) (x2 : Int64) (a : Nat → Nat) (σ : kb_S) (sh : Value) (ex : va_W) {σ9 : kb_S} {r : Int32} (hf : fn_X2_enter  x1 x2 σ = some (σ9, r)) : kb_T l yX2_enter cX2_enter 4 (some .int) ({ frames := 2, cells := 0, slots := 0, locals := 42 } : Room) V A [.ref (a 4), .int x1, .long x2] (kb_W V a σ sh ex) (some (.int r)) (kb_W V a σ9 sh ex) 0 0 := by
  refine kb_start (cc := cX2_enter) (nL := 4) (ret := (some .int)) (own := RX2) (by decide) rfl (Nat.le_of_ble_eq_true rfl) ?_
  intro p e s m args below meth c C
  have hp14 : ∀ (x1 : Int32) (σ : kb_S), fp_X2_enter_14   x1 σ = some (σ9, r) → kb_J p l e ({ frames := 2, cells := 0, slots := 0, locals := 42 } : Room) s m args below meth c 4 V A 0 0 (MQ below (kb_post V A (some (.int r)) (kb_W V a σ9 sh ex)) args s 0 0 A) 14 [(0, .ref (a 4)), (1, .int x1)] [] (kb_W V a σ sh ex) := by
    intro x1 σ hf
    rw [fp_X2_enter_14_e] at hf
    refine kj_aload_n (pc := 14) C 0 dX2_enter_14 rfl rfl ?_
    refine kg_X2_plan (pc := 15) C wf_X2_15 dX2_enter_15 ?_
    refine kj_iload_n (pc := 18) C 1 dX2_enter_18 rfl rfl ?_
    obtain ⟨q1, hq1, hf⟩ := kb_bd hf
    refine kj_callV0 (pc := 19) (as := [.int x1]) (rest := []) (b := (a 5)) C (ct_X3_link l V A x1 a σ sh ex hq1) wd_X3_link wk_X2_86 wi_X3_link ws_X3_link wz_X3 rfl rfl hd_X3_link ⟨by decide, by decide⟩ 5 rfl rfl rfl rfl (Nat.le_of_ble_eq_true rfl) (by decide) dX2_enter_19 ?_
    refine kj_iconst (pc := 22) (v := (1 : Int32)) C dX2_enter_22 (by decide) ?_
    refine kj_iadd (pc := 23) C dX2_enter_23 ?_
    cases hf
    exact kj_iret (pc := 24) C dX2_enter_24
  refine kj_sub [0, 1, 2] (L2 := [(0, .ref (a 4)), (1, .int x1), (2, .long x2)]) rfl ?_
  rw [fe_X2_enter] at hf
  refine kj_lload_n (pc := 0) C 2 dX2_enter_0 rfl rfl ?_
  refine kj_lconst (pc := 1) (v := (0 : Int64)) C dX2_enter_1 (by decide) ?_
  refine kj_lcmp (pc := 2) C dX2_enter_2 ?_
  refine kj_if_le (pc := 3) 14 C dX2_enter_3 (by decide) (fun c1 => ?_) (fun c1 => ?_)
  · have hf := kb_ift hf c1
    refine kj_sub [0, 1] (L2 := [(0, .ref (a 4)), (1, .int x1)]) rfl ?_
    exact hp14 x1 σ hf
  · have hf := kb_ife hf c1
    refine kj_aload_n (pc := 6) C 0 dX2_enter_6 rfl rfl ?_
    refine kg_X2_depth (pc := 7) (v := (kb_g σ 14)) C wf_X2_23 dX2_enter_7 rfl ?_
    refine kj_iconst (pc := 10) (v := (4 : Int32)) C dX2_enter_10 (by decide) ?_
    refine kj_icmp_lt (pc := 11) 25 C dX2_enter_11 (by decide) (fun c2 => ?_) (fun c2 => ?_)
    · have hf := kb_ift hf c2
      refine kj_aload_n (pc := 25) C 0 dX2_enter_25 rfl rfl ?_
      refine kj_dup (pc := 26) C dX2_enter_26 rfl ?_
      refine kg_X2_depth (pc := 27) (v := (kb_g σ 14)) C wf_X2_23 dX2_enter_27 rfl ?_
      refine kj_iconst (pc := 30) (v := (1 : Int32)) C dX2_enter_30 (by decide) ?_
      refine kj_iadd (pc := 31) C dX2_enter_31 ?_
      refine kp_X2_depth (pc := 32) C wf_X2_23 dX2_enter_32 ?_
      refine kj_aload_n (pc := 35) C 0 dX2_enter_35 rfl rfl ?_
      refine kg_X2_runsLeft (pc := 36) C wf_X2_9 dX2_enter_36 ?_
      refine kj_aload_n (pc := 39) C 0 dX2_enter_39 rfl rfl ?_
      refine kg_X2_depth (pc := 40) (v := ((kb_g σ 14) + (1 : Int32))) C wf_X2_23 dX2_enter_40 rfl ?_
      refine kj_lload_n (pc := 43) C 2 dX2_enter_43 rfl rfl ?_
      obtain ⟨g3, hf⟩ := kb_gd hf
      refine ks_X2_runsLeft (pc := 44) C g3 dX2_enter_44 ?_
      refine kj_iload_n (pc := 45) C 1 dX2_enter_45 rfl rfl ?_
      refine kj_iconst (pc := 46) (v := (1 : Int32)) C dX2_enter_46 (by decide) ?_
      refine kj_iadd (pc := 47) C dX2_enter_47 ?_
      cases hf
      exact kj_iret (pc := 48) C dX2_enter_48
    · have hf := kb_ife hf c2
      refine kj_sub [0, 1] (L2 := [(0, .ref (a 4)), (1, .int x1)]) rfl ?_
      exact hp14 x1 σ hf
def fn_X2_note  (x1 : Int32) (x2 : Int32) (σ : kb_S) : Option (kb_S) :=
  if x1 = 0 then
    some σ
  else
    some (kb_p σ 15 (fn_X1_answer x1 x2))
theorem fe_X2_note  (x1 : Int32) (x2 : Int32) (σ : kb_S) : fn_X2_note  x1 x2 σ =
  if x1 = 0 then
    some σ
  else
    some (kb_p σ 15 (fn_X1_answer x1 x2)) := rfl
theorem hd_X2_note : yX2_note.cls = RX2 ∧ yX2_note.cls ≠ "java/lang/invoke/MethodHandle" ∧ yX2_note.cls ≠ "java/lang/invoke/VarHandle" ∧ (parseMethodDescriptor yX2_note.desc).map (fun d => d.parameters.length) = some 2 := by decide +kernel
set_option maxRecDepth 100000 in
set_option maxHeartbeats 4000000 in
theorem ct_X2_note (l : Launch) (V : kb_V) (A : Nat → Prop)  (x1 : Int32) (x2 : Int32) (a : Nat → Nat) (σ : kb_S) (sh : Value) (ex : va_W) {σ9 : kb_S} (hf : fn_X2_note  x1 x2 σ = some σ9) : kb_T l yX2_note cX2_note 3 none ({ frames := 1, cells := 0, slots := 0, locals := 21 } : Room) V A [.ref (a 4), .int x1, .int x2] (kb_W V a σ sh ex) none (kb_W V a σ9 sh ex) 0 0 := by
  refine kb_start (cc := cX2_note) (nL := 3) (ret := none) (own := RX2) (by decide) rfl (Nat.le_of_ble_eq_true rfl) ?_
  intro p e s m args below meth c C
  refine kj_sub [0, 1, 2] (L2 := [(0, .ref (a 4)), (1, .int x1), (2, .int x2)]) rfl ?_
  rw [fe_X2_note] at hf
  refine kj_iload_n (pc := 0) C 1 dX2_note_0 rfl rfl ?_
  refine kj_if_eq (pc := 1) 13 C dX2_note_1 (by decide) (fun c1 => ?_) (fun c1 => ?_)
  · have hf := kb_ift hf c1
    cases hf
    exact kj_vret (pc := 13) C dX2_note_13
  · have hf := kb_ife hf c1
    refine kj_aload_n (pc := 4) C 0 dX2_note_4 rfl rfl ?_
    refine kj_iload_n (pc := 5) C 1 dX2_note_5 rfl rfl ?_
    refine kj_iload_n (pc := 6) C 2 dX2_note_6 rfl rfl ?_
    refine kj_callS0 (pc := 7) (as := [.int x1, .int x2]) (rest := [.ref (a 4)]) C (ct_X1_answer l V A x1 x2 (kb_W V a σ sh ex) rfl) wd_X1_answer wk_X2_61 wi_X1_answer wz_X1 rfl rfl hd_X1_answer ⟨by decide, by decide⟩ rfl (Nat.le_of_ble_eq_true rfl) (by decide) dX2_note_7 ?_
    refine kp_X2_fault (pc := 10) C wf_X2_29 dX2_note_10 ?_
    cases hf
    exact kj_vret (pc := 13) C dX2_note_13
def fp_X2_knitStitches_69  (kc21 : Int32 → Int32 → Int32 → Int32 → kb_S → Option (kb_S)) (x1 : Int32) (x2 : Int32) (x3 : Int32) (x4 : Int32) (σ : kb_S) : Option (kb_S) :=
  kc21 x1 x2 x3 (x4 + (1 : Int32)) σ
theorem fp_X2_knitStitches_69_e  (kc21 : Int32 → Int32 → Int32 → Int32 → kb_S → Option (kb_S)) (x1 : Int32) (x2 : Int32) (x3 : Int32) (x4 : Int32) (σ : kb_S) : fp_X2_knitStitches_69 kc21 x1 x2 x3 x4 σ =
  kc21 x1 x2 x3 (x4 + (1 : Int32)) σ := rfl
def fp_X2_knitStitches_21   : Nat → Int32 → Int32 → Int32 → Int32 → kb_S → Option (kb_S)
  | 0 => fun _ _ _ _ _ => none
  | nn + 1 => fun x1 x2 x3 x4 σ => 
  if x3 ≤ x4 then
    some σ
  else
    if (kb_g σ 15) = 0 then
      (fn_X0_faultOfStitch x2 σ).bind fun q3 =>
      (fn_X3_place x1 σ).bind fun q4 =>
      (fn_X2_note q3 q4 σ).bind fun q5 =>
      if (kb_g q5 15) = 0 then
        (fn_X0_addStitch x2 q5).bind fun q7 =>
        fp_X2_knitStitches_69  (fp_X2_knitStitches_21  nn) x1 x2 x3 x4 q7
      else
        fp_X2_knitStitches_69  (fp_X2_knitStitches_21  nn) x1 x2 x3 x4 q5
    else
      some σ
theorem fp_X2_knitStitches_21_s   (nn : Nat) (x1 : Int32) (x2 : Int32) (x3 : Int32) (x4 : Int32) (σ : kb_S) : fp_X2_knitStitches_21  (nn + 1) x1 x2 x3 x4 σ =
  if x3 ≤ x4 then
    some σ
  else
    if (kb_g σ 15) = 0 then
      (fn_X0_faultOfStitch x2 σ).bind fun q3 =>
      (fn_X3_place x1 σ).bind fun q4 =>
      (fn_X2_note q3 q4 σ).bind fun q5 =>
      if (kb_g q5 15) = 0 then
        (fn_X0_addStitch x2 q5).bind fun q7 =>
        fp_X2_knitStitches_69  (fp_X2_knitStitches_21  nn) x1 x2 x3 x4 q7
      else
        fp_X2_knitStitches_69  (fp_X2_knitStitches_21  nn) x1 x2 x3 x4 q5
    else
      some σ := rfl
def fn_X2_knitStitches  (x1 : Int32) (σ : kb_S) : Option (kb_S) :=
  (fn_X3_link x1 σ).bind fun q1 =>
  (fn_X3_count x1 σ).bind fun q2 =>
  fp_X2_knitStitches_21   kb_FU x1 q1 q2 (0 : Int32) σ
theorem fe_X2_knitStitches  (x1 : Int32) (σ : kb_S) : fn_X2_knitStitches  x1 σ =
  (fn_X3_link x1 σ).bind fun q1 =>
  (fn_X3_count x1 σ).bind fun q2 =>
  fp_X2_knitStitches_21   kb_FU x1 q1 q2 (0 : Int32) σ := rfl
theorem hd_X2_knitStitches : yX2_knitStitches.cls = RX2 ∧ yX2_knitStitches.cls ≠ "java/lang/invoke/MethodHandle" ∧ yX2_knitStitches.cls ≠ "java/lang/invoke/VarHandle" ∧ (parseMethodDescriptor yX2_knitStitches.desc).map (fun d => d.parameters.length) = some 1 := by decide +kernel
set_option maxRecDepth 100000 in
set_option maxHeartbeats 4000000 in
theorem ct_X2_knitStitches (l : Launch) (V : kb_V) (A : Nat → Prop)  (x1 : Int32) (a : Nat → Nat) (σ : kb_S) (sh : Value) (ex : va_W) {σ9 : kb_S} (hf : fn_X2_knitStitches  x1 σ = some σ9) : kb_T l yX2_knitStitches cX2_knitStitches 5 none ({ frames := 4, cells := 0, slots := 0, locals := 89 } : Room) V A [.ref (a 4), .int x1] (kb_W V a σ sh ex) none (kb_W V a σ9 sh ex) 0 0 := by
  refine kb_start (cc := cX2_knitStitches) (nL := 5) (ret := none) (own := RX2) (by decide) rfl (Nat.le_of_ble_eq_true rfl) ?_
  intro p e s m args below meth c C
  have hp21 : ∀ (nn : Nat) (x1 : Int32) (x2 : Int32) (x3 : Int32) (x4 : Int32) (σ : kb_S), fp_X2_knitStitches_21   nn x1 x2 x3 x4 σ = some σ9 → kb_J p l e ({ frames := 4, cells := 0, slots := 0, locals := 89 } : Room) s m args below meth c 5 V A 0 0 (MQ below (kb_post V A none (kb_W V a σ9 sh ex)) args s 0 0 A) 21 [(0, .ref (a 4)), (1, .int x1), (2, .int x2), (3, .int x3), (4, .int x4)] [] (kb_W V a σ sh ex) := by
    intro nn21
    induction nn21 with
    | zero => intro x1 x2 x3 x4 σ hf; exact kb_no hf
    | succ nn21 ih21 =>
      have hp69 : ∀ (x1 : Int32) (x2 : Int32) (x3 : Int32) (x4 : Int32) (σ : kb_S), fp_X2_knitStitches_69  (fp_X2_knitStitches_21   nn21) x1 x2 x3 x4 σ = some σ9 → kb_J p l e ({ frames := 4, cells := 0, slots := 0, locals := 89 } : Room) s m args below meth c 5 V A 0 0 (MQ below (kb_post V A none (kb_W V a σ9 sh ex)) args s 0 0 A) 69 [(0, .ref (a 4)), (1, .int x1), (2, .int x2), (3, .int x3), (4, .int x4)] [] (kb_W V a σ sh ex) := by
        intro x1 x2 x3 x4 σ hf
        rw [fp_X2_knitStitches_69_e] at hf
        refine kj_iinc (pc := 69) C 4 [1, 2, 3, 4, 0] (L2 := [(0, .ref (a 4)), (1, .int x1), (2, .int x2), (3, .int x3), (4, .int (x4 + (1 : Int32)))]) dX2_knitStitches_69 rfl rfl (by decide) rfl ?_
        refine kj_goto (pc := 72) 21 C dX2_knitStitches_72 (by decide) ?_
        exact ih21 x1 x2 x3 (x4 + (1 : Int32)) σ hf
      intro x1 x2 x3 x4 σ hf
      rw [fp_X2_knitStitches_21_s] at hf
      refine kj_iload (pc := 21) C 4 dX2_knitStitches_21 rfl ?_
      refine kj_iload_n (pc := 23) C 3 dX2_knitStitches_23 rfl rfl ?_
      refine kj_icmp_ge (pc := 24) 75 C dX2_knitStitches_24 (by decide) (fun c1 => ?_) (fun c1 => ?_)
      · have hf := kb_ift hf c1
        cases hf
        exact kj_vret (pc := 75) C dX2_knitStitches_75
      · have hf := kb_ife hf c1
        refine kj_aload_n (pc := 27) C 0 dX2_knitStitches_27 rfl rfl ?_
        refine kg_X2_fault (pc := 28) (v := (kb_g σ 15)) C wf_X2_29 dX2_knitStitches_28 rfl ?_
        refine kj_if_ne (pc := 31) 75 C dX2_knitStitches_31 (by decide) (fun c2 => ?_) (fun c2 => ?_)
        · have hf := kb_ife hf c2
          cases hf
          exact kj_vret (pc := 75) C dX2_knitStitches_75
        · have hf := kb_ift hf c2
          refine kj_aload_n (pc := 34) C 0 dX2_knitStitches_34 rfl rfl ?_
          refine kj_aload_n (pc := 35) C 0 dX2_knitStitches_35 rfl rfl ?_
          refine kg_X2_fabric (pc := 36) C wf_X2_19 dX2_knitStitches_36 ?_
          refine kj_iload_n (pc := 39) C 2 dX2_knitStitches_39 rfl rfl ?_
          obtain ⟨q3, hq3, hf⟩ := kb_bd hf
          refine kj_callV0 (pc := 40) (as := [.int x2]) (rest := [.ref (a 4)]) (b := (a 2)) C (ct_X0_faultOfStitch l V A x2 a σ sh ex hq3) wd_X0_faultOfStitch wk_X2_89 wi_X0_faultOfStitch ws_X0_faultOfStitch wz_X0 rfl rfl hd_X0_faultOfStitch ⟨by decide, by decide⟩ 2 rfl rfl rfl rfl (Nat.le_of_ble_eq_true rfl) (by decide) dX2_knitStitches_40 ?_
          refine kj_aload_n (pc := 43) C 0 dX2_knitStitches_43 rfl rfl ?_
          refine kg_X2_plan (pc := 44) C wf_X2_15 dX2_knitStitches_44 ?_
          refine kj_iload_n (pc := 47) C 1 dX2_knitStitches_47 rfl rfl ?_
          obtain ⟨q4, hq4, hf⟩ := kb_bd hf
          refine kj_callV0 (pc := 48) (as := [.int x1]) (rest := [.int q3, .ref (a 4)]) (b := (a 5)) C (ct_X3_place l V A x1 a σ sh ex hq4) wd_X3_place wk_X2_92 wi_X3_place ws_X3_place wz_X3 rfl rfl hd_X3_place ⟨by decide, by decide⟩ 5 rfl rfl rfl rfl (Nat.le_of_ble_eq_true rfl) (by decide) dX2_knitStitches_48 ?_
          obtain ⟨q5, hq5, hf⟩ := kb_bd hf
          refine kj_callV0 (pc := 51) (as := [.int q3, .int q4]) (rest := []) (b := (a 4)) C (ct_X2_note l V A q3 q4 a σ sh ex hq5) wd_X2_note wk_X2_51 wi_X2_note ws_X2_note wz_X2 rfl rfl hd_X2_note ⟨by decide, by decide⟩ 4 rfl rfl rfl rfl (Nat.le_of_ble_eq_true rfl) (by decide) dX2_knitStitches_51 ?_
          refine kj_aload_n (pc := 54) C 0 dX2_knitStitches_54 rfl rfl ?_
          refine kg_X2_fault (pc := 55) (v := (kb_g q5 15)) C wf_X2_29 dX2_knitStitches_55 rfl ?_
          refine kj_if_ne (pc := 58) 69 C dX2_knitStitches_58 (by decide) (fun c6 => ?_) (fun c6 => ?_)
          · have hf := kb_ife hf c6
            exact hp69 x1 x2 x3 x4 q5 hf
          · have hf := kb_ift hf c6
            refine kj_aload_n (pc := 61) C 0 dX2_knitStitches_61 rfl rfl ?_
            refine kg_X2_fabric (pc := 62) C wf_X2_19 dX2_knitStitches_62 ?_
            refine kj_iload_n (pc := 65) C 2 dX2_knitStitches_65 rfl rfl ?_
            obtain ⟨q7, hq7, hf⟩ := kb_bd hf
            refine kj_callV0 (pc := 66) (as := [.int x2]) (rest := []) (b := (a 2)) C (ct_X0_addStitch l V A x2 a q5 sh ex hq7) wd_X0_addStitch wk_X2_95 wi_X0_addStitch ws_X0_addStitch wz_X0 rfl rfl hd_X0_addStitch ⟨by decide, by decide⟩ 2 rfl rfl rfl rfl (Nat.le_of_ble_eq_true rfl) (by decide) dX2_knitStitches_66 ?_
            exact hp69 x1 x2 x3 x4 q7 hf
  refine kj_sub [0, 1] (L2 := [(0, .ref (a 4)), (1, .int x1)]) rfl ?_
  rw [fe_X2_knitStitches] at hf
  refine kj_aload_n (pc := 0) C 0 dX2_knitStitches_0 rfl rfl ?_
  refine kg_X2_plan (pc := 1) C wf_X2_15 dX2_knitStitches_1 ?_
  refine kj_iload_n (pc := 4) C 1 dX2_knitStitches_4 rfl rfl ?_
  obtain ⟨q1, hq1, hf⟩ := kb_bd hf
  refine kj_callV0 (pc := 5) (as := [.int x1]) (rest := []) (b := (a 5)) C (ct_X3_link l V A x1 a σ sh ex hq1) wd_X3_link wk_X2_86 wi_X3_link ws_X3_link wz_X3 rfl rfl hd_X3_link ⟨by decide, by decide⟩ 5 rfl rfl rfl rfl (Nat.le_of_ble_eq_true rfl) (by decide) dX2_knitStitches_5 ?_
  refine kj_istore_n (pc := 8) C [1, 2, 0] (L2 := [(0, .ref (a 4)), (1, .int x1), (2, .int q1)]) dX2_knitStitches_8 rfl (by decide) rfl ?_
  refine kj_aload_n (pc := 9) C 0 dX2_knitStitches_9 rfl rfl ?_
  refine kg_X2_plan (pc := 10) C wf_X2_15 dX2_knitStitches_10 ?_
  refine kj_iload_n (pc := 13) C 1 dX2_knitStitches_13 rfl rfl ?_
  obtain ⟨q2, hq2, hf⟩ := kb_bd hf
  refine kj_callV0 (pc := 14) (as := [.int x1]) (rest := []) (b := (a 5)) C (ct_X3_count l V A x1 a σ sh ex hq2) wd_X3_count wk_X2_72 wi_X3_count ws_X3_count wz_X3 rfl rfl hd_X3_count ⟨by decide, by decide⟩ 5 rfl rfl rfl rfl (Nat.le_of_ble_eq_true rfl) (by decide) dX2_knitStitches_14 ?_
  refine kj_istore_n (pc := 17) C [1, 2, 3, 0] (L2 := [(0, .ref (a 4)), (1, .int x1), (2, .int q1), (3, .int q2)]) dX2_knitStitches_17 rfl (by decide) rfl ?_
  refine kj_iconst (pc := 18) (v := (0 : Int32)) C dX2_knitStitches_18 (by decide) ?_
  refine kj_istore (pc := 19) C [1, 2, 3, 4, 0] (L2 := [(0, .ref (a 4)), (1, .int x1), (2, .int q1), (3, .int q2), (4, .int (0 : Int32))]) dX2_knitStitches_19 (by decide) rfl ?_
  exact hp21 kb_FU x1 q1 q2 (0 : Int32) σ hf
def fn_X2_leave  (x1 : Int32) (σ : kb_S) : Option (kb_S × Int32) :=
  if kb_in (kb_g σ 14) 5 = true then
    if kb_in (kb_g σ 14) 5 = true then
      if kb_in (kb_g σ 14) 5 = true then
        if (lg_cmp (kb_b (kb_bp σ 1 (kb_g σ 14).toNatClampNeg ((kb_b σ 1 (kb_g σ 14).toNatClampNeg) - (1 : Int64))) 1 (kb_g σ 14).toNatClampNeg) (0 : Int64)) ≤ 0 then
          some ((kb_p (kb_bp σ 1 (kb_g σ 14).toNatClampNeg ((kb_b σ 1 (kb_g σ 14).toNatClampNeg) - (1 : Int64))) 14 (if ((kb_g σ 14) - (1 : Int32)) < (0 : Int32) then (0 : Int32) else ((kb_g σ 14) - (1 : Int32)))), (x1 + (1 : Int32)))
        else
          (fn_X3_link x1 (kb_bp σ 1 (kb_g σ 14).toNatClampNeg ((kb_b σ 1 (kb_g σ 14).toNatClampNeg) - (1 : Int64)))).bind fun q5 =>
          some ((kb_bp σ 1 (kb_g σ 14).toNatClampNeg ((kb_b σ 1 (kb_g σ 14).toNatClampNeg) - (1 : Int64))), (q5 + (1 : Int32)))
      else none
    else none
  else none
theorem fe_X2_leave  (x1 : Int32) (σ : kb_S) : fn_X2_leave  x1 σ =
  if kb_in (kb_g σ 14) 5 = true then
    if kb_in (kb_g σ 14) 5 = true then
      if kb_in (kb_g σ 14) 5 = true then
        if (lg_cmp (kb_b (kb_bp σ 1 (kb_g σ 14).toNatClampNeg ((kb_b σ 1 (kb_g σ 14).toNatClampNeg) - (1 : Int64))) 1 (kb_g σ 14).toNatClampNeg) (0 : Int64)) ≤ 0 then
          some ((kb_p (kb_bp σ 1 (kb_g σ 14).toNatClampNeg ((kb_b σ 1 (kb_g σ 14).toNatClampNeg) - (1 : Int64))) 14 (if ((kb_g σ 14) - (1 : Int32)) < (0 : Int32) then (0 : Int32) else ((kb_g σ 14) - (1 : Int32)))), (x1 + (1 : Int32)))
        else
          (fn_X3_link x1 (kb_bp σ 1 (kb_g σ 14).toNatClampNeg ((kb_b σ 1 (kb_g σ 14).toNatClampNeg) - (1 : Int64)))).bind fun q5 =>
          some ((kb_bp σ 1 (kb_g σ 14).toNatClampNeg ((kb_b σ 1 (kb_g σ 14).toNatClampNeg) - (1 : Int64))), (q5 + (1 : Int32)))
      else none
    else none
  else none := rfl
theorem hd_X2_leave : yX2_leave.cls = RX2 ∧ yX2_leave.cls ≠ "java/lang/invoke/MethodHandle" ∧ yX2_leave.cls ≠ "java/lang/invoke/VarHandle" ∧ (parseMethodDescriptor yX2_leave.desc).map (fun d => d.parameters.length) = some 1 := by decide +kernel
set_option maxRecDepth 100000 in
set_option maxHeartbeats 4000000 in
theorem ct_X2_leave (l : Launch) (V : kb_V) (A : Nat → Prop)  (x1 : Int32) (a : Nat → Nat) (σ : kb_S) (sh : Value) (ex : va_W) {σ9 : kb_S} {r : Int32} (hf : fn_X2_leave  x1 σ = some (σ9, r)) : kb_T l yX2_leave cX2_leave 2 (some .int) ({ frames := 2, cells := 0, slots := 0, locals := 42 } : Room) V A [.ref (a 4), .int x1] (kb_W V a σ sh ex) (some (.int r)) (kb_W V a σ9 sh ex) 0 0 := by
  refine kb_start (cc := cX2_leave) (nL := 2) (ret := (some .int)) (own := RX2) (by decide) rfl (Nat.le_of_ble_eq_true rfl) ?_
  intro p e s m args below meth c C
  refine kj_sub [0, 1] (L2 := [(0, .ref (a 4)), (1, .int x1)]) rfl ?_
  rw [fe_X2_leave] at hf
  refine kj_aload_n (pc := 0) C 0 dX2_leave_0 rfl rfl ?_
  refine kg_X2_runsLeft (pc := 1) C wf_X2_9 dX2_leave_1 ?_
  refine kj_aload_n (pc := 4) C 0 dX2_leave_4 rfl rfl ?_
  refine kg_X2_depth (pc := 5) (v := (kb_g σ 14)) C wf_X2_23 dX2_leave_5 rfl ?_
  refine kj_dup2 (pc := 8) C dX2_leave_8 rfl rfl ?_
  obtain ⟨g1, hf⟩ := kb_gd hf
  refine ka_X2_runsLeft (pc := 9) (v := (kb_b σ 1 (kb_g σ 14).toNatClampNeg)) C g1 dX2_leave_9 rfl ?_
  refine kj_lconst (pc := 10) (v := (1 : Int64)) C dX2_leave_10 (by decide) ?_
  refine kj_lsub (pc := 11) C dX2_leave_11 ?_
  obtain ⟨g2, hf⟩ := kb_gd hf
  refine ks_X2_runsLeft (pc := 12) C g2 dX2_leave_12 ?_
  refine kj_aload_n (pc := 13) C 0 dX2_leave_13 rfl rfl ?_
  refine kg_X2_runsLeft (pc := 14) C wf_X2_9 dX2_leave_14 ?_
  refine kj_aload_n (pc := 17) C 0 dX2_leave_17 rfl rfl ?_
  refine kg_X2_depth (pc := 18) (v := (kb_g σ 14)) C wf_X2_23 dX2_leave_18 rfl ?_
  obtain ⟨g3, hf⟩ := kb_gd hf
  refine ka_X2_runsLeft (pc := 21) (v := (kb_b (kb_bp σ 1 (kb_g σ 14).toNatClampNeg ((kb_b σ 1 (kb_g σ 14).toNatClampNeg) - (1 : Int64))) 1 (kb_g σ 14).toNatClampNeg)) C g3 dX2_leave_21 rfl ?_
  refine kj_lconst (pc := 22) (v := (0 : Int64)) C dX2_leave_22 (by decide) ?_
  refine kj_lcmp (pc := 23) C dX2_leave_23 ?_
  refine kj_if_le (pc := 24) 38 C dX2_leave_24 (by decide) (fun c4 => ?_) (fun c4 => ?_)
  · have hf := kb_ift hf c4
    refine kj_aload_n (pc := 38) C 0 dX2_leave_38 rfl rfl ?_
    refine kj_aload_n (pc := 39) C 0 dX2_leave_39 rfl rfl ?_
    refine kg_X2_depth (pc := 40) (v := (kb_g σ 14)) C wf_X2_23 dX2_leave_40 rfl ?_
    refine kj_iconst (pc := 43) (v := (1 : Int32)) C dX2_leave_43 (by decide) ?_
    refine kj_isub (pc := 44) C dX2_leave_44 ?_
    refine kj_iconst (pc := 45) (v := (0 : Int32)) C dX2_leave_45 (by decide) ?_
    refine kj_mmax (pc := 46) C wk_X2_104 wi_Mmax wz_Math wd_Mmax (by decide) (Nat.le_of_ble_eq_true rfl) (by decide) dX2_leave_46 ?_
    refine kp_X2_depth (pc := 49) C wf_X2_23 dX2_leave_49 ?_
    refine kj_iload_n (pc := 52) C 1 dX2_leave_52 rfl rfl ?_
    refine kj_iconst (pc := 53) (v := (1 : Int32)) C dX2_leave_53 (by decide) ?_
    refine kj_iadd (pc := 54) C dX2_leave_54 ?_
    cases hf
    exact kj_iret (pc := 55) C dX2_leave_55
  · have hf := kb_ife hf c4
    refine kj_aload_n (pc := 27) C 0 dX2_leave_27 rfl rfl ?_
    refine kg_X2_plan (pc := 28) C wf_X2_15 dX2_leave_28 ?_
    refine kj_iload_n (pc := 31) C 1 dX2_leave_31 rfl rfl ?_
    obtain ⟨q5, hq5, hf⟩ := kb_bd hf
    refine kj_callV0 (pc := 32) (as := [.int x1]) (rest := []) (b := (a 5)) C (ct_X3_link l V A x1 a (kb_bp σ 1 (kb_g σ 14).toNatClampNeg ((kb_b σ 1 (kb_g σ 14).toNatClampNeg) - (1 : Int64))) sh ex hq5) wd_X3_link wk_X2_86 wi_X3_link ws_X3_link wz_X3 rfl rfl hd_X3_link ⟨by decide, by decide⟩ 5 rfl rfl rfl rfl (Nat.le_of_ble_eq_true rfl) (by decide) dX2_leave_32 ?_
    refine kj_iconst (pc := 35) (v := (1 : Int32)) C dX2_leave_35 (by decide) ?_
    refine kj_iadd (pc := 36) C dX2_leave_36 ?_
    cases hf
    exact kj_iret (pc := 37) C dX2_leave_37
def fp_X2_runsOfRepeat_50   (x1 : Int32) (σ : kb_S) : Option (kb_S × Int64) :=
  (fn_X3_place x1 σ).bind fun q1 =>
  (fn_X2_note (3 : Int32) q1 σ).bind fun q2 =>
  some (q2, (0 : Int64))
theorem fp_X2_runsOfRepeat_50_e   (x1 : Int32) (σ : kb_S) : fp_X2_runsOfRepeat_50  x1 σ =
  (fn_X3_place x1 σ).bind fun q1 =>
  (fn_X2_note (3 : Int32) q1 σ).bind fun q2 =>
  some (q2, (0 : Int64)) := rfl
def fn_X2_runsOfRepeat  (x1 : Int32) (σ : kb_S) : Option (kb_S × Int64) :=
  (fn_X3_takes x1 σ).bind fun q1 =>
  (fn_X3_count x1 σ).bind fun q2 =>
  if (lg_cmp q1 (0 : Int64)) ≤ 0 then
    fp_X2_runsOfRepeat_50   x1 σ
  else
    if (lg_cmp (((fn_X0_leftCount  σ) - q2).toInt64) (0 : Int64)) < 0 then
      fp_X2_runsOfRepeat_50   x1 σ
    else
      if ¬ q1 = 0 then
        if (lg_cmp ((((fn_X0_leftCount  σ) - q2).toInt64) - (((fn_X0_leftCount  σ) - q2).toInt64) / q1 * q1) (0 : Int64)) = 0 then
          if ¬ q1 = 0 then
            some (σ, ((((fn_X0_leftCount  σ) - q2).toInt64) / q1))
          else none
        else
          fp_X2_runsOfRepeat_50   x1 σ
      else none
theorem fe_X2_runsOfRepeat  (x1 : Int32) (σ : kb_S) : fn_X2_runsOfRepeat  x1 σ =
  (fn_X3_takes x1 σ).bind fun q1 =>
  (fn_X3_count x1 σ).bind fun q2 =>
  if (lg_cmp q1 (0 : Int64)) ≤ 0 then
    fp_X2_runsOfRepeat_50   x1 σ
  else
    if (lg_cmp (((fn_X0_leftCount  σ) - q2).toInt64) (0 : Int64)) < 0 then
      fp_X2_runsOfRepeat_50   x1 σ
    else
      if ¬ q1 = 0 then
        if (lg_cmp ((((fn_X0_leftCount  σ) - q2).toInt64) - (((fn_X0_leftCount  σ) - q2).toInt64) / q1 * q1) (0 : Int64)) = 0 then
          if ¬ q1 = 0 then
            some (σ, ((((fn_X0_leftCount  σ) - q2).toInt64) / q1))
          else none
        else
          fp_X2_runsOfRepeat_50   x1 σ
      else none := rfl
theorem hd_X2_runsOfRepeat : yX2_runsOfRepeat.cls = RX2 ∧ yX2_runsOfRepeat.cls ≠ "java/lang/invoke/MethodHandle" ∧ yX2_runsOfRepeat.cls ≠ "java/lang/invoke/VarHandle" ∧ (parseMethodDescriptor yX2_runsOfRepeat.desc).map (fun d => d.parameters.length) = some 1 := by decide +kernel
set_option maxRecDepth 100000 in
set_option maxHeartbeats 4000000 in
theorem ct_X2_runsOfRepeat (l : Launch) (V : kb_V) (A : Nat → Prop)  (x1 : Int32) (a : Nat → Nat) (σ : kb_S) (sh : Value) (ex : va_W) {σ9 : kb_S} {r : Int64} (hf : fn_X2_runsOfRepeat  x1 σ = some (σ9, r)) : kb_T l yX2_runsOfRepeat cX2_runsOfRepeat 6 (some .long) ({ frames := 2, cells := 0, slots := 0, locals := 43 } : Room) V A [.ref (a 4), .int x1] (kb_W V a σ sh ex) (some (.long r)) (kb_W V a σ9 sh ex) 0 0 := by
  refine kb_start (cc := cX2_runsOfRepeat) (nL := 6) (ret := (some .long)) (own := RX2) (by decide) rfl (Nat.le_of_ble_eq_true rfl) ?_
  intro p e s m args below meth c C
  have hp50 : ∀ (x1 : Int32) (σ : kb_S), fp_X2_runsOfRepeat_50   x1 σ = some (σ9, r) → kb_J p l e ({ frames := 2, cells := 0, slots := 0, locals := 43 } : Room) s m args below meth c 6 V A 0 0 (MQ below (kb_post V A (some (.long r)) (kb_W V a σ9 sh ex)) args s 0 0 A) 50 [(0, .ref (a 4)), (1, .int x1)] [] (kb_W V a σ sh ex) := by
    intro x1 σ hf
    rw [fp_X2_runsOfRepeat_50_e] at hf
    refine kj_aload_n (pc := 50) C 0 dX2_runsOfRepeat_50 rfl rfl ?_
    refine kj_iconst (pc := 51) (v := (3 : Int32)) C dX2_runsOfRepeat_51 (by decide) ?_
    refine kj_aload_n (pc := 52) C 0 dX2_runsOfRepeat_52 rfl rfl ?_
    refine kg_X2_plan (pc := 53) C wf_X2_15 dX2_runsOfRepeat_53 ?_
    refine kj_iload_n (pc := 56) C 1 dX2_runsOfRepeat_56 rfl rfl ?_
    obtain ⟨q1, hq1, hf⟩ := kb_bd hf
    refine kj_callV0 (pc := 57) (as := [.int x1]) (rest := [.int (3 : Int32), .ref (a 4)]) (b := (a 5)) C (ct_X3_place l V A x1 a σ sh ex hq1) wd_X3_place wk_X2_92 wi_X3_place ws_X3_place wz_X3 rfl rfl hd_X3_place ⟨by decide, by decide⟩ 5 rfl rfl rfl rfl (Nat.le_of_ble_eq_true rfl) (by decide) dX2_runsOfRepeat_57 ?_
    obtain ⟨q2, hq2, hf⟩ := kb_bd hf
    refine kj_callV0 (pc := 60) (as := [.int (3 : Int32), .int q1]) (rest := []) (b := (a 4)) C (ct_X2_note l V A (3 : Int32) q1 a σ sh ex hq2) wd_X2_note wk_X2_51 wi_X2_note ws_X2_note wz_X2 rfl rfl hd_X2_note ⟨by decide, by decide⟩ 4 rfl rfl rfl rfl (Nat.le_of_ble_eq_true rfl) (by decide) dX2_runsOfRepeat_60 ?_
    refine kj_lconst (pc := 63) (v := (0 : Int64)) C dX2_runsOfRepeat_63 (by decide) ?_
    cases hf
    exact kj_lret (pc := 64) C dX2_runsOfRepeat_64
  refine kj_sub [0, 1] (L2 := [(0, .ref (a 4)), (1, .int x1)]) rfl ?_
  rw [fe_X2_runsOfRepeat] at hf
  refine kj_aload_n (pc := 0) C 0 dX2_runsOfRepeat_0 rfl rfl ?_
  refine kg_X2_plan (pc := 1) C wf_X2_15 dX2_runsOfRepeat_1 ?_
  refine kj_iload_n (pc := 4) C 1 dX2_runsOfRepeat_4 rfl rfl ?_
  obtain ⟨q1, hq1, hf⟩ := kb_bd hf
  refine kj_callV0 (pc := 5) (as := [.int x1]) (rest := []) (b := (a 5)) C (ct_X3_takes l V A x1 a σ sh ex hq1) wd_X3_takes wk_X2_98 wi_X3_takes ws_X3_takes wz_X3 rfl rfl hd_X3_takes ⟨by decide, by decide⟩ 5 rfl rfl rfl rfl (Nat.le_of_ble_eq_true rfl) (by decide) dX2_runsOfRepeat_5 ?_
  refine kj_lstore_n (pc := 8) C [1, 2, 0] (L2 := [(0, .ref (a 4)), (1, .int x1), (2, .long q1)]) dX2_runsOfRepeat_8 rfl (by decide) rfl ?_
  refine kj_aload_n (pc := 9) C 0 dX2_runsOfRepeat_9 rfl rfl ?_
  refine kg_X2_fabric (pc := 10) C wf_X2_19 dX2_runsOfRepeat_10 ?_
  refine kj_callV0 (pc := 13) (as := []) (rest := []) (b := (a 2)) C (ct_X0_leftCount l V A  a σ sh ex rfl) wd_X0_leftCount wk_X2_101 wi_X0_leftCount ws_X0_leftCount wz_X0 rfl rfl hd_X0_leftCount ⟨by decide, by decide⟩ 2 rfl rfl rfl rfl (Nat.le_of_ble_eq_true rfl) (by decide) dX2_runsOfRepeat_13 ?_
  refine kj_aload_n (pc := 16) C 0 dX2_runsOfRepeat_16 rfl rfl ?_
  refine kg_X2_plan (pc := 17) C wf_X2_15 dX2_runsOfRepeat_17 ?_
  refine kj_iload_n (pc := 20) C 1 dX2_runsOfRepeat_20 rfl rfl ?_
  obtain ⟨q2, hq2, hf⟩ := kb_bd hf
  refine kj_callV0 (pc := 21) (as := [.int x1]) (rest := [.int (fn_X0_leftCount  σ)]) (b := (a 5)) C (ct_X3_count l V A x1 a σ sh ex hq2) wd_X3_count wk_X2_72 wi_X3_count ws_X3_count wz_X3 rfl rfl hd_X3_count ⟨by decide, by decide⟩ 5 rfl rfl rfl rfl (Nat.le_of_ble_eq_true rfl) (by decide) dX2_runsOfRepeat_21 ?_
  refine kj_isub (pc := 24) C dX2_runsOfRepeat_24 ?_
  refine kj_i2l (pc := 25) C dX2_runsOfRepeat_25 ?_
  refine kj_lstore (pc := 26) C [1, 2, 3, 0] (L2 := [(0, .ref (a 4)), (1, .int x1), (2, .long q1), (4, .long (((fn_X0_leftCount  σ) - q2).toInt64))]) dX2_runsOfRepeat_26 (by decide) rfl ?_
  refine kj_lload_n (pc := 28) C 2 dX2_runsOfRepeat_28 rfl rfl ?_
  refine kj_lconst (pc := 29) (v := (0 : Int64)) C dX2_runsOfRepeat_29 (by decide) ?_
  refine kj_lcmp (pc := 30) C dX2_runsOfRepeat_30 ?_
  refine kj_if_le (pc := 31) 50 C dX2_runsOfRepeat_31 (by decide) (fun c3 => ?_) (fun c3 => ?_)
  · have hf := kb_ift hf c3
    refine kj_sub [0, 1] (L2 := [(0, .ref (a 4)), (1, .int x1)]) rfl ?_
    exact hp50 x1 σ hf
  · have hf := kb_ife hf c3
    refine kj_lload (pc := 34) C 3 dX2_runsOfRepeat_34 rfl ?_
    refine kj_lconst (pc := 36) (v := (0 : Int64)) C dX2_runsOfRepeat_36 (by decide) ?_
    refine kj_lcmp (pc := 37) C dX2_runsOfRepeat_37 ?_
    refine kj_if_lt (pc := 38) 50 C dX2_runsOfRepeat_38 (by decide) (fun c4 => ?_) (fun c4 => ?_)
    · have hf := kb_ift hf c4
      refine kj_sub [0, 1] (L2 := [(0, .ref (a 4)), (1, .int x1)]) rfl ?_
      exact hp50 x1 σ hf
    · have hf := kb_ife hf c4
      refine kj_lload (pc := 41) C 3 dX2_runsOfRepeat_41 rfl ?_
      refine kj_lload_n (pc := 43) C 2 dX2_runsOfRepeat_43 rfl rfl ?_
      obtain ⟨g5, hf⟩ := kb_gd hf
      refine kj_lrem (pc := 44) C dX2_runsOfRepeat_44 g5 ?_
      refine kj_lconst (pc := 45) (v := (0 : Int64)) C dX2_runsOfRepeat_45 (by decide) ?_
      refine kj_lcmp (pc := 46) C dX2_runsOfRepeat_46 ?_
      refine kj_if_eq (pc := 47) 65 C dX2_runsOfRepeat_47 (by decide) (fun c6 => ?_) (fun c6 => ?_)
      · have hf := kb_ift hf c6
        refine kj_lload (pc := 65) C 3 dX2_runsOfRepeat_65 rfl ?_
        refine kj_lload_n (pc := 67) C 2 dX2_runsOfRepeat_67 rfl rfl ?_
        obtain ⟨g7, hf⟩ := kb_gd hf
        refine kj_ldiv (pc := 68) C dX2_runsOfRepeat_68 g7 ?_
        cases hf
        exact kj_lret (pc := 69) C dX2_runsOfRepeat_69
      · have hf := kb_ife hf c6
        refine kj_sub [0, 1] (L2 := [(0, .ref (a 4)), (1, .int x1)]) rfl ?_
        exact hp50 x1 σ hf
def fn_X2_knitStep  (x1 : Int32) (σ : kb_S) : Option (kb_S × Int32) :=
  (fn_X3_kind x1 σ).bind fun q1 =>
  if q1 = (0 : Int32) then
    (fn_X2_knitStitches x1 σ).bind fun q3 =>
    some (q3, (x1 + (1 : Int32)))
  else if q1 = (1 : Int32) then
    (fn_X3_count x1 σ).bind fun q3 =>
    (fn_X2_enter x1 (q3.toInt64) σ).bind fun q4 =>
    some (q4.1, q4.2)
  else if q1 = (2 : Int32) then
    (fn_X2_runsOfRepeat x1 σ).bind fun q3 =>
    (fn_X2_enter x1 q3.2 q3.1).bind fun q4 =>
    some (q4.1, q4.2)
  else
    (fn_X2_leave x1 σ).bind fun q3 =>
    some (q3.1, q3.2)
theorem fe_X2_knitStep  (x1 : Int32) (σ : kb_S) : fn_X2_knitStep  x1 σ =
  (fn_X3_kind x1 σ).bind fun q1 =>
  if q1 = (0 : Int32) then
    (fn_X2_knitStitches x1 σ).bind fun q3 =>
    some (q3, (x1 + (1 : Int32)))
  else if q1 = (1 : Int32) then
    (fn_X3_count x1 σ).bind fun q3 =>
    (fn_X2_enter x1 (q3.toInt64) σ).bind fun q4 =>
    some (q4.1, q4.2)
  else if q1 = (2 : Int32) then
    (fn_X2_runsOfRepeat x1 σ).bind fun q3 =>
    (fn_X2_enter x1 q3.2 q3.1).bind fun q4 =>
    some (q4.1, q4.2)
  else
    (fn_X2_leave x1 σ).bind fun q3 =>
    some (q3.1, q3.2) := rfl
theorem hd_X2_knitStep : yX2_knitStep.cls = RX2 ∧ yX2_knitStep.cls ≠ "java/lang/invoke/MethodHandle" ∧ yX2_knitStep.cls ≠ "java/lang/invoke/VarHandle" ∧ (parseMethodDescriptor yX2_knitStep.desc).map (fun d => d.parameters.length) = some 1 := by decide +kernel
set_option maxRecDepth 100000 in
set_option maxHeartbeats 4000000 in
theorem ct_X2_knitStep (l : Launch) (V : kb_V) (A : Nat → Prop)  (x1 : Int32) (a : Nat → Nat) (σ : kb_S) (sh : Value) (ex : va_W) {σ9 : kb_S} {r : Int32} (hf : fn_X2_knitStep  x1 σ = some (σ9, r)) : kb_T l yX2_knitStep cX2_knitStep 2 (some .int) ({ frames := 5, cells := 0, slots := 0, locals := 113 } : Room) V A [.ref (a 4), .int x1] (kb_W V a σ sh ex) (some (.int r)) (kb_W V a σ9 sh ex) 0 0 := by
  refine kb_start (cc := cX2_knitStep) (nL := 2) (ret := (some .int)) (own := RX2) (by decide) rfl (Nat.le_of_ble_eq_true rfl) ?_
  intro p e s m args below meth c C
  refine kj_sub [0, 1] (L2 := [(0, .ref (a 4)), (1, .int x1)]) rfl ?_
  rw [fe_X2_knitStep] at hf
  refine kj_aload_n (pc := 0) C 0 dX2_knitStep_0 rfl rfl ?_
  refine kg_X2_plan (pc := 1) C wf_X2_15 dX2_knitStep_1 ?_
  refine kj_iload_n (pc := 4) C 1 dX2_knitStep_4 rfl rfl ?_
  obtain ⟨q1, hq1, hf⟩ := kb_bd hf
  refine kj_callV0 (pc := 5) (as := [.int x1]) (rest := []) (b := (a 5)) C (ct_X3_kind l V A x1 a σ sh ex hq1) wd_X3_kind wk_X2_65 wi_X3_kind ws_X3_kind wz_X3 rfl rfl hd_X3_kind ⟨by decide, by decide⟩ 5 rfl rfl rfl rfl (Nat.le_of_ble_eq_true rfl) (by decide) dX2_knitStep_5 ?_
  by_cases c2_0 : q1 = (0 : Int32)
  · have hf := kb_ift hf c2_0
    refine kj_tabIn (pc := 8) 36 C dX2_knitStep_8 (by rw [c2_0]; decide) (by rw [c2_0]; decide) (by rw [c2_0]; rfl) (by decide) ?_
    refine kj_aload_n (pc := 36) C 0 dX2_knitStep_36 rfl rfl ?_
    refine kj_iload_n (pc := 37) C 1 dX2_knitStep_37 rfl rfl ?_
    obtain ⟨q3, hq3, hf⟩ := kb_bd hf
    refine kj_callV0 (pc := 38) (as := [.int x1]) (rest := []) (b := (a 4)) C (ct_X2_knitStitches l V A x1 a σ sh ex hq3) wd_X2_knitStitches wk_X2_68 wi_X2_knitStitches ws_X2_knitStitches wz_X2 rfl rfl hd_X2_knitStitches ⟨by decide, by decide⟩ 4 rfl rfl rfl rfl (Nat.le_of_ble_eq_true rfl) (by decide) dX2_knitStep_38 ?_
    refine kj_iload_n (pc := 41) C 1 dX2_knitStep_41 rfl rfl ?_
    refine kj_iconst (pc := 42) (v := (1 : Int32)) C dX2_knitStep_42 (by decide) ?_
    refine kj_iadd (pc := 43) C dX2_knitStep_43 ?_
    cases hf
    exact kj_iret (pc := 44) C dX2_knitStep_44
  have hf := kb_ife hf c2_0
  by_cases c2_1 : q1 = (1 : Int32)
  · have hf := kb_ift hf c2_1
    refine kj_tabIn (pc := 8) 45 C dX2_knitStep_8 (by rw [c2_1]; decide) (by rw [c2_1]; decide) (by rw [c2_1]; rfl) (by decide) ?_
    refine kj_aload_n (pc := 45) C 0 dX2_knitStep_45 rfl rfl ?_
    refine kj_iload_n (pc := 46) C 1 dX2_knitStep_46 rfl rfl ?_
    refine kj_aload_n (pc := 47) C 0 dX2_knitStep_47 rfl rfl ?_
    refine kg_X2_plan (pc := 48) C wf_X2_15 dX2_knitStep_48 ?_
    refine kj_iload_n (pc := 51) C 1 dX2_knitStep_51 rfl rfl ?_
    obtain ⟨q3, hq3, hf⟩ := kb_bd hf
    refine kj_callV0 (pc := 52) (as := [.int x1]) (rest := [.int x1, .ref (a 4)]) (b := (a 5)) C (ct_X3_count l V A x1 a σ sh ex hq3) wd_X3_count wk_X2_72 wi_X3_count ws_X3_count wz_X3 rfl rfl hd_X3_count ⟨by decide, by decide⟩ 5 rfl rfl rfl rfl (Nat.le_of_ble_eq_true rfl) (by decide) dX2_knitStep_52 ?_
    refine kj_i2l (pc := 55) C dX2_knitStep_55 ?_
    obtain ⟨q4, hq4, hf⟩ := kb_bd hf
    refine kj_callV0 (pc := 56) (as := [.int x1, .long (q3.toInt64)]) (rest := []) (b := (a 4)) C (ct_X2_enter l V A x1 (q3.toInt64) a σ sh ex hq4) wd_X2_enter wk_X2_75 wi_X2_enter ws_X2_enter wz_X2 rfl rfl hd_X2_enter ⟨by decide, by decide⟩ 4 rfl rfl rfl rfl (Nat.le_of_ble_eq_true rfl) (by decide) dX2_knitStep_56 ?_
    cases hf
    exact kj_iret (pc := 59) C dX2_knitStep_59
  have hf := kb_ife hf c2_1
  by_cases c2_2 : q1 = (2 : Int32)
  · have hf := kb_ift hf c2_2
    refine kj_tabIn (pc := 8) 60 C dX2_knitStep_8 (by rw [c2_2]; decide) (by rw [c2_2]; decide) (by rw [c2_2]; rfl) (by decide) ?_
    refine kj_aload_n (pc := 60) C 0 dX2_knitStep_60 rfl rfl ?_
    refine kj_iload_n (pc := 61) C 1 dX2_knitStep_61 rfl rfl ?_
    refine kj_aload_n (pc := 62) C 0 dX2_knitStep_62 rfl rfl ?_
    refine kj_iload_n (pc := 63) C 1 dX2_knitStep_63 rfl rfl ?_
    obtain ⟨q3, hq3, hf⟩ := kb_bd hf
    refine kj_callV0 (pc := 64) (as := [.int x1]) (rest := [.int x1, .ref (a 4)]) (b := (a 4)) C (ct_X2_runsOfRepeat l V A x1 a σ sh ex hq3) wd_X2_runsOfRepeat wk_X2_79 wi_X2_runsOfRepeat ws_X2_runsOfRepeat wz_X2 rfl rfl hd_X2_runsOfRepeat ⟨by decide, by decide⟩ 4 rfl rfl rfl rfl (Nat.le_of_ble_eq_true rfl) (by decide) dX2_knitStep_64 ?_
    obtain ⟨q4, hq4, hf⟩ := kb_bd hf
    refine kj_callV0 (pc := 67) (as := [.int x1, .long q3.2]) (rest := []) (b := (a 4)) C (ct_X2_enter l V A x1 q3.2 a q3.1 sh ex hq4) wd_X2_enter wk_X2_75 wi_X2_enter ws_X2_enter wz_X2 rfl rfl hd_X2_enter ⟨by decide, by decide⟩ 4 rfl rfl rfl rfl (Nat.le_of_ble_eq_true rfl) (by decide) dX2_knitStep_67 ?_
    cases hf
    exact kj_iret (pc := 70) C dX2_knitStep_70
  have hf := kb_ife hf c2_2
  refine kj_tabOut (pc := 8) 71 C dX2_knitStep_8 (kb_out (fun z h1 h2 => by
    have hz : z = 0 ∨ z = 1 ∨ z = 2 := by omega
    rcases hz with rfl | rfl | rfl
    · exact c2_0
    · exact c2_1
    · exact c2_2)) (by decide) ?_
  refine kj_aload_n (pc := 71) C 0 dX2_knitStep_71 rfl rfl ?_
  refine kj_iload_n (pc := 72) C 1 dX2_knitStep_72 rfl rfl ?_
  obtain ⟨q3, hq3, hf⟩ := kb_bd hf
  refine kj_callV0 (pc := 73) (as := [.int x1]) (rest := []) (b := (a 4)) C (ct_X2_leave l V A x1 a σ sh ex hq3) wd_X2_leave wk_X2_83 wi_X2_leave ws_X2_leave wz_X2 rfl rfl hd_X2_leave ⟨by decide, by decide⟩ 4 rfl rfl rfl rfl (Nat.le_of_ble_eq_true rfl) (by decide) dX2_knitStep_73 ?_
  cases hf
  exact kj_iret (pc := 76) C dX2_knitStep_76
def fp_X2_knitPlan_76   (σ : kb_S) : Option (kb_S × Int32) :=
  if (kb_g σ 15) = 0 then
    (fn_X0_keepRow  σ).bind fun q2 =>
    some (q2, (fn_X0_liveCount  q2))
  else
    some (σ, (kb_g σ 15))
theorem fp_X2_knitPlan_76_e   (σ : kb_S) : fp_X2_knitPlan_76  σ =
  if (kb_g σ 15) = 0 then
    (fn_X0_keepRow  σ).bind fun q2 =>
    some (q2, (fn_X0_liveCount  q2))
  else
    some (σ, (kb_g σ 15)) := rfl
def fp_X2_knitPlan_57   (x1 : Int32) (σ : kb_S) : Option (kb_S × Int32) :=
  if (kb_g σ 15) = 0 then
    (fn_X0_faultOfRow  σ).bind fun q2 =>
    (fn_X2_note q2 x1 σ).bind fun q3 =>
    fp_X2_knitPlan_76   q3
  else
    fp_X2_knitPlan_76   σ
theorem fp_X2_knitPlan_57_e   (x1 : Int32) (σ : kb_S) : fp_X2_knitPlan_57  x1 σ =
  if (kb_g σ 15) = 0 then
    (fn_X0_faultOfRow  σ).bind fun q2 =>
    (fn_X2_note q2 x1 σ).bind fun q3 =>
    fp_X2_knitPlan_76   q3
  else
    fp_X2_knitPlan_76   σ := rfl
def fp_X2_knitPlan_21   : Nat → Int32 → Int32 → Int32 → kb_S → Option (kb_S × Int32)
  | 0 => fun _ _ _ _ => none
  | nn + 1 => fun x1 x2 x3 σ => 
  if (1000000 : Int32) ≤ x3 then
    fp_X2_knitPlan_57   x1 σ
  else
    if (fn_X3_size  σ) ≤ x2 then
      fp_X2_knitPlan_57   x1 σ
    else
      if (kb_g σ 15) = 0 then
        (fn_X2_knitStep x2 σ).bind fun q4 =>
        (fp_X2_knitPlan_21  nn) x1 q4.2 (x3 + (1 : Int32)) q4.1
      else
        fp_X2_knitPlan_57   x1 σ
theorem fp_X2_knitPlan_21_s   (nn : Nat) (x1 : Int32) (x2 : Int32) (x3 : Int32) (σ : kb_S) : fp_X2_knitPlan_21  (nn + 1) x1 x2 x3 σ =
  if (1000000 : Int32) ≤ x3 then
    fp_X2_knitPlan_57   x1 σ
  else
    if (fn_X3_size  σ) ≤ x2 then
      fp_X2_knitPlan_57   x1 σ
    else
      if (kb_g σ 15) = 0 then
        (fn_X2_knitStep x2 σ).bind fun q4 =>
        (fp_X2_knitPlan_21  nn) x1 q4.2 (x3 + (1 : Int32)) q4.1
      else
        fp_X2_knitPlan_57   x1 σ := rfl
def fn_X2_knitPlan  (x1 : Int32) (σ : kb_S) : Option (kb_S × Int32) :=
  (fn_X0_startRow  (kb_p (kb_p σ 14 (0 : Int32)) 15 (0 : Int32))).bind fun q1 =>
  fp_X2_knitPlan_21   kb_FU x1 (0 : Int32) (0 : Int32) q1
theorem fe_X2_knitPlan  (x1 : Int32) (σ : kb_S) : fn_X2_knitPlan  x1 σ =
  (fn_X0_startRow  (kb_p (kb_p σ 14 (0 : Int32)) 15 (0 : Int32))).bind fun q1 =>
  fp_X2_knitPlan_21   kb_FU x1 (0 : Int32) (0 : Int32) q1 := rfl
theorem hd_X2_knitPlan : yX2_knitPlan.cls = RX2 ∧ yX2_knitPlan.cls ≠ "java/lang/invoke/MethodHandle" ∧ yX2_knitPlan.cls ≠ "java/lang/invoke/VarHandle" ∧ (parseMethodDescriptor yX2_knitPlan.desc).map (fun d => d.parameters.length) = some 1 := by decide +kernel
set_option maxRecDepth 100000 in
set_option maxHeartbeats 4000000 in
theorem ct_X2_knitPlan (l : Launch) (V : kb_V) (A : Nat → Prop)  (x1 : Int32) (a : Nat → Nat) (σ : kb_S) (sh : Value) (ex : va_W) {σ9 : kb_S} {r : Int32} (hf : fn_X2_knitPlan  x1 σ = some (σ9, r)) : kb_T l yX2_knitPlan cX2_knitPlan 4 (some .int) ({ frames := 6, cells := 0, slots := 0, locals := 134 } : Room) V A [.ref (a 4), .int x1] (kb_W V a σ sh ex) (some (.int r)) (kb_W V a σ9 sh ex) 0 0 := by
  refine kb_start (cc := cX2_knitPlan) (nL := 4) (ret := (some .int)) (own := RX2) (by decide) rfl (Nat.le_of_ble_eq_true rfl) ?_
  intro p e s m args below meth c C
  have hp76 : ∀ (σ : kb_S), fp_X2_knitPlan_76   σ = some (σ9, r) → kb_J p l e ({ frames := 6, cells := 0, slots := 0, locals := 134 } : Room) s m args below meth c 4 V A 0 0 (MQ below (kb_post V A (some (.int r)) (kb_W V a σ9 sh ex)) args s 0 0 A) 76 [(0, .ref (a 4))] [] (kb_W V a σ sh ex) := by
    intro σ hf
    rw [fp_X2_knitPlan_76_e] at hf
    refine kj_aload_n (pc := 76) C 0 dX2_knitPlan_76 rfl rfl ?_
    refine kg_X2_fault (pc := 77) (v := (kb_g σ 15)) C wf_X2_29 dX2_knitPlan_77 rfl ?_
    refine kj_if_eq (pc := 80) 88 C dX2_knitPlan_80 (by decide) (fun c1 => ?_) (fun c1 => ?_)
    · have hf := kb_ift hf c1
      refine kj_aload_n (pc := 88) C 0 dX2_knitPlan_88 rfl rfl ?_
      refine kg_X2_fabric (pc := 89) C wf_X2_19 dX2_knitPlan_89 ?_
      obtain ⟨q2, hq2, hf⟩ := kb_bd hf
      refine kj_callV0 (pc := 92) (as := []) (rest := []) (b := (a 2)) C (ct_X0_keepRow l V A  a σ sh ex hq2) wd_X0_keepRow wk_X2_55 wi_X0_keepRow ws_X0_keepRow wz_X0 rfl rfl hd_X0_keepRow ⟨by decide, by decide⟩ 2 rfl rfl rfl rfl (Nat.le_of_ble_eq_true rfl) (by decide) dX2_knitPlan_92 ?_
      refine kj_aload_n (pc := 95) C 0 dX2_knitPlan_95 rfl rfl ?_
      refine kg_X2_fabric (pc := 96) C wf_X2_19 dX2_knitPlan_96 ?_
      refine kj_callV0 (pc := 99) (as := []) (rest := []) (b := (a 2)) C (ct_X0_liveCount l V A  a q2 sh ex rfl) wd_X0_liveCount wk_X2_58 wi_X0_liveCount ws_X0_liveCount wz_X0 rfl rfl hd_X0_liveCount ⟨by decide, by decide⟩ 2 rfl rfl rfl rfl (Nat.le_of_ble_eq_true rfl) (by decide) dX2_knitPlan_99 ?_
      cases hf
      exact kj_iret (pc := 102) C dX2_knitPlan_102
    · have hf := kb_ife hf c1
      refine kj_aload_n (pc := 83) C 0 dX2_knitPlan_83 rfl rfl ?_
      refine kg_X2_fault (pc := 84) (v := (kb_g σ 15)) C wf_X2_29 dX2_knitPlan_84 rfl ?_
      cases hf
      exact kj_iret (pc := 87) C dX2_knitPlan_87
  have hp57 : ∀ (x1 : Int32) (σ : kb_S), fp_X2_knitPlan_57   x1 σ = some (σ9, r) → kb_J p l e ({ frames := 6, cells := 0, slots := 0, locals := 134 } : Room) s m args below meth c 4 V A 0 0 (MQ below (kb_post V A (some (.int r)) (kb_W V a σ9 sh ex)) args s 0 0 A) 57 [(0, .ref (a 4)), (1, .int x1)] [] (kb_W V a σ sh ex) := by
    intro x1 σ hf
    rw [fp_X2_knitPlan_57_e] at hf
    refine kj_aload_n (pc := 57) C 0 dX2_knitPlan_57 rfl rfl ?_
    refine kg_X2_fault (pc := 58) (v := (kb_g σ 15)) C wf_X2_29 dX2_knitPlan_58 rfl ?_
    refine kj_if_ne (pc := 61) 76 C dX2_knitPlan_61 (by decide) (fun c1 => ?_) (fun c1 => ?_)
    · have hf := kb_ife hf c1
      refine kj_sub [0] (L2 := [(0, .ref (a 4))]) rfl ?_
      exact hp76 σ hf
    · have hf := kb_ift hf c1
      refine kj_aload_n (pc := 64) C 0 dX2_knitPlan_64 rfl rfl ?_
      refine kj_aload_n (pc := 65) C 0 dX2_knitPlan_65 rfl rfl ?_
      refine kg_X2_fabric (pc := 66) C wf_X2_19 dX2_knitPlan_66 ?_
      obtain ⟨q2, hq2, hf⟩ := kb_bd hf
      refine kj_callV0 (pc := 69) (as := []) (rest := [.ref (a 4)]) (b := (a 2)) C (ct_X0_faultOfRow l V A  a σ sh ex hq2) wd_X0_faultOfRow wk_X2_48 wi_X0_faultOfRow ws_X0_faultOfRow wz_X0 rfl rfl hd_X0_faultOfRow ⟨by decide, by decide⟩ 2 rfl rfl rfl rfl (Nat.le_of_ble_eq_true rfl) (by decide) dX2_knitPlan_69 ?_
      refine kj_iload_n (pc := 72) C 1 dX2_knitPlan_72 rfl rfl ?_
      obtain ⟨q3, hq3, hf⟩ := kb_bd hf
      refine kj_callV0 (pc := 73) (as := [.int q2, .int x1]) (rest := []) (b := (a 4)) C (ct_X2_note l V A q2 x1 a σ sh ex hq3) wd_X2_note wk_X2_51 wi_X2_note ws_X2_note wz_X2 rfl rfl hd_X2_note ⟨by decide, by decide⟩ 4 rfl rfl rfl rfl (Nat.le_of_ble_eq_true rfl) (by decide) dX2_knitPlan_73 ?_
      refine kj_sub [0] (L2 := [(0, .ref (a 4))]) rfl ?_
      exact hp76 q3 hf
  have hp21 : ∀ (nn : Nat) (x1 : Int32) (x2 : Int32) (x3 : Int32) (σ : kb_S), fp_X2_knitPlan_21   nn x1 x2 x3 σ = some (σ9, r) → kb_J p l e ({ frames := 6, cells := 0, slots := 0, locals := 134 } : Room) s m args below meth c 4 V A 0 0 (MQ below (kb_post V A (some (.int r)) (kb_W V a σ9 sh ex)) args s 0 0 A) 21 [(0, .ref (a 4)), (1, .int x1), (2, .int x2), (3, .int x3)] [] (kb_W V a σ sh ex) := by
    intro nn21
    induction nn21 with
    | zero => intro x1 x2 x3 σ hf; exact kb_no hf
    | succ nn21 ih21 =>
      intro x1 x2 x3 σ hf
      rw [fp_X2_knitPlan_21_s] at hf
      refine kj_iload_n (pc := 21) C 3 dX2_knitPlan_21 rfl rfl ?_
      refine kj_ldc (pc := 22) (v := (1000000 : Int32)) C dX2_knitPlan_22 wc_X2_37 ?_
      refine kj_icmp_ge (pc := 24) 57 C dX2_knitPlan_24 (by decide) (fun c1 => ?_) (fun c1 => ?_)
      · have hf := kb_ift hf c1
        refine kj_sub [0, 1] (L2 := [(0, .ref (a 4)), (1, .int x1)]) rfl ?_
        exact hp57 x1 σ hf
      · have hf := kb_ife hf c1
        refine kj_iload_n (pc := 27) C 2 dX2_knitPlan_27 rfl rfl ?_
        refine kj_aload_n (pc := 28) C 0 dX2_knitPlan_28 rfl rfl ?_
        refine kg_X2_plan (pc := 29) C wf_X2_15 dX2_knitPlan_29 ?_
        refine kj_callV0 (pc := 32) (as := []) (rest := [.int x2]) (b := (a 5)) C (ct_X3_size l V A  a σ sh ex rfl) wd_X3_size wk_X2_38 wi_X3_size ws_X3_size wz_X3 rfl rfl hd_X3_size ⟨by decide, by decide⟩ 5 rfl rfl rfl rfl (Nat.le_of_ble_eq_true rfl) (by decide) dX2_knitPlan_32 ?_
        refine kj_icmp_ge (pc := 35) 57 C dX2_knitPlan_35 (by decide) (fun c2 => ?_) (fun c2 => ?_)
        · have hf := kb_ift hf c2
          refine kj_sub [0, 1] (L2 := [(0, .ref (a 4)), (1, .int x1)]) rfl ?_
          exact hp57 x1 σ hf
        · have hf := kb_ife hf c2
          refine kj_aload_n (pc := 38) C 0 dX2_knitPlan_38 rfl rfl ?_
          refine kg_X2_fault (pc := 39) (v := (kb_g σ 15)) C wf_X2_29 dX2_knitPlan_39 rfl ?_
          refine kj_if_ne (pc := 42) 57 C dX2_knitPlan_42 (by decide) (fun c3 => ?_) (fun c3 => ?_)
          · have hf := kb_ife hf c3
            refine kj_sub [0, 1] (L2 := [(0, .ref (a 4)), (1, .int x1)]) rfl ?_
            exact hp57 x1 σ hf
          · have hf := kb_ift hf c3
            refine kj_aload_n (pc := 45) C 0 dX2_knitPlan_45 rfl rfl ?_
            refine kj_iload_n (pc := 46) C 2 dX2_knitPlan_46 rfl rfl ?_
            obtain ⟨q4, hq4, hf⟩ := kb_bd hf
            refine kj_callV0 (pc := 47) (as := [.int x2]) (rest := []) (b := (a 4)) C (ct_X2_knitStep l V A x2 a σ sh ex hq4) wd_X2_knitStep wk_X2_44 wi_X2_knitStep ws_X2_knitStep wz_X2 rfl rfl hd_X2_knitStep ⟨by decide, by decide⟩ 4 rfl rfl rfl rfl (Nat.le_of_ble_eq_true rfl) (by decide) dX2_knitPlan_47 ?_
            refine kj_istore_n (pc := 50) C [1, 2, 0, 3] (L2 := [(0, .ref (a 4)), (1, .int x1), (2, .int q4.2), (3, .int x3)]) dX2_knitPlan_50 rfl (by decide) rfl ?_
            refine kj_iinc (pc := 51) C 3 [1, 2, 3, 0] (L2 := [(0, .ref (a 4)), (1, .int x1), (2, .int q4.2), (3, .int (x3 + (1 : Int32)))]) dX2_knitPlan_51 rfl rfl (by decide) rfl ?_
            refine kj_goto (pc := 54) 21 C dX2_knitPlan_54 (by decide) ?_
            exact ih21 x1 q4.2 (x3 + (1 : Int32)) q4.1 hf
  refine kj_sub [0, 1] (L2 := [(0, .ref (a 4)), (1, .int x1)]) rfl ?_
  rw [fe_X2_knitPlan] at hf
  refine kj_aload_n (pc := 0) C 0 dX2_knitPlan_0 rfl rfl ?_
  refine kj_iconst (pc := 1) (v := (0 : Int32)) C dX2_knitPlan_1 (by decide) ?_
  refine kp_X2_depth (pc := 2) C wf_X2_23 dX2_knitPlan_2 ?_
  refine kj_aload_n (pc := 5) C 0 dX2_knitPlan_5 rfl rfl ?_
  refine kj_iconst (pc := 6) (v := (0 : Int32)) C dX2_knitPlan_6 (by decide) ?_
  refine kp_X2_fault (pc := 7) C wf_X2_29 dX2_knitPlan_7 ?_
  refine kj_aload_n (pc := 10) C 0 dX2_knitPlan_10 rfl rfl ?_
  refine kg_X2_fabric (pc := 11) C wf_X2_19 dX2_knitPlan_11 ?_
  obtain ⟨q1, hq1, hf⟩ := kb_bd hf
  refine kj_callV0 (pc := 14) (as := []) (rest := []) (b := (a 2)) C (ct_X0_startRow l V A  a (kb_p (kb_p σ 14 (0 : Int32)) 15 (0 : Int32)) sh ex hq1) wd_X0_startRow wk_X2_32 wi_X0_startRow ws_X0_startRow wz_X0 rfl rfl hd_X0_startRow ⟨by decide, by decide⟩ 2 rfl rfl rfl rfl (Nat.le_of_ble_eq_true rfl) (by decide) dX2_knitPlan_14 ?_
  refine kj_iconst (pc := 17) (v := (0 : Int32)) C dX2_knitPlan_17 (by decide) ?_
  refine kj_istore_n (pc := 18) C [1, 2, 0] (L2 := [(0, .ref (a 4)), (1, .int x1), (2, .int (0 : Int32))]) dX2_knitPlan_18 rfl (by decide) rfl ?_
  refine kj_iconst (pc := 19) (v := (0 : Int32)) C dX2_knitPlan_19 (by decide) ?_
  refine kj_istore_n (pc := 20) C [1, 2, 3, 0] (L2 := [(0, .ref (a 4)), (1, .int x1), (2, .int (0 : Int32)), (3, .int (0 : Int32))]) dX2_knitPlan_20 rfl (by decide) rfl ?_
  exact hp21 kb_FU x1 (0 : Int32) (0 : Int32) q1 hf
def fn_X4_isRight   (σ : kb_S) : Int32 :=
  if (kb_g σ 11) = 0 then
    (1 : Int32)
  else
    (0 : Int32)
theorem fe_X4_isRight   (σ : kb_S) : fn_X4_isRight   σ =
  if (kb_g σ 11) = 0 then
    (1 : Int32)
  else
    (0 : Int32) := rfl
theorem hd_X4_isRight : yX4_isRight.cls = RX4 ∧ yX4_isRight.cls ≠ "java/lang/invoke/MethodHandle" ∧ yX4_isRight.cls ≠ "java/lang/invoke/VarHandle" ∧ (parseMethodDescriptor yX4_isRight.desc).map (fun d => d.parameters.length) = some 0 := by decide +kernel
set_option maxRecDepth 100000 in
set_option maxHeartbeats 4000000 in
theorem ct_X4_isRight (l : Launch) (V : kb_V) (A : Nat → Prop)   (a : Nat → Nat) (σ : kb_S) (sh : Value) (ex : va_W) {r : Int32} (hf : fn_X4_isRight   σ = r) : kb_T l yX4_isRight cX4_isRight 1 (some .boolean) ({ frames := 0, cells := 0, slots := 0, locals := 0 } : Room) V A [.ref (a 3)] (kb_W V a σ sh ex) (some (.int r)) (kb_W V a σ sh ex) 0 0 := by
  refine kb_start (cc := cX4_isRight) (nL := 1) (ret := (some .boolean)) (own := RX4) (by decide) rfl (Nat.le_of_ble_eq_true rfl) ?_
  intro p e s m args below meth c C
  refine kj_sub [0] (L2 := [(0, .ref (a 3))]) rfl ?_
  rw [fe_X4_isRight] at hf
  refine kj_aload_n (pc := 0) C 0 dX4_isRight_0 rfl rfl ?_
  refine kg_X4_fault (pc := 1) (v := (kb_g σ 11)) C wf_X4_39 dX4_isRight_1 rfl ?_
  refine kj_if_ne (pc := 4) 11 C dX4_isRight_4 (by decide) (fun c1 => ?_) (fun c1 => ?_)
  · have hf := kb_ife hf c1
    refine kj_iconst (pc := 11) (v := (0 : Int32)) C dX4_isRight_11 (by decide) ?_
    subst hf
    exact kj_zret (pc := 12) C (by decide) dX4_isRight_12
  · have hf := kb_ift hf c1
    refine kj_iconst (pc := 7) (v := (1 : Int32)) C dX4_isRight_7 (by decide) ?_
    refine kj_goto (pc := 8) 12 C dX4_isRight_8 (by decide) ?_
    subst hf
    exact kj_zret (pc := 12) C (by decide) dX4_isRight_12
def fn_X4_fail  (x1 : Int32) (σ : kb_S) : Option (kb_S) :=
  if (fn_X4_isRight  σ) = 0 then
    some σ
  else
    some (kb_p σ 11 (fn_X1_answer x1 (kb_g σ 10)))
theorem fe_X4_fail  (x1 : Int32) (σ : kb_S) : fn_X4_fail  x1 σ =
  if (fn_X4_isRight  σ) = 0 then
    some σ
  else
    some (kb_p σ 11 (fn_X1_answer x1 (kb_g σ 10))) := rfl
theorem hd_X4_fail : yX4_fail.cls = RX4 ∧ yX4_fail.cls ≠ "java/lang/invoke/MethodHandle" ∧ yX4_fail.cls ≠ "java/lang/invoke/VarHandle" ∧ (parseMethodDescriptor yX4_fail.desc).map (fun d => d.parameters.length) = some 1 := by decide +kernel
set_option maxRecDepth 100000 in
set_option maxHeartbeats 4000000 in
theorem ct_X4_fail (l : Launch) (V : kb_V) (A : Nat → Prop)  (x1 : Int32) (a : Nat → Nat) (σ : kb_S) (sh : Value) (ex : va_W) {σ9 : kb_S} (hf : fn_X4_fail  x1 σ = some σ9) : kb_T l yX4_fail cX4_fail 2 none ({ frames := 1, cells := 0, slots := 0, locals := 21 } : Room) V A [.ref (a 3), .int x1] (kb_W V a σ sh ex) none (kb_W V a σ9 sh ex) 0 0 := by
  refine kb_start (cc := cX4_fail) (nL := 2) (ret := none) (own := RX4) (by decide) rfl (Nat.le_of_ble_eq_true rfl) ?_
  intro p e s m args below meth c C
  refine kj_sub [0, 1] (L2 := [(0, .ref (a 3)), (1, .int x1)]) rfl ?_
  rw [fe_X4_fail] at hf
  refine kj_aload_n (pc := 0) C 0 dX4_fail_0 rfl rfl ?_
  refine kj_callV0 (pc := 1) (as := []) (rest := []) (b := (a 3)) C (ct_X4_isRight l V A  a σ sh ex rfl) wd_X4_isRight wk_X4_55 wi_X4_isRight ws_X4_isRight wz_X4 rfl rfl hd_X4_isRight ⟨by decide, by decide⟩ 3 rfl rfl rfl rfl (Nat.le_of_ble_eq_true rfl) (by decide) dX4_fail_1 ?_
  refine kj_if_eq (pc := 4) 19 C dX4_fail_4 (by decide) (fun c1 => ?_) (fun c1 => ?_)
  · have hf := kb_ift hf c1
    cases hf
    exact kj_vret (pc := 19) C dX4_fail_19
  · have hf := kb_ife hf c1
    refine kj_aload_n (pc := 7) C 0 dX4_fail_7 rfl rfl ?_
    refine kj_iload_n (pc := 8) C 1 dX4_fail_8 rfl rfl ?_
    refine kj_aload_n (pc := 9) C 0 dX4_fail_9 rfl rfl ?_
    refine kg_X4_at (pc := 10) (v := (kb_g σ 10)) C wf_X4_34 dX4_fail_10 rfl ?_
    refine kj_callS0 (pc := 13) (as := [.int x1, .int (kb_g σ 10)]) (rest := [.ref (a 3)]) C (ct_X1_answer l V A x1 (kb_g σ 10) (kb_W V a σ sh ex) rfl) wd_X1_answer wk_X4_72 wi_X1_answer wz_X1 rfl rfl hd_X1_answer ⟨by decide, by decide⟩ rfl (Nat.le_of_ble_eq_true rfl) (by decide) dX4_fail_13 ?_
    refine kp_X4_fault (pc := 16) C wf_X4_39 dX4_fail_16 ?_
    cases hf
    exact kj_vret (pc := 19) C dX4_fail_19
def fn_X4_next   (σ : kb_S) : Option (Int32) :=
  (fn_X7_byteAt (kb_g σ 10) σ).bind fun q1 =>
  some q1
theorem fe_X4_next   (σ : kb_S) : fn_X4_next   σ =
  (fn_X7_byteAt (kb_g σ 10) σ).bind fun q1 =>
  some q1 := rfl
theorem hd_X4_next : yX4_next.cls = RX4 ∧ yX4_next.cls ≠ "java/lang/invoke/MethodHandle" ∧ yX4_next.cls ≠ "java/lang/invoke/VarHandle" ∧ (parseMethodDescriptor yX4_next.desc).map (fun d => d.parameters.length) = some 0 := by decide +kernel
set_option maxRecDepth 100000 in
set_option maxHeartbeats 4000000 in
theorem ct_X4_next (l : Launch) (V : kb_V) (A : Nat → Prop)   (a : Nat → Nat) (σ : kb_S) (sh : Value) (ex : va_W) {r : Int32} (hf : fn_X4_next   σ = some r) : kb_T l yX4_next cX4_next 1 (some .int) ({ frames := 1, cells := 0, slots := 0, locals := 21 } : Room) V A [.ref (a 3)] (kb_W V a σ sh ex) (some (.int r)) (kb_W V a σ sh ex) 0 0 := by
  refine kb_start (cc := cX4_next) (nL := 1) (ret := (some .int)) (own := RX4) (by decide) rfl (Nat.le_of_ble_eq_true rfl) ?_
  intro p e s m args below meth c C
  refine kj_sub [0] (L2 := [(0, .ref (a 3))]) rfl ?_
  rw [fe_X4_next] at hf
  refine kj_aload_n (pc := 0) C 0 dX4_next_0 rfl rfl ?_
  refine kg_X4_tape (pc := 1) C wf_X4_17 dX4_next_1 ?_
  refine kj_aload_n (pc := 4) C 0 dX4_next_4 rfl rfl ?_
  refine kg_X4_at (pc := 5) (v := (kb_g σ 10)) C wf_X4_34 dX4_next_5 rfl ?_
  obtain ⟨q1, hq1, hf⟩ := kb_bd hf
  refine kj_callV0 (pc := 8) (as := [.int (kb_g σ 10)]) (rest := []) (b := (a 1)) C (ct_X7_byteAt l V A (kb_g σ 10) a σ sh ex hq1) wd_X7_byteAt wk_X4_68 wi_X7_byteAt ws_X7_byteAt wz_X7 rfl rfl hd_X7_byteAt ⟨by decide, by decide⟩ 1 rfl rfl rfl rfl (Nat.le_of_ble_eq_true rfl) (by decide) dX4_next_8 ?_
  cases hf
  exact kj_iret (pc := 11) C dX4_next_11
def fp_X4_openBracket_13   (x1 : Int32) (x2 : Int32) (σ : kb_S) : Option (kb_S) :=
  if (fn_X4_isRight  σ) = 0 then
    some σ
  else
    if kb_in ((kb_g σ 9) + (1 : Int32)) 5 = true then
      if kb_in ((kb_g σ 9) + (1 : Int32)) 5 = true then
        (fn_X3_addOpen x1 x2 (kb_bp (kb_ap (kb_p (kb_p σ 10 ((kb_g σ 10) + (1 : Int32))) 9 ((kb_g σ 9) + (1 : Int32))) 6 ((kb_g σ 9) + (1 : Int32)).toNatClampNeg (fn_X3_size  (kb_p (kb_p σ 10 ((kb_g σ 10) + (1 : Int32))) 9 ((kb_g σ 9) + (1 : Int32))))) 0 ((kb_g σ 9) + (1 : Int32)).toNatClampNeg (0 : Int64))).bind fun q4 =>
        some q4
      else none
    else none
theorem fp_X4_openBracket_13_e   (x1 : Int32) (x2 : Int32) (σ : kb_S) : fp_X4_openBracket_13  x1 x2 σ =
  if (fn_X4_isRight  σ) = 0 then
    some σ
  else
    if kb_in ((kb_g σ 9) + (1 : Int32)) 5 = true then
      if kb_in ((kb_g σ 9) + (1 : Int32)) 5 = true then
        (fn_X3_addOpen x1 x2 (kb_bp (kb_ap (kb_p (kb_p σ 10 ((kb_g σ 10) + (1 : Int32))) 9 ((kb_g σ 9) + (1 : Int32))) 6 ((kb_g σ 9) + (1 : Int32)).toNatClampNeg (fn_X3_size  (kb_p (kb_p σ 10 ((kb_g σ 10) + (1 : Int32))) 9 ((kb_g σ 9) + (1 : Int32))))) 0 ((kb_g σ 9) + (1 : Int32)).toNatClampNeg (0 : Int64))).bind fun q4 =>
        some q4
      else none
    else none := rfl
def fn_X4_openBracket  (x1 : Int32) (x2 : Int32) (σ : kb_S) : Option (kb_S) :=
  if (kb_g σ 9) < (4 : Int32) then
    fp_X4_openBracket_13   x1 x2 σ
  else
    (fn_X4_fail (2 : Int32) σ).bind fun q2 =>
    fp_X4_openBracket_13   x1 x2 q2
theorem fe_X4_openBracket  (x1 : Int32) (x2 : Int32) (σ : kb_S) : fn_X4_openBracket  x1 x2 σ =
  if (kb_g σ 9) < (4 : Int32) then
    fp_X4_openBracket_13   x1 x2 σ
  else
    (fn_X4_fail (2 : Int32) σ).bind fun q2 =>
    fp_X4_openBracket_13   x1 x2 q2 := rfl
theorem hd_X4_openBracket : yX4_openBracket.cls = RX4 ∧ yX4_openBracket.cls ≠ "java/lang/invoke/MethodHandle" ∧ yX4_openBracket.cls ≠ "java/lang/invoke/VarHandle" ∧ (parseMethodDescriptor yX4_openBracket.desc).map (fun d => d.parameters.length) = some 2 := by decide +kernel
set_option maxRecDepth 100000 in
set_option maxHeartbeats 4000000 in
theorem ct_X4_openBracket (l : Launch) (V : kb_V) (A : Nat → Prop)  (x1 : Int32) (x2 : Int32) (a : Nat → Nat) (σ : kb_S) (sh : Value) (ex : va_W) {σ9 : kb_S} (hf : fn_X4_openBracket  x1 x2 σ = some σ9) : kb_T l yX4_openBracket cX4_openBracket 3 none ({ frames := 2, cells := 0, slots := 0, locals := 46 } : Room) V A [.ref (a 3), .int x1, .int x2] (kb_W V a σ sh ex) none (kb_W V a σ9 sh ex) 0 0 := by
  refine kb_start (cc := cX4_openBracket) (nL := 3) (ret := none) (own := RX4) (by decide) rfl (Nat.le_of_ble_eq_true rfl) ?_
  intro p e s m args below meth c C
  have hp13 : ∀ (x1 : Int32) (x2 : Int32) (σ : kb_S), fp_X4_openBracket_13   x1 x2 σ = some σ9 → kb_J p l e ({ frames := 2, cells := 0, slots := 0, locals := 46 } : Room) s m args below meth c 3 V A 0 0 (MQ below (kb_post V A none (kb_W V a σ9 sh ex)) args s 0 0 A) 13 [(0, .ref (a 3)), (1, .int x1), (2, .int x2)] [] (kb_W V a σ sh ex) := by
    intro x1 x2 σ hf
    rw [fp_X4_openBracket_13_e] at hf
    refine kj_aload_n (pc := 13) C 0 dX4_openBracket_13 rfl rfl ?_
    refine kj_callV0 (pc := 14) (as := []) (rest := []) (b := (a 3)) C (ct_X4_isRight l V A  a σ sh ex rfl) wd_X4_isRight wk_X4_55 wi_X4_isRight ws_X4_isRight wz_X4 rfl rfl hd_X4_isRight ⟨by decide, by decide⟩ 3 rfl rfl rfl rfl (Nat.le_of_ble_eq_true rfl) (by decide) dX4_openBracket_14 ?_
    refine kj_if_eq (pc := 17) 75 C dX4_openBracket_17 (by decide) (fun c1 => ?_) (fun c1 => ?_)
    · have hf := kb_ift hf c1
      cases hf
      exact kj_vret (pc := 75) C dX4_openBracket_75
    · have hf := kb_ife hf c1
      refine kj_aload_n (pc := 20) C 0 dX4_openBracket_20 rfl rfl ?_
      refine kj_dup (pc := 21) C dX4_openBracket_21 rfl ?_
      refine kg_X4_at (pc := 22) (v := (kb_g σ 10)) C wf_X4_34 dX4_openBracket_22 rfl ?_
      refine kj_iconst (pc := 25) (v := (1 : Int32)) C dX4_openBracket_25 (by decide) ?_
      refine kj_iadd (pc := 26) C dX4_openBracket_26 ?_
      refine kp_X4_at (pc := 27) C wf_X4_34 dX4_openBracket_27 ?_
      refine kj_aload_n (pc := 30) C 0 dX4_openBracket_30 rfl rfl ?_
      refine kj_dup (pc := 31) C dX4_openBracket_31 rfl ?_
      refine kg_X4_depth (pc := 32) (v := (kb_g σ 9)) C wf_X4_30 dX4_openBracket_32 rfl ?_
      refine kj_iconst (pc := 35) (v := (1 : Int32)) C dX4_openBracket_35 (by decide) ?_
      refine kj_iadd (pc := 36) C dX4_openBracket_36 ?_
      refine kp_X4_depth (pc := 37) C wf_X4_30 dX4_openBracket_37 ?_
      refine kj_aload_n (pc := 40) C 0 dX4_openBracket_40 rfl rfl ?_
      refine kg_X4_openSteps (pc := 41) C wf_X4_9 dX4_openBracket_41 ?_
      refine kj_aload_n (pc := 44) C 0 dX4_openBracket_44 rfl rfl ?_
      refine kg_X4_depth (pc := 45) (v := ((kb_g σ 9) + (1 : Int32))) C wf_X4_30 dX4_openBracket_45 rfl ?_
      refine kj_aload_n (pc := 48) C 0 dX4_openBracket_48 rfl rfl ?_
      refine kg_X4_plan (pc := 49) C wf_X4_21 dX4_openBracket_49 ?_
      refine kj_callV0 (pc := 52) (as := []) (rest := [.int ((kb_g σ 9) + (1 : Int32)), .ref (a 12)]) (b := (a 5)) C (ct_X3_size l V A  a (kb_p (kb_p σ 10 ((kb_g σ 10) + (1 : Int32))) 9 ((kb_g σ 9) + (1 : Int32))) sh ex rfl) wd_X3_size wk_X4_126 wi_X3_size ws_X3_size wz_X3 rfl rfl hd_X3_size ⟨by decide, by decide⟩ 5 rfl rfl rfl rfl (Nat.le_of_ble_eq_true rfl) (by decide) dX4_openBracket_52 ?_
      obtain ⟨g2, hf⟩ := kb_gd hf
      refine ks_X4_openSteps (pc := 55) C g2 dX4_openBracket_55 ?_
      refine kj_aload_n (pc := 56) C 0 dX4_openBracket_56 rfl rfl ?_
      refine kg_X4_takes (pc := 57) C wf_X4_13 dX4_openBracket_57 ?_
      refine kj_aload_n (pc := 60) C 0 dX4_openBracket_60 rfl rfl ?_
      refine kg_X4_depth (pc := 61) (v := ((kb_g σ 9) + (1 : Int32))) C wf_X4_30 dX4_openBracket_61 rfl ?_
      refine kj_lconst (pc := 64) (v := (0 : Int64)) C dX4_openBracket_64 (by decide) ?_
      obtain ⟨g3, hf⟩ := kb_gd hf
      refine ks_X4_takes (pc := 65) C g3 dX4_openBracket_65 ?_
      refine kj_aload_n (pc := 66) C 0 dX4_openBracket_66 rfl rfl ?_
      refine kg_X4_plan (pc := 67) C wf_X4_21 dX4_openBracket_67 ?_
      refine kj_iload_n (pc := 70) C 1 dX4_openBracket_70 rfl rfl ?_
      refine kj_iload_n (pc := 71) C 2 dX4_openBracket_71 rfl rfl ?_
      obtain ⟨q4, hq4, hf⟩ := kb_bd hf
      refine kj_callV0 (pc := 72) (as := [.int x1, .int x2]) (rest := []) (b := (a 5)) C (ct_X3_addOpen l V A x1 x2 a (kb_bp (kb_ap (kb_p (kb_p σ 10 ((kb_g σ 10) + (1 : Int32))) 9 ((kb_g σ 9) + (1 : Int32))) 6 ((kb_g σ 9) + (1 : Int32)).toNatClampNeg (fn_X3_size  (kb_p (kb_p σ 10 ((kb_g σ 10) + (1 : Int32))) 9 ((kb_g σ 9) + (1 : Int32))))) 0 ((kb_g σ 9) + (1 : Int32)).toNatClampNeg (0 : Int64)) sh ex hq4) wd_X3_addOpen wk_X4_170 wi_X3_addOpen ws_X3_addOpen wz_X3 rfl rfl hd_X3_addOpen ⟨by decide, by decide⟩ 5 rfl rfl rfl rfl (Nat.le_of_ble_eq_true rfl) (by decide) dX4_openBracket_72 ?_
      cases hf
      exact kj_vret (pc := 75) C dX4_openBracket_75
  refine kj_sub [0, 1, 2] (L2 := [(0, .ref (a 3)), (1, .int x1), (2, .int x2)]) rfl ?_
  rw [fe_X4_openBracket] at hf
  refine kj_aload_n (pc := 0) C 0 dX4_openBracket_0 rfl rfl ?_
  refine kg_X4_depth (pc := 1) (v := (kb_g σ 9)) C wf_X4_30 dX4_openBracket_1 rfl ?_
  refine kj_iconst (pc := 4) (v := (4 : Int32)) C dX4_openBracket_4 (by decide) ?_
  refine kj_icmp_lt (pc := 5) 13 C dX4_openBracket_5 (by decide) (fun c1 => ?_) (fun c1 => ?_)
  · have hf := kb_ift hf c1
    exact hp13 x1 x2 σ hf
  · have hf := kb_ife hf c1
    refine kj_aload_n (pc := 8) C 0 dX4_openBracket_8 rfl rfl ?_
    refine kj_iconst (pc := 9) (v := (2 : Int32)) C dX4_openBracket_9 (by decide) ?_
    obtain ⟨q2, hq2, hf⟩ := kb_bd hf
    refine kj_callV0 (pc := 10) (as := [.int (2 : Int32)]) (rest := []) (b := (a 3)) C (ct_X4_fail l V A (2 : Int32) a σ sh ex hq2) wd_X4_fail wk_X4_108 wi_X4_fail ws_X4_fail wz_X4 rfl rfl hd_X4_fail ⟨by decide, by decide⟩ 3 rfl rfl rfl rfl (Nat.le_of_ble_eq_true rfl) (by decide) dX4_openBracket_10 ?_
    exact hp13 x1 x2 q2 hf
def fn_X4_addStitches  (x1 : Int32) (x2 : Int32) (x3 : Int32) (σ : kb_S) : Option (kb_S) :=
  if (fn_X4_isRight  σ) = 0 then
    some σ
  else
    (fn_X3_addStitches x1 x2 x3 σ).bind fun q2 =>
    if kb_in (kb_g q2 9) 5 = true then
      (fn_X6_loopsTaken x1).bind fun q4 =>
      if kb_in (kb_g q2 9) 5 = true then
        some (kb_p (kb_bp q2 0 (kb_g q2 9).toNatClampNeg ((kb_b q2 0 (kb_g q2 9).toNatClampNeg) + ((x2.toInt64) * (q4.toInt64)))) 12 (0 : Int32))
      else none
    else none
theorem fe_X4_addStitches  (x1 : Int32) (x2 : Int32) (x3 : Int32) (σ : kb_S) : fn_X4_addStitches  x1 x2 x3 σ =
  if (fn_X4_isRight  σ) = 0 then
    some σ
  else
    (fn_X3_addStitches x1 x2 x3 σ).bind fun q2 =>
    if kb_in (kb_g q2 9) 5 = true then
      (fn_X6_loopsTaken x1).bind fun q4 =>
      if kb_in (kb_g q2 9) 5 = true then
        some (kb_p (kb_bp q2 0 (kb_g q2 9).toNatClampNeg ((kb_b q2 0 (kb_g q2 9).toNatClampNeg) + ((x2.toInt64) * (q4.toInt64)))) 12 (0 : Int32))
      else none
    else none := rfl
theorem hd_X4_addStitches : yX4_addStitches.cls = RX4 ∧ yX4_addStitches.cls ≠ "java/lang/invoke/MethodHandle" ∧ yX4_addStitches.cls ≠ "java/lang/invoke/VarHandle" ∧ (parseMethodDescriptor yX4_addStitches.desc).map (fun d => d.parameters.length) = some 3 := by decide +kernel
set_option maxRecDepth 100000 in
set_option maxHeartbeats 4000000 in
theorem ct_X4_addStitches (l : Launch) (V : kb_V) (A : Nat → Prop)  (x1 : Int32) (x2 : Int32) (x3 : Int32) (a : Nat → Nat) (σ : kb_S) (sh : Value) (ex : va_W) {σ9 : kb_S} (hf : fn_X4_addStitches  x1 x2 x3 σ = some σ9) : kb_T l yX4_addStitches cX4_addStitches 4 none ({ frames := 2, cells := 0, slots := 0, locals := 47 } : Room) V A [.ref (a 3), .int x1, .int x2, .int x3] (kb_W V a σ sh ex) none (kb_W V a σ9 sh ex) 0 0 := by
  refine kb_start (cc := cX4_addStitches) (nL := 4) (ret := none) (own := RX4) (by decide) rfl (Nat.le_of_ble_eq_true rfl) ?_
  intro p e s m args below meth c C
  refine kj_sub [0, 1, 2, 3] (L2 := [(0, .ref (a 3)), (1, .int x1), (2, .int x2), (3, .int x3)]) rfl ?_
  rw [fe_X4_addStitches] at hf
  refine kj_aload_n (pc := 0) C 0 dX4_addStitches_0 rfl rfl ?_
  refine kj_callV0 (pc := 1) (as := []) (rest := []) (b := (a 3)) C (ct_X4_isRight l V A  a σ sh ex rfl) wd_X4_isRight wk_X4_55 wi_X4_isRight ws_X4_isRight wz_X4 rfl rfl hd_X4_isRight ⟨by decide, by decide⟩ 3 rfl rfl rfl rfl (Nat.le_of_ble_eq_true rfl) (by decide) dX4_addStitches_1 ?_
  refine kj_if_eq (pc := 4) 42 C dX4_addStitches_4 (by decide) (fun c1 => ?_) (fun c1 => ?_)
  · have hf := kb_ift hf c1
    cases hf
    exact kj_vret (pc := 42) C dX4_addStitches_42
  · have hf := kb_ife hf c1
    refine kj_aload_n (pc := 7) C 0 dX4_addStitches_7 rfl rfl ?_
    refine kg_X4_plan (pc := 8) C wf_X4_21 dX4_addStitches_8 ?_
    refine kj_iload_n (pc := 11) C 1 dX4_addStitches_11 rfl rfl ?_
    refine kj_iload_n (pc := 12) C 2 dX4_addStitches_12 rfl rfl ?_
    refine kj_iload_n (pc := 13) C 3 dX4_addStitches_13 rfl rfl ?_
    obtain ⟨q2, hq2, hf⟩ := kb_bd hf
    refine kj_callV0 (pc := 14) (as := [.int x1, .int x2, .int x3]) (rest := []) (b := (a 5)) C (ct_X3_addStitches l V A x1 x2 x3 a σ sh ex hq2) wd_X3_addStitches wk_X4_164 wi_X3_addStitches ws_X3_addStitches wz_X3 rfl rfl hd_X3_addStitches ⟨by decide, by decide⟩ 5 rfl rfl rfl rfl (Nat.le_of_ble_eq_true rfl) (by decide) dX4_addStitches_14 ?_
    refine kj_aload_n (pc := 17) C 0 dX4_addStitches_17 rfl rfl ?_
    refine kg_X4_takes (pc := 18) C wf_X4_13 dX4_addStitches_18 ?_
    refine kj_aload_n (pc := 21) C 0 dX4_addStitches_21 rfl rfl ?_
    refine kg_X4_depth (pc := 22) (v := (kb_g q2 9)) C wf_X4_30 dX4_addStitches_22 rfl ?_
    refine kj_dup2 (pc := 25) C dX4_addStitches_25 rfl rfl ?_
    obtain ⟨g3, hf⟩ := kb_gd hf
    refine ka_X4_takes (pc := 26) (v := (kb_b q2 0 (kb_g q2 9).toNatClampNeg)) C g3 dX4_addStitches_26 rfl ?_
    refine kj_iload_n (pc := 27) C 2 dX4_addStitches_27 rfl rfl ?_
    refine kj_i2l (pc := 28) C dX4_addStitches_28 ?_
    refine kj_iload_n (pc := 29) C 1 dX4_addStitches_29 rfl rfl ?_
    obtain ⟨q4, hq4, hf⟩ := kb_bd hf
    refine kj_callS0 (pc := 30) (as := [.int x1]) (rest := [.long (x2.toInt64), .long (kb_b q2 0 (kb_g q2 9).toNatClampNeg), .int (kb_g q2 9), .ref (a 13)]) C (ct_X6_loopsTaken l V A x1 (kb_W V a q2 sh ex) hq4) wd_X6_loopsTaken wk_X4_165 wi_X6_loopsTaken wz_X6 rfl rfl hd_X6_loopsTaken ⟨by decide, by decide⟩ rfl (Nat.le_of_ble_eq_true rfl) (by decide) dX4_addStitches_30 ?_
    refine kj_i2l (pc := 33) C dX4_addStitches_33 ?_
    refine kj_lmul (pc := 34) C dX4_addStitches_34 ?_
    refine kj_ladd (pc := 35) C dX4_addStitches_35 ?_
    obtain ⟨g5, hf⟩ := kb_gd hf
    refine ks_X4_takes (pc := 36) C g5 dX4_addStitches_36 ?_
    refine kj_aload_n (pc := 37) C 0 dX4_addStitches_37 rfl rfl ?_
    refine kj_iconst (pc := 38) (v := (0 : Int32)) C dX4_addStitches_38 (by decide) ?_
    refine kp_X4_itemIsDue (pc := 39) C wf_X4_42 dX4_addStitches_39 (Or.inl rfl) ?_
    cases hf
    exact kj_vret (pc := 42) C dX4_addStitches_42
def fp_X4_readCableDigit_25   (σ : kb_S) : Option (kb_S × Int32) :=
  (fn_X4_fail (1 : Int32) σ).bind fun q1 =>
  some (q1, (1 : Int32))
theorem fp_X4_readCableDigit_25_e   (σ : kb_S) : fp_X4_readCableDigit_25  σ =
  (fn_X4_fail (1 : Int32) σ).bind fun q1 =>
  some (q1, (1 : Int32)) := rfl
def fn_X4_readCableDigit   (σ : kb_S) : Option (kb_S × Int32) :=
  (fn_X4_next  σ).bind fun q1 =>
  if (fn_X4_isRight  σ) = 0 then
    fp_X4_readCableDigit_25   σ
  else
    if (q1 - (48 : Int32)) < (1 : Int32) then
      fp_X4_readCableDigit_25   σ
    else
      if (q1 - (48 : Int32)) ≤ (5 : Int32) then
        some ((kb_p σ 10 ((kb_g σ 10) + (1 : Int32))), (q1 - (48 : Int32)))
      else
        fp_X4_readCableDigit_25   σ
theorem fe_X4_readCableDigit   (σ : kb_S) : fn_X4_readCableDigit   σ =
  (fn_X4_next  σ).bind fun q1 =>
  if (fn_X4_isRight  σ) = 0 then
    fp_X4_readCableDigit_25   σ
  else
    if (q1 - (48 : Int32)) < (1 : Int32) then
      fp_X4_readCableDigit_25   σ
    else
      if (q1 - (48 : Int32)) ≤ (5 : Int32) then
        some ((kb_p σ 10 ((kb_g σ 10) + (1 : Int32))), (q1 - (48 : Int32)))
      else
        fp_X4_readCableDigit_25   σ := rfl
theorem hd_X4_readCableDigit : yX4_readCableDigit.cls = RX4 ∧ yX4_readCableDigit.cls ≠ "java/lang/invoke/MethodHandle" ∧ yX4_readCableDigit.cls ≠ "java/lang/invoke/VarHandle" ∧ (parseMethodDescriptor yX4_readCableDigit.desc).map (fun d => d.parameters.length) = some 0 := by decide +kernel
set_option maxRecDepth 100000 in
set_option maxHeartbeats 4000000 in
theorem ct_X4_readCableDigit (l : Launch) (V : kb_V) (A : Nat → Prop)   (a : Nat → Nat) (σ : kb_S) (sh : Value) (ex : va_W) {σ9 : kb_S} {r : Int32} (hf : fn_X4_readCableDigit   σ = some (σ9, r)) : kb_T l yX4_readCableDigit cX4_readCableDigit 2 (some .int) ({ frames := 2, cells := 0, slots := 0, locals := 42 } : Room) V A [.ref (a 3)] (kb_W V a σ sh ex) (some (.int r)) (kb_W V a σ9 sh ex) 0 0 := by
  refine kb_start (cc := cX4_readCableDigit) (nL := 2) (ret := (some .int)) (own := RX4) (by decide) rfl (Nat.le_of_ble_eq_true rfl) ?_
  intro p e s m args below meth c C
  have hp25 : ∀ (σ : kb_S), fp_X4_readCableDigit_25   σ = some (σ9, r) → kb_J p l e ({ frames := 2, cells := 0, slots := 0, locals := 42 } : Room) s m args below meth c 2 V A 0 0 (MQ below (kb_post V A (some (.int r)) (kb_W V a σ9 sh ex)) args s 0 0 A) 25 [(0, .ref (a 3))] [] (kb_W V a σ sh ex) := by
    intro σ hf
    rw [fp_X4_readCableDigit_25_e] at hf
    refine kj_aload_n (pc := 25) C 0 dX4_readCableDigit_25 rfl rfl ?_
    refine kj_iconst (pc := 26) (v := (1 : Int32)) C dX4_readCableDigit_26 (by decide) ?_
    obtain ⟨q1, hq1, hf⟩ := kb_bd hf
    refine kj_callV0 (pc := 27) (as := [.int (1 : Int32)]) (rest := []) (b := (a 3)) C (ct_X4_fail l V A (1 : Int32) a σ sh ex hq1) wd_X4_fail wk_X4_108 wi_X4_fail ws_X4_fail wz_X4 rfl rfl hd_X4_fail ⟨by decide, by decide⟩ 3 rfl rfl rfl rfl (Nat.le_of_ble_eq_true rfl) (by decide) dX4_readCableDigit_27 ?_
    refine kj_iconst (pc := 30) (v := (1 : Int32)) C dX4_readCableDigit_30 (by decide) ?_
    cases hf
    exact kj_iret (pc := 31) C dX4_readCableDigit_31
  refine kj_sub [0] (L2 := [(0, .ref (a 3))]) rfl ?_
  rw [fe_X4_readCableDigit] at hf
  refine kj_aload_n (pc := 0) C 0 dX4_readCableDigit_0 rfl rfl ?_
  obtain ⟨q1, hq1, hf⟩ := kb_bd hf
  refine kj_callV0 (pc := 1) (as := []) (rest := []) (b := (a 3)) C (ct_X4_next l V A  a σ sh ex hq1) wd_X4_next wk_X4_76 wi_X4_next ws_X4_next wz_X4 rfl rfl hd_X4_next ⟨by decide, by decide⟩ 3 rfl rfl rfl rfl (Nat.le_of_ble_eq_true rfl) (by decide) dX4_readCableDigit_1 ?_
  refine kj_bipush (pc := 4) (v := (48 : Int32)) C dX4_readCableDigit_4 (by decide) ?_
  refine kj_isub (pc := 6) C dX4_readCableDigit_6 ?_
  refine kj_istore_n (pc := 7) C [1, 0] (L2 := [(0, .ref (a 3)), (1, .int (q1 - (48 : Int32)))]) dX4_readCableDigit_7 rfl (by decide) rfl ?_
  refine kj_aload_n (pc := 8) C 0 dX4_readCableDigit_8 rfl rfl ?_
  refine kj_callV0 (pc := 9) (as := []) (rest := []) (b := (a 3)) C (ct_X4_isRight l V A  a σ sh ex rfl) wd_X4_isRight wk_X4_55 wi_X4_isRight ws_X4_isRight wz_X4 rfl rfl hd_X4_isRight ⟨by decide, by decide⟩ 3 rfl rfl rfl rfl (Nat.le_of_ble_eq_true rfl) (by decide) dX4_readCableDigit_9 ?_
  refine kj_if_eq (pc := 12) 25 C dX4_readCableDigit_12 (by decide) (fun c2 => ?_) (fun c2 => ?_)
  · have hf := kb_ift hf c2
    refine kj_sub [0] (L2 := [(0, .ref (a 3))]) rfl ?_
    exact hp25 σ hf
  · have hf := kb_ife hf c2
    refine kj_iload_n (pc := 15) C 1 dX4_readCableDigit_15 rfl rfl ?_
    refine kj_iconst (pc := 16) (v := (1 : Int32)) C dX4_readCableDigit_16 (by decide) ?_
    refine kj_icmp_lt (pc := 17) 25 C dX4_readCableDigit_17 (by decide) (fun c3 => ?_) (fun c3 => ?_)
    · have hf := kb_ift hf c3
      refine kj_sub [0] (L2 := [(0, .ref (a 3))]) rfl ?_
      exact hp25 σ hf
    · have hf := kb_ife hf c3
      refine kj_iload_n (pc := 20) C 1 dX4_readCableDigit_20 rfl rfl ?_
      refine kj_iconst (pc := 21) (v := (5 : Int32)) C dX4_readCableDigit_21 (by decide) ?_
      refine kj_icmp_le (pc := 22) 32 C dX4_readCableDigit_22 (by decide) (fun c4 => ?_) (fun c4 => ?_)
      · have hf := kb_ift hf c4
        refine kj_aload_n (pc := 32) C 0 dX4_readCableDigit_32 rfl rfl ?_
        refine kj_dup (pc := 33) C dX4_readCableDigit_33 rfl ?_
        refine kg_X4_at (pc := 34) (v := (kb_g σ 10)) C wf_X4_34 dX4_readCableDigit_34 rfl ?_
        refine kj_iconst (pc := 37) (v := (1 : Int32)) C dX4_readCableDigit_37 (by decide) ?_
        refine kj_iadd (pc := 38) C dX4_readCableDigit_38 ?_
        refine kp_X4_at (pc := 39) C wf_X4_34 dX4_readCableDigit_39 ?_
        refine kj_iload_n (pc := 42) C 1 dX4_readCableDigit_42 rfl rfl ?_
        cases hf
        exact kj_iret (pc := 43) C dX4_readCableDigit_43
      · have hf := kb_ife hf c4
        refine kj_sub [0] (L2 := [(0, .ref (a 3))]) rfl ?_
        exact hp25 σ hf
def fp_X4_readWord_47  (kc2 : Nat → Int32 → kb_S → Option (kb_S)) (x1 : Nat) (x2 : Int32) (σ : kb_S) : Option (kb_S) :=
  kc2 x1 (x2 + (1 : Int32)) σ
theorem fp_X4_readWord_47_e  (kc2 : Nat → Int32 → kb_S → Option (kb_S)) (x1 : Nat) (x2 : Int32) (σ : kb_S) : fp_X4_readWord_47 kc2 x1 x2 σ =
  kc2 x1 (x2 + (1 : Int32)) σ := rfl
def fp_X4_readWord_2   : Nat → Nat → Int32 → kb_S → Option (kb_S)
  | 0 => fun _ _ _ => none
  | nn + 1 => fun x1 x2 σ => 
  if x1 < 19 then
    if (Int32.ofNat (kb_sln x1)) ≤ x2 then
      some σ
    else
      if (fn_X4_isRight  σ) = 0 then
        some σ
      else
        (fn_X4_next  σ).bind fun q4 =>
        if x1 < 19 ∧ kb_in x2 (kb_sln x1) = true then
          if q4 = (kb_sch x1 x2.toNatClampNeg) then
            fp_X4_readWord_47  (fp_X4_readWord_2  nn) x1 x2 (kb_p σ 10 ((kb_g σ 10) + (1 : Int32)))
          else
            (fn_X4_fail (1 : Int32) σ).bind fun q7 =>
            fp_X4_readWord_47  (fp_X4_readWord_2  nn) x1 x2 q7
        else none
  else none
theorem fp_X4_readWord_2_s   (nn : Nat) (x1 : Nat) (x2 : Int32) (σ : kb_S) : fp_X4_readWord_2  (nn + 1) x1 x2 σ =
  if x1 < 19 then
    if (Int32.ofNat (kb_sln x1)) ≤ x2 then
      some σ
    else
      if (fn_X4_isRight  σ) = 0 then
        some σ
      else
        (fn_X4_next  σ).bind fun q4 =>
        if x1 < 19 ∧ kb_in x2 (kb_sln x1) = true then
          if q4 = (kb_sch x1 x2.toNatClampNeg) then
            fp_X4_readWord_47  (fp_X4_readWord_2  nn) x1 x2 (kb_p σ 10 ((kb_g σ 10) + (1 : Int32)))
          else
            (fn_X4_fail (1 : Int32) σ).bind fun q7 =>
            fp_X4_readWord_47  (fp_X4_readWord_2  nn) x1 x2 q7
        else none
  else none := rfl
def fn_X4_readWord  (x1 : Nat) (σ : kb_S) : Option (kb_S) :=
  fp_X4_readWord_2   kb_FU x1 (0 : Int32) σ
theorem fe_X4_readWord  (x1 : Nat) (σ : kb_S) : fn_X4_readWord  x1 σ =
  fp_X4_readWord_2   kb_FU x1 (0 : Int32) σ := rfl
theorem hd_X4_readWord : yX4_readWord.cls = RX4 ∧ yX4_readWord.cls ≠ "java/lang/invoke/MethodHandle" ∧ yX4_readWord.cls ≠ "java/lang/invoke/VarHandle" ∧ (parseMethodDescriptor yX4_readWord.desc).map (fun d => d.parameters.length) = some 1 := by decide +kernel
set_option maxRecDepth 100000 in
set_option maxHeartbeats 4000000 in
theorem ct_X4_readWord (l : Launch) (V : kb_V) (A : Nat → Prop)  (x1 : Nat) (a : Nat → Nat) (σ : kb_S) (sh : Value) (ex : va_W) {σ9 : kb_S} (hf : fn_X4_readWord  x1 σ = some σ9) : kb_T l yX4_readWord cX4_readWord 3 none ({ frames := 4, cells := 0, slots := 0, locals := 85 } : Room) V A [.ref (a 3), .ref (V.2.2 (10 + x1))] (kb_W V a σ sh ex) none (kb_W V a σ9 sh ex) 0 0 := by
  refine kb_start (cc := cX4_readWord) (nL := 3) (ret := none) (own := RX4) (by decide) rfl (Nat.le_of_ble_eq_true rfl) ?_
  intro p e s m args below meth c C
  have hp2 : ∀ (nn : Nat) (x1 : Nat) (x2 : Int32) (σ : kb_S), fp_X4_readWord_2   nn x1 x2 σ = some σ9 → kb_J p l e ({ frames := 4, cells := 0, slots := 0, locals := 85 } : Room) s m args below meth c 3 V A 0 0 (MQ below (kb_post V A none (kb_W V a σ9 sh ex)) args s 0 0 A) 2 [(0, .ref (a 3)), (1, .ref (V.2.2 (10 + x1))), (2, .int x2)] [] (kb_W V a σ sh ex) := by
    intro nn2
    induction nn2 with
    | zero => intro x1 x2 σ hf; exact kb_no hf
    | succ nn2 ih2 =>
      have hp47 : ∀ (x1 : Nat) (x2 : Int32) (σ : kb_S), fp_X4_readWord_47  (fp_X4_readWord_2   nn2) x1 x2 σ = some σ9 → kb_J p l e ({ frames := 4, cells := 0, slots := 0, locals := 85 } : Room) s m args below meth c 3 V A 0 0 (MQ below (kb_post V A none (kb_W V a σ9 sh ex)) args s 0 0 A) 47 [(0, .ref (a 3)), (1, .ref (V.2.2 (10 + x1))), (2, .int x2)] [] (kb_W V a σ sh ex) := by
        intro x1 x2 σ hf
        rw [fp_X4_readWord_47_e] at hf
        refine kj_iinc (pc := 47) C 2 [1, 2, 0] (L2 := [(0, .ref (a 3)), (1, .ref (V.2.2 (10 + x1))), (2, .int (x2 + (1 : Int32)))]) dX4_readWord_47 rfl rfl (by decide) rfl ?_
        refine kj_goto (pc := 50) 2 C dX4_readWord_50 (by decide) ?_
        exact ih2 x1 (x2 + (1 : Int32)) σ hf
      intro x1 x2 σ hf
      rw [fp_X4_readWord_2_s] at hf
      refine kj_iload_n (pc := 2) C 2 dX4_readWord_2 rfl rfl ?_
      refine kj_aload_n (pc := 3) C 1 dX4_readWord_3 rfl rfl ?_
      obtain ⟨g1, hf⟩ := kb_gd hf
      refine kj_strlen (pc := 4) (i := x1) C g1 wk_X4_192 (by decide) (Nat.le_of_ble_eq_true rfl) (by decide) dX4_readWord_4 ?_
      refine kj_icmp_ge (pc := 7) 53 C dX4_readWord_7 (by decide) (fun c2 => ?_) (fun c2 => ?_)
      · have hf := kb_ift hf c2
        cases hf
        exact kj_vret (pc := 53) C dX4_readWord_53
      · have hf := kb_ife hf c2
        refine kj_aload_n (pc := 10) C 0 dX4_readWord_10 rfl rfl ?_
        refine kj_callV0 (pc := 11) (as := []) (rest := []) (b := (a 3)) C (ct_X4_isRight l V A  a σ sh ex rfl) wd_X4_isRight wk_X4_55 wi_X4_isRight ws_X4_isRight wz_X4 rfl rfl hd_X4_isRight ⟨by decide, by decide⟩ 3 rfl rfl rfl rfl (Nat.le_of_ble_eq_true rfl) (by decide) dX4_readWord_11 ?_
        refine kj_if_eq (pc := 14) 53 C dX4_readWord_14 (by decide) (fun c3 => ?_) (fun c3 => ?_)
        · have hf := kb_ift hf c3
          cases hf
          exact kj_vret (pc := 53) C dX4_readWord_53
        · have hf := kb_ife hf c3
          refine kj_aload_n (pc := 17) C 0 dX4_readWord_17 rfl rfl ?_
          obtain ⟨q4, hq4, hf⟩ := kb_bd hf
          refine kj_callV0 (pc := 18) (as := []) (rest := []) (b := (a 3)) C (ct_X4_next l V A  a σ sh ex hq4) wd_X4_next wk_X4_76 wi_X4_next ws_X4_next wz_X4 rfl rfl hd_X4_next ⟨by decide, by decide⟩ 3 rfl rfl rfl rfl (Nat.le_of_ble_eq_true rfl) (by decide) dX4_readWord_18 ?_
          refine kj_aload_n (pc := 21) C 1 dX4_readWord_21 rfl rfl ?_
          refine kj_iload_n (pc := 22) C 2 dX4_readWord_22 rfl rfl ?_
          obtain ⟨g5, hf⟩ := kb_gd hf
          refine kj_charAt (pc := 23) (i := x1) C g5.1 g5.2 wk_X4_195 (by decide) (Nat.le_of_ble_eq_true rfl) (by decide) dX4_readWord_23 ?_
          refine kj_icmp_ne (pc := 26) 42 C dX4_readWord_26 (by decide) (fun c6 => ?_) (fun c6 => ?_)
          · have hf := kb_ife hf c6
            refine kj_aload_n (pc := 42) C 0 dX4_readWord_42 rfl rfl ?_
            refine kj_iconst (pc := 43) (v := (1 : Int32)) C dX4_readWord_43 (by decide) ?_
            obtain ⟨q7, hq7, hf⟩ := kb_bd hf
            refine kj_callV0 (pc := 44) (as := [.int (1 : Int32)]) (rest := []) (b := (a 3)) C (ct_X4_fail l V A (1 : Int32) a σ sh ex hq7) wd_X4_fail wk_X4_108 wi_X4_fail ws_X4_fail wz_X4 rfl rfl hd_X4_fail ⟨by decide, by decide⟩ 3 rfl rfl rfl rfl (Nat.le_of_ble_eq_true rfl) (by decide) dX4_readWord_44 ?_
            exact hp47 x1 x2 q7 hf
          · have hf := kb_ift hf c6
            refine kj_aload_n (pc := 29) C 0 dX4_readWord_29 rfl rfl ?_
            refine kj_dup (pc := 30) C dX4_readWord_30 rfl ?_
            refine kg_X4_at (pc := 31) (v := (kb_g σ 10)) C wf_X4_34 dX4_readWord_31 rfl ?_
            refine kj_iconst (pc := 34) (v := (1 : Int32)) C dX4_readWord_34 (by decide) ?_
            refine kj_iadd (pc := 35) C dX4_readWord_35 ?_
            refine kp_X4_at (pc := 36) C wf_X4_34 dX4_readWord_36 ?_
            refine kj_goto (pc := 39) 47 C dX4_readWord_39 (by decide) ?_
            exact hp47 x1 x2 (kb_p σ 10 ((kb_g σ 10) + (1 : Int32))) hf
  refine kj_sub [0, 1] (L2 := [(0, .ref (a 3)), (1, .ref (V.2.2 (10 + x1)))]) rfl ?_
  rw [fe_X4_readWord] at hf
  refine kj_iconst (pc := 0) (v := (0 : Int32)) C dX4_readWord_0 (by decide) ?_
  refine kj_istore_n (pc := 1) C [1, 2, 0] (L2 := [(0, .ref (a 3)), (1, .ref (V.2.2 (10 + x1))), (2, .int (0 : Int32))]) dX4_readWord_1 rfl (by decide) rfl ?_
  exact hp2 kb_FU x1 (0 : Int32) σ hf
def fn_X4_readCable  (x1 : Int32) (σ : kb_S) : Option (kb_S) :=
  (fn_X4_readWord 10 σ).bind fun q1 =>
  (fn_X4_readCableDigit  q1).bind fun q2 =>
  (fn_X4_readWord 11 q2.1).bind fun q3 =>
  (fn_X4_readCableDigit  q3).bind fun q4 =>
  (fn_X4_next  q4.1).bind fun q5 =>
  if q5 = (102 : Int32) then
    (fn_X4_readWord 12 q4.1).bind fun q7 =>
    (fn_X4_addStitches (fn_X6_cable q2.2 q4.2 (10 : Int32)) (1 : Int32) x1 q7).bind fun q8 =>
    some q8
  else
    (fn_X4_readWord 13 q4.1).bind fun q7 =>
    (fn_X4_addStitches (fn_X6_cable q2.2 q4.2 (11 : Int32)) (1 : Int32) x1 q7).bind fun q8 =>
    some q8
theorem fe_X4_readCable  (x1 : Int32) (σ : kb_S) : fn_X4_readCable  x1 σ =
  (fn_X4_readWord 10 σ).bind fun q1 =>
  (fn_X4_readCableDigit  q1).bind fun q2 =>
  (fn_X4_readWord 11 q2.1).bind fun q3 =>
  (fn_X4_readCableDigit  q3).bind fun q4 =>
  (fn_X4_next  q4.1).bind fun q5 =>
  if q5 = (102 : Int32) then
    (fn_X4_readWord 12 q4.1).bind fun q7 =>
    (fn_X4_addStitches (fn_X6_cable q2.2 q4.2 (10 : Int32)) (1 : Int32) x1 q7).bind fun q8 =>
    some q8
  else
    (fn_X4_readWord 13 q4.1).bind fun q7 =>
    (fn_X4_addStitches (fn_X6_cable q2.2 q4.2 (11 : Int32)) (1 : Int32) x1 q7).bind fun q8 =>
    some q8 := rfl
theorem hd_X4_readCable : yX4_readCable.cls = RX4 ∧ yX4_readCable.cls ≠ "java/lang/invoke/MethodHandle" ∧ yX4_readCable.cls ≠ "java/lang/invoke/VarHandle" ∧ (parseMethodDescriptor yX4_readCable.desc).map (fun d => d.parameters.length) = some 1 := by decide +kernel
set_option maxRecDepth 100000 in
set_option maxHeartbeats 4000000 in
theorem ct_X4_readCable (l : Launch) (V : kb_V) (A : Nat → Prop)  (x1 : Int32) (a : Nat → Nat) (σ : kb_S) (sh : Value) (ex : va_W) {σ9 : kb_S} (hf : fn_X4_readCable  x1 σ = some σ9) : kb_T l yX4_readCable cX4_readCable 4 none ({ frames := 5, cells := 0, slots := 0, locals := 107 } : Room) V A [.ref (a 3), .int x1] (kb_W V a σ sh ex) none (kb_W V a σ9 sh ex) 0 0 := by
  refine kb_start (cc := cX4_readCable) (nL := 4) (ret := none) (own := RX4) (by decide) rfl (Nat.le_of_ble_eq_true rfl) ?_
  intro p e s m args below meth c C
  refine kj_sub [0, 1] (L2 := [(0, .ref (a 3)), (1, .int x1)]) rfl ?_
  rw [fe_X4_readCable] at hf
  refine kj_aload_n (pc := 0) C 0 dX4_readCable_0 rfl rfl ?_
  refine kj_ldcS (pc := 1) (tx := "c") (a := 20) C (by decide +kernel) dX4_readCable_1 ?_
  obtain ⟨q1, hq1, hf⟩ := kb_bd hf
  refine kj_callV0 (pc := 3) (as := [.ref (V.2.2 (10 + 10))]) (rest := []) (b := (a 3)) C (ct_X4_readWord l V A 10 a σ sh ex hq1) wd_X4_readWord wk_X4_131 wi_X4_readWord ws_X4_readWord wz_X4 rfl rfl hd_X4_readWord ⟨by decide, by decide⟩ 3 rfl rfl rfl rfl (Nat.le_of_ble_eq_true rfl) (by decide) dX4_readCable_3 ?_
  refine kj_aload_n (pc := 6) C 0 dX4_readCable_6 rfl rfl ?_
  obtain ⟨q2, hq2, hf⟩ := kb_bd hf
  refine kj_callV0 (pc := 7) (as := []) (rest := []) (b := (a 3)) C (ct_X4_readCableDigit l V A  a q1 sh ex hq2) wd_X4_readCableDigit wk_X4_147 wi_X4_readCableDigit ws_X4_readCableDigit wz_X4 rfl rfl hd_X4_readCableDigit ⟨by decide, by decide⟩ 3 rfl rfl rfl rfl (Nat.le_of_ble_eq_true rfl) (by decide) dX4_readCable_7 ?_
  refine kj_istore_n (pc := 10) C [1, 2, 0] (L2 := [(0, .ref (a 3)), (1, .int x1), (2, .int q2.2)]) dX4_readCable_10 rfl (by decide) rfl ?_
  refine kj_aload_n (pc := 11) C 0 dX4_readCable_11 rfl rfl ?_
  refine kj_ldcS (pc := 12) (tx := "/") (a := 21) C (by decide +kernel) dX4_readCable_12 ?_
  obtain ⟨q3, hq3, hf⟩ := kb_bd hf
  refine kj_callV0 (pc := 14) (as := [.ref (V.2.2 (10 + 11))]) (rest := []) (b := (a 3)) C (ct_X4_readWord l V A 11 a q2.1 sh ex hq3) wd_X4_readWord wk_X4_131 wi_X4_readWord ws_X4_readWord wz_X4 rfl rfl hd_X4_readWord ⟨by decide, by decide⟩ 3 rfl rfl rfl rfl (Nat.le_of_ble_eq_true rfl) (by decide) dX4_readCable_14 ?_
  refine kj_aload_n (pc := 17) C 0 dX4_readCable_17 rfl rfl ?_
  obtain ⟨q4, hq4, hf⟩ := kb_bd hf
  refine kj_callV0 (pc := 18) (as := []) (rest := []) (b := (a 3)) C (ct_X4_readCableDigit l V A  a q3 sh ex hq4) wd_X4_readCableDigit wk_X4_147 wi_X4_readCableDigit ws_X4_readCableDigit wz_X4 rfl rfl hd_X4_readCableDigit ⟨by decide, by decide⟩ 3 rfl rfl rfl rfl (Nat.le_of_ble_eq_true rfl) (by decide) dX4_readCable_18 ?_
  refine kj_istore_n (pc := 21) C [1, 2, 3, 0] (L2 := [(0, .ref (a 3)), (1, .int x1), (2, .int q2.2), (3, .int q4.2)]) dX4_readCable_21 rfl (by decide) rfl ?_
  refine kj_aload_n (pc := 22) C 0 dX4_readCable_22 rfl rfl ?_
  obtain ⟨q5, hq5, hf⟩ := kb_bd hf
  refine kj_callV0 (pc := 23) (as := []) (rest := []) (b := (a 3)) C (ct_X4_next l V A  a q4.1 sh ex hq5) wd_X4_next wk_X4_76 wi_X4_next ws_X4_next wz_X4 rfl rfl hd_X4_next ⟨by decide, by decide⟩ 3 rfl rfl rfl rfl (Nat.le_of_ble_eq_true rfl) (by decide) dX4_readCable_23 ?_
  refine kj_bipush (pc := 26) (v := (102 : Int32)) C dX4_readCable_26 (by decide) ?_
  refine kj_icmp_ne (pc := 28) 53 C dX4_readCable_28 (by decide) (fun c6 => ?_) (fun c6 => ?_)
  · have hf := kb_ife hf c6
    refine kj_aload_n (pc := 53) C 0 dX4_readCable_53 rfl rfl ?_
    refine kj_ldcS (pc := 54) (tx := "b") (a := 23) C (by decide +kernel) dX4_readCable_54 ?_
    obtain ⟨q7, hq7, hf⟩ := kb_bd hf
    refine kj_callV0 (pc := 56) (as := [.ref (V.2.2 (10 + 13))]) (rest := []) (b := (a 3)) C (ct_X4_readWord l V A 13 a q4.1 sh ex hq7) wd_X4_readWord wk_X4_131 wi_X4_readWord ws_X4_readWord wz_X4 rfl rfl hd_X4_readWord ⟨by decide, by decide⟩ 3 rfl rfl rfl rfl (Nat.le_of_ble_eq_true rfl) (by decide) dX4_readCable_56 ?_
    refine kj_aload_n (pc := 59) C 0 dX4_readCable_59 rfl rfl ?_
    refine kj_iload_n (pc := 60) C 2 dX4_readCable_60 rfl rfl ?_
    refine kj_iload_n (pc := 61) C 3 dX4_readCable_61 rfl rfl ?_
    refine kj_bipush (pc := 62) (v := (11 : Int32)) C dX4_readCable_62 (by decide) ?_
    refine kj_callS0 (pc := 64) (as := [.int q2.2, .int q4.2, .int (11 : Int32)]) (rest := [.ref (a 3)]) C (ct_X6_cable l V A q2.2 q4.2 (11 : Int32) (kb_W V a q7 sh ex) rfl) wd_X6_cable wk_X4_154 wi_X6_cable wz_X6 rfl rfl hd_X6_cable ⟨by decide, by decide⟩ rfl (Nat.le_of_ble_eq_true rfl) (by decide) dX4_readCable_64 ?_
    refine kj_iconst (pc := 67) (v := (1 : Int32)) C dX4_readCable_67 (by decide) ?_
    refine kj_iload_n (pc := 68) C 1 dX4_readCable_68 rfl rfl ?_
    obtain ⟨q8, hq8, hf⟩ := kb_bd hf
    refine kj_callV0 (pc := 69) (as := [.int (fn_X6_cable q2.2 q4.2 (11 : Int32)), .int (1 : Int32), .int x1]) (rest := []) (b := (a 3)) C (ct_X4_addStitches l V A (fn_X6_cable q2.2 q4.2 (11 : Int32)) (1 : Int32) x1 a q7 sh ex hq8) wd_X4_addStitches wk_X4_138 wi_X4_addStitches ws_X4_addStitches wz_X4 rfl rfl hd_X4_addStitches ⟨by decide, by decide⟩ 3 rfl rfl rfl rfl (Nat.le_of_ble_eq_true rfl) (by decide) dX4_readCable_69 ?_
    cases hf
    exact kj_vret (pc := 72) C dX4_readCable_72
  · have hf := kb_ift hf c6
    refine kj_aload_n (pc := 31) C 0 dX4_readCable_31 rfl rfl ?_
    refine kj_ldcS (pc := 32) (tx := "f") (a := 22) C (by decide +kernel) dX4_readCable_32 ?_
    obtain ⟨q7, hq7, hf⟩ := kb_bd hf
    refine kj_callV0 (pc := 34) (as := [.ref (V.2.2 (10 + 12))]) (rest := []) (b := (a 3)) C (ct_X4_readWord l V A 12 a q4.1 sh ex hq7) wd_X4_readWord wk_X4_131 wi_X4_readWord ws_X4_readWord wz_X4 rfl rfl hd_X4_readWord ⟨by decide, by decide⟩ 3 rfl rfl rfl rfl (Nat.le_of_ble_eq_true rfl) (by decide) dX4_readCable_34 ?_
    refine kj_aload_n (pc := 37) C 0 dX4_readCable_37 rfl rfl ?_
    refine kj_iload_n (pc := 38) C 2 dX4_readCable_38 rfl rfl ?_
    refine kj_iload_n (pc := 39) C 3 dX4_readCable_39 rfl rfl ?_
    refine kj_bipush (pc := 40) (v := (10 : Int32)) C dX4_readCable_40 (by decide) ?_
    refine kj_callS0 (pc := 42) (as := [.int q2.2, .int q4.2, .int (10 : Int32)]) (rest := [.ref (a 3)]) C (ct_X6_cable l V A q2.2 q4.2 (10 : Int32) (kb_W V a q7 sh ex) rfl) wd_X6_cable wk_X4_154 wi_X6_cable wz_X6 rfl rfl hd_X6_cable ⟨by decide, by decide⟩ rfl (Nat.le_of_ble_eq_true rfl) (by decide) dX4_readCable_42 ?_
    refine kj_iconst (pc := 45) (v := (1 : Int32)) C dX4_readCable_45 (by decide) ?_
    refine kj_iload_n (pc := 46) C 1 dX4_readCable_46 rfl rfl ?_
    obtain ⟨q8, hq8, hf⟩ := kb_bd hf
    refine kj_callV0 (pc := 47) (as := [.int (fn_X6_cable q2.2 q4.2 (10 : Int32)), .int (1 : Int32), .int x1]) (rest := []) (b := (a 3)) C (ct_X4_addStitches l V A (fn_X6_cable q2.2 q4.2 (10 : Int32)) (1 : Int32) x1 a q7 sh ex hq8) wd_X4_addStitches wk_X4_138 wi_X4_addStitches ws_X4_addStitches wz_X4 rfl rfl hd_X4_addStitches ⟨by decide, by decide⟩ 3 rfl rfl rfl rfl (Nat.le_of_ble_eq_true rfl) (by decide) dX4_readCable_47 ?_
    refine kj_goto (pc := 50) 72 C dX4_readCable_50 (by decide) ?_
    cases hf
    exact kj_vret (pc := 72) C dX4_readCable_72
def fn_X4_isDigit  (x0 : Int32)  : Int32 :=
  if x0 < (48 : Int32) then
    (0 : Int32)
  else
    if (57 : Int32) < x0 then
      (0 : Int32)
    else
      (1 : Int32)
theorem fe_X4_isDigit  (x0 : Int32)  : fn_X4_isDigit  x0  =
  if x0 < (48 : Int32) then
    (0 : Int32)
  else
    if (57 : Int32) < x0 then
      (0 : Int32)
    else
      (1 : Int32) := rfl
theorem hd_X4_isDigit : yX4_isDigit.cls ≠ "java/lang/invoke/MethodHandle" ∧ yX4_isDigit.cls ≠ "java/lang/invoke/VarHandle" ∧ (parseMethodDescriptor yX4_isDigit.desc).map (fun d => d.parameters.length) = some 1 := by decide +kernel
set_option maxRecDepth 100000 in
set_option maxHeartbeats 4000000 in
theorem ct_X4_isDigit (l : Launch) (V : kb_V) (A : Nat → Prop)  (x0 : Int32) (ws : va_W) {r : Int32} (hf : fn_X4_isDigit  x0  = r) : kb_T l yX4_isDigit cX4_isDigit 1 (some .boolean) ({ frames := 0, cells := 0, slots := 0, locals := 0 } : Room) V A [.int x0] ws (some (.int r)) ws 0 0 := by
  refine kb_start (cc := cX4_isDigit) (nL := 1) (ret := (some .boolean)) (own := RX4) (by decide) rfl (Nat.le_of_ble_eq_true rfl) ?_
  intro p e s m args below meth c C
  refine kj_sub [0] (L2 := [(0, .int x0)]) rfl ?_
  rw [fe_X4_isDigit] at hf
  refine kj_iload_n (pc := 0) C 0 dX4_isDigit_0 rfl rfl ?_
  refine kj_bipush (pc := 1) (v := (48 : Int32)) C dX4_isDigit_1 (by decide) ?_
  refine kj_icmp_lt (pc := 3) 16 C dX4_isDigit_3 (by decide) (fun c1 => ?_) (fun c1 => ?_)
  · have hf := kb_ift hf c1
    refine kj_iconst (pc := 16) (v := (0 : Int32)) C dX4_isDigit_16 (by decide) ?_
    subst hf
    exact kj_zret (pc := 17) C (by decide) dX4_isDigit_17
  · have hf := kb_ife hf c1
    refine kj_iload_n (pc := 6) C 0 dX4_isDigit_6 rfl rfl ?_
    refine kj_bipush (pc := 7) (v := (57 : Int32)) C dX4_isDigit_7 (by decide) ?_
    refine kj_icmp_gt (pc := 9) 16 C dX4_isDigit_9 (by decide) (fun c2 => ?_) (fun c2 => ?_)
    · have hf := kb_ift hf c2
      refine kj_iconst (pc := 16) (v := (0 : Int32)) C dX4_isDigit_16 (by decide) ?_
      subst hf
      exact kj_zret (pc := 17) C (by decide) dX4_isDigit_17
    · have hf := kb_ife hf c2
      refine kj_iconst (pc := 12) (v := (1 : Int32)) C dX4_isDigit_12 (by decide) ?_
      refine kj_goto (pc := 13) 17 C dX4_isDigit_13 (by decide) ?_
      subst hf
      exact kj_zret (pc := 17) C (by decide) dX4_isDigit_17
def fp_X4_readNumber_33   (x1 : Int32) (σ : kb_S) : Option (kb_S × Int32) :=
  (fn_X4_fail (1 : Int32) σ).bind fun q1 =>
  some (q1, x1)
theorem fp_X4_readNumber_33_e   (x1 : Int32) (σ : kb_S) : fp_X4_readNumber_33  x1 σ =
  (fn_X4_fail (1 : Int32) σ).bind fun q1 =>
  some (q1, x1) := rfl
def fp_X4_readNumber_40   (x1 : Int32) (x2 : Int32) (σ : kb_S) : Option (kb_S × Int32) :=
  if x2 = 0 then
    some ((kb_p σ 10 ((kb_g σ 10) + (1 : Int32))), (0 : Int32))
  else
    (fn_X4_next  (kb_p σ 10 ((kb_g σ 10) + (1 : Int32)))).bind fun q2 =>
    if (fn_X4_isDigit q2) = 0 then
      if x1 ≤ x2 then
        some ((kb_p σ 10 ((kb_g σ 10) + (1 : Int32))), x2)
      else
        (fn_X4_fail (1 : Int32) (kb_p σ 10 ((kb_g σ 10) + (1 : Int32)))).bind fun q5 =>
        some (q5, x2)
    else
      (fn_X4_next  (kb_p σ 10 ((kb_g σ 10) + (1 : Int32)))).bind fun q4 =>
      some ((kb_p (kb_p σ 10 ((kb_g σ 10) + (1 : Int32))) 10 (((kb_g σ 10) + (1 : Int32)) + (1 : Int32))), ((((10 : Int32) * x2) + q4) - (48 : Int32)))
theorem fp_X4_readNumber_40_e   (x1 : Int32) (x2 : Int32) (σ : kb_S) : fp_X4_readNumber_40  x1 x2 σ =
  if x2 = 0 then
    some ((kb_p σ 10 ((kb_g σ 10) + (1 : Int32))), (0 : Int32))
  else
    (fn_X4_next  (kb_p σ 10 ((kb_g σ 10) + (1 : Int32)))).bind fun q2 =>
    if (fn_X4_isDigit q2) = 0 then
      if x1 ≤ x2 then
        some ((kb_p σ 10 ((kb_g σ 10) + (1 : Int32))), x2)
      else
        (fn_X4_fail (1 : Int32) (kb_p σ 10 ((kb_g σ 10) + (1 : Int32)))).bind fun q5 =>
        some (q5, x2)
    else
      (fn_X4_next  (kb_p σ 10 ((kb_g σ 10) + (1 : Int32)))).bind fun q4 =>
      some ((kb_p (kb_p σ 10 ((kb_g σ 10) + (1 : Int32))) 10 (((kb_g σ 10) + (1 : Int32)) + (1 : Int32))), ((((10 : Int32) * x2) + q4) - (48 : Int32))) := rfl
def fn_X4_readNumber  (x1 : Int32) (σ : kb_S) : Option (kb_S × Int32) :=
  (fn_X4_next  σ).bind fun q1 =>
  if (fn_X4_isRight  σ) = 0 then
    fp_X4_readNumber_33   x1 σ
  else
    (fn_X4_next  σ).bind fun q3 =>
    if (fn_X4_isDigit q3) = 0 then
      fp_X4_readNumber_33   x1 σ
    else
      if (q1 - (48 : Int32)) = 0 then
        if x1 ≤ 0 then
          fp_X4_readNumber_40   x1 (q1 - (48 : Int32)) σ
        else
          fp_X4_readNumber_33   x1 σ
      else
        fp_X4_readNumber_40   x1 (q1 - (48 : Int32)) σ
theorem fe_X4_readNumber  (x1 : Int32) (σ : kb_S) : fn_X4_readNumber  x1 σ =
  (fn_X4_next  σ).bind fun q1 =>
  if (fn_X4_isRight  σ) = 0 then
    fp_X4_readNumber_33   x1 σ
  else
    (fn_X4_next  σ).bind fun q3 =>
    if (fn_X4_isDigit q3) = 0 then
      fp_X4_readNumber_33   x1 σ
    else
      if (q1 - (48 : Int32)) = 0 then
        if x1 ≤ 0 then
          fp_X4_readNumber_40   x1 (q1 - (48 : Int32)) σ
        else
          fp_X4_readNumber_33   x1 σ
      else
        fp_X4_readNumber_40   x1 (q1 - (48 : Int32)) σ := rfl
theorem hd_X4_readNumber : yX4_readNumber.cls = RX4 ∧ yX4_readNumber.cls ≠ "java/lang/invoke/MethodHandle" ∧ yX4_readNumber.cls ≠ "java/lang/invoke/VarHandle" ∧ (parseMethodDescriptor yX4_readNumber.desc).map (fun d => d.parameters.length) = some 1 := by decide +kernel
set_option maxRecDepth 100000 in
set_option maxHeartbeats 4000000 in
theorem ct_X4_readNumber (l : Launch) (V : kb_V) (A : Nat → Prop)  (x1 : Int32) (a : Nat → Nat) (σ : kb_S) (sh : Value) (ex : va_W) {σ9 : kb_S} {r : Int32} (hf : fn_X4_readNumber  x1 σ = some (σ9, r)) : kb_T l yX4_readNumber cX4_readNumber 4 (some .int) ({ frames := 2, cells := 0, slots := 0, locals := 42 } : Room) V A [.ref (a 3), .int x1] (kb_W V a σ sh ex) (some (.int r)) (kb_W V a σ9 sh ex) 0 0 := by
  refine kb_start (cc := cX4_readNumber) (nL := 4) (ret := (some .int)) (own := RX4) (by decide) rfl (Nat.le_of_ble_eq_true rfl) ?_
  intro p e s m args below meth c C
  have hp33 : ∀ (x1 : Int32) (σ : kb_S), fp_X4_readNumber_33   x1 σ = some (σ9, r) → kb_J p l e ({ frames := 2, cells := 0, slots := 0, locals := 42 } : Room) s m args below meth c 4 V A 0 0 (MQ below (kb_post V A (some (.int r)) (kb_W V a σ9 sh ex)) args s 0 0 A) 33 [(0, .ref (a 3)), (1, .int x1)] [] (kb_W V a σ sh ex) := by
    intro x1 σ hf
    rw [fp_X4_readNumber_33_e] at hf
    refine kj_aload_n (pc := 33) C 0 dX4_readNumber_33 rfl rfl ?_
    refine kj_iconst (pc := 34) (v := (1 : Int32)) C dX4_readNumber_34 (by decide) ?_
    obtain ⟨q1, hq1, hf⟩ := kb_bd hf
    refine kj_callV0 (pc := 35) (as := [.int (1 : Int32)]) (rest := []) (b := (a 3)) C (ct_X4_fail l V A (1 : Int32) a σ sh ex hq1) wd_X4_fail wk_X4_108 wi_X4_fail ws_X4_fail wz_X4 rfl rfl hd_X4_fail ⟨by decide, by decide⟩ 3 rfl rfl rfl rfl (Nat.le_of_ble_eq_true rfl) (by decide) dX4_readNumber_35 ?_
    refine kj_iload_n (pc := 38) C 1 dX4_readNumber_38 rfl rfl ?_
    cases hf
    exact kj_iret (pc := 39) C dX4_readNumber_39
  have hp40 : ∀ (x1 : Int32) (x2 : Int32) (σ : kb_S), fp_X4_readNumber_40   x1 x2 σ = some (σ9, r) → kb_J p l e ({ frames := 2, cells := 0, slots := 0, locals := 42 } : Room) s m args below meth c 4 V A 0 0 (MQ below (kb_post V A (some (.int r)) (kb_W V a σ9 sh ex)) args s 0 0 A) 40 [(0, .ref (a 3)), (1, .int x1), (2, .int x2)] [] (kb_W V a σ sh ex) := by
    intro x1 x2 σ hf
    rw [fp_X4_readNumber_40_e] at hf
    refine kj_aload_n (pc := 40) C 0 dX4_readNumber_40 rfl rfl ?_
    refine kj_dup (pc := 41) C dX4_readNumber_41 rfl ?_
    refine kg_X4_at (pc := 42) (v := (kb_g σ 10)) C wf_X4_34 dX4_readNumber_42 rfl ?_
    refine kj_iconst (pc := 45) (v := (1 : Int32)) C dX4_readNumber_45 (by decide) ?_
    refine kj_iadd (pc := 46) C dX4_readNumber_46 ?_
    refine kp_X4_at (pc := 47) C wf_X4_34 dX4_readNumber_47 ?_
    refine kj_iload_n (pc := 50) C 2 dX4_readNumber_50 rfl rfl ?_
    refine kj_if_ne (pc := 51) 56 C dX4_readNumber_51 (by decide) (fun c1 => ?_) (fun c1 => ?_)
    · have hf := kb_ife hf c1
      refine kj_aload_n (pc := 56) C 0 dX4_readNumber_56 rfl rfl ?_
      obtain ⟨q2, hq2, hf⟩ := kb_bd hf
      refine kj_callV0 (pc := 57) (as := []) (rest := []) (b := (a 3)) C (ct_X4_next l V A  a (kb_p σ 10 ((kb_g σ 10) + (1 : Int32))) sh ex hq2) wd_X4_next wk_X4_76 wi_X4_next ws_X4_next wz_X4 rfl rfl hd_X4_next ⟨by decide, by decide⟩ 3 rfl rfl rfl rfl (Nat.le_of_ble_eq_true rfl) (by decide) dX4_readNumber_57 ?_
      refine kj_callS0 (pc := 60) (as := [.int q2]) (rest := []) C (ct_X4_isDigit l V A q2 (kb_W V a (kb_p σ 10 ((kb_g σ 10) + (1 : Int32))) sh ex) rfl) wd_X4_isDigit wk_X4_160 wi_X4_isDigit wz_X4 rfl rfl hd_X4_isDigit ⟨by decide, by decide⟩ rfl (Nat.le_of_ble_eq_true rfl) (by decide) dX4_readNumber_60 ?_
      refine kj_if_eq (pc := 63) 91 C dX4_readNumber_63 (by decide) (fun c3 => ?_) (fun c3 => ?_)
      · have hf := kb_ift hf c3
        refine kj_iload_n (pc := 91) C 2 dX4_readNumber_91 rfl rfl ?_
        refine kj_iload_n (pc := 92) C 1 dX4_readNumber_92 rfl rfl ?_
        refine kj_icmp_ge (pc := 93) 101 C dX4_readNumber_93 (by decide) (fun c4 => ?_) (fun c4 => ?_)
        · have hf := kb_ift hf c4
          refine kj_iload_n (pc := 101) C 2 dX4_readNumber_101 rfl rfl ?_
          cases hf
          exact kj_iret (pc := 102) C dX4_readNumber_102
        · have hf := kb_ife hf c4
          refine kj_aload_n (pc := 96) C 0 dX4_readNumber_96 rfl rfl ?_
          refine kj_iconst (pc := 97) (v := (1 : Int32)) C dX4_readNumber_97 (by decide) ?_
          obtain ⟨q5, hq5, hf⟩ := kb_bd hf
          refine kj_callV0 (pc := 98) (as := [.int (1 : Int32)]) (rest := []) (b := (a 3)) C (ct_X4_fail l V A (1 : Int32) a (kb_p σ 10 ((kb_g σ 10) + (1 : Int32))) sh ex hq5) wd_X4_fail wk_X4_108 wi_X4_fail ws_X4_fail wz_X4 rfl rfl hd_X4_fail ⟨by decide, by decide⟩ 3 rfl rfl rfl rfl (Nat.le_of_ble_eq_true rfl) (by decide) dX4_readNumber_98 ?_
          refine kj_iload_n (pc := 101) C 2 dX4_readNumber_101 rfl rfl ?_
          cases hf
          exact kj_iret (pc := 102) C dX4_readNumber_102
      · have hf := kb_ife hf c3
        refine kj_bipush (pc := 66) (v := (10 : Int32)) C dX4_readNumber_66 (by decide) ?_
        refine kj_iload_n (pc := 68) C 2 dX4_readNumber_68 rfl rfl ?_
        refine kj_imul (pc := 69) C dX4_readNumber_69 ?_
        refine kj_aload_n (pc := 70) C 0 dX4_readNumber_70 rfl rfl ?_
        obtain ⟨q4, hq4, hf⟩ := kb_bd hf
        refine kj_callV0 (pc := 71) (as := []) (rest := [.int ((10 : Int32) * x2)]) (b := (a 3)) C (ct_X4_next l V A  a (kb_p σ 10 ((kb_g σ 10) + (1 : Int32))) sh ex hq4) wd_X4_next wk_X4_76 wi_X4_next ws_X4_next wz_X4 rfl rfl hd_X4_next ⟨by decide, by decide⟩ 3 rfl rfl rfl rfl (Nat.le_of_ble_eq_true rfl) (by decide) dX4_readNumber_71 ?_
        refine kj_iadd (pc := 74) C dX4_readNumber_74 ?_
        refine kj_bipush (pc := 75) (v := (48 : Int32)) C dX4_readNumber_75 (by decide) ?_
        refine kj_isub (pc := 77) C dX4_readNumber_77 ?_
        refine kj_istore_n (pc := 78) C [1, 2, 3, 0] (L2 := [(0, .ref (a 3)), (1, .int x1), (2, .int x2), (3, .int ((((10 : Int32) * x2) + q4) - (48 : Int32)))]) dX4_readNumber_78 rfl (by decide) rfl ?_
        refine kj_aload_n (pc := 79) C 0 dX4_readNumber_79 rfl rfl ?_
        refine kj_dup (pc := 80) C dX4_readNumber_80 rfl ?_
        refine kg_X4_at (pc := 81) (v := ((kb_g σ 10) + (1 : Int32))) C wf_X4_34 dX4_readNumber_81 rfl ?_
        refine kj_iconst (pc := 84) (v := (1 : Int32)) C dX4_readNumber_84 (by decide) ?_
        refine kj_iadd (pc := 85) C dX4_readNumber_85 ?_
        refine kp_X4_at (pc := 86) C wf_X4_34 dX4_readNumber_86 ?_
        refine kj_iload_n (pc := 89) C 3 dX4_readNumber_89 rfl rfl ?_
        cases hf
        exact kj_iret (pc := 90) C dX4_readNumber_90
    · have hf := kb_ift hf c1
      refine kj_iconst (pc := 54) (v := (0 : Int32)) C dX4_readNumber_54 (by decide) ?_
      cases hf
      exact kj_iret (pc := 55) C dX4_readNumber_55
  refine kj_sub [0, 1] (L2 := [(0, .ref (a 3)), (1, .int x1)]) rfl ?_
  rw [fe_X4_readNumber] at hf
  refine kj_aload_n (pc := 0) C 0 dX4_readNumber_0 rfl rfl ?_
  obtain ⟨q1, hq1, hf⟩ := kb_bd hf
  refine kj_callV0 (pc := 1) (as := []) (rest := []) (b := (a 3)) C (ct_X4_next l V A  a σ sh ex hq1) wd_X4_next wk_X4_76 wi_X4_next ws_X4_next wz_X4 rfl rfl hd_X4_next ⟨by decide, by decide⟩ 3 rfl rfl rfl rfl (Nat.le_of_ble_eq_true rfl) (by decide) dX4_readNumber_1 ?_
  refine kj_bipush (pc := 4) (v := (48 : Int32)) C dX4_readNumber_4 (by decide) ?_
  refine kj_isub (pc := 6) C dX4_readNumber_6 ?_
  refine kj_istore_n (pc := 7) C [1, 2, 0] (L2 := [(0, .ref (a 3)), (1, .int x1), (2, .int (q1 - (48 : Int32)))]) dX4_readNumber_7 rfl (by decide) rfl ?_
  refine kj_aload_n (pc := 8) C 0 dX4_readNumber_8 rfl rfl ?_
  refine kj_callV0 (pc := 9) (as := []) (rest := []) (b := (a 3)) C (ct_X4_isRight l V A  a σ sh ex rfl) wd_X4_isRight wk_X4_55 wi_X4_isRight ws_X4_isRight wz_X4 rfl rfl hd_X4_isRight ⟨by decide, by decide⟩ 3 rfl rfl rfl rfl (Nat.le_of_ble_eq_true rfl) (by decide) dX4_readNumber_9 ?_
  refine kj_if_eq (pc := 12) 33 C dX4_readNumber_12 (by decide) (fun c2 => ?_) (fun c2 => ?_)
  · have hf := kb_ift hf c2
    refine kj_sub [0, 1] (L2 := [(0, .ref (a 3)), (1, .int x1)]) rfl ?_
    exact hp33 x1 σ hf
  · have hf := kb_ife hf c2
    refine kj_aload_n (pc := 15) C 0 dX4_readNumber_15 rfl rfl ?_
    obtain ⟨q3, hq3, hf⟩ := kb_bd hf
    refine kj_callV0 (pc := 16) (as := []) (rest := []) (b := (a 3)) C (ct_X4_next l V A  a σ sh ex hq3) wd_X4_next wk_X4_76 wi_X4_next ws_X4_next wz_X4 rfl rfl hd_X4_next ⟨by decide, by decide⟩ 3 rfl rfl rfl rfl (Nat.le_of_ble_eq_true rfl) (by decide) dX4_readNumber_16 ?_
    refine kj_callS0 (pc := 19) (as := [.int q3]) (rest := []) C (ct_X4_isDigit l V A q3 (kb_W V a σ sh ex) rfl) wd_X4_isDigit wk_X4_160 wi_X4_isDigit wz_X4 rfl rfl hd_X4_isDigit ⟨by decide, by decide⟩ rfl (Nat.le_of_ble_eq_true rfl) (by decide) dX4_readNumber_19 ?_
    refine kj_if_eq (pc := 22) 33 C dX4_readNumber_22 (by decide) (fun c4 => ?_) (fun c4 => ?_)
    · have hf := kb_ift hf c4
      refine kj_sub [0, 1] (L2 := [(0, .ref (a 3)), (1, .int x1)]) rfl ?_
      exact hp33 x1 σ hf
    · have hf := kb_ife hf c4
      refine kj_iload_n (pc := 25) C 2 dX4_readNumber_25 rfl rfl ?_
      refine kj_if_ne (pc := 26) 40 C dX4_readNumber_26 (by decide) (fun c5 => ?_) (fun c5 => ?_)
      · have hf := kb_ife hf c5
        exact hp40 x1 (q1 - (48 : Int32)) σ hf
      · have hf := kb_ift hf c5
        refine kj_iload_n (pc := 29) C 1 dX4_readNumber_29 rfl rfl ?_
        refine kj_if_le (pc := 30) 40 C dX4_readNumber_30 (by decide) (fun c6 => ?_) (fun c6 => ?_)
        · have hf := kb_ift hf c6
          exact hp40 x1 (q1 - (48 : Int32)) σ hf
        · have hf := kb_ife hf c6
          refine kj_sub [0, 1] (L2 := [(0, .ref (a 3)), (1, .int x1)]) rfl ?_
          exact hp33 x1 σ hf
def fp_X4_readCastOrCable_59   (x1 : Int32) (σ : kb_S) : Option (kb_S) :=
  (fn_X4_readCable x1 σ).bind fun q1 =>
  some q1
theorem fp_X4_readCastOrCable_59_e   (x1 : Int32) (σ : kb_S) : fp_X4_readCastOrCable_59  x1 σ =
  (fn_X4_readCable x1 σ).bind fun q1 =>
  some q1 := rfl
def fp_X4_readCastOrCable_15   (x1 : Int32) (y0 : Int32) (σ : kb_S) : Option (kb_S) :=
  if y0 = 0 then
    fp_X4_readCastOrCable_59   x1 σ
  else
    (fn_X7_byteAt ((kb_g σ 10) + (1 : Int32)) σ).bind fun q2 =>
    if q2 = (97 : Int32) then
      (fn_X4_readWord 9 σ).bind fun q4 =>
      (fn_X4_readNumber (1 : Int32) q4).bind fun q5 =>
      (fn_X4_addStitches (9 : Int32) q5.2 x1 q5.1).bind fun q6 =>
      some q6
    else
      fp_X4_readCastOrCable_59   x1 σ
theorem fp_X4_readCastOrCable_15_e   (x1 : Int32) (y0 : Int32) (σ : kb_S) : fp_X4_readCastOrCable_15  x1 y0 σ =
  if y0 = 0 then
    fp_X4_readCastOrCable_59   x1 σ
  else
    (fn_X7_byteAt ((kb_g σ 10) + (1 : Int32)) σ).bind fun q2 =>
    if q2 = (97 : Int32) then
      (fn_X4_readWord 9 σ).bind fun q4 =>
      (fn_X4_readNumber (1 : Int32) q4).bind fun q5 =>
      (fn_X4_addStitches (9 : Int32) q5.2 x1 q5.1).bind fun q6 =>
      some q6
    else
      fp_X4_readCastOrCable_59   x1 σ := rfl
def fn_X4_readCastOrCable  (x1 : Int32) (σ : kb_S) : Option (kb_S) :=
  if (fn_X3_size  σ) = 0 then
    fp_X4_readCastOrCable_15   x1 (1 : Int32) σ
  else
    fp_X4_readCastOrCable_15   x1 (0 : Int32) σ
theorem fe_X4_readCastOrCable  (x1 : Int32) (σ : kb_S) : fn_X4_readCastOrCable  x1 σ =
  if (fn_X3_size  σ) = 0 then
    fp_X4_readCastOrCable_15   x1 (1 : Int32) σ
  else
    fp_X4_readCastOrCable_15   x1 (0 : Int32) σ := rfl
theorem hd_X4_readCastOrCable : yX4_readCastOrCable.cls = RX4 ∧ yX4_readCastOrCable.cls ≠ "java/lang/invoke/MethodHandle" ∧ yX4_readCastOrCable.cls ≠ "java/lang/invoke/VarHandle" ∧ (parseMethodDescriptor yX4_readCastOrCable.desc).map (fun d => d.parameters.length) = some 1 := by decide +kernel
set_option maxRecDepth 100000 in
set_option maxHeartbeats 4000000 in
theorem ct_X4_readCastOrCable (l : Launch) (V : kb_V) (A : Nat → Prop)  (x1 : Int32) (a : Nat → Nat) (σ : kb_S) (sh : Value) (ex : va_W) {σ9 : kb_S} (hf : fn_X4_readCastOrCable  x1 σ = some σ9) : kb_T l yX4_readCastOrCable cX4_readCastOrCable 3 none ({ frames := 6, cells := 0, slots := 0, locals := 130 } : Room) V A [.ref (a 3), .int x1] (kb_W V a σ sh ex) none (kb_W V a σ9 sh ex) 0 0 := by
  refine kb_start (cc := cX4_readCastOrCable) (nL := 3) (ret := none) (own := RX4) (by decide) rfl (Nat.le_of_ble_eq_true rfl) ?_
  intro p e s m args below meth c C
  have hp59 : ∀ (x1 : Int32) (σ : kb_S), fp_X4_readCastOrCable_59   x1 σ = some σ9 → kb_J p l e ({ frames := 6, cells := 0, slots := 0, locals := 130 } : Room) s m args below meth c 3 V A 0 0 (MQ below (kb_post V A none (kb_W V a σ9 sh ex)) args s 0 0 A) 59 [(0, .ref (a 3)), (1, .int x1)] [] (kb_W V a σ sh ex) := by
    intro x1 σ hf
    rw [fp_X4_readCastOrCable_59_e] at hf
    refine kj_aload_n (pc := 59) C 0 dX4_readCastOrCable_59 rfl rfl ?_
    refine kj_iload_n (pc := 60) C 1 dX4_readCastOrCable_60 rfl rfl ?_
    obtain ⟨q1, hq1, hf⟩ := kb_bd hf
    refine kj_callV0 (pc := 61) (as := [.int x1]) (rest := []) (b := (a 3)) C (ct_X4_readCable l V A x1 a σ sh ex hq1) wd_X4_readCable wk_X4_142 wi_X4_readCable ws_X4_readCable wz_X4 rfl rfl hd_X4_readCable ⟨by decide, by decide⟩ 3 rfl rfl rfl rfl (Nat.le_of_ble_eq_true rfl) (by decide) dX4_readCastOrCable_61 ?_
    cases hf
    exact kj_vret (pc := 64) C dX4_readCastOrCable_64
  have hp15 : ∀ (x1 : Int32) (y0 : Int32) (σ : kb_S), fp_X4_readCastOrCable_15   x1 y0 σ = some σ9 → kb_J p l e ({ frames := 6, cells := 0, slots := 0, locals := 130 } : Room) s m args below meth c 3 V A 0 0 (MQ below (kb_post V A none (kb_W V a σ9 sh ex)) args s 0 0 A) 15 [(0, .ref (a 3)), (1, .int x1)] [.int y0] (kb_W V a σ sh ex) := by
    intro x1 y0 σ hf
    rw [fp_X4_readCastOrCable_15_e] at hf
    refine kj_istore_n (pc := 15) C [1, 2, 0] (L2 := [(0, .ref (a 3)), (1, .int x1), (2, .int y0)]) dX4_readCastOrCable_15 rfl (by decide) rfl ?_
    refine kj_iload_n (pc := 16) C 2 dX4_readCastOrCable_16 rfl rfl ?_
    refine kj_if_eq (pc := 17) 59 C dX4_readCastOrCable_17 (by decide) (fun c1 => ?_) (fun c1 => ?_)
    · have hf := kb_ift hf c1
      refine kj_sub [0, 1] (L2 := [(0, .ref (a 3)), (1, .int x1)]) rfl ?_
      exact hp59 x1 σ hf
    · have hf := kb_ife hf c1
      refine kj_aload_n (pc := 20) C 0 dX4_readCastOrCable_20 rfl rfl ?_
      refine kg_X4_tape (pc := 21) C wf_X4_17 dX4_readCastOrCable_21 ?_
      refine kj_aload_n (pc := 24) C 0 dX4_readCastOrCable_24 rfl rfl ?_
      refine kg_X4_at (pc := 25) (v := (kb_g σ 10)) C wf_X4_34 dX4_readCastOrCable_25 rfl ?_
      refine kj_iconst (pc := 28) (v := (1 : Int32)) C dX4_readCastOrCable_28 (by decide) ?_
      refine kj_iadd (pc := 29) C dX4_readCastOrCable_29 ?_
      obtain ⟨q2, hq2, hf⟩ := kb_bd hf
      refine kj_callV0 (pc := 30) (as := [.int ((kb_g σ 10) + (1 : Int32))]) (rest := []) (b := (a 1)) C (ct_X7_byteAt l V A ((kb_g σ 10) + (1 : Int32)) a σ sh ex hq2) wd_X7_byteAt wk_X4_68 wi_X7_byteAt ws_X7_byteAt wz_X7 rfl rfl hd_X7_byteAt ⟨by decide, by decide⟩ 1 rfl rfl rfl rfl (Nat.le_of_ble_eq_true rfl) (by decide) dX4_readCastOrCable_30 ?_
      refine kj_bipush (pc := 33) (v := (97 : Int32)) C dX4_readCastOrCable_33 (by decide) ?_
      refine kj_icmp_ne (pc := 35) 59 C dX4_readCastOrCable_35 (by decide) (fun c3 => ?_) (fun c3 => ?_)
      · have hf := kb_ife hf c3
        refine kj_sub [0, 1] (L2 := [(0, .ref (a 3)), (1, .int x1)]) rfl ?_
        exact hp59 x1 σ hf
      · have hf := kb_ift hf c3
        refine kj_aload_n (pc := 38) C 0 dX4_readCastOrCable_38 rfl rfl ?_
        refine kj_ldcS (pc := 39) (tx := "cast") (a := 19) C (by decide +kernel) dX4_readCastOrCable_39 ?_
        obtain ⟨q4, hq4, hf⟩ := kb_bd hf
        refine kj_callV0 (pc := 41) (as := [.ref (V.2.2 (10 + 9))]) (rest := []) (b := (a 3)) C (ct_X4_readWord l V A 9 a σ sh ex hq4) wd_X4_readWord wk_X4_131 wi_X4_readWord ws_X4_readWord wz_X4 rfl rfl hd_X4_readWord ⟨by decide, by decide⟩ 3 rfl rfl rfl rfl (Nat.le_of_ble_eq_true rfl) (by decide) dX4_readCastOrCable_41 ?_
        refine kj_aload_n (pc := 44) C 0 dX4_readCastOrCable_44 rfl rfl ?_
        refine kj_bipush (pc := 45) (v := (9 : Int32)) C dX4_readCastOrCable_45 (by decide) ?_
        refine kj_aload_n (pc := 47) C 0 dX4_readCastOrCable_47 rfl rfl ?_
        refine kj_iconst (pc := 48) (v := (1 : Int32)) C dX4_readCastOrCable_48 (by decide) ?_
        obtain ⟨q5, hq5, hf⟩ := kb_bd hf
        refine kj_callV0 (pc := 49) (as := [.int (1 : Int32)]) (rest := [.int (9 : Int32), .ref (a 3)]) (b := (a 3)) C (ct_X4_readNumber l V A (1 : Int32) a q4 sh ex hq5) wd_X4_readNumber wk_X4_135 wi_X4_readNumber ws_X4_readNumber wz_X4 rfl rfl hd_X4_readNumber ⟨by decide, by decide⟩ 3 rfl rfl rfl rfl (Nat.le_of_ble_eq_true rfl) (by decide) dX4_readCastOrCable_49 ?_
        refine kj_iload_n (pc := 52) C 1 dX4_readCastOrCable_52 rfl rfl ?_
        obtain ⟨q6, hq6, hf⟩ := kb_bd hf
        refine kj_callV0 (pc := 53) (as := [.int (9 : Int32), .int q5.2, .int x1]) (rest := []) (b := (a 3)) C (ct_X4_addStitches l V A (9 : Int32) q5.2 x1 a q5.1 sh ex hq6) wd_X4_addStitches wk_X4_138 wi_X4_addStitches ws_X4_addStitches wz_X4 rfl rfl hd_X4_addStitches ⟨by decide, by decide⟩ 3 rfl rfl rfl rfl (Nat.le_of_ble_eq_true rfl) (by decide) dX4_readCastOrCable_53 ?_
        refine kj_goto (pc := 56) 64 C dX4_readCastOrCable_56 (by decide) ?_
        cases hf
        exact kj_vret (pc := 64) C dX4_readCastOrCable_64
  refine kj_sub [0, 1] (L2 := [(0, .ref (a 3)), (1, .int x1)]) rfl ?_
  rw [fe_X4_readCastOrCable] at hf
  refine kj_aload_n (pc := 0) C 0 dX4_readCastOrCable_0 rfl rfl ?_
  refine kg_X4_plan (pc := 1) C wf_X4_21 dX4_readCastOrCable_1 ?_
  refine kj_callV0 (pc := 4) (as := []) (rest := []) (b := (a 5)) C (ct_X3_size l V A  a σ sh ex rfl) wd_X3_size wk_X4_126 wi_X3_size ws_X3_size wz_X3 rfl rfl hd_X3_size ⟨by decide, by decide⟩ 5 rfl rfl rfl rfl (Nat.le_of_ble_eq_true rfl) (by decide) dX4_readCastOrCable_4 ?_
  refine kj_if_ne (pc := 7) 14 C dX4_readCastOrCable_7 (by decide) (fun c1 => ?_) (fun c1 => ?_)
  · have hf := kb_ife hf c1
    refine kj_iconst (pc := 14) (v := (0 : Int32)) C dX4_readCastOrCable_14 (by decide) ?_
    exact hp15 x1 (0 : Int32) σ hf
  · have hf := kb_ift hf c1
    refine kj_iconst (pc := 10) (v := (1 : Int32)) C dX4_readCastOrCable_10 (by decide) ?_
    refine kj_goto (pc := 11) 15 C dX4_readCastOrCable_11 (by decide) ?_
    exact hp15 x1 (1 : Int32) σ hf
def fp_X4_readNamed_24   (x2 : Int32) (x3 : Int32) (y0 : Int32) (σ : kb_S) : Option (kb_S) :=
  (fn_X4_addStitches x2 y0 x3 σ).bind fun q1 =>
  some q1
theorem fp_X4_readNamed_24_e   (x2 : Int32) (x3 : Int32) (y0 : Int32) (σ : kb_S) : fp_X4_readNamed_24  x2 x3 y0 σ =
  (fn_X4_addStitches x2 y0 x3 σ).bind fun q1 =>
  some q1 := rfl
def fn_X4_readNamed  (x1 : Nat) (x2 : Int32) (x3 : Int32) (σ : kb_S) : Option (kb_S) :=
  (fn_X4_readWord x1 σ).bind fun q1 =>
  (fn_X4_next  q1).bind fun q2 =>
  if (fn_X4_isDigit q2) = 0 then
    fp_X4_readNamed_24   x2 x3 (1 : Int32) q1
  else
    (fn_X4_readNumber (1 : Int32) q1).bind fun q4 =>
    fp_X4_readNamed_24   x2 x3 q4.2 q4.1
theorem fe_X4_readNamed  (x1 : Nat) (x2 : Int32) (x3 : Int32) (σ : kb_S) : fn_X4_readNamed  x1 x2 x3 σ =
  (fn_X4_readWord x1 σ).bind fun q1 =>
  (fn_X4_next  q1).bind fun q2 =>
  if (fn_X4_isDigit q2) = 0 then
    fp_X4_readNamed_24   x2 x3 (1 : Int32) q1
  else
    (fn_X4_readNumber (1 : Int32) q1).bind fun q4 =>
    fp_X4_readNamed_24   x2 x3 q4.2 q4.1 := rfl
theorem hd_X4_readNamed : yX4_readNamed.cls = RX4 ∧ yX4_readNamed.cls ≠ "java/lang/invoke/MethodHandle" ∧ yX4_readNamed.cls ≠ "java/lang/invoke/VarHandle" ∧ (parseMethodDescriptor yX4_readNamed.desc).map (fun d => d.parameters.length) = some 3 := by decide +kernel
set_option maxRecDepth 100000 in
set_option maxHeartbeats 4000000 in
theorem ct_X4_readNamed (l : Launch) (V : kb_V) (A : Nat → Prop)  (x1 : Nat) (x2 : Int32) (x3 : Int32) (a : Nat → Nat) (σ : kb_S) (sh : Value) (ex : va_W) {σ9 : kb_S} (hf : fn_X4_readNamed  x1 x2 x3 σ = some σ9) : kb_T l yX4_readNamed cX4_readNamed 5 none ({ frames := 5, cells := 0, slots := 0, locals := 107 } : Room) V A [.ref (a 3), .ref (V.2.2 (10 + x1)), .int x2, .int x3] (kb_W V a σ sh ex) none (kb_W V a σ9 sh ex) 0 0 := by
  refine kb_start (cc := cX4_readNamed) (nL := 5) (ret := none) (own := RX4) (by decide) rfl (Nat.le_of_ble_eq_true rfl) ?_
  intro p e s m args below meth c C
  have hp24 : ∀ (x2 : Int32) (x3 : Int32) (y0 : Int32) (σ : kb_S), fp_X4_readNamed_24   x2 x3 y0 σ = some σ9 → kb_J p l e ({ frames := 5, cells := 0, slots := 0, locals := 107 } : Room) s m args below meth c 5 V A 0 0 (MQ below (kb_post V A none (kb_W V a σ9 sh ex)) args s 0 0 A) 24 [(0, .ref (a 3)), (2, .int x2), (3, .int x3)] [.int y0] (kb_W V a σ sh ex) := by
    intro x2 x3 y0 σ hf
    rw [fp_X4_readNamed_24_e] at hf
    refine kj_istore (pc := 24) C [1, 2, 3, 0] (L2 := [(0, .ref (a 3)), (2, .int x2), (3, .int x3), (4, .int y0)]) dX4_readNamed_24 (by decide) rfl ?_
    refine kj_aload_n (pc := 26) C 0 dX4_readNamed_26 rfl rfl ?_
    refine kj_iload_n (pc := 27) C 1 dX4_readNamed_27 rfl rfl ?_
    refine kj_iload (pc := 28) C 3 dX4_readNamed_28 rfl ?_
    refine kj_iload_n (pc := 30) C 2 dX4_readNamed_30 rfl rfl ?_
    obtain ⟨q1, hq1, hf⟩ := kb_bd hf
    refine kj_callV0 (pc := 31) (as := [.int x2, .int y0, .int x3]) (rest := []) (b := (a 3)) C (ct_X4_addStitches l V A x2 y0 x3 a σ sh ex hq1) wd_X4_addStitches wk_X4_138 wi_X4_addStitches ws_X4_addStitches wz_X4 rfl rfl hd_X4_addStitches ⟨by decide, by decide⟩ 3 rfl rfl rfl rfl (Nat.le_of_ble_eq_true rfl) (by decide) dX4_readNamed_31 ?_
    cases hf
    exact kj_vret (pc := 34) C dX4_readNamed_34
  refine kj_sub [0, 1, 2, 3] (L2 := [(0, .ref (a 3)), (1, .ref (V.2.2 (10 + x1))), (2, .int x2), (3, .int x3)]) rfl ?_
  rw [fe_X4_readNamed] at hf
  refine kj_aload_n (pc := 0) C 0 dX4_readNamed_0 rfl rfl ?_
  refine kj_aload_n (pc := 1) C 1 dX4_readNamed_1 rfl rfl ?_
  obtain ⟨q1, hq1, hf⟩ := kb_bd hf
  refine kj_callV0 (pc := 2) (as := [.ref (V.2.2 (10 + x1))]) (rest := []) (b := (a 3)) C (ct_X4_readWord l V A x1 a σ sh ex hq1) wd_X4_readWord wk_X4_131 wi_X4_readWord ws_X4_readWord wz_X4 rfl rfl hd_X4_readWord ⟨by decide, by decide⟩ 3 rfl rfl rfl rfl (Nat.le_of_ble_eq_true rfl) (by decide) dX4_readNamed_2 ?_
  refine kj_aload_n (pc := 5) C 0 dX4_readNamed_5 rfl rfl ?_
  obtain ⟨q2, hq2, hf⟩ := kb_bd hf
  refine kj_callV0 (pc := 6) (as := []) (rest := []) (b := (a 3)) C (ct_X4_next l V A  a q1 sh ex hq2) wd_X4_next wk_X4_76 wi_X4_next ws_X4_next wz_X4 rfl rfl hd_X4_next ⟨by decide, by decide⟩ 3 rfl rfl rfl rfl (Nat.le_of_ble_eq_true rfl) (by decide) dX4_readNamed_6 ?_
  refine kj_callS0 (pc := 9) (as := [.int q2]) (rest := []) C (ct_X4_isDigit l V A q2 (kb_W V a q1 sh ex) rfl) wd_X4_isDigit wk_X4_160 wi_X4_isDigit wz_X4 rfl rfl hd_X4_isDigit ⟨by decide, by decide⟩ rfl (Nat.le_of_ble_eq_true rfl) (by decide) dX4_readNamed_9 ?_
  refine kj_if_eq (pc := 12) 23 C dX4_readNamed_12 (by decide) (fun c3 => ?_) (fun c3 => ?_)
  · have hf := kb_ift hf c3
    refine kj_iconst (pc := 23) (v := (1 : Int32)) C dX4_readNamed_23 (by decide) ?_
    refine kj_sub [0, 2, 3] (L2 := [(0, .ref (a 3)), (2, .int x2), (3, .int x3)]) rfl ?_
    exact hp24 x2 x3 (1 : Int32) q1 hf
  · have hf := kb_ife hf c3
    refine kj_aload_n (pc := 15) C 0 dX4_readNamed_15 rfl rfl ?_
    refine kj_iconst (pc := 16) (v := (1 : Int32)) C dX4_readNamed_16 (by decide) ?_
    obtain ⟨q4, hq4, hf⟩ := kb_bd hf
    refine kj_callV0 (pc := 17) (as := [.int (1 : Int32)]) (rest := []) (b := (a 3)) C (ct_X4_readNumber l V A (1 : Int32) a q1 sh ex hq4) wd_X4_readNumber wk_X4_135 wi_X4_readNumber ws_X4_readNumber wz_X4 rfl rfl hd_X4_readNumber ⟨by decide, by decide⟩ 3 rfl rfl rfl rfl (Nat.le_of_ble_eq_true rfl) (by decide) dX4_readNamed_17 ?_
    refine kj_goto (pc := 20) 24 C dX4_readNamed_20 (by decide) ?_
    refine kj_sub [0, 2, 3] (L2 := [(0, .ref (a 3)), (2, .int x2), (3, .int x3)]) rfl ?_
    exact hp24 x2 x3 q4.2 q4.1 hf
def fn_X4_readSingle  (x1 : Nat) (x2 : Int32) (x3 : Int32) (σ : kb_S) : Option (kb_S) :=
  (fn_X4_readWord x1 σ).bind fun q1 =>
  (fn_X4_addStitches x2 (1 : Int32) x3 q1).bind fun q2 =>
  some q2
theorem fe_X4_readSingle  (x1 : Nat) (x2 : Int32) (x3 : Int32) (σ : kb_S) : fn_X4_readSingle  x1 x2 x3 σ =
  (fn_X4_readWord x1 σ).bind fun q1 =>
  (fn_X4_addStitches x2 (1 : Int32) x3 q1).bind fun q2 =>
  some q2 := rfl
theorem hd_X4_readSingle : yX4_readSingle.cls = RX4 ∧ yX4_readSingle.cls ≠ "java/lang/invoke/MethodHandle" ∧ yX4_readSingle.cls ≠ "java/lang/invoke/VarHandle" ∧ (parseMethodDescriptor yX4_readSingle.desc).map (fun d => d.parameters.length) = some 3 := by decide +kernel
set_option maxRecDepth 100000 in
set_option maxHeartbeats 4000000 in
theorem ct_X4_readSingle (l : Launch) (V : kb_V) (A : Nat → Prop)  (x1 : Nat) (x2 : Int32) (x3 : Int32) (a : Nat → Nat) (σ : kb_S) (sh : Value) (ex : va_W) {σ9 : kb_S} (hf : fn_X4_readSingle  x1 x2 x3 σ = some σ9) : kb_T l yX4_readSingle cX4_readSingle 4 none ({ frames := 5, cells := 0, slots := 0, locals := 107 } : Room) V A [.ref (a 3), .ref (V.2.2 (10 + x1)), .int x2, .int x3] (kb_W V a σ sh ex) none (kb_W V a σ9 sh ex) 0 0 := by
  refine kb_start (cc := cX4_readSingle) (nL := 4) (ret := none) (own := RX4) (by decide) rfl (Nat.le_of_ble_eq_true rfl) ?_
  intro p e s m args below meth c C
  refine kj_sub [0, 1, 2, 3] (L2 := [(0, .ref (a 3)), (1, .ref (V.2.2 (10 + x1))), (2, .int x2), (3, .int x3)]) rfl ?_
  rw [fe_X4_readSingle] at hf
  refine kj_aload_n (pc := 0) C 0 dX4_readSingle_0 rfl rfl ?_
  refine kj_aload_n (pc := 1) C 1 dX4_readSingle_1 rfl rfl ?_
  obtain ⟨q1, hq1, hf⟩ := kb_bd hf
  refine kj_callV0 (pc := 2) (as := [.ref (V.2.2 (10 + x1))]) (rest := []) (b := (a 3)) C (ct_X4_readWord l V A x1 a σ sh ex hq1) wd_X4_readWord wk_X4_131 wi_X4_readWord ws_X4_readWord wz_X4 rfl rfl hd_X4_readWord ⟨by decide, by decide⟩ 3 rfl rfl rfl rfl (Nat.le_of_ble_eq_true rfl) (by decide) dX4_readSingle_2 ?_
  refine kj_aload_n (pc := 5) C 0 dX4_readSingle_5 rfl rfl ?_
  refine kj_iload_n (pc := 6) C 2 dX4_readSingle_6 rfl rfl ?_
  refine kj_iconst (pc := 7) (v := (1 : Int32)) C dX4_readSingle_7 (by decide) ?_
  refine kj_iload_n (pc := 8) C 3 dX4_readSingle_8 rfl rfl ?_
  obtain ⟨q2, hq2, hf⟩ := kb_bd hf
  refine kj_callV0 (pc := 9) (as := [.int x2, .int (1 : Int32), .int x3]) (rest := []) (b := (a 3)) C (ct_X4_addStitches l V A x2 (1 : Int32) x3 a q1 sh ex hq2) wd_X4_addStitches wk_X4_138 wi_X4_addStitches ws_X4_addStitches wz_X4 rfl rfl hd_X4_addStitches ⟨by decide, by decide⟩ 3 rfl rfl rfl rfl (Nat.le_of_ble_eq_true rfl) (by decide) dX4_readSingle_9 ?_
  cases hf
  exact kj_vret (pc := 12) C dX4_readSingle_12
def fp_X4_readKnit_98   (x1 : Int32) (σ : kb_S) : Option (kb_S) :=
  (fn_X4_readNamed 3 (0 : Int32) x1 σ).bind fun q1 =>
  some q1
theorem fp_X4_readKnit_98_e   (x1 : Int32) (σ : kb_S) : fp_X4_readKnit_98  x1 σ =
  (fn_X4_readNamed 3 (0 : Int32) x1 σ).bind fun q1 =>
  some q1 := rfl
def fp_X4_readKnit_77   (x1 : Int32) (x2 : Int32) (x3 : Int32) (σ : kb_S) : Option (kb_S) :=
  if x2 = (51 : Int32) then
    if x3 = 0 then
      fp_X4_readKnit_98   x1 σ
    else
      (fn_X4_readSingle 2 (5 : Int32) x1 σ).bind fun q3 =>
      some q3
  else
    fp_X4_readKnit_98   x1 σ
theorem fp_X4_readKnit_77_e   (x1 : Int32) (x2 : Int32) (x3 : Int32) (σ : kb_S) : fp_X4_readKnit_77  x1 x2 x3 σ =
  if x2 = (51 : Int32) then
    if x3 = 0 then
      fp_X4_readKnit_98   x1 σ
    else
      (fn_X4_readSingle 2 (5 : Int32) x1 σ).bind fun q3 =>
      some q3
  else
    fp_X4_readKnit_98   x1 σ := rfl
def fp_X4_readKnit_37   (x1 : Int32) (x2 : Int32) (y0 : Int32) (σ : kb_S) : Option (kb_S) :=
  if x2 = (102 : Int32) then
    (fn_X4_readSingle 0 (6 : Int32) x1 σ).bind fun q2 =>
    some q2
  else
    if x2 = (50 : Int32) then
      if y0 = 0 then
        fp_X4_readKnit_77   x1 x2 y0 σ
      else
        (fn_X4_readSingle 1 (3 : Int32) x1 σ).bind fun q4 =>
        some q4
    else
      fp_X4_readKnit_77   x1 x2 y0 σ
theorem fp_X4_readKnit_37_e   (x1 : Int32) (x2 : Int32) (y0 : Int32) (σ : kb_S) : fp_X4_readKnit_37  x1 x2 y0 σ =
  if x2 = (102 : Int32) then
    (fn_X4_readSingle 0 (6 : Int32) x1 σ).bind fun q2 =>
    some q2
  else
    if x2 = (50 : Int32) then
      if y0 = 0 then
        fp_X4_readKnit_77   x1 x2 y0 σ
      else
        (fn_X4_readSingle 1 (3 : Int32) x1 σ).bind fun q4 =>
        some q4
    else
      fp_X4_readKnit_77   x1 x2 y0 σ := rfl
def fn_X4_readKnit  (x1 : Int32) (σ : kb_S) : Option (kb_S) :=
  (fn_X7_byteAt ((kb_g σ 10) + (1 : Int32)) σ).bind fun q1 =>
  (fn_X7_byteAt ((kb_g σ 10) + (2 : Int32)) σ).bind fun q2 =>
  if q2 = (116 : Int32) then
    fp_X4_readKnit_37   x1 q1 (1 : Int32) σ
  else
    fp_X4_readKnit_37   x1 q1 (0 : Int32) σ
theorem fe_X4_readKnit  (x1 : Int32) (σ : kb_S) : fn_X4_readKnit  x1 σ =
  (fn_X7_byteAt ((kb_g σ 10) + (1 : Int32)) σ).bind fun q1 =>
  (fn_X7_byteAt ((kb_g σ 10) + (2 : Int32)) σ).bind fun q2 =>
  if q2 = (116 : Int32) then
    fp_X4_readKnit_37   x1 q1 (1 : Int32) σ
  else
    fp_X4_readKnit_37   x1 q1 (0 : Int32) σ := rfl
theorem hd_X4_readKnit : yX4_readKnit.cls = RX4 ∧ yX4_readKnit.cls ≠ "java/lang/invoke/MethodHandle" ∧ yX4_readKnit.cls ≠ "java/lang/invoke/VarHandle" ∧ (parseMethodDescriptor yX4_readKnit.desc).map (fun d => d.parameters.length) = some 1 := by decide +kernel
set_option maxRecDepth 100000 in
set_option maxHeartbeats 4000000 in
theorem ct_X4_readKnit (l : Launch) (V : kb_V) (A : Nat → Prop)  (x1 : Int32) (a : Nat → Nat) (σ : kb_S) (sh : Value) (ex : va_W) {σ9 : kb_S} (hf : fn_X4_readKnit  x1 σ = some σ9) : kb_T l yX4_readKnit cX4_readKnit 4 none ({ frames := 6, cells := 0, slots := 0, locals := 131 } : Room) V A [.ref (a 3), .int x1] (kb_W V a σ sh ex) none (kb_W V a σ9 sh ex) 0 0 := by
  refine kb_start (cc := cX4_readKnit) (nL := 4) (ret := none) (own := RX4) (by decide) rfl (Nat.le_of_ble_eq_true rfl) ?_
  intro p e s m args below meth c C
  have hp98 : ∀ (x1 : Int32) (σ : kb_S), fp_X4_readKnit_98   x1 σ = some σ9 → kb_J p l e ({ frames := 6, cells := 0, slots := 0, locals := 131 } : Room) s m args below meth c 4 V A 0 0 (MQ below (kb_post V A none (kb_W V a σ9 sh ex)) args s 0 0 A) 98 [(0, .ref (a 3)), (1, .int x1)] [] (kb_W V a σ sh ex) := by
    intro x1 σ hf
    rw [fp_X4_readKnit_98_e] at hf
    refine kj_aload_n (pc := 98) C 0 dX4_readKnit_98 rfl rfl ?_
    refine kj_ldcS (pc := 99) (tx := "k") (a := 13) C (by decide +kernel) dX4_readKnit_99 ?_
    refine kj_iconst (pc := 101) (v := (0 : Int32)) C dX4_readKnit_101 (by decide) ?_
    refine kj_iload_n (pc := 102) C 1 dX4_readKnit_102 rfl rfl ?_
    obtain ⟨q1, hq1, hf⟩ := kb_bd hf
    refine kj_callV0 (pc := 103) (as := [.ref (V.2.2 (10 + 3)), .int (0 : Int32), .int x1]) (rest := []) (b := (a 3)) C (ct_X4_readNamed l V A 3 (0 : Int32) x1 a σ sh ex hq1) wd_X4_readNamed wk_X4_87 wi_X4_readNamed ws_X4_readNamed wz_X4 rfl rfl hd_X4_readNamed ⟨by decide, by decide⟩ 3 rfl rfl rfl rfl (Nat.le_of_ble_eq_true rfl) (by decide) dX4_readKnit_103 ?_
    cases hf
    exact kj_vret (pc := 106) C dX4_readKnit_106
  have hp77 : ∀ (x1 : Int32) (x2 : Int32) (x3 : Int32) (σ : kb_S), fp_X4_readKnit_77   x1 x2 x3 σ = some σ9 → kb_J p l e ({ frames := 6, cells := 0, slots := 0, locals := 131 } : Room) s m args below meth c 4 V A 0 0 (MQ below (kb_post V A none (kb_W V a σ9 sh ex)) args s 0 0 A) 77 [(0, .ref (a 3)), (1, .int x1), (2, .int x2), (3, .int x3)] [] (kb_W V a σ sh ex) := by
    intro x1 x2 x3 σ hf
    rw [fp_X4_readKnit_77_e] at hf
    refine kj_iload_n (pc := 77) C 2 dX4_readKnit_77 rfl rfl ?_
    refine kj_bipush (pc := 78) (v := (51 : Int32)) C dX4_readKnit_78 (by decide) ?_
    refine kj_icmp_ne (pc := 80) 98 C dX4_readKnit_80 (by decide) (fun c1 => ?_) (fun c1 => ?_)
    · have hf := kb_ife hf c1
      refine kj_sub [0, 1] (L2 := [(0, .ref (a 3)), (1, .int x1)]) rfl ?_
      exact hp98 x1 σ hf
    · have hf := kb_ift hf c1
      refine kj_iload_n (pc := 83) C 3 dX4_readKnit_83 rfl rfl ?_
      refine kj_if_eq (pc := 84) 98 C dX4_readKnit_84 (by decide) (fun c2 => ?_) (fun c2 => ?_)
      · have hf := kb_ift hf c2
        refine kj_sub [0, 1] (L2 := [(0, .ref (a 3)), (1, .int x1)]) rfl ?_
        exact hp98 x1 σ hf
      · have hf := kb_ife hf c2
        refine kj_aload_n (pc := 87) C 0 dX4_readKnit_87 rfl rfl ?_
        refine kj_ldcS (pc := 88) (tx := "k3tog") (a := 12) C (by decide +kernel) dX4_readKnit_88 ?_
        refine kj_iconst (pc := 90) (v := (5 : Int32)) C dX4_readKnit_90 (by decide) ?_
        refine kj_iload_n (pc := 91) C 1 dX4_readKnit_91 rfl rfl ?_
        obtain ⟨q3, hq3, hf⟩ := kb_bd hf
        refine kj_callV0 (pc := 92) (as := [.ref (V.2.2 (10 + 2)), .int (5 : Int32), .int x1]) (rest := []) (b := (a 3)) C (ct_X4_readSingle l V A 2 (5 : Int32) x1 a σ sh ex hq3) wd_X4_readSingle wk_X4_113 wi_X4_readSingle ws_X4_readSingle wz_X4 rfl rfl hd_X4_readSingle ⟨by decide, by decide⟩ 3 rfl rfl rfl rfl (Nat.le_of_ble_eq_true rfl) (by decide) dX4_readKnit_92 ?_
        refine kj_goto (pc := 95) 106 C dX4_readKnit_95 (by decide) ?_
        cases hf
        exact kj_vret (pc := 106) C dX4_readKnit_106
  have hp37 : ∀ (x1 : Int32) (x2 : Int32) (y0 : Int32) (σ : kb_S), fp_X4_readKnit_37   x1 x2 y0 σ = some σ9 → kb_J p l e ({ frames := 6, cells := 0, slots := 0, locals := 131 } : Room) s m args below meth c 4 V A 0 0 (MQ below (kb_post V A none (kb_W V a σ9 sh ex)) args s 0 0 A) 37 [(0, .ref (a 3)), (1, .int x1), (2, .int x2)] [.int y0] (kb_W V a σ sh ex) := by
    intro x1 x2 y0 σ hf
    rw [fp_X4_readKnit_37_e] at hf
    refine kj_istore_n (pc := 37) C [1, 2, 3, 0] (L2 := [(0, .ref (a 3)), (1, .int x1), (2, .int x2), (3, .int y0)]) dX4_readKnit_37 rfl (by decide) rfl ?_
    refine kj_iload_n (pc := 38) C 2 dX4_readKnit_38 rfl rfl ?_
    refine kj_bipush (pc := 39) (v := (102 : Int32)) C dX4_readKnit_39 (by decide) ?_
    refine kj_icmp_ne (pc := 41) 56 C dX4_readKnit_41 (by decide) (fun c1 => ?_) (fun c1 => ?_)
    · have hf := kb_ife hf c1
      refine kj_iload_n (pc := 56) C 2 dX4_readKnit_56 rfl rfl ?_
      refine kj_bipush (pc := 57) (v := (50 : Int32)) C dX4_readKnit_57 (by decide) ?_
      refine kj_icmp_ne (pc := 59) 77 C dX4_readKnit_59 (by decide) (fun c2 => ?_) (fun c2 => ?_)
      · have hf := kb_ife hf c2
        exact hp77 x1 x2 y0 σ hf
      · have hf := kb_ift hf c2
        refine kj_iload_n (pc := 62) C 3 dX4_readKnit_62 rfl rfl ?_
        refine kj_if_eq (pc := 63) 77 C dX4_readKnit_63 (by decide) (fun c3 => ?_) (fun c3 => ?_)
        · have hf := kb_ift hf c3
          exact hp77 x1 x2 y0 σ hf
        · have hf := kb_ife hf c3
          refine kj_aload_n (pc := 66) C 0 dX4_readKnit_66 rfl rfl ?_
          refine kj_ldcS (pc := 67) (tx := "k2tog") (a := 11) C (by decide +kernel) dX4_readKnit_67 ?_
          refine kj_iconst (pc := 69) (v := (3 : Int32)) C dX4_readKnit_69 (by decide) ?_
          refine kj_iload_n (pc := 70) C 1 dX4_readKnit_70 rfl rfl ?_
          obtain ⟨q4, hq4, hf⟩ := kb_bd hf
          refine kj_callV0 (pc := 71) (as := [.ref (V.2.2 (10 + 1)), .int (3 : Int32), .int x1]) (rest := []) (b := (a 3)) C (ct_X4_readSingle l V A 1 (3 : Int32) x1 a σ sh ex hq4) wd_X4_readSingle wk_X4_113 wi_X4_readSingle ws_X4_readSingle wz_X4 rfl rfl hd_X4_readSingle ⟨by decide, by decide⟩ 3 rfl rfl rfl rfl (Nat.le_of_ble_eq_true rfl) (by decide) dX4_readKnit_71 ?_
          refine kj_goto (pc := 74) 106 C dX4_readKnit_74 (by decide) ?_
          cases hf
          exact kj_vret (pc := 106) C dX4_readKnit_106
    · have hf := kb_ift hf c1
      refine kj_aload_n (pc := 44) C 0 dX4_readKnit_44 rfl rfl ?_
      refine kj_ldcS (pc := 45) (tx := "kfb") (a := 10) C (by decide +kernel) dX4_readKnit_45 ?_
      refine kj_bipush (pc := 47) (v := (6 : Int32)) C dX4_readKnit_47 (by decide) ?_
      refine kj_iload_n (pc := 49) C 1 dX4_readKnit_49 rfl rfl ?_
      obtain ⟨q2, hq2, hf⟩ := kb_bd hf
      refine kj_callV0 (pc := 50) (as := [.ref (V.2.2 (10 + 0)), .int (6 : Int32), .int x1]) (rest := []) (b := (a 3)) C (ct_X4_readSingle l V A 0 (6 : Int32) x1 a σ sh ex hq2) wd_X4_readSingle wk_X4_113 wi_X4_readSingle ws_X4_readSingle wz_X4 rfl rfl hd_X4_readSingle ⟨by decide, by decide⟩ 3 rfl rfl rfl rfl (Nat.le_of_ble_eq_true rfl) (by decide) dX4_readKnit_50 ?_
      refine kj_goto (pc := 53) 106 C dX4_readKnit_53 (by decide) ?_
      cases hf
      exact kj_vret (pc := 106) C dX4_readKnit_106
  refine kj_sub [0, 1] (L2 := [(0, .ref (a 3)), (1, .int x1)]) rfl ?_
  rw [fe_X4_readKnit] at hf
  refine kj_aload_n (pc := 0) C 0 dX4_readKnit_0 rfl rfl ?_
  refine kg_X4_tape (pc := 1) C wf_X4_17 dX4_readKnit_1 ?_
  refine kj_aload_n (pc := 4) C 0 dX4_readKnit_4 rfl rfl ?_
  refine kg_X4_at (pc := 5) (v := (kb_g σ 10)) C wf_X4_34 dX4_readKnit_5 rfl ?_
  refine kj_iconst (pc := 8) (v := (1 : Int32)) C dX4_readKnit_8 (by decide) ?_
  refine kj_iadd (pc := 9) C dX4_readKnit_9 ?_
  obtain ⟨q1, hq1, hf⟩ := kb_bd hf
  refine kj_callV0 (pc := 10) (as := [.int ((kb_g σ 10) + (1 : Int32))]) (rest := []) (b := (a 1)) C (ct_X7_byteAt l V A ((kb_g σ 10) + (1 : Int32)) a σ sh ex hq1) wd_X7_byteAt wk_X4_68 wi_X7_byteAt ws_X7_byteAt wz_X7 rfl rfl hd_X7_byteAt ⟨by decide, by decide⟩ 1 rfl rfl rfl rfl (Nat.le_of_ble_eq_true rfl) (by decide) dX4_readKnit_10 ?_
  refine kj_istore_n (pc := 13) C [1, 2, 0] (L2 := [(0, .ref (a 3)), (1, .int x1), (2, .int q1)]) dX4_readKnit_13 rfl (by decide) rfl ?_
  refine kj_aload_n (pc := 14) C 0 dX4_readKnit_14 rfl rfl ?_
  refine kg_X4_tape (pc := 15) C wf_X4_17 dX4_readKnit_15 ?_
  refine kj_aload_n (pc := 18) C 0 dX4_readKnit_18 rfl rfl ?_
  refine kg_X4_at (pc := 19) (v := (kb_g σ 10)) C wf_X4_34 dX4_readKnit_19 rfl ?_
  refine kj_iconst (pc := 22) (v := (2 : Int32)) C dX4_readKnit_22 (by decide) ?_
  refine kj_iadd (pc := 23) C dX4_readKnit_23 ?_
  obtain ⟨q2, hq2, hf⟩ := kb_bd hf
  refine kj_callV0 (pc := 24) (as := [.int ((kb_g σ 10) + (2 : Int32))]) (rest := []) (b := (a 1)) C (ct_X7_byteAt l V A ((kb_g σ 10) + (2 : Int32)) a σ sh ex hq2) wd_X7_byteAt wk_X4_68 wi_X7_byteAt ws_X7_byteAt wz_X7 rfl rfl hd_X7_byteAt ⟨by decide, by decide⟩ 1 rfl rfl rfl rfl (Nat.le_of_ble_eq_true rfl) (by decide) dX4_readKnit_24 ?_
  refine kj_bipush (pc := 27) (v := (116 : Int32)) C dX4_readKnit_27 (by decide) ?_
  refine kj_icmp_ne (pc := 29) 36 C dX4_readKnit_29 (by decide) (fun c3 => ?_) (fun c3 => ?_)
  · have hf := kb_ife hf c3
    refine kj_iconst (pc := 36) (v := (0 : Int32)) C dX4_readKnit_36 (by decide) ?_
    exact hp37 x1 q1 (0 : Int32) σ hf
  · have hf := kb_ift hf c3
    refine kj_iconst (pc := 32) (v := (1 : Int32)) C dX4_readKnit_32 (by decide) ?_
    refine kj_goto (pc := 33) 37 C dX4_readKnit_33 (by decide) ?_
    exact hp37 x1 q1 (1 : Int32) σ hf
def fp_X4_skipBlanks_0   : Nat → kb_S → Option (kb_S)
  | 0 => fun _ => none
  | nn + 1 => fun σ => 
  if (fn_X7_length  σ) ≤ (kb_g σ 10) then
    some σ
  else
    (fn_X4_next  σ).bind fun q2 =>
    if q2 = (32 : Int32) then
      (fp_X4_skipBlanks_0  nn) (kb_p σ 10 ((kb_g σ 10) + (1 : Int32)))
    else
      some σ
theorem fp_X4_skipBlanks_0_s   (nn : Nat) (σ : kb_S) : fp_X4_skipBlanks_0  (nn + 1) σ =
  if (fn_X7_length  σ) ≤ (kb_g σ 10) then
    some σ
  else
    (fn_X4_next  σ).bind fun q2 =>
    if q2 = (32 : Int32) then
      (fp_X4_skipBlanks_0  nn) (kb_p σ 10 ((kb_g σ 10) + (1 : Int32)))
    else
      some σ := rfl
def fn_X4_skipBlanks   (σ : kb_S) : Option (kb_S) :=
  fp_X4_skipBlanks_0   kb_FU σ
theorem fe_X4_skipBlanks   (σ : kb_S) : fn_X4_skipBlanks   σ =
  fp_X4_skipBlanks_0   kb_FU σ := rfl
theorem hd_X4_skipBlanks : yX4_skipBlanks.cls = RX4 ∧ yX4_skipBlanks.cls ≠ "java/lang/invoke/MethodHandle" ∧ yX4_skipBlanks.cls ≠ "java/lang/invoke/VarHandle" ∧ (parseMethodDescriptor yX4_skipBlanks.desc).map (fun d => d.parameters.length) = some 0 := by decide +kernel
set_option maxRecDepth 100000 in
set_option maxHeartbeats 4000000 in
theorem ct_X4_skipBlanks (l : Launch) (V : kb_V) (A : Nat → Prop)   (a : Nat → Nat) (σ : kb_S) (sh : Value) (ex : va_W) {σ9 : kb_S} (hf : fn_X4_skipBlanks   σ = some σ9) : kb_T l yX4_skipBlanks cX4_skipBlanks 1 none ({ frames := 2, cells := 0, slots := 0, locals := 41 } : Room) V A [.ref (a 3)] (kb_W V a σ sh ex) none (kb_W V a σ9 sh ex) 0 0 := by
  refine kb_start (cc := cX4_skipBlanks) (nL := 1) (ret := none) (own := RX4) (by decide) rfl (Nat.le_of_ble_eq_true rfl) ?_
  intro p e s m args below meth c C
  have hp0 : ∀ (nn : Nat) (σ : kb_S), fp_X4_skipBlanks_0   nn σ = some σ9 → kb_J p l e ({ frames := 2, cells := 0, slots := 0, locals := 41 } : Room) s m args below meth c 1 V A 0 0 (MQ below (kb_post V A none (kb_W V a σ9 sh ex)) args s 0 0 A) 0 [(0, .ref (a 3))] [] (kb_W V a σ sh ex) := by
    intro nn0
    induction nn0 with
    | zero => intro σ hf; exact kb_no hf
    | succ nn0 ih0 =>
      intro σ hf
      rw [fp_X4_skipBlanks_0_s] at hf
      refine kj_aload_n (pc := 0) C 0 dX4_skipBlanks_0 rfl rfl ?_
      refine kg_X4_at (pc := 1) (v := (kb_g σ 10)) C wf_X4_34 dX4_skipBlanks_1 rfl ?_
      refine kj_aload_n (pc := 4) C 0 dX4_skipBlanks_4 rfl rfl ?_
      refine kg_X4_tape (pc := 5) C wf_X4_17 dX4_skipBlanks_5 ?_
      refine kj_callV0 (pc := 8) (as := []) (rest := [.int (kb_g σ 10)]) (b := (a 1)) C (ct_X7_length l V A  a σ sh ex rfl) wd_X7_length wk_X4_49 wi_X7_length ws_X7_length wz_X7 rfl rfl hd_X7_length ⟨by decide, by decide⟩ 1 rfl rfl rfl rfl (Nat.le_of_ble_eq_true rfl) (by decide) dX4_skipBlanks_8 ?_
      refine kj_icmp_ge (pc := 11) 36 C dX4_skipBlanks_11 (by decide) (fun c1 => ?_) (fun c1 => ?_)
      · have hf := kb_ift hf c1
        cases hf
        exact kj_vret (pc := 36) C dX4_skipBlanks_36
      · have hf := kb_ife hf c1
        refine kj_aload_n (pc := 14) C 0 dX4_skipBlanks_14 rfl rfl ?_
        obtain ⟨q2, hq2, hf⟩ := kb_bd hf
        refine kj_callV0 (pc := 15) (as := []) (rest := []) (b := (a 3)) C (ct_X4_next l V A  a σ sh ex hq2) wd_X4_next wk_X4_76 wi_X4_next ws_X4_next wz_X4 rfl rfl hd_X4_next ⟨by decide, by decide⟩ 3 rfl rfl rfl rfl (Nat.le_of_ble_eq_true rfl) (by decide) dX4_skipBlanks_15 ?_
        refine kj_bipush (pc := 18) (v := (32 : Int32)) C dX4_skipBlanks_18 (by decide) ?_
        refine kj_icmp_ne (pc := 20) 36 C dX4_skipBlanks_20 (by decide) (fun c3 => ?_) (fun c3 => ?_)
        · have hf := kb_ife hf c3
          cases hf
          exact kj_vret (pc := 36) C dX4_skipBlanks_36
        · have hf := kb_ift hf c3
          refine kj_aload_n (pc := 23) C 0 dX4_skipBlanks_23 rfl rfl ?_
          refine kj_dup (pc := 24) C dX4_skipBlanks_24 rfl ?_
          refine kg_X4_at (pc := 25) (v := (kb_g σ 10)) C wf_X4_34 dX4_skipBlanks_25 rfl ?_
          refine kj_iconst (pc := 28) (v := (1 : Int32)) C dX4_skipBlanks_28 (by decide) ?_
          refine kj_iadd (pc := 29) C dX4_skipBlanks_29 ?_
          refine kp_X4_at (pc := 30) C wf_X4_34 dX4_skipBlanks_30 ?_
          refine kj_goto (pc := 33) 0 C dX4_skipBlanks_33 (by decide) ?_
          exact ih0 (kb_p σ 10 ((kb_g σ 10) + (1 : Int32))) hf
  refine kj_sub [0] (L2 := [(0, .ref (a 3))]) rfl ?_
  rw [fe_X4_skipBlanks] at hf
  exact hp0 kb_FU σ hf
def fn_X4_readRepeat  (x1 : Int32) (σ : kb_S) : Option (kb_S) :=
  if (kb_g σ 9) ≤ 0 then
    (fn_X4_readWord 14 σ).bind fun q2 =>
    (fn_X4_skipBlanks  q2).bind fun q3 =>
    (fn_X4_next  q3).bind fun q4 =>
    if q4 = (40 : Int32) then
      (fn_X4_openBracket (2 : Int32) x1 q3).bind fun q6 =>
      some q6
    else
      (fn_X4_fail (1 : Int32) q3).bind fun q6 =>
      some q6
  else
    (fn_X4_fail (1 : Int32) σ).bind fun q2 =>
    some q2
theorem fe_X4_readRepeat  (x1 : Int32) (σ : kb_S) : fn_X4_readRepeat  x1 σ =
  if (kb_g σ 9) ≤ 0 then
    (fn_X4_readWord 14 σ).bind fun q2 =>
    (fn_X4_skipBlanks  q2).bind fun q3 =>
    (fn_X4_next  q3).bind fun q4 =>
    if q4 = (40 : Int32) then
      (fn_X4_openBracket (2 : Int32) x1 q3).bind fun q6 =>
      some q6
    else
      (fn_X4_fail (1 : Int32) q3).bind fun q6 =>
      some q6
  else
    (fn_X4_fail (1 : Int32) σ).bind fun q2 =>
    some q2 := rfl
theorem hd_X4_readRepeat : yX4_readRepeat.cls = RX4 ∧ yX4_readRepeat.cls ≠ "java/lang/invoke/MethodHandle" ∧ yX4_readRepeat.cls ≠ "java/lang/invoke/VarHandle" ∧ (parseMethodDescriptor yX4_readRepeat.desc).map (fun d => d.parameters.length) = some 1 := by decide +kernel
set_option maxRecDepth 100000 in
set_option maxHeartbeats 4000000 in
theorem ct_X4_readRepeat (l : Launch) (V : kb_V) (A : Nat → Prop)  (x1 : Int32) (a : Nat → Nat) (σ : kb_S) (sh : Value) (ex : va_W) {σ9 : kb_S} (hf : fn_X4_readRepeat  x1 σ = some σ9) : kb_T l yX4_readRepeat cX4_readRepeat 2 none ({ frames := 5, cells := 0, slots := 0, locals := 107 } : Room) V A [.ref (a 3), .int x1] (kb_W V a σ sh ex) none (kb_W V a σ9 sh ex) 0 0 := by
  refine kb_start (cc := cX4_readRepeat) (nL := 2) (ret := none) (own := RX4) (by decide) rfl (Nat.le_of_ble_eq_true rfl) ?_
  intro p e s m args below meth c C
  refine kj_sub [0, 1] (L2 := [(0, .ref (a 3)), (1, .int x1)]) rfl ?_
  rw [fe_X4_readRepeat] at hf
  refine kj_aload_n (pc := 0) C 0 dX4_readRepeat_0 rfl rfl ?_
  refine kg_X4_depth (pc := 1) (v := (kb_g σ 9)) C wf_X4_30 dX4_readRepeat_1 rfl ?_
  refine kj_if_le (pc := 4) 13 C dX4_readRepeat_4 (by decide) (fun c1 => ?_) (fun c1 => ?_)
  · have hf := kb_ift hf c1
    refine kj_aload_n (pc := 13) C 0 dX4_readRepeat_13 rfl rfl ?_
    refine kj_ldcS (pc := 14) (tx := "rep") (a := 24) C (by decide +kernel) dX4_readRepeat_14 ?_
    obtain ⟨q2, hq2, hf⟩ := kb_bd hf
    refine kj_callV0 (pc := 16) (as := [.ref (V.2.2 (10 + 14))]) (rest := []) (b := (a 3)) C (ct_X4_readWord l V A 14 a σ sh ex hq2) wd_X4_readWord wk_X4_131 wi_X4_readWord ws_X4_readWord wz_X4 rfl rfl hd_X4_readWord ⟨by decide, by decide⟩ 3 rfl rfl rfl rfl (Nat.le_of_ble_eq_true rfl) (by decide) dX4_readRepeat_16 ?_
    refine kj_aload_n (pc := 19) C 0 dX4_readRepeat_19 rfl rfl ?_
    obtain ⟨q3, hq3, hf⟩ := kb_bd hf
    refine kj_callV0 (pc := 20) (as := []) (rest := []) (b := (a 3)) C (ct_X4_skipBlanks l V A  a q2 sh ex hq3) wd_X4_skipBlanks wk_X4_59 wi_X4_skipBlanks ws_X4_skipBlanks wz_X4 rfl rfl hd_X4_skipBlanks ⟨by decide, by decide⟩ 3 rfl rfl rfl rfl (Nat.le_of_ble_eq_true rfl) (by decide) dX4_readRepeat_20 ?_
    refine kj_aload_n (pc := 23) C 0 dX4_readRepeat_23 rfl rfl ?_
    obtain ⟨q4, hq4, hf⟩ := kb_bd hf
    refine kj_callV0 (pc := 24) (as := []) (rest := []) (b := (a 3)) C (ct_X4_next l V A  a q3 sh ex hq4) wd_X4_next wk_X4_76 wi_X4_next ws_X4_next wz_X4 rfl rfl hd_X4_next ⟨by decide, by decide⟩ 3 rfl rfl rfl rfl (Nat.le_of_ble_eq_true rfl) (by decide) dX4_readRepeat_24 ?_
    refine kj_bipush (pc := 27) (v := (40 : Int32)) C dX4_readRepeat_27 (by decide) ?_
    refine kj_icmp_ne (pc := 29) 41 C dX4_readRepeat_29 (by decide) (fun c5 => ?_) (fun c5 => ?_)
    · have hf := kb_ife hf c5
      refine kj_aload_n (pc := 41) C 0 dX4_readRepeat_41 rfl rfl ?_
      refine kj_iconst (pc := 42) (v := (1 : Int32)) C dX4_readRepeat_42 (by decide) ?_
      obtain ⟨q6, hq6, hf⟩ := kb_bd hf
      refine kj_callV0 (pc := 43) (as := [.int (1 : Int32)]) (rest := []) (b := (a 3)) C (ct_X4_fail l V A (1 : Int32) a q3 sh ex hq6) wd_X4_fail wk_X4_108 wi_X4_fail ws_X4_fail wz_X4 rfl rfl hd_X4_fail ⟨by decide, by decide⟩ 3 rfl rfl rfl rfl (Nat.le_of_ble_eq_true rfl) (by decide) dX4_readRepeat_43 ?_
      cases hf
      exact kj_vret (pc := 46) C dX4_readRepeat_46
    · have hf := kb_ift hf c5
      refine kj_aload_n (pc := 32) C 0 dX4_readRepeat_32 rfl rfl ?_
      refine kj_iconst (pc := 33) (v := (2 : Int32)) C dX4_readRepeat_33 (by decide) ?_
      refine kj_iload_n (pc := 34) C 1 dX4_readRepeat_34 rfl rfl ?_
      obtain ⟨q6, hq6, hf⟩ := kb_bd hf
      refine kj_callV0 (pc := 35) (as := [.int (2 : Int32), .int x1]) (rest := []) (b := (a 3)) C (ct_X4_openBracket l V A (2 : Int32) x1 a q3 sh ex hq6) wd_X4_openBracket wk_X4_101 wi_X4_openBracket ws_X4_openBracket wz_X4 rfl rfl hd_X4_openBracket ⟨by decide, by decide⟩ 3 rfl rfl rfl rfl (Nat.le_of_ble_eq_true rfl) (by decide) dX4_readRepeat_35 ?_
      refine kj_goto (pc := 38) 46 C dX4_readRepeat_38 (by decide) ?_
      cases hf
      exact kj_vret (pc := 46) C dX4_readRepeat_46
  · have hf := kb_ife hf c1
    refine kj_aload_n (pc := 7) C 0 dX4_readRepeat_7 rfl rfl ?_
    refine kj_iconst (pc := 8) (v := (1 : Int32)) C dX4_readRepeat_8 (by decide) ?_
    obtain ⟨q2, hq2, hf⟩ := kb_bd hf
    refine kj_callV0 (pc := 9) (as := [.int (1 : Int32)]) (rest := []) (b := (a 3)) C (ct_X4_fail l V A (1 : Int32) a σ sh ex hq2) wd_X4_fail wk_X4_108 wi_X4_fail ws_X4_fail wz_X4 rfl rfl hd_X4_fail ⟨by decide, by decide⟩ 3 rfl rfl rfl rfl (Nat.le_of_ble_eq_true rfl) (by decide) dX4_readRepeat_9 ?_
    cases hf
    exact kj_vret (pc := 12) C dX4_readRepeat_12
def fn_X4_readSlipOrSsk  (x1 : Int32) (σ : kb_S) : Option (kb_S) :=
  (fn_X7_byteAt ((kb_g σ 10) + (1 : Int32)) σ).bind fun q1 =>
  if q1 = (115 : Int32) then
    (fn_X4_readSingle 5 (4 : Int32) x1 σ).bind fun q3 =>
    some q3
  else
    (fn_X4_readNamed 6 (2 : Int32) x1 σ).bind fun q3 =>
    some q3
theorem fe_X4_readSlipOrSsk  (x1 : Int32) (σ : kb_S) : fn_X4_readSlipOrSsk  x1 σ =
  (fn_X7_byteAt ((kb_g σ 10) + (1 : Int32)) σ).bind fun q1 =>
  if q1 = (115 : Int32) then
    (fn_X4_readSingle 5 (4 : Int32) x1 σ).bind fun q3 =>
    some q3
  else
    (fn_X4_readNamed 6 (2 : Int32) x1 σ).bind fun q3 =>
    some q3 := rfl
theorem hd_X4_readSlipOrSsk : yX4_readSlipOrSsk.cls = RX4 ∧ yX4_readSlipOrSsk.cls ≠ "java/lang/invoke/MethodHandle" ∧ yX4_readSlipOrSsk.cls ≠ "java/lang/invoke/VarHandle" ∧ (parseMethodDescriptor yX4_readSlipOrSsk.desc).map (fun d => d.parameters.length) = some 1 := by decide +kernel
set_option maxRecDepth 100000 in
set_option maxHeartbeats 4000000 in
theorem ct_X4_readSlipOrSsk (l : Launch) (V : kb_V) (A : Nat → Prop)  (x1 : Int32) (a : Nat → Nat) (σ : kb_S) (sh : Value) (ex : va_W) {σ9 : kb_S} (hf : fn_X4_readSlipOrSsk  x1 σ = some σ9) : kb_T l yX4_readSlipOrSsk cX4_readSlipOrSsk 2 none ({ frames := 6, cells := 0, slots := 0, locals := 131 } : Room) V A [.ref (a 3), .int x1] (kb_W V a σ sh ex) none (kb_W V a σ9 sh ex) 0 0 := by
  refine kb_start (cc := cX4_readSlipOrSsk) (nL := 2) (ret := none) (own := RX4) (by decide) rfl (Nat.le_of_ble_eq_true rfl) ?_
  intro p e s m args below meth c C
  refine kj_sub [0, 1] (L2 := [(0, .ref (a 3)), (1, .int x1)]) rfl ?_
  rw [fe_X4_readSlipOrSsk] at hf
  refine kj_aload_n (pc := 0) C 0 dX4_readSlipOrSsk_0 rfl rfl ?_
  refine kg_X4_tape (pc := 1) C wf_X4_17 dX4_readSlipOrSsk_1 ?_
  refine kj_aload_n (pc := 4) C 0 dX4_readSlipOrSsk_4 rfl rfl ?_
  refine kg_X4_at (pc := 5) (v := (kb_g σ 10)) C wf_X4_34 dX4_readSlipOrSsk_5 rfl ?_
  refine kj_iconst (pc := 8) (v := (1 : Int32)) C dX4_readSlipOrSsk_8 (by decide) ?_
  refine kj_iadd (pc := 9) C dX4_readSlipOrSsk_9 ?_
  obtain ⟨q1, hq1, hf⟩ := kb_bd hf
  refine kj_callV0 (pc := 10) (as := [.int ((kb_g σ 10) + (1 : Int32))]) (rest := []) (b := (a 1)) C (ct_X7_byteAt l V A ((kb_g σ 10) + (1 : Int32)) a σ sh ex hq1) wd_X7_byteAt wk_X4_68 wi_X7_byteAt ws_X7_byteAt wz_X7 rfl rfl hd_X7_byteAt ⟨by decide, by decide⟩ 1 rfl rfl rfl rfl (Nat.le_of_ble_eq_true rfl) (by decide) dX4_readSlipOrSsk_10 ?_
  refine kj_bipush (pc := 13) (v := (115 : Int32)) C dX4_readSlipOrSsk_13 (by decide) ?_
  refine kj_icmp_ne (pc := 15) 29 C dX4_readSlipOrSsk_15 (by decide) (fun c2 => ?_) (fun c2 => ?_)
  · have hf := kb_ife hf c2
    refine kj_aload_n (pc := 29) C 0 dX4_readSlipOrSsk_29 rfl rfl ?_
    refine kj_ldcS (pc := 30) (tx := "sl") (a := 16) C (by decide +kernel) dX4_readSlipOrSsk_30 ?_
    refine kj_iconst (pc := 32) (v := (2 : Int32)) C dX4_readSlipOrSsk_32 (by decide) ?_
    refine kj_iload_n (pc := 33) C 1 dX4_readSlipOrSsk_33 rfl rfl ?_
    obtain ⟨q3, hq3, hf⟩ := kb_bd hf
    refine kj_callV0 (pc := 34) (as := [.ref (V.2.2 (10 + 6)), .int (2 : Int32), .int x1]) (rest := []) (b := (a 3)) C (ct_X4_readNamed l V A 6 (2 : Int32) x1 a σ sh ex hq3) wd_X4_readNamed wk_X4_87 wi_X4_readNamed ws_X4_readNamed wz_X4 rfl rfl hd_X4_readNamed ⟨by decide, by decide⟩ 3 rfl rfl rfl rfl (Nat.le_of_ble_eq_true rfl) (by decide) dX4_readSlipOrSsk_34 ?_
    cases hf
    exact kj_vret (pc := 37) C dX4_readSlipOrSsk_37
  · have hf := kb_ift hf c2
    refine kj_aload_n (pc := 18) C 0 dX4_readSlipOrSsk_18 rfl rfl ?_
    refine kj_ldcS (pc := 19) (tx := "ssk") (a := 15) C (by decide +kernel) dX4_readSlipOrSsk_19 ?_
    refine kj_iconst (pc := 21) (v := (4 : Int32)) C dX4_readSlipOrSsk_21 (by decide) ?_
    refine kj_iload_n (pc := 22) C 1 dX4_readSlipOrSsk_22 rfl rfl ?_
    obtain ⟨q3, hq3, hf⟩ := kb_bd hf
    refine kj_callV0 (pc := 23) (as := [.ref (V.2.2 (10 + 5)), .int (4 : Int32), .int x1]) (rest := []) (b := (a 3)) C (ct_X4_readSingle l V A 5 (4 : Int32) x1 a σ sh ex hq3) wd_X4_readSingle wk_X4_113 wi_X4_readSingle ws_X4_readSingle wz_X4 rfl rfl hd_X4_readSingle ⟨by decide, by decide⟩ 3 rfl rfl rfl rfl (Nat.le_of_ble_eq_true rfl) (by decide) dX4_readSlipOrSsk_23 ?_
    refine kj_goto (pc := 26) 37 C dX4_readSlipOrSsk_26 (by decide) ?_
    cases hf
    exact kj_vret (pc := 37) C dX4_readSlipOrSsk_37
def fn_X4_readItem   (σ : kb_S) : Option (kb_S) :=
  (fn_X4_next  σ).bind fun q1 =>
  if q1 = (40 : Int32) then
    (fn_X4_openBracket (1 : Int32) (kb_g σ 10) σ).bind fun q3 =>
    some q3
  else if q1 = (98 : Int32) then
    (fn_X4_readNamed 8 (8 : Int32) (kb_g σ 10) σ).bind fun q3 =>
    some q3
  else if q1 = (99 : Int32) then
    (fn_X4_readCastOrCable (kb_g σ 10) σ).bind fun q3 =>
    some q3
  else if q1 = (107 : Int32) then
    (fn_X4_readKnit (kb_g σ 10) σ).bind fun q3 =>
    some q3
  else if q1 = (112 : Int32) then
    (fn_X4_readNamed 4 (1 : Int32) (kb_g σ 10) σ).bind fun q3 =>
    some q3
  else if q1 = (114 : Int32) then
    (fn_X4_readRepeat (kb_g σ 10) σ).bind fun q3 =>
    some q3
  else if q1 = (115 : Int32) then
    (fn_X4_readSlipOrSsk (kb_g σ 10) σ).bind fun q3 =>
    some q3
  else if q1 = (121 : Int32) then
    (fn_X4_readNamed 7 (7 : Int32) (kb_g σ 10) σ).bind fun q3 =>
    some q3
  else
    (fn_X4_fail (1 : Int32) σ).bind fun q3 =>
    some q3
theorem fe_X4_readItem   (σ : kb_S) : fn_X4_readItem   σ =
  (fn_X4_next  σ).bind fun q1 =>
  if q1 = (40 : Int32) then
    (fn_X4_openBracket (1 : Int32) (kb_g σ 10) σ).bind fun q3 =>
    some q3
  else if q1 = (98 : Int32) then
    (fn_X4_readNamed 8 (8 : Int32) (kb_g σ 10) σ).bind fun q3 =>
    some q3
  else if q1 = (99 : Int32) then
    (fn_X4_readCastOrCable (kb_g σ 10) σ).bind fun q3 =>
    some q3
  else if q1 = (107 : Int32) then
    (fn_X4_readKnit (kb_g σ 10) σ).bind fun q3 =>
    some q3
  else if q1 = (112 : Int32) then
    (fn_X4_readNamed 4 (1 : Int32) (kb_g σ 10) σ).bind fun q3 =>
    some q3
  else if q1 = (114 : Int32) then
    (fn_X4_readRepeat (kb_g σ 10) σ).bind fun q3 =>
    some q3
  else if q1 = (115 : Int32) then
    (fn_X4_readSlipOrSsk (kb_g σ 10) σ).bind fun q3 =>
    some q3
  else if q1 = (121 : Int32) then
    (fn_X4_readNamed 7 (7 : Int32) (kb_g σ 10) σ).bind fun q3 =>
    some q3
  else
    (fn_X4_fail (1 : Int32) σ).bind fun q3 =>
    some q3 := rfl
theorem hd_X4_readItem : yX4_readItem.cls = RX4 ∧ yX4_readItem.cls ≠ "java/lang/invoke/MethodHandle" ∧ yX4_readItem.cls ≠ "java/lang/invoke/VarHandle" ∧ (parseMethodDescriptor yX4_readItem.desc).map (fun d => d.parameters.length) = some 0 := by decide +kernel
set_option maxRecDepth 100000 in
set_option maxHeartbeats 4000000 in
theorem ct_X4_readItem (l : Launch) (V : kb_V) (A : Nat → Prop)   (a : Nat → Nat) (σ : kb_S) (sh : Value) (ex : va_W) {σ9 : kb_S} (hf : fn_X4_readItem   σ = some σ9) : kb_T l yX4_readItem cX4_readItem 2 none ({ frames := 7, cells := 0, slots := 0, locals := 154 } : Room) V A [.ref (a 3)] (kb_W V a σ sh ex) none (kb_W V a σ9 sh ex) 0 0 := by
  refine kb_start (cc := cX4_readItem) (nL := 2) (ret := none) (own := RX4) (by decide) rfl (Nat.le_of_ble_eq_true rfl) ?_
  intro p e s m args below meth c C
  refine kj_sub [0] (L2 := [(0, .ref (a 3))]) rfl ?_
  rw [fe_X4_readItem] at hf
  refine kj_aload_n (pc := 0) C 0 dX4_readItem_0 rfl rfl ?_
  refine kg_X4_at (pc := 1) (v := (kb_g σ 10)) C wf_X4_34 dX4_readItem_1 rfl ?_
  refine kj_istore_n (pc := 4) C [1, 0] (L2 := [(0, .ref (a 3)), (1, .int (kb_g σ 10))]) dX4_readItem_4 rfl (by decide) rfl ?_
  refine kj_aload_n (pc := 5) C 0 dX4_readItem_5 rfl rfl ?_
  obtain ⟨q1, hq1, hf⟩ := kb_bd hf
  refine kj_callV0 (pc := 6) (as := []) (rest := []) (b := (a 3)) C (ct_X4_next l V A  a σ sh ex hq1) wd_X4_next wk_X4_76 wi_X4_next ws_X4_next wz_X4 rfl rfl hd_X4_next ⟨by decide, by decide⟩ 3 rfl rfl rfl rfl (Nat.le_of_ble_eq_true rfl) (by decide) dX4_readItem_6 ?_
  by_cases c2_0 : q1 = (40 : Int32)
  · have hf := kb_ift hf c2_0
    refine kj_lookup (pc := 9) (off := 134) 143 C dX4_readItem_9 (by decide) (by rw [c2_0]; rfl) (by decide) ?_
    refine kj_aload_n (pc := 143) C 0 dX4_readItem_143 rfl rfl ?_
    refine kj_iconst (pc := 144) (v := (1 : Int32)) C dX4_readItem_144 (by decide) ?_
    refine kj_iload_n (pc := 145) C 1 dX4_readItem_145 rfl rfl ?_
    obtain ⟨q3, hq3, hf⟩ := kb_bd hf
    refine kj_callV0 (pc := 146) (as := [.int (1 : Int32), .int (kb_g σ 10)]) (rest := []) (b := (a 3)) C (ct_X4_openBracket l V A (1 : Int32) (kb_g σ 10) a σ sh ex hq3) wd_X4_openBracket wk_X4_101 wi_X4_openBracket ws_X4_openBracket wz_X4 rfl rfl hd_X4_openBracket ⟨by decide, by decide⟩ 3 rfl rfl rfl rfl (Nat.le_of_ble_eq_true rfl) (by decide) dX4_readItem_146 ?_
    refine kj_goto (pc := 149) 165 C dX4_readItem_149 (by decide) ?_
    cases hf
    exact kj_vret (pc := 165) C dX4_readItem_165
  have hf := kb_ife hf c2_0
  by_cases c2_1 : q1 = (98 : Int32)
  · have hf := kb_ift hf c2_1
    refine kj_lookup (pc := 9) (off := 114) 123 C dX4_readItem_9 (by decide) (by rw [c2_1]; rfl) (by decide) ?_
    refine kj_aload_n (pc := 123) C 0 dX4_readItem_123 rfl rfl ?_
    refine kj_ldcS (pc := 124) (tx := "bind") (a := 18) C (by decide +kernel) dX4_readItem_124 ?_
    refine kj_bipush (pc := 126) (v := (8 : Int32)) C dX4_readItem_126 (by decide) ?_
    refine kj_iload_n (pc := 128) C 1 dX4_readItem_128 rfl rfl ?_
    obtain ⟨q3, hq3, hf⟩ := kb_bd hf
    refine kj_callV0 (pc := 129) (as := [.ref (V.2.2 (10 + 8)), .int (8 : Int32), .int (kb_g σ 10)]) (rest := []) (b := (a 3)) C (ct_X4_readNamed l V A 8 (8 : Int32) (kb_g σ 10) a σ sh ex hq3) wd_X4_readNamed wk_X4_87 wi_X4_readNamed ws_X4_readNamed wz_X4 rfl rfl hd_X4_readNamed ⟨by decide, by decide⟩ 3 rfl rfl rfl rfl (Nat.le_of_ble_eq_true rfl) (by decide) dX4_readItem_129 ?_
    refine kj_goto (pc := 132) 165 C dX4_readItem_132 (by decide) ?_
    cases hf
    exact kj_vret (pc := 165) C dX4_readItem_165
  have hf := kb_ife hf c2_1
  by_cases c2_2 : q1 = (99 : Int32)
  · have hf := kb_ift hf c2_2
    refine kj_lookup (pc := 9) (off := 126) 135 C dX4_readItem_9 (by decide) (by rw [c2_2]; rfl) (by decide) ?_
    refine kj_aload_n (pc := 135) C 0 dX4_readItem_135 rfl rfl ?_
    refine kj_iload_n (pc := 136) C 1 dX4_readItem_136 rfl rfl ?_
    obtain ⟨q3, hq3, hf⟩ := kb_bd hf
    refine kj_callV0 (pc := 137) (as := [.int (kb_g σ 10)]) (rest := []) (b := (a 3)) C (ct_X4_readCastOrCable l V A (kb_g σ 10) a σ sh ex hq3) wd_X4_readCastOrCable wk_X4_98 wi_X4_readCastOrCable ws_X4_readCastOrCable wz_X4 rfl rfl hd_X4_readCastOrCable ⟨by decide, by decide⟩ 3 rfl rfl rfl rfl (Nat.le_of_ble_eq_true rfl) (by decide) dX4_readItem_137 ?_
    refine kj_goto (pc := 140) 165 C dX4_readItem_140 (by decide) ?_
    cases hf
    exact kj_vret (pc := 165) C dX4_readItem_165
  have hf := kb_ife hf c2_2
  by_cases c2_3 : q1 = (107 : Int32)
  · have hf := kb_ift hf c2_3
    refine kj_lookup (pc := 9) (off := 75) 84 C dX4_readItem_9 (by decide) (by rw [c2_3]; rfl) (by decide) ?_
    refine kj_aload_n (pc := 84) C 0 dX4_readItem_84 rfl rfl ?_
    refine kj_iload_n (pc := 85) C 1 dX4_readItem_85 rfl rfl ?_
    obtain ⟨q3, hq3, hf⟩ := kb_bd hf
    refine kj_callV0 (pc := 86) (as := [.int (kb_g σ 10)]) (rest := []) (b := (a 3)) C (ct_X4_readKnit l V A (kb_g σ 10) a σ sh ex hq3) wd_X4_readKnit wk_X4_79 wi_X4_readKnit ws_X4_readKnit wz_X4 rfl rfl hd_X4_readKnit ⟨by decide, by decide⟩ 3 rfl rfl rfl rfl (Nat.le_of_ble_eq_true rfl) (by decide) dX4_readItem_86 ?_
    refine kj_goto (pc := 89) 165 C dX4_readItem_89 (by decide) ?_
    cases hf
    exact kj_vret (pc := 165) C dX4_readItem_165
  have hf := kb_ife hf c2_3
  by_cases c2_4 : q1 = (112 : Int32)
  · have hf := kb_ift hf c2_4
    refine kj_lookup (pc := 9) (off := 83) 92 C dX4_readItem_9 (by decide) (by rw [c2_4]; rfl) (by decide) ?_
    refine kj_aload_n (pc := 92) C 0 dX4_readItem_92 rfl rfl ?_
    refine kj_ldcS (pc := 93) (tx := "p") (a := 14) C (by decide +kernel) dX4_readItem_93 ?_
    refine kj_iconst (pc := 95) (v := (1 : Int32)) C dX4_readItem_95 (by decide) ?_
    refine kj_iload_n (pc := 96) C 1 dX4_readItem_96 rfl rfl ?_
    obtain ⟨q3, hq3, hf⟩ := kb_bd hf
    refine kj_callV0 (pc := 97) (as := [.ref (V.2.2 (10 + 4)), .int (1 : Int32), .int (kb_g σ 10)]) (rest := []) (b := (a 3)) C (ct_X4_readNamed l V A 4 (1 : Int32) (kb_g σ 10) a σ sh ex hq3) wd_X4_readNamed wk_X4_87 wi_X4_readNamed ws_X4_readNamed wz_X4 rfl rfl hd_X4_readNamed ⟨by decide, by decide⟩ 3 rfl rfl rfl rfl (Nat.le_of_ble_eq_true rfl) (by decide) dX4_readItem_97 ?_
    refine kj_goto (pc := 100) 165 C dX4_readItem_100 (by decide) ?_
    cases hf
    exact kj_vret (pc := 165) C dX4_readItem_165
  have hf := kb_ife hf c2_4
  by_cases c2_5 : q1 = (114 : Int32)
  · have hf := kb_ift hf c2_5
    refine kj_lookup (pc := 9) (off := 143) 152 C dX4_readItem_9 (by decide) (by rw [c2_5]; rfl) (by decide) ?_
    refine kj_aload_n (pc := 152) C 0 dX4_readItem_152 rfl rfl ?_
    refine kj_iload_n (pc := 153) C 1 dX4_readItem_153 rfl rfl ?_
    obtain ⟨q3, hq3, hf⟩ := kb_bd hf
    refine kj_callV0 (pc := 154) (as := [.int (kb_g σ 10)]) (rest := []) (b := (a 3)) C (ct_X4_readRepeat l V A (kb_g σ 10) a σ sh ex hq3) wd_X4_readRepeat wk_X4_105 wi_X4_readRepeat ws_X4_readRepeat wz_X4 rfl rfl hd_X4_readRepeat ⟨by decide, by decide⟩ 3 rfl rfl rfl rfl (Nat.le_of_ble_eq_true rfl) (by decide) dX4_readItem_154 ?_
    refine kj_goto (pc := 157) 165 C dX4_readItem_157 (by decide) ?_
    cases hf
    exact kj_vret (pc := 165) C dX4_readItem_165
  have hf := kb_ife hf c2_5
  by_cases c2_6 : q1 = (115 : Int32)
  · have hf := kb_ift hf c2_6
    refine kj_lookup (pc := 9) (off := 94) 103 C dX4_readItem_9 (by decide) (by rw [c2_6]; rfl) (by decide) ?_
    refine kj_aload_n (pc := 103) C 0 dX4_readItem_103 rfl rfl ?_
    refine kj_iload_n (pc := 104) C 1 dX4_readItem_104 rfl rfl ?_
    obtain ⟨q3, hq3, hf⟩ := kb_bd hf
    refine kj_callV0 (pc := 105) (as := [.int (kb_g σ 10)]) (rest := []) (b := (a 3)) C (ct_X4_readSlipOrSsk l V A (kb_g σ 10) a σ sh ex hq3) wd_X4_readSlipOrSsk wk_X4_91 wi_X4_readSlipOrSsk ws_X4_readSlipOrSsk wz_X4 rfl rfl hd_X4_readSlipOrSsk ⟨by decide, by decide⟩ 3 rfl rfl rfl rfl (Nat.le_of_ble_eq_true rfl) (by decide) dX4_readItem_105 ?_
    refine kj_goto (pc := 108) 165 C dX4_readItem_108 (by decide) ?_
    cases hf
    exact kj_vret (pc := 165) C dX4_readItem_165
  have hf := kb_ife hf c2_6
  by_cases c2_7 : q1 = (121 : Int32)
  · have hf := kb_ift hf c2_7
    refine kj_lookup (pc := 9) (off := 102) 111 C dX4_readItem_9 (by decide) (by rw [c2_7]; rfl) (by decide) ?_
    refine kj_aload_n (pc := 111) C 0 dX4_readItem_111 rfl rfl ?_
    refine kj_ldcS (pc := 112) (tx := "yo") (a := 17) C (by decide +kernel) dX4_readItem_112 ?_
    refine kj_bipush (pc := 114) (v := (7 : Int32)) C dX4_readItem_114 (by decide) ?_
    refine kj_iload_n (pc := 116) C 1 dX4_readItem_116 rfl rfl ?_
    obtain ⟨q3, hq3, hf⟩ := kb_bd hf
    refine kj_callV0 (pc := 117) (as := [.ref (V.2.2 (10 + 7)), .int (7 : Int32), .int (kb_g σ 10)]) (rest := []) (b := (a 3)) C (ct_X4_readNamed l V A 7 (7 : Int32) (kb_g σ 10) a σ sh ex hq3) wd_X4_readNamed wk_X4_87 wi_X4_readNamed ws_X4_readNamed wz_X4 rfl rfl hd_X4_readNamed ⟨by decide, by decide⟩ 3 rfl rfl rfl rfl (Nat.le_of_ble_eq_true rfl) (by decide) dX4_readItem_117 ?_
    refine kj_goto (pc := 120) 165 C dX4_readItem_120 (by decide) ?_
    cases hf
    exact kj_vret (pc := 165) C dX4_readItem_165
  have hf := kb_ife hf c2_7
  refine kj_lookup (pc := 9) (off := 151) 160 C dX4_readItem_9 (by decide) (show Op.lookupswitch.offset [(40, 134), (98, 114), (99, 126), (107, 75), (112, 83), (114, 143), (115, 94), (121, 102)] 151 _ = _ from (lv_osw c2_0 (by decide)).trans ((lv_osw c2_1 (by decide)).trans ((lv_osw c2_2 (by decide)).trans ((lv_osw c2_3 (by decide)).trans ((lv_osw c2_4 (by decide)).trans ((lv_osw c2_5 (by decide)).trans ((lv_osw c2_6 (by decide)).trans ((lv_osw c2_7 (by decide)).trans (rfl))))))))) (by decide) ?_
  refine kj_aload_n (pc := 160) C 0 dX4_readItem_160 rfl rfl ?_
  refine kj_iconst (pc := 161) (v := (1 : Int32)) C dX4_readItem_161 (by decide) ?_
  obtain ⟨q3, hq3, hf⟩ := kb_bd hf
  refine kj_callV0 (pc := 162) (as := [.int (1 : Int32)]) (rest := []) (b := (a 3)) C (ct_X4_fail l V A (1 : Int32) a σ sh ex hq3) wd_X4_fail wk_X4_108 wi_X4_fail ws_X4_fail wz_X4 rfl rfl hd_X4_fail ⟨by decide, by decide⟩ 3 rfl rfl rfl rfl (Nat.le_of_ble_eq_true rfl) (by decide) dX4_readItem_162 ?_
  cases hf
  exact kj_vret (pc := 165) C dX4_readItem_165
def fn_X4_readToLast   (σ : kb_S) : Option (kb_S × Int32) :=
  (fn_X4_readWord 15 σ).bind fun q1 =>
  (fn_X4_skipBlanks  q1).bind fun q2 =>
  (fn_X4_readWord 16 q2).bind fun q3 =>
  (fn_X4_skipBlanks  q3).bind fun q4 =>
  (fn_X4_readNumber (0 : Int32) q4).bind fun q5 =>
  some (q5.1, q5.2)
theorem fe_X4_readToLast   (σ : kb_S) : fn_X4_readToLast   σ =
  (fn_X4_readWord 15 σ).bind fun q1 =>
  (fn_X4_skipBlanks  q1).bind fun q2 =>
  (fn_X4_readWord 16 q2).bind fun q3 =>
  (fn_X4_skipBlanks  q3).bind fun q4 =>
  (fn_X4_readNumber (0 : Int32) q4).bind fun q5 =>
  some (q5.1, q5.2) := rfl
theorem hd_X4_readToLast : yX4_readToLast.cls = RX4 ∧ yX4_readToLast.cls ≠ "java/lang/invoke/MethodHandle" ∧ yX4_readToLast.cls ≠ "java/lang/invoke/VarHandle" ∧ (parseMethodDescriptor yX4_readToLast.desc).map (fun d => d.parameters.length) = some 0 := by decide +kernel
set_option maxRecDepth 100000 in
set_option maxHeartbeats 4000000 in
theorem ct_X4_readToLast (l : Launch) (V : kb_V) (A : Nat → Prop)   (a : Nat → Nat) (σ : kb_S) (sh : Value) (ex : va_W) {σ9 : kb_S} {r : Int32} (hf : fn_X4_readToLast   σ = some (σ9, r)) : kb_T l yX4_readToLast cX4_readToLast 1 (some .int) ({ frames := 5, cells := 0, slots := 0, locals := 107 } : Room) V A [.ref (a 3)] (kb_W V a σ sh ex) (some (.int r)) (kb_W V a σ9 sh ex) 0 0 := by
  refine kb_start (cc := cX4_readToLast) (nL := 1) (ret := (some .int)) (own := RX4) (by decide) rfl (Nat.le_of_ble_eq_true rfl) ?_
  intro p e s m args below meth c C
  refine kj_sub [0] (L2 := [(0, .ref (a 3))]) rfl ?_
  rw [fe_X4_readToLast] at hf
  refine kj_aload_n (pc := 0) C 0 dX4_readToLast_0 rfl rfl ?_
  refine kj_ldcS (pc := 1) (tx := "to") (a := 25) C (by decide +kernel) dX4_readToLast_1 ?_
  obtain ⟨q1, hq1, hf⟩ := kb_bd hf
  refine kj_callV0 (pc := 3) (as := [.ref (V.2.2 (10 + 15))]) (rest := []) (b := (a 3)) C (ct_X4_readWord l V A 15 a σ sh ex hq1) wd_X4_readWord wk_X4_131 wi_X4_readWord ws_X4_readWord wz_X4 rfl rfl hd_X4_readWord ⟨by decide, by decide⟩ 3 rfl rfl rfl rfl (Nat.le_of_ble_eq_true rfl) (by decide) dX4_readToLast_3 ?_
  refine kj_aload_n (pc := 6) C 0 dX4_readToLast_6 rfl rfl ?_
  obtain ⟨q2, hq2, hf⟩ := kb_bd hf
  refine kj_callV0 (pc := 7) (as := []) (rest := []) (b := (a 3)) C (ct_X4_skipBlanks l V A  a q1 sh ex hq2) wd_X4_skipBlanks wk_X4_59 wi_X4_skipBlanks ws_X4_skipBlanks wz_X4 rfl rfl hd_X4_skipBlanks ⟨by decide, by decide⟩ 3 rfl rfl rfl rfl (Nat.le_of_ble_eq_true rfl) (by decide) dX4_readToLast_7 ?_
  refine kj_aload_n (pc := 10) C 0 dX4_readToLast_10 rfl rfl ?_
  refine kj_ldcS (pc := 11) (tx := "last") (a := 26) C (by decide +kernel) dX4_readToLast_11 ?_
  obtain ⟨q3, hq3, hf⟩ := kb_bd hf
  refine kj_callV0 (pc := 13) (as := [.ref (V.2.2 (10 + 16))]) (rest := []) (b := (a 3)) C (ct_X4_readWord l V A 16 a q2 sh ex hq3) wd_X4_readWord wk_X4_131 wi_X4_readWord ws_X4_readWord wz_X4 rfl rfl hd_X4_readWord ⟨by decide, by decide⟩ 3 rfl rfl rfl rfl (Nat.le_of_ble_eq_true rfl) (by decide) dX4_readToLast_13 ?_
  refine kj_aload_n (pc := 16) C 0 dX4_readToLast_16 rfl rfl ?_
  obtain ⟨q4, hq4, hf⟩ := kb_bd hf
  refine kj_callV0 (pc := 17) (as := []) (rest := []) (b := (a 3)) C (ct_X4_skipBlanks l V A  a q3 sh ex hq4) wd_X4_skipBlanks wk_X4_59 wi_X4_skipBlanks ws_X4_skipBlanks wz_X4 rfl rfl hd_X4_skipBlanks ⟨by decide, by decide⟩ 3 rfl rfl rfl rfl (Nat.le_of_ble_eq_true rfl) (by decide) dX4_readToLast_17 ?_
  refine kj_aload_n (pc := 20) C 0 dX4_readToLast_20 rfl rfl ?_
  refine kj_iconst (pc := 21) (v := (0 : Int32)) C dX4_readToLast_21 (by decide) ?_
  obtain ⟨q5, hq5, hf⟩ := kb_bd hf
  refine kj_callV0 (pc := 22) (as := [.int (0 : Int32)]) (rest := []) (b := (a 3)) C (ct_X4_readNumber l V A (0 : Int32) a q4 sh ex hq5) wd_X4_readNumber wk_X4_135 wi_X4_readNumber ws_X4_readNumber wz_X4 rfl rfl hd_X4_readNumber ⟨by decide, by decide⟩ 3 rfl rfl rfl rfl (Nat.le_of_ble_eq_true rfl) (by decide) dX4_readToLast_22 ?_
  cases hf
  exact kj_iret (pc := 25) C dX4_readToLast_25
def fn_X4_closeBracket   (σ : kb_S) : Option (kb_S) :=
  if kb_in (kb_g σ 9) 5 = true then
    if kb_in (kb_g σ 9) 5 = true then
      (fn_X4_skipBlanks  (kb_p σ 10 ((kb_g σ 10) + (1 : Int32)))).bind fun q3 =>
      (fn_X3_kind (kb_a σ 6 (kb_g σ 9).toNatClampNeg) q3).bind fun q4 =>
      if q4 = (2 : Int32) then
        (fn_X4_readToLast  q3).bind fun q6 =>
        (fn_X3_addClose (kb_a σ 6 (kb_g σ 9).toNatClampNeg) q6.2 (kb_g σ 10) (kb_b σ 0 (kb_g σ 9).toNatClampNeg) q6.1).bind fun q7 =>
        some (kb_p q7 9 ((kb_g q7 9) - (1 : Int32)))
      else
        (fn_X4_readWord 17 q3).bind fun q6 =>
        (fn_X4_readNumber (2 : Int32) q6).bind fun q7 =>
        (fn_X3_addClose (kb_a σ 6 (kb_g σ 9).toNatClampNeg) q7.2 (kb_g σ 10) (kb_b σ 0 (kb_g σ 9).toNatClampNeg) q7.1).bind fun q8 =>
        if kb_in ((kb_g q8 9) - (1 : Int32)) 5 = true then
          if kb_in ((kb_g q8 9) - (1 : Int32)) 5 = true then
            some (kb_bp (kb_p q8 9 ((kb_g q8 9) - (1 : Int32))) 0 ((kb_g q8 9) - (1 : Int32)).toNatClampNeg ((kb_b q8 0 ((kb_g q8 9) - (1 : Int32)).toNatClampNeg) + ((q7.2.toInt64) * (kb_b σ 0 (kb_g σ 9).toNatClampNeg))))
          else none
        else none
    else none
  else none
theorem fe_X4_closeBracket   (σ : kb_S) : fn_X4_closeBracket   σ =
  if kb_in (kb_g σ 9) 5 = true then
    if kb_in (kb_g σ 9) 5 = true then
      (fn_X4_skipBlanks  (kb_p σ 10 ((kb_g σ 10) + (1 : Int32)))).bind fun q3 =>
      (fn_X3_kind (kb_a σ 6 (kb_g σ 9).toNatClampNeg) q3).bind fun q4 =>
      if q4 = (2 : Int32) then
        (fn_X4_readToLast  q3).bind fun q6 =>
        (fn_X3_addClose (kb_a σ 6 (kb_g σ 9).toNatClampNeg) q6.2 (kb_g σ 10) (kb_b σ 0 (kb_g σ 9).toNatClampNeg) q6.1).bind fun q7 =>
        some (kb_p q7 9 ((kb_g q7 9) - (1 : Int32)))
      else
        (fn_X4_readWord 17 q3).bind fun q6 =>
        (fn_X4_readNumber (2 : Int32) q6).bind fun q7 =>
        (fn_X3_addClose (kb_a σ 6 (kb_g σ 9).toNatClampNeg) q7.2 (kb_g σ 10) (kb_b σ 0 (kb_g σ 9).toNatClampNeg) q7.1).bind fun q8 =>
        if kb_in ((kb_g q8 9) - (1 : Int32)) 5 = true then
          if kb_in ((kb_g q8 9) - (1 : Int32)) 5 = true then
            some (kb_bp (kb_p q8 9 ((kb_g q8 9) - (1 : Int32))) 0 ((kb_g q8 9) - (1 : Int32)).toNatClampNeg ((kb_b q8 0 ((kb_g q8 9) - (1 : Int32)).toNatClampNeg) + ((q7.2.toInt64) * (kb_b σ 0 (kb_g σ 9).toNatClampNeg))))
          else none
        else none
    else none
  else none := rfl
theorem hd_X4_closeBracket : yX4_closeBracket.cls = RX4 ∧ yX4_closeBracket.cls ≠ "java/lang/invoke/MethodHandle" ∧ yX4_closeBracket.cls ≠ "java/lang/invoke/VarHandle" ∧ (parseMethodDescriptor yX4_closeBracket.desc).map (fun d => d.parameters.length) = some 0 := by decide +kernel
set_option maxRecDepth 100000 in
set_option maxHeartbeats 4000000 in
theorem ct_X4_closeBracket (l : Launch) (V : kb_V) (A : Nat → Prop)   (a : Nat → Nat) (σ : kb_S) (sh : Value) (ex : va_W) {σ9 : kb_S} (hf : fn_X4_closeBracket   σ = some σ9) : kb_T l yX4_closeBracket cX4_closeBracket 6 none ({ frames := 6, cells := 0, slots := 0, locals := 127 } : Room) V A [.ref (a 3)] (kb_W V a σ sh ex) none (kb_W V a σ9 sh ex) 0 0 := by
  refine kb_start (cc := cX4_closeBracket) (nL := 6) (ret := none) (own := RX4) (by decide) rfl (Nat.le_of_ble_eq_true rfl) ?_
  intro p e s m args below meth c C
  refine kj_sub [0] (L2 := [(0, .ref (a 3))]) rfl ?_
  rw [fe_X4_closeBracket] at hf
  refine kj_aload_n (pc := 0) C 0 dX4_closeBracket_0 rfl rfl ?_
  refine kg_X4_at (pc := 1) (v := (kb_g σ 10)) C wf_X4_34 dX4_closeBracket_1 rfl ?_
  refine kj_istore_n (pc := 4) C [1, 0] (L2 := [(0, .ref (a 3)), (1, .int (kb_g σ 10))]) dX4_closeBracket_4 rfl (by decide) rfl ?_
  refine kj_aload_n (pc := 5) C 0 dX4_closeBracket_5 rfl rfl ?_
  refine kg_X4_openSteps (pc := 6) C wf_X4_9 dX4_closeBracket_6 ?_
  refine kj_aload_n (pc := 9) C 0 dX4_closeBracket_9 rfl rfl ?_
  refine kg_X4_depth (pc := 10) (v := (kb_g σ 9)) C wf_X4_30 dX4_closeBracket_10 rfl ?_
  obtain ⟨g1, hf⟩ := kb_gd hf
  refine ka_X4_openSteps (pc := 13) (v := (kb_a σ 6 (kb_g σ 9).toNatClampNeg)) C g1 dX4_closeBracket_13 rfl ?_
  refine kj_istore_n (pc := 14) C [1, 2, 0] (L2 := [(0, .ref (a 3)), (1, .int (kb_g σ 10)), (2, .int (kb_a σ 6 (kb_g σ 9).toNatClampNeg))]) dX4_closeBracket_14 rfl (by decide) rfl ?_
  refine kj_aload_n (pc := 15) C 0 dX4_closeBracket_15 rfl rfl ?_
  refine kg_X4_takes (pc := 16) C wf_X4_13 dX4_closeBracket_16 ?_
  refine kj_aload_n (pc := 19) C 0 dX4_closeBracket_19 rfl rfl ?_
  refine kg_X4_depth (pc := 20) (v := (kb_g σ 9)) C wf_X4_30 dX4_closeBracket_20 rfl ?_
  obtain ⟨g2, hf⟩ := kb_gd hf
  refine ka_X4_takes (pc := 23) (v := (kb_b σ 0 (kb_g σ 9).toNatClampNeg)) C g2 dX4_closeBracket_23 rfl ?_
  refine kj_lstore_n (pc := 24) C [1, 2, 3, 0] (L2 := [(0, .ref (a 3)), (1, .int (kb_g σ 10)), (2, .int (kb_a σ 6 (kb_g σ 9).toNatClampNeg)), (3, .long (kb_b σ 0 (kb_g σ 9).toNatClampNeg))]) dX4_closeBracket_24 rfl (by decide) rfl ?_
  refine kj_aload_n (pc := 25) C 0 dX4_closeBracket_25 rfl rfl ?_
  refine kj_dup (pc := 26) C dX4_closeBracket_26 rfl ?_
  refine kg_X4_at (pc := 27) (v := (kb_g σ 10)) C wf_X4_34 dX4_closeBracket_27 rfl ?_
  refine kj_iconst (pc := 30) (v := (1 : Int32)) C dX4_closeBracket_30 (by decide) ?_
  refine kj_iadd (pc := 31) C dX4_closeBracket_31 ?_
  refine kp_X4_at (pc := 32) C wf_X4_34 dX4_closeBracket_32 ?_
  refine kj_aload_n (pc := 35) C 0 dX4_closeBracket_35 rfl rfl ?_
  obtain ⟨q3, hq3, hf⟩ := kb_bd hf
  refine kj_callV0 (pc := 36) (as := []) (rest := []) (b := (a 3)) C (ct_X4_skipBlanks l V A  a (kb_p σ 10 ((kb_g σ 10) + (1 : Int32))) sh ex hq3) wd_X4_skipBlanks wk_X4_59 wi_X4_skipBlanks ws_X4_skipBlanks wz_X4 rfl rfl hd_X4_skipBlanks ⟨by decide, by decide⟩ 3 rfl rfl rfl rfl (Nat.le_of_ble_eq_true rfl) (by decide) dX4_closeBracket_36 ?_
  refine kj_aload_n (pc := 39) C 0 dX4_closeBracket_39 rfl rfl ?_
  refine kg_X4_plan (pc := 40) C wf_X4_21 dX4_closeBracket_40 ?_
  refine kj_iload_n (pc := 43) C 2 dX4_closeBracket_43 rfl rfl ?_
  obtain ⟨q4, hq4, hf⟩ := kb_bd hf
  refine kj_callV0 (pc := 44) (as := [.int (kb_a σ 6 (kb_g σ 9).toNatClampNeg)]) (rest := []) (b := (a 5)) C (ct_X3_kind l V A (kb_a σ 6 (kb_g σ 9).toNatClampNeg) a q3 sh ex hq4) wd_X3_kind wk_X4_176 wi_X3_kind ws_X3_kind wz_X3 rfl rfl hd_X3_kind ⟨by decide, by decide⟩ 5 rfl rfl rfl rfl (Nat.le_of_ble_eq_true rfl) (by decide) dX4_closeBracket_44 ?_
  refine kj_iconst (pc := 47) (v := (2 : Int32)) C dX4_closeBracket_47 (by decide) ?_
  refine kj_icmp_ne (pc := 48) 82 C dX4_closeBracket_48 (by decide) (fun c5 => ?_) (fun c5 => ?_)
  · have hf := kb_ife hf c5
    refine kj_aload_n (pc := 82) C 0 dX4_closeBracket_82 rfl rfl ?_
    refine kj_ldcS (pc := 83) (tx := "x") (a := 27) C (by decide +kernel) dX4_closeBracket_83 ?_
    obtain ⟨q6, hq6, hf⟩ := kb_bd hf
    refine kj_callV0 (pc := 85) (as := [.ref (V.2.2 (10 + 17))]) (rest := []) (b := (a 3)) C (ct_X4_readWord l V A 17 a q3 sh ex hq6) wd_X4_readWord wk_X4_131 wi_X4_readWord ws_X4_readWord wz_X4 rfl rfl hd_X4_readWord ⟨by decide, by decide⟩ 3 rfl rfl rfl rfl (Nat.le_of_ble_eq_true rfl) (by decide) dX4_closeBracket_85 ?_
    refine kj_aload_n (pc := 88) C 0 dX4_closeBracket_88 rfl rfl ?_
    refine kj_iconst (pc := 89) (v := (2 : Int32)) C dX4_closeBracket_89 (by decide) ?_
    obtain ⟨q7, hq7, hf⟩ := kb_bd hf
    refine kj_callV0 (pc := 90) (as := [.int (2 : Int32)]) (rest := []) (b := (a 3)) C (ct_X4_readNumber l V A (2 : Int32) a q6 sh ex hq7) wd_X4_readNumber wk_X4_135 wi_X4_readNumber ws_X4_readNumber wz_X4 rfl rfl hd_X4_readNumber ⟨by decide, by decide⟩ 3 rfl rfl rfl rfl (Nat.le_of_ble_eq_true rfl) (by decide) dX4_closeBracket_90 ?_
    refine kj_istore (pc := 93) C [1, 2, 3, 4, 0] (L2 := [(0, .ref (a 3)), (1, .int (kb_g σ 10)), (2, .int (kb_a σ 6 (kb_g σ 9).toNatClampNeg)), (3, .long (kb_b σ 0 (kb_g σ 9).toNatClampNeg)), (5, .int q7.2)]) dX4_closeBracket_93 (by decide) rfl ?_
    refine kj_aload_n (pc := 95) C 0 dX4_closeBracket_95 rfl rfl ?_
    refine kg_X4_plan (pc := 96) C wf_X4_21 dX4_closeBracket_96 ?_
    refine kj_iload_n (pc := 99) C 2 dX4_closeBracket_99 rfl rfl ?_
    refine kj_iload (pc := 100) C 4 dX4_closeBracket_100 rfl ?_
    refine kj_iload_n (pc := 102) C 1 dX4_closeBracket_102 rfl rfl ?_
    refine kj_lload_n (pc := 103) C 3 dX4_closeBracket_103 rfl rfl ?_
    obtain ⟨q8, hq8, hf⟩ := kb_bd hf
    refine kj_callV0 (pc := 104) (as := [.int (kb_a σ 6 (kb_g σ 9).toNatClampNeg), .int q7.2, .int (kb_g σ 10), .long (kb_b σ 0 (kb_g σ 9).toNatClampNeg)]) (rest := []) (b := (a 5)) C (ct_X3_addClose l V A (kb_a σ 6 (kb_g σ 9).toNatClampNeg) q7.2 (kb_g σ 10) (kb_b σ 0 (kb_g σ 9).toNatClampNeg) a q7.1 sh ex hq8) wd_X3_addClose wk_X4_182 wi_X3_addClose ws_X3_addClose wz_X3 rfl rfl hd_X3_addClose ⟨by decide, by decide⟩ 5 rfl rfl rfl rfl (Nat.le_of_ble_eq_true rfl) (by decide) dX4_closeBracket_104 ?_
    refine kj_aload_n (pc := 107) C 0 dX4_closeBracket_107 rfl rfl ?_
    refine kj_dup (pc := 108) C dX4_closeBracket_108 rfl ?_
    refine kg_X4_depth (pc := 109) (v := (kb_g q8 9)) C wf_X4_30 dX4_closeBracket_109 rfl ?_
    refine kj_iconst (pc := 112) (v := (1 : Int32)) C dX4_closeBracket_112 (by decide) ?_
    refine kj_isub (pc := 113) C dX4_closeBracket_113 ?_
    refine kp_X4_depth (pc := 114) C wf_X4_30 dX4_closeBracket_114 ?_
    refine kj_aload_n (pc := 117) C 0 dX4_closeBracket_117 rfl rfl ?_
    refine kg_X4_takes (pc := 118) C wf_X4_13 dX4_closeBracket_118 ?_
    refine kj_aload_n (pc := 121) C 0 dX4_closeBracket_121 rfl rfl ?_
    refine kg_X4_depth (pc := 122) (v := ((kb_g q8 9) - (1 : Int32))) C wf_X4_30 dX4_closeBracket_122 rfl ?_
    refine kj_dup2 (pc := 125) C dX4_closeBracket_125 rfl rfl ?_
    obtain ⟨g9, hf⟩ := kb_gd hf
    refine ka_X4_takes (pc := 126) (v := (kb_b q8 0 ((kb_g q8 9) - (1 : Int32)).toNatClampNeg)) C g9 dX4_closeBracket_126 rfl ?_
    refine kj_iload (pc := 127) C 4 dX4_closeBracket_127 rfl ?_
    refine kj_i2l (pc := 129) C dX4_closeBracket_129 ?_
    refine kj_lload_n (pc := 130) C 3 dX4_closeBracket_130 rfl rfl ?_
    refine kj_lmul (pc := 131) C dX4_closeBracket_131 ?_
    refine kj_ladd (pc := 132) C dX4_closeBracket_132 ?_
    obtain ⟨g10, hf⟩ := kb_gd hf
    refine ks_X4_takes (pc := 133) C g10 dX4_closeBracket_133 ?_
    cases hf
    exact kj_vret (pc := 134) C dX4_closeBracket_134
  · have hf := kb_ift hf c5
    refine kj_aload_n (pc := 51) C 0 dX4_closeBracket_51 rfl rfl ?_
    obtain ⟨q6, hq6, hf⟩ := kb_bd hf
    refine kj_callV0 (pc := 52) (as := []) (rest := []) (b := (a 3)) C (ct_X4_readToLast l V A  a q3 sh ex hq6) wd_X4_readToLast wk_X4_179 wi_X4_readToLast ws_X4_readToLast wz_X4 rfl rfl hd_X4_readToLast ⟨by decide, by decide⟩ 3 rfl rfl rfl rfl (Nat.le_of_ble_eq_true rfl) (by decide) dX4_closeBracket_52 ?_
    refine kj_istore (pc := 55) C [1, 2, 3, 4, 0] (L2 := [(0, .ref (a 3)), (1, .int (kb_g σ 10)), (2, .int (kb_a σ 6 (kb_g σ 9).toNatClampNeg)), (3, .long (kb_b σ 0 (kb_g σ 9).toNatClampNeg)), (5, .int q6.2)]) dX4_closeBracket_55 (by decide) rfl ?_
    refine kj_aload_n (pc := 57) C 0 dX4_closeBracket_57 rfl rfl ?_
    refine kg_X4_plan (pc := 58) C wf_X4_21 dX4_closeBracket_58 ?_
    refine kj_iload_n (pc := 61) C 2 dX4_closeBracket_61 rfl rfl ?_
    refine kj_iload (pc := 62) C 4 dX4_closeBracket_62 rfl ?_
    refine kj_iload_n (pc := 64) C 1 dX4_closeBracket_64 rfl rfl ?_
    refine kj_lload_n (pc := 65) C 3 dX4_closeBracket_65 rfl rfl ?_
    obtain ⟨q7, hq7, hf⟩ := kb_bd hf
    refine kj_callV0 (pc := 66) (as := [.int (kb_a σ 6 (kb_g σ 9).toNatClampNeg), .int q6.2, .int (kb_g σ 10), .long (kb_b σ 0 (kb_g σ 9).toNatClampNeg)]) (rest := []) (b := (a 5)) C (ct_X3_addClose l V A (kb_a σ 6 (kb_g σ 9).toNatClampNeg) q6.2 (kb_g σ 10) (kb_b σ 0 (kb_g σ 9).toNatClampNeg) a q6.1 sh ex hq7) wd_X3_addClose wk_X4_182 wi_X3_addClose ws_X3_addClose wz_X3 rfl rfl hd_X3_addClose ⟨by decide, by decide⟩ 5 rfl rfl rfl rfl (Nat.le_of_ble_eq_true rfl) (by decide) dX4_closeBracket_66 ?_
    refine kj_aload_n (pc := 69) C 0 dX4_closeBracket_69 rfl rfl ?_
    refine kj_dup (pc := 70) C dX4_closeBracket_70 rfl ?_
    refine kg_X4_depth (pc := 71) (v := (kb_g q7 9)) C wf_X4_30 dX4_closeBracket_71 rfl ?_
    refine kj_iconst (pc := 74) (v := (1 : Int32)) C dX4_closeBracket_74 (by decide) ?_
    refine kj_isub (pc := 75) C dX4_closeBracket_75 ?_
    refine kp_X4_depth (pc := 76) C wf_X4_30 dX4_closeBracket_76 ?_
    refine kj_goto (pc := 79) 134 C dX4_closeBracket_79 (by decide) ?_
    cases hf
    exact kj_vret (pc := 134) C dX4_closeBracket_134
def fp_X4_readSign_73   (σ : kb_S) : Option (kb_S) :=
  (fn_X4_fail (1 : Int32) σ).bind fun q1 =>
  some q1
theorem fp_X4_readSign_73_e   (σ : kb_S) : fp_X4_readSign_73  σ =
  (fn_X4_fail (1 : Int32) σ).bind fun q1 =>
  some q1 := rfl
def fp_X4_readSign_50   (σ : kb_S) : Option (kb_S) :=
  (fn_X4_next  σ).bind fun q1 =>
  if q1 = (-1 : Int32) then
    if (kb_g σ 9) = 0 then
      some (kb_p σ 13 (1 : Int32))
    else
      fp_X4_readSign_73   σ
  else
    fp_X4_readSign_73   σ
theorem fp_X4_readSign_50_e   (σ : kb_S) : fp_X4_readSign_50  σ =
  (fn_X4_next  σ).bind fun q1 =>
  if q1 = (-1 : Int32) then
    if (kb_g σ 9) = 0 then
      some (kb_p σ 13 (1 : Int32))
    else
      fp_X4_readSign_73   σ
  else
    fp_X4_readSign_73   σ := rfl
def fn_X4_readSign   (σ : kb_S) : Option (kb_S) :=
  (fn_X4_next  σ).bind fun q1 =>
  if q1 = (44 : Int32) then
    some (kb_p (kb_p σ 10 ((kb_g σ 10) + (1 : Int32))) 12 (1 : Int32))
  else
    (fn_X4_next  σ).bind fun q3 =>
    if q3 = (41 : Int32) then
      if (kb_g σ 9) ≤ 0 then
        fp_X4_readSign_50   σ
      else
        (fn_X4_closeBracket  σ).bind fun q6 =>
        some q6
    else
      fp_X4_readSign_50   σ
theorem fe_X4_readSign   (σ : kb_S) : fn_X4_readSign   σ =
  (fn_X4_next  σ).bind fun q1 =>
  if q1 = (44 : Int32) then
    some (kb_p (kb_p σ 10 ((kb_g σ 10) + (1 : Int32))) 12 (1 : Int32))
  else
    (fn_X4_next  σ).bind fun q3 =>
    if q3 = (41 : Int32) then
      if (kb_g σ 9) ≤ 0 then
        fp_X4_readSign_50   σ
      else
        (fn_X4_closeBracket  σ).bind fun q6 =>
        some q6
    else
      fp_X4_readSign_50   σ := rfl
theorem hd_X4_readSign : yX4_readSign.cls = RX4 ∧ yX4_readSign.cls ≠ "java/lang/invoke/MethodHandle" ∧ yX4_readSign.cls ≠ "java/lang/invoke/VarHandle" ∧ (parseMethodDescriptor yX4_readSign.desc).map (fun d => d.parameters.length) = some 0 := by decide +kernel
set_option maxRecDepth 100000 in
set_option maxHeartbeats 4000000 in
theorem ct_X4_readSign (l : Launch) (V : kb_V) (A : Nat → Prop)   (a : Nat → Nat) (σ : kb_S) (sh : Value) (ex : va_W) {σ9 : kb_S} (hf : fn_X4_readSign   σ = some σ9) : kb_T l yX4_readSign cX4_readSign 1 none ({ frames := 7, cells := 0, slots := 0, locals := 152 } : Room) V A [.ref (a 3)] (kb_W V a σ sh ex) none (kb_W V a σ9 sh ex) 0 0 := by
  refine kb_start (cc := cX4_readSign) (nL := 1) (ret := none) (own := RX4) (by decide) rfl (Nat.le_of_ble_eq_true rfl) ?_
  intro p e s m args below meth c C
  have hp73 : ∀ (σ : kb_S), fp_X4_readSign_73   σ = some σ9 → kb_J p l e ({ frames := 7, cells := 0, slots := 0, locals := 152 } : Room) s m args below meth c 1 V A 0 0 (MQ below (kb_post V A none (kb_W V a σ9 sh ex)) args s 0 0 A) 73 [(0, .ref (a 3))] [] (kb_W V a σ sh ex) := by
    intro σ hf
    rw [fp_X4_readSign_73_e] at hf
    refine kj_aload_n (pc := 73) C 0 dX4_readSign_73 rfl rfl ?_
    refine kj_iconst (pc := 74) (v := (1 : Int32)) C dX4_readSign_74 (by decide) ?_
    obtain ⟨q1, hq1, hf⟩ := kb_bd hf
    refine kj_callV0 (pc := 75) (as := [.int (1 : Int32)]) (rest := []) (b := (a 3)) C (ct_X4_fail l V A (1 : Int32) a σ sh ex hq1) wd_X4_fail wk_X4_108 wi_X4_fail ws_X4_fail wz_X4 rfl rfl hd_X4_fail ⟨by decide, by decide⟩ 3 rfl rfl rfl rfl (Nat.le_of_ble_eq_true rfl) (by decide) dX4_readSign_75 ?_
    cases hf
    exact kj_vret (pc := 78) C dX4_readSign_78
  have hp50 : ∀ (σ : kb_S), fp_X4_readSign_50   σ = some σ9 → kb_J p l e ({ frames := 7, cells := 0, slots := 0, locals := 152 } : Room) s m args below meth c 1 V A 0 0 (MQ below (kb_post V A none (kb_W V a σ9 sh ex)) args s 0 0 A) 50 [(0, .ref (a 3))] [] (kb_W V a σ sh ex) := by
    intro σ hf
    rw [fp_X4_readSign_50_e] at hf
    refine kj_aload_n (pc := 50) C 0 dX4_readSign_50 rfl rfl ?_
    obtain ⟨q1, hq1, hf⟩ := kb_bd hf
    refine kj_callV0 (pc := 51) (as := []) (rest := []) (b := (a 3)) C (ct_X4_next l V A  a σ sh ex hq1) wd_X4_next wk_X4_76 wi_X4_next ws_X4_next wz_X4 rfl rfl hd_X4_next ⟨by decide, by decide⟩ 3 rfl rfl rfl rfl (Nat.le_of_ble_eq_true rfl) (by decide) dX4_readSign_51 ?_
    refine kj_iconst (pc := 54) (v := (-1 : Int32)) C dX4_readSign_54 (by decide) ?_
    refine kj_icmp_ne (pc := 55) 73 C dX4_readSign_55 (by decide) (fun c2 => ?_) (fun c2 => ?_)
    · have hf := kb_ife hf c2
      exact hp73 σ hf
    · have hf := kb_ift hf c2
      refine kj_aload_n (pc := 58) C 0 dX4_readSign_58 rfl rfl ?_
      refine kg_X4_depth (pc := 59) (v := (kb_g σ 9)) C wf_X4_30 dX4_readSign_59 rfl ?_
      refine kj_if_ne (pc := 62) 73 C dX4_readSign_62 (by decide) (fun c3 => ?_) (fun c3 => ?_)
      · have hf := kb_ife hf c3
        exact hp73 σ hf
      · have hf := kb_ift hf c3
        refine kj_aload_n (pc := 65) C 0 dX4_readSign_65 rfl rfl ?_
        refine kj_iconst (pc := 66) (v := (1 : Int32)) C dX4_readSign_66 (by decide) ?_
        refine kp_X4_ended (pc := 67) C wf_X4_46 dX4_readSign_67 (Or.inr rfl) ?_
        refine kj_goto (pc := 70) 78 C dX4_readSign_70 (by decide) ?_
        cases hf
        exact kj_vret (pc := 78) C dX4_readSign_78
  refine kj_sub [0] (L2 := [(0, .ref (a 3))]) rfl ?_
  rw [fe_X4_readSign] at hf
  refine kj_aload_n (pc := 0) C 0 dX4_readSign_0 rfl rfl ?_
  obtain ⟨q1, hq1, hf⟩ := kb_bd hf
  refine kj_callV0 (pc := 1) (as := []) (rest := []) (b := (a 3)) C (ct_X4_next l V A  a σ sh ex hq1) wd_X4_next wk_X4_76 wi_X4_next ws_X4_next wz_X4 rfl rfl hd_X4_next ⟨by decide, by decide⟩ 3 rfl rfl rfl rfl (Nat.le_of_ble_eq_true rfl) (by decide) dX4_readSign_1 ?_
  refine kj_bipush (pc := 4) (v := (44 : Int32)) C dX4_readSign_4 (by decide) ?_
  refine kj_icmp_ne (pc := 6) 27 C dX4_readSign_6 (by decide) (fun c2 => ?_) (fun c2 => ?_)
  · have hf := kb_ife hf c2
    refine kj_aload_n (pc := 27) C 0 dX4_readSign_27 rfl rfl ?_
    obtain ⟨q3, hq3, hf⟩ := kb_bd hf
    refine kj_callV0 (pc := 28) (as := []) (rest := []) (b := (a 3)) C (ct_X4_next l V A  a σ sh ex hq3) wd_X4_next wk_X4_76 wi_X4_next ws_X4_next wz_X4 rfl rfl hd_X4_next ⟨by decide, by decide⟩ 3 rfl rfl rfl rfl (Nat.le_of_ble_eq_true rfl) (by decide) dX4_readSign_28 ?_
    refine kj_bipush (pc := 31) (v := (41 : Int32)) C dX4_readSign_31 (by decide) ?_
    refine kj_icmp_ne (pc := 33) 50 C dX4_readSign_33 (by decide) (fun c4 => ?_) (fun c4 => ?_)
    · have hf := kb_ife hf c4
      exact hp50 σ hf
    · have hf := kb_ift hf c4
      refine kj_aload_n (pc := 36) C 0 dX4_readSign_36 rfl rfl ?_
      refine kg_X4_depth (pc := 37) (v := (kb_g σ 9)) C wf_X4_30 dX4_readSign_37 rfl ?_
      refine kj_if_le (pc := 40) 50 C dX4_readSign_40 (by decide) (fun c5 => ?_) (fun c5 => ?_)
      · have hf := kb_ift hf c5
        exact hp50 σ hf
      · have hf := kb_ife hf c5
        refine kj_aload_n (pc := 43) C 0 dX4_readSign_43 rfl rfl ?_
        obtain ⟨q6, hq6, hf⟩ := kb_bd hf
        refine kj_callV0 (pc := 44) (as := []) (rest := []) (b := (a 3)) C (ct_X4_closeBracket l V A  a σ sh ex hq6) wd_X4_closeBracket wk_X4_173 wi_X4_closeBracket ws_X4_closeBracket wz_X4 rfl rfl hd_X4_closeBracket ⟨by decide, by decide⟩ 3 rfl rfl rfl rfl (Nat.le_of_ble_eq_true rfl) (by decide) dX4_readSign_44 ?_
        refine kj_goto (pc := 47) 78 C dX4_readSign_47 (by decide) ?_
        cases hf
        exact kj_vret (pc := 78) C dX4_readSign_78
  · have hf := kb_ift hf c2
    refine kj_aload_n (pc := 9) C 0 dX4_readSign_9 rfl rfl ?_
    refine kj_dup (pc := 10) C dX4_readSign_10 rfl ?_
    refine kg_X4_at (pc := 11) (v := (kb_g σ 10)) C wf_X4_34 dX4_readSign_11 rfl ?_
    refine kj_iconst (pc := 14) (v := (1 : Int32)) C dX4_readSign_14 (by decide) ?_
    refine kj_iadd (pc := 15) C dX4_readSign_15 ?_
    refine kp_X4_at (pc := 16) C wf_X4_34 dX4_readSign_16 ?_
    refine kj_aload_n (pc := 19) C 0 dX4_readSign_19 rfl rfl ?_
    refine kj_iconst (pc := 20) (v := (1 : Int32)) C dX4_readSign_20 (by decide) ?_
    refine kp_X4_itemIsDue (pc := 21) C wf_X4_42 dX4_readSign_21 (Or.inr rfl) ?_
    refine kj_goto (pc := 24) 78 C dX4_readSign_24 (by decide) ?_
    cases hf
    exact kj_vret (pc := 78) C dX4_readSign_78
def fp_X4_readTape_88  (kc41 : Int32 → kb_S → Option (kb_S × Int32)) (x1 : Int32) (σ : kb_S) : Option (kb_S × Int32) :=
  kc41 (x1 + (1 : Int32)) σ
theorem fp_X4_readTape_88_e  (kc41 : Int32 → kb_S → Option (kb_S × Int32)) (x1 : Int32) (σ : kb_S) : fp_X4_readTape_88 kc41 x1 σ =
  kc41 (x1 + (1 : Int32)) σ := rfl
def fp_X4_readTape_41   : Nat → Int32 → kb_S → Option (kb_S × Int32)
  | 0 => fun _ _ => none
  | nn + 1 => fun x1 σ => 
  if (fn_X7_length  σ) < x1 then
    some (σ, (kb_g σ 11))
  else
    if (kb_g σ 13) = 0 then
      if (fn_X4_isRight  σ) = 0 then
        some (σ, (kb_g σ 11))
      else
        (fn_X4_skipBlanks  σ).bind fun q4 =>
        if (kb_g q4 12) = 0 then
          (fn_X4_readSign  q4).bind fun q6 =>
          fp_X4_readTape_88  (fp_X4_readTape_41  nn) x1 q6
        else
          (fn_X4_readItem  q4).bind fun q6 =>
          fp_X4_readTape_88  (fp_X4_readTape_41  nn) x1 q6
    else
      some (σ, (kb_g σ 11))
theorem fp_X4_readTape_41_s   (nn : Nat) (x1 : Int32) (σ : kb_S) : fp_X4_readTape_41  (nn + 1) x1 σ =
  if (fn_X7_length  σ) < x1 then
    some (σ, (kb_g σ 11))
  else
    if (kb_g σ 13) = 0 then
      if (fn_X4_isRight  σ) = 0 then
        some (σ, (kb_g σ 11))
      else
        (fn_X4_skipBlanks  σ).bind fun q4 =>
        if (kb_g q4 12) = 0 then
          (fn_X4_readSign  q4).bind fun q6 =>
          fp_X4_readTape_88  (fp_X4_readTape_41  nn) x1 q6
        else
          (fn_X4_readItem  q4).bind fun q6 =>
          fp_X4_readTape_88  (fp_X4_readTape_41  nn) x1 q6
    else
      some (σ, (kb_g σ 11)) := rfl
def fn_X4_readTape   (σ : kb_S) : Option (kb_S × Int32) :=
  (fn_X3_clear  σ).bind fun q1 =>
  if kb_in (0 : Int32) 5 = true then
    fp_X4_readTape_41   kb_FU (0 : Int32) (kb_p (kb_p (kb_p (kb_p (kb_bp (kb_p q1 9 (0 : Int32)) 0 (0 : Int32).toNatClampNeg (0 : Int64)) 10 (0 : Int32)) 11 (0 : Int32)) 12 (1 : Int32)) 13 (0 : Int32))
  else none
theorem fe_X4_readTape   (σ : kb_S) : fn_X4_readTape   σ =
  (fn_X3_clear  σ).bind fun q1 =>
  if kb_in (0 : Int32) 5 = true then
    fp_X4_readTape_41   kb_FU (0 : Int32) (kb_p (kb_p (kb_p (kb_p (kb_bp (kb_p q1 9 (0 : Int32)) 0 (0 : Int32).toNatClampNeg (0 : Int64)) 10 (0 : Int32)) 11 (0 : Int32)) 12 (1 : Int32)) 13 (0 : Int32))
  else none := rfl
theorem hd_X4_readTape : yX4_readTape.cls = RX4 ∧ yX4_readTape.cls ≠ "java/lang/invoke/MethodHandle" ∧ yX4_readTape.cls ≠ "java/lang/invoke/VarHandle" ∧ (parseMethodDescriptor yX4_readTape.desc).map (fun d => d.parameters.length) = some 0 := by decide +kernel
set_option maxRecDepth 100000 in
set_option maxHeartbeats 4000000 in
theorem ct_X4_readTape (l : Launch) (V : kb_V) (A : Nat → Prop)   (a : Nat → Nat) (σ : kb_S) (sh : Value) (ex : va_W) {σ9 : kb_S} {r : Int32} (hf : fn_X4_readTape   σ = some (σ9, r)) : kb_T l yX4_readTape cX4_readTape 2 (some .int) ({ frames := 8, cells := 0, slots := 0, locals := 175 } : Room) V A [.ref (a 3)] (kb_W V a σ sh ex) (some (.int r)) (kb_W V a σ9 sh ex) 0 0 := by
  refine kb_start (cc := cX4_readTape) (nL := 2) (ret := (some .int)) (own := RX4) (by decide) rfl (Nat.le_of_ble_eq_true rfl) ?_
  intro p e s m args below meth c C
  have hp41 : ∀ (nn : Nat) (x1 : Int32) (σ : kb_S), fp_X4_readTape_41   nn x1 σ = some (σ9, r) → kb_J p l e ({ frames := 8, cells := 0, slots := 0, locals := 175 } : Room) s m args below meth c 2 V A 0 0 (MQ below (kb_post V A (some (.int r)) (kb_W V a σ9 sh ex)) args s 0 0 A) 41 [(0, .ref (a 3)), (1, .int x1)] [] (kb_W V a σ sh ex) := by
    intro nn41
    induction nn41 with
    | zero => intro x1 σ hf; exact kb_no hf
    | succ nn41 ih41 =>
      have hp88 : ∀ (x1 : Int32) (σ : kb_S), fp_X4_readTape_88  (fp_X4_readTape_41   nn41) x1 σ = some (σ9, r) → kb_J p l e ({ frames := 8, cells := 0, slots := 0, locals := 175 } : Room) s m args below meth c 2 V A 0 0 (MQ below (kb_post V A (some (.int r)) (kb_W V a σ9 sh ex)) args s 0 0 A) 88 [(0, .ref (a 3)), (1, .int x1)] [] (kb_W V a σ sh ex) := by
        intro x1 σ hf
        rw [fp_X4_readTape_88_e] at hf
        refine kj_iinc (pc := 88) C 1 [1, 0] (L2 := [(0, .ref (a 3)), (1, .int (x1 + (1 : Int32)))]) dX4_readTape_88 rfl rfl (by decide) rfl ?_
        refine kj_goto (pc := 91) 41 C dX4_readTape_91 (by decide) ?_
        exact ih41 (x1 + (1 : Int32)) σ hf
      intro x1 σ hf
      rw [fp_X4_readTape_41_s] at hf
      refine kj_iload_n (pc := 41) C 1 dX4_readTape_41 rfl rfl ?_
      refine kj_aload_n (pc := 42) C 0 dX4_readTape_42 rfl rfl ?_
      refine kg_X4_tape (pc := 43) C wf_X4_17 dX4_readTape_43 ?_
      refine kj_callV0 (pc := 46) (as := []) (rest := [.int x1]) (b := (a 1)) C (ct_X7_length l V A  a σ sh ex rfl) wd_X7_length wk_X4_49 wi_X7_length ws_X7_length wz_X7 rfl rfl hd_X7_length ⟨by decide, by decide⟩ 1 rfl rfl rfl rfl (Nat.le_of_ble_eq_true rfl) (by decide) dX4_readTape_46 ?_
      refine kj_icmp_gt (pc := 49) 94 C dX4_readTape_49 (by decide) (fun c1 => ?_) (fun c1 => ?_)
      · have hf := kb_ift hf c1
        refine kj_aload_n (pc := 94) C 0 dX4_readTape_94 rfl rfl ?_
        refine kg_X4_fault (pc := 95) (v := (kb_g σ 11)) C wf_X4_39 dX4_readTape_95 rfl ?_
        cases hf
        exact kj_iret (pc := 98) C dX4_readTape_98
      · have hf := kb_ife hf c1
        refine kj_aload_n (pc := 52) C 0 dX4_readTape_52 rfl rfl ?_
        refine kg_X4_ended (pc := 53) (v := (kb_g σ 13)) C wf_X4_46 dX4_readTape_53 rfl ?_
        refine kj_if_ne (pc := 56) 94 C dX4_readTape_56 (by decide) (fun c2 => ?_) (fun c2 => ?_)
        · have hf := kb_ife hf c2
          refine kj_aload_n (pc := 94) C 0 dX4_readTape_94 rfl rfl ?_
          refine kg_X4_fault (pc := 95) (v := (kb_g σ 11)) C wf_X4_39 dX4_readTape_95 rfl ?_
          cases hf
          exact kj_iret (pc := 98) C dX4_readTape_98
        · have hf := kb_ift hf c2
          refine kj_aload_n (pc := 59) C 0 dX4_readTape_59 rfl rfl ?_
          refine kj_callV0 (pc := 60) (as := []) (rest := []) (b := (a 3)) C (ct_X4_isRight l V A  a σ sh ex rfl) wd_X4_isRight wk_X4_55 wi_X4_isRight ws_X4_isRight wz_X4 rfl rfl hd_X4_isRight ⟨by decide, by decide⟩ 3 rfl rfl rfl rfl (Nat.le_of_ble_eq_true rfl) (by decide) dX4_readTape_60 ?_
          refine kj_if_eq (pc := 63) 94 C dX4_readTape_63 (by decide) (fun c3 => ?_) (fun c3 => ?_)
          · have hf := kb_ift hf c3
            refine kj_aload_n (pc := 94) C 0 dX4_readTape_94 rfl rfl ?_
            refine kg_X4_fault (pc := 95) (v := (kb_g σ 11)) C wf_X4_39 dX4_readTape_95 rfl ?_
            cases hf
            exact kj_iret (pc := 98) C dX4_readTape_98
          · have hf := kb_ife hf c3
            refine kj_aload_n (pc := 66) C 0 dX4_readTape_66 rfl rfl ?_
            obtain ⟨q4, hq4, hf⟩ := kb_bd hf
            refine kj_callV0 (pc := 67) (as := []) (rest := []) (b := (a 3)) C (ct_X4_skipBlanks l V A  a σ sh ex hq4) wd_X4_skipBlanks wk_X4_59 wi_X4_skipBlanks ws_X4_skipBlanks wz_X4 rfl rfl hd_X4_skipBlanks ⟨by decide, by decide⟩ 3 rfl rfl rfl rfl (Nat.le_of_ble_eq_true rfl) (by decide) dX4_readTape_67 ?_
            refine kj_aload_n (pc := 70) C 0 dX4_readTape_70 rfl rfl ?_
            refine kg_X4_itemIsDue (pc := 71) (v := (kb_g q4 12)) C wf_X4_42 dX4_readTape_71 rfl ?_
            refine kj_if_eq (pc := 74) 84 C dX4_readTape_74 (by decide) (fun c5 => ?_) (fun c5 => ?_)
            · have hf := kb_ift hf c5
              refine kj_aload_n (pc := 84) C 0 dX4_readTape_84 rfl rfl ?_
              obtain ⟨q6, hq6, hf⟩ := kb_bd hf
              refine kj_callV0 (pc := 85) (as := []) (rest := []) (b := (a 3)) C (ct_X4_readSign l V A  a q4 sh ex hq6) wd_X4_readSign wk_X4_65 wi_X4_readSign ws_X4_readSign wz_X4 rfl rfl hd_X4_readSign ⟨by decide, by decide⟩ 3 rfl rfl rfl rfl (Nat.le_of_ble_eq_true rfl) (by decide) dX4_readTape_85 ?_
              exact hp88 x1 q6 hf
            · have hf := kb_ife hf c5
              refine kj_aload_n (pc := 77) C 0 dX4_readTape_77 rfl rfl ?_
              obtain ⟨q6, hq6, hf⟩ := kb_bd hf
              refine kj_callV0 (pc := 78) (as := []) (rest := []) (b := (a 3)) C (ct_X4_readItem l V A  a q4 sh ex hq6) wd_X4_readItem wk_X4_62 wi_X4_readItem ws_X4_readItem wz_X4 rfl rfl hd_X4_readItem ⟨by decide, by decide⟩ 3 rfl rfl rfl rfl (Nat.le_of_ble_eq_true rfl) (by decide) dX4_readTape_78 ?_
              refine kj_goto (pc := 81) 88 C dX4_readTape_81 (by decide) ?_
              exact hp88 x1 q6 hf
  refine kj_sub [0] (L2 := [(0, .ref (a 3))]) rfl ?_
  rw [fe_X4_readTape] at hf
  refine kj_aload_n (pc := 0) C 0 dX4_readTape_0 rfl rfl ?_
  refine kg_X4_plan (pc := 1) C wf_X4_21 dX4_readTape_1 ?_
  obtain ⟨q1, hq1, hf⟩ := kb_bd hf
  refine kj_callV0 (pc := 4) (as := []) (rest := []) (b := (a 5)) C (ct_X3_clear l V A  a σ sh ex hq1) wd_X3_clear wk_X4_25 wi_X3_clear ws_X3_clear wz_X3 rfl rfl hd_X3_clear ⟨by decide, by decide⟩ 5 rfl rfl rfl rfl (Nat.le_of_ble_eq_true rfl) (by decide) dX4_readTape_4 ?_
  refine kj_aload_n (pc := 7) C 0 dX4_readTape_7 rfl rfl ?_
  refine kj_iconst (pc := 8) (v := (0 : Int32)) C dX4_readTape_8 (by decide) ?_
  refine kp_X4_depth (pc := 9) C wf_X4_30 dX4_readTape_9 ?_
  refine kj_aload_n (pc := 12) C 0 dX4_readTape_12 rfl rfl ?_
  refine kg_X4_takes (pc := 13) C wf_X4_13 dX4_readTape_13 ?_
  refine kj_iconst (pc := 16) (v := (0 : Int32)) C dX4_readTape_16 (by decide) ?_
  refine kj_lconst (pc := 17) (v := (0 : Int64)) C dX4_readTape_17 (by decide) ?_
  obtain ⟨g2, hf⟩ := kb_gd hf
  refine ks_X4_takes (pc := 18) C g2 dX4_readTape_18 ?_
  refine kj_aload_n (pc := 19) C 0 dX4_readTape_19 rfl rfl ?_
  refine kj_iconst (pc := 20) (v := (0 : Int32)) C dX4_readTape_20 (by decide) ?_
  refine kp_X4_at (pc := 21) C wf_X4_34 dX4_readTape_21 ?_
  refine kj_aload_n (pc := 24) C 0 dX4_readTape_24 rfl rfl ?_
  refine kj_iconst (pc := 25) (v := (0 : Int32)) C dX4_readTape_25 (by decide) ?_
  refine kp_X4_fault (pc := 26) C wf_X4_39 dX4_readTape_26 ?_
  refine kj_aload_n (pc := 29) C 0 dX4_readTape_29 rfl rfl ?_
  refine kj_iconst (pc := 30) (v := (1 : Int32)) C dX4_readTape_30 (by decide) ?_
  refine kp_X4_itemIsDue (pc := 31) C wf_X4_42 dX4_readTape_31 (Or.inr rfl) ?_
  refine kj_aload_n (pc := 34) C 0 dX4_readTape_34 rfl rfl ?_
  refine kj_iconst (pc := 35) (v := (0 : Int32)) C dX4_readTape_35 (by decide) ?_
  refine kp_X4_ended (pc := 36) C wf_X4_46 dX4_readTape_36 (Or.inl rfl) ?_
  refine kj_iconst (pc := 39) (v := (0 : Int32)) C dX4_readTape_39 (by decide) ?_
  refine kj_istore_n (pc := 40) C [1, 0] (L2 := [(0, .ref (a 3)), (1, .int (0 : Int32))]) dX4_readTape_40 rfl (by decide) rfl ?_
  exact hp41 kb_FU (0 : Int32) (kb_p (kb_p (kb_p (kb_p (kb_bp (kb_p q1 9 (0 : Int32)) 0 (0 : Int32).toNatClampNeg (0 : Int64)) 10 (0 : Int32)) 11 (0 : Int32)) 12 (1 : Int32)) 13 (0 : Int32)) hf
