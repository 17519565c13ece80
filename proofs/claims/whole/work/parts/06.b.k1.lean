def fp_X0_fillNeedle_60   (y0 : Int32) (σ : kb_S) : Option (kb_S) :=
  some (kb_p σ 5 y0)
theorem fp_X0_fillNeedle_60_e   (y0 : Int32) (σ : kb_S) : fp_X0_fillNeedle_60  y0 σ =
  some (kb_p σ 5 y0) := rfl
def fp_X0_fillNeedle_44   (y0 : Int32) (σ : kb_S) : Option (kb_S) :=
  if (kb_g σ 1) = 0 then
    fp_X0_fillNeedle_60   (-1 : Int32) (kb_p σ 4 y0)
  else
    fp_X0_fillNeedle_60   (1 : Int32) (kb_p σ 4 y0)
theorem fp_X0_fillNeedle_44_e   (y0 : Int32) (σ : kb_S) : fp_X0_fillNeedle_44  y0 σ =
  if (kb_g σ 1) = 0 then
    fp_X0_fillNeedle_60   (-1 : Int32) (kb_p σ 4 y0)
  else
    fp_X0_fillNeedle_60   (1 : Int32) (kb_p σ 4 y0) := rfl
def fn_X0_fillNeedle   (σ : kb_S) : Option (kb_S) :=
  if kb_in (kb_g σ 2) 32 = true then
    if kb_in ((kb_g σ 2) + (1 : Int32)) 32 = true then
      if (kb_g σ 1) = 0 then
        fp_X0_fillNeedle_44   ((kb_a σ 1 ((kb_g σ 2) + (1 : Int32)).toNatClampNeg) - (1 : Int32)) (kb_p σ 3 ((kb_a σ 1 ((kb_g σ 2) + (1 : Int32)).toNatClampNeg) - (kb_a σ 1 (kb_g σ 2).toNatClampNeg)))
      else
        fp_X0_fillNeedle_44   (kb_a σ 1 (kb_g σ 2).toNatClampNeg) (kb_p σ 3 ((kb_a σ 1 ((kb_g σ 2) + (1 : Int32)).toNatClampNeg) - (kb_a σ 1 (kb_g σ 2).toNatClampNeg)))
    else none
  else none
theorem fe_X0_fillNeedle   (σ : kb_S) : fn_X0_fillNeedle   σ =
  if kb_in (kb_g σ 2) 32 = true then
    if kb_in ((kb_g σ 2) + (1 : Int32)) 32 = true then
      if (kb_g σ 1) = 0 then
        fp_X0_fillNeedle_44   ((kb_a σ 1 ((kb_g σ 2) + (1 : Int32)).toNatClampNeg) - (1 : Int32)) (kb_p σ 3 ((kb_a σ 1 ((kb_g σ 2) + (1 : Int32)).toNatClampNeg) - (kb_a σ 1 (kb_g σ 2).toNatClampNeg)))
      else
        fp_X0_fillNeedle_44   (kb_a σ 1 (kb_g σ 2).toNatClampNeg) (kb_p σ 3 ((kb_a σ 1 ((kb_g σ 2) + (1 : Int32)).toNatClampNeg) - (kb_a σ 1 (kb_g σ 2).toNatClampNeg)))
    else none
  else none := rfl
theorem hd_X0_fillNeedle : yX0_fillNeedle.cls = RX0 ∧ yX0_fillNeedle.cls ≠ "java/lang/invoke/MethodHandle" ∧ yX0_fillNeedle.cls ≠ "java/lang/invoke/VarHandle" ∧ (parseMethodDescriptor yX0_fillNeedle.desc).map (fun d => d.parameters.length) = some 0 := by decide +kernel
set_option maxRecDepth 100000 in
set_option maxHeartbeats 4000000 in
theorem ct_X0_fillNeedle (l : Launch) (V : kb_V) (A : Nat → Prop)   (a : Nat → Nat) (σ : kb_S) (sh : Value) (ex : va_W) {σ9 : kb_S} (hf : fn_X0_fillNeedle   σ = some σ9) : kb_T l yX0_fillNeedle cX0_fillNeedle 3 none ({ frames := 0, cells := 0, slots := 0, locals := 0 } : Room) V A [.ref (a 2)] (kb_W V a σ sh ex) none (kb_W V a σ9 sh ex) 0 0 := by
  refine kb_start (cc := cX0_fillNeedle) (nL := 3) (ret := none) (own := RX0) (by decide) rfl (Nat.le_of_ble_eq_true rfl) ?_
  intro p e s m args below meth c C
  have hp60 : ∀ (y0 : Int32) (σ : kb_S), fp_X0_fillNeedle_60   y0 σ = some σ9 → kb_J p l e ({ frames := 0, cells := 0, slots := 0, locals := 0 } : Room) s m args below meth c 3 V A 0 0 (MQ below (kb_post V A none (kb_W V a σ9 sh ex)) args s 0 0 A) 60 [] [.int y0, .ref (a 2)] (kb_W V a σ sh ex) := by
    intro y0 σ hf
    rw [fp_X0_fillNeedle_60_e] at hf
    refine kp_X0_needleStep (pc := 60) C wf_X0_55 dX0_fillNeedle_60 ?_
    cases hf
    exact kj_vret (pc := 63) C dX0_fillNeedle_63
  have hp44 : ∀ (y0 : Int32) (σ : kb_S), fp_X0_fillNeedle_44   y0 σ = some σ9 → kb_J p l e ({ frames := 0, cells := 0, slots := 0, locals := 0 } : Room) s m args below meth c 3 V A 0 0 (MQ below (kb_post V A none (kb_W V a σ9 sh ex)) args s 0 0 A) 44 [(0, .ref (a 2))] [.int y0, .ref (a 2)] (kb_W V a σ sh ex) := by
    intro y0 σ hf
    rw [fp_X0_fillNeedle_44_e] at hf
    refine kp_X0_needleStart (pc := 44) C wf_X0_52 dX0_fillNeedle_44 ?_
    refine kj_aload_n (pc := 47) C 0 dX0_fillNeedle_47 rfl rfl ?_
    refine kj_aload_n (pc := 48) C 0 dX0_fillNeedle_48 rfl rfl ?_
    refine kg_X0_round (pc := 49) (v := (kb_g σ 1)) C wf_X0_25 dX0_fillNeedle_49 rfl ?_
    refine kj_if_eq (pc := 52) 59 C dX0_fillNeedle_52 (by decide) (fun c1 => ?_) (fun c1 => ?_)
    · have hf := kb_ift hf c1
      refine kj_iconst (pc := 59) (v := (-1 : Int32)) C dX0_fillNeedle_59 (by decide) ?_
      refine kj_sub [] (L2 := []) rfl ?_
      exact hp60 (-1 : Int32) (kb_p σ 4 y0) hf
    · have hf := kb_ife hf c1
      refine kj_iconst (pc := 55) (v := (1 : Int32)) C dX0_fillNeedle_55 (by decide) ?_
      refine kj_goto (pc := 56) 60 C dX0_fillNeedle_56 (by decide) ?_
      refine kj_sub [] (L2 := []) rfl ?_
      exact hp60 (1 : Int32) (kb_p σ 4 y0) hf
  refine kj_sub [0] (L2 := [(0, .ref (a 2))]) rfl ?_
  rw [fe_X0_fillNeedle] at hf
  refine kj_aload_n (pc := 0) C 0 dX0_fillNeedle_0 rfl rfl ?_
  refine kg_X0_firstLoops (pc := 1) C wf_X0_9 dX0_fillNeedle_1 ?_
  refine kj_aload_n (pc := 4) C 0 dX0_fillNeedle_4 rfl rfl ?_
  refine kg_X0_rowCount (pc := 5) (v := (kb_g σ 2)) C wf_X0_29 dX0_fillNeedle_5 rfl ?_
  obtain ⟨g1, hf⟩ := kb_gd hf
  refine ka_X0_firstLoops (pc := 8) (v := (kb_a σ 1 (kb_g σ 2).toNatClampNeg)) C g1 dX0_fillNeedle_8 rfl ?_
  refine kj_istore_n (pc := 9) C [1, 0] (L2 := [(0, .ref (a 2)), (1, .int (kb_a σ 1 (kb_g σ 2).toNatClampNeg))]) dX0_fillNeedle_9 rfl (by decide) rfl ?_
  refine kj_aload_n (pc := 10) C 0 dX0_fillNeedle_10 rfl rfl ?_
  refine kg_X0_firstLoops (pc := 11) C wf_X0_9 dX0_fillNeedle_11 ?_
  refine kj_aload_n (pc := 14) C 0 dX0_fillNeedle_14 rfl rfl ?_
  refine kg_X0_rowCount (pc := 15) (v := (kb_g σ 2)) C wf_X0_29 dX0_fillNeedle_15 rfl ?_
  refine kj_iconst (pc := 18) (v := (1 : Int32)) C dX0_fillNeedle_18 (by decide) ?_
  refine kj_iadd (pc := 19) C dX0_fillNeedle_19 ?_
  obtain ⟨g2, hf⟩ := kb_gd hf
  refine ka_X0_firstLoops (pc := 20) (v := (kb_a σ 1 ((kb_g σ 2) + (1 : Int32)).toNatClampNeg)) C g2 dX0_fillNeedle_20 rfl ?_
  refine kj_istore_n (pc := 21) C [1, 2, 0] (L2 := [(0, .ref (a 2)), (1, .int (kb_a σ 1 (kb_g σ 2).toNatClampNeg)), (2, .int (kb_a σ 1 ((kb_g σ 2) + (1 : Int32)).toNatClampNeg))]) dX0_fillNeedle_21 rfl (by decide) rfl ?_
  refine kj_aload_n (pc := 22) C 0 dX0_fillNeedle_22 rfl rfl ?_
  refine kj_iload_n (pc := 23) C 2 dX0_fillNeedle_23 rfl rfl ?_
  refine kj_iload_n (pc := 24) C 1 dX0_fillNeedle_24 rfl rfl ?_
  refine kj_isub (pc := 25) C dX0_fillNeedle_25 ?_
  refine kp_X0_needleCount (pc := 26) C wf_X0_49 dX0_fillNeedle_26 ?_
  refine kj_aload_n (pc := 29) C 0 dX0_fillNeedle_29 rfl rfl ?_
  refine kj_aload_n (pc := 30) C 0 dX0_fillNeedle_30 rfl rfl ?_
  refine kg_X0_round (pc := 31) (v := (kb_g σ 1)) C wf_X0_25 dX0_fillNeedle_31 rfl ?_
  refine kj_if_eq (pc := 34) 41 C dX0_fillNeedle_34 (by decide) (fun c3 => ?_) (fun c3 => ?_)
  · have hf := kb_ift hf c3
    refine kj_iload_n (pc := 41) C 2 dX0_fillNeedle_41 rfl rfl ?_
    refine kj_iconst (pc := 42) (v := (1 : Int32)) C dX0_fillNeedle_42 (by decide) ?_
    refine kj_isub (pc := 43) C dX0_fillNeedle_43 ?_
    refine kj_sub [0] (L2 := [(0, .ref (a 2))]) rfl ?_
    exact hp44 ((kb_a σ 1 ((kb_g σ 2) + (1 : Int32)).toNatClampNeg) - (1 : Int32)) (kb_p σ 3 ((kb_a σ 1 ((kb_g σ 2) + (1 : Int32)).toNatClampNeg) - (kb_a σ 1 (kb_g σ 2).toNatClampNeg))) hf
  · have hf := kb_ife hf c3
    refine kj_iload_n (pc := 37) C 1 dX0_fillNeedle_37 rfl rfl ?_
    refine kj_goto (pc := 38) 44 C dX0_fillNeedle_38 (by decide) ?_
    refine kj_sub [0] (L2 := [(0, .ref (a 2))]) rfl ?_
    exact hp44 (kb_a σ 1 (kb_g σ 2).toNatClampNeg) (kb_p σ 3 ((kb_a σ 1 ((kb_g σ 2) + (1 : Int32)).toNatClampNeg) - (kb_a σ 1 (kb_g σ 2).toNatClampNeg))) hf
def fn_X0_needleLoop  (x1 : Int32) (σ : kb_S) : Int32 :=
  if x1 < 0 then
    (-1 : Int32)
  else
    if (kb_g σ 3) ≤ x1 then
      (-1 : Int32)
    else
      ((kb_g σ 4) + (x1 * (kb_g σ 5)))
theorem fe_X0_needleLoop  (x1 : Int32) (σ : kb_S) : fn_X0_needleLoop  x1 σ =
  if x1 < 0 then
    (-1 : Int32)
  else
    if (kb_g σ 3) ≤ x1 then
      (-1 : Int32)
    else
      ((kb_g σ 4) + (x1 * (kb_g σ 5))) := rfl
theorem hd_X0_needleLoop : yX0_needleLoop.cls = RX0 ∧ yX0_needleLoop.cls ≠ "java/lang/invoke/MethodHandle" ∧ yX0_needleLoop.cls ≠ "java/lang/invoke/VarHandle" ∧ (parseMethodDescriptor yX0_needleLoop.desc).map (fun d => d.parameters.length) = some 1 := by decide +kernel
set_option maxRecDepth 100000 in
set_option maxHeartbeats 4000000 in
theorem ct_X0_needleLoop (l : Launch) (V : kb_V) (A : Nat → Prop)  (x1 : Int32) (a : Nat → Nat) (σ : kb_S) (sh : Value) (ex : va_W) {r : Int32} (hf : fn_X0_needleLoop  x1 σ = r) : kb_T l yX0_needleLoop cX0_needleLoop 2 (some .int) ({ frames := 0, cells := 0, slots := 0, locals := 0 } : Room) V A [.ref (a 2), .int x1] (kb_W V a σ sh ex) (some (.int r)) (kb_W V a σ sh ex) 0 0 := by
  refine kb_start (cc := cX0_needleLoop) (nL := 2) (ret := (some .int)) (own := RX0) (by decide) rfl (Nat.le_of_ble_eq_true rfl) ?_
  intro p e s m args below meth c C
  refine kj_sub [0, 1] (L2 := [(0, .ref (a 2)), (1, .int x1)]) rfl ?_
  rw [fe_X0_needleLoop] at hf
  refine kj_iload_n (pc := 0) C 1 dX0_needleLoop_0 rfl rfl ?_
  refine kj_if_lt (pc := 1) 26 C dX0_needleLoop_1 (by decide) (fun c1 => ?_) (fun c1 => ?_)
  · have hf := kb_ift hf c1
    refine kj_iconst (pc := 26) (v := (-1 : Int32)) C dX0_needleLoop_26 (by decide) ?_
    subst hf
    exact kj_iret (pc := 27) C dX0_needleLoop_27
  · have hf := kb_ife hf c1
    refine kj_iload_n (pc := 4) C 1 dX0_needleLoop_4 rfl rfl ?_
    refine kj_aload_n (pc := 5) C 0 dX0_needleLoop_5 rfl rfl ?_
    refine kg_X0_needleCount (pc := 6) (v := (kb_g σ 3)) C wf_X0_49 dX0_needleLoop_6 rfl ?_
    refine kj_icmp_ge (pc := 9) 26 C dX0_needleLoop_9 (by decide) (fun c2 => ?_) (fun c2 => ?_)
    · have hf := kb_ift hf c2
      refine kj_iconst (pc := 26) (v := (-1 : Int32)) C dX0_needleLoop_26 (by decide) ?_
      subst hf
      exact kj_iret (pc := 27) C dX0_needleLoop_27
    · have hf := kb_ife hf c2
      refine kj_aload_n (pc := 12) C 0 dX0_needleLoop_12 rfl rfl ?_
      refine kg_X0_needleStart (pc := 13) (v := (kb_g σ 4)) C wf_X0_52 dX0_needleLoop_13 rfl ?_
      refine kj_iload_n (pc := 16) C 1 dX0_needleLoop_16 rfl rfl ?_
      refine kj_aload_n (pc := 17) C 0 dX0_needleLoop_17 rfl rfl ?_
      refine kg_X0_needleStep (pc := 18) (v := (kb_g σ 5)) C wf_X0_55 dX0_needleLoop_18 rfl ?_
      refine kj_imul (pc := 21) C dX0_needleLoop_21 ?_
      refine kj_iadd (pc := 22) C dX0_needleLoop_22 ?_
      refine kj_goto (pc := 23) 27 C dX0_needleLoop_23 (by decide) ?_
      subst hf
      exact kj_iret (pc := 27) C dX0_needleLoop_27
def fp_X0_makeLoop_31   (x2 : Int32) (y0 : Int32) (y1 : Int32) (σ : kb_S) : Option (kb_S) :=
  if kb_in y1 600 = true then
    if kb_in (kb_g σ 7) 600 = true then
      some (kb_p (kb_ap (kb_ap σ 5 y1.toNatClampNeg y0) 4 (kb_g σ 7).toNatClampNeg x2) 7 ((kb_g σ 7) + (1 : Int32)))
    else none
  else none
theorem fp_X0_makeLoop_31_e   (x2 : Int32) (y0 : Int32) (y1 : Int32) (σ : kb_S) : fp_X0_makeLoop_31  x2 y0 y1 σ =
  if kb_in y1 600 = true then
    if kb_in (kb_g σ 7) 600 = true then
      some (kb_p (kb_ap (kb_ap σ 5 y1.toNatClampNeg y0) 4 (kb_g σ 7).toNatClampNeg x2) 7 ((kb_g σ 7) + (1 : Int32)))
    else none
  else none := rfl
def fn_X0_makeLoop  (x1 : Int32) (x2 : Int32) (σ : kb_S) : Option (kb_S) :=
  if (600 : Int32) ≤ (kb_g σ 7) then
    some σ
  else
    if x2 ≤ 0 then
      fp_X0_makeLoop_31   x2 (-1 : Int32) (kb_g σ 7) σ
    else
      fp_X0_makeLoop_31   x2 (fn_X0_needleLoop x1 σ) (kb_g σ 7) σ
theorem fe_X0_makeLoop  (x1 : Int32) (x2 : Int32) (σ : kb_S) : fn_X0_makeLoop  x1 x2 σ =
  if (600 : Int32) ≤ (kb_g σ 7) then
    some σ
  else
    if x2 ≤ 0 then
      fp_X0_makeLoop_31   x2 (-1 : Int32) (kb_g σ 7) σ
    else
      fp_X0_makeLoop_31   x2 (fn_X0_needleLoop x1 σ) (kb_g σ 7) σ := rfl
theorem hd_X0_makeLoop : yX0_makeLoop.cls = RX0 ∧ yX0_makeLoop.cls ≠ "java/lang/invoke/MethodHandle" ∧ yX0_makeLoop.cls ≠ "java/lang/invoke/VarHandle" ∧ (parseMethodDescriptor yX0_makeLoop.desc).map (fun d => d.parameters.length) = some 2 := by decide +kernel
set_option maxRecDepth 100000 in
set_option maxHeartbeats 4000000 in
theorem ct_X0_makeLoop (l : Launch) (V : kb_V) (A : Nat → Prop)  (x1 : Int32) (x2 : Int32) (a : Nat → Nat) (σ : kb_S) (sh : Value) (ex : va_W) {σ9 : kb_S} (hf : fn_X0_makeLoop  x1 x2 σ = some σ9) : kb_T l yX0_makeLoop cX0_makeLoop 3 none ({ frames := 1, cells := 0, slots := 0, locals := 21 } : Room) V A [.ref (a 2), .int x1, .int x2] (kb_W V a σ sh ex) none (kb_W V a σ9 sh ex) 0 0 := by
  refine kb_start (cc := cX0_makeLoop) (nL := 3) (ret := none) (own := RX0) (by decide) rfl (Nat.le_of_ble_eq_true rfl) ?_
  intro p e s m args below meth c C
  have hp31 : ∀ (x2 : Int32) (y0 : Int32) (y1 : Int32) (σ : kb_S), fp_X0_makeLoop_31   x2 y0 y1 σ = some σ9 → kb_J p l e ({ frames := 1, cells := 0, slots := 0, locals := 21 } : Room) s m args below meth c 3 V A 0 0 (MQ below (kb_post V A none (kb_W V a σ9 sh ex)) args s 0 0 A) 31 [(0, .ref (a 2)), (2, .int x2)] [.int y0, .int y1, .ref (a 11)] (kb_W V a σ sh ex) := by
    intro x2 y0 y1 σ hf
    rw [fp_X0_makeLoop_31_e] at hf
    obtain ⟨g1, hf⟩ := kb_gd hf
    refine ks_X0_firstParents (pc := 31) C g1 dX0_makeLoop_31 ?_
    refine kj_aload_n (pc := 32) C 0 dX0_makeLoop_32 rfl rfl ?_
    refine kg_X0_parentCounts (pc := 33) C wf_X0_19 dX0_makeLoop_33 ?_
    refine kj_aload_n (pc := 36) C 0 dX0_makeLoop_36 rfl rfl ?_
    refine kg_X0_loopEnd (pc := 37) (v := (kb_g σ 7)) C wf_X0_33 dX0_makeLoop_37 rfl ?_
    refine kj_iload_n (pc := 40) C 1 dX0_makeLoop_40 rfl rfl ?_
    obtain ⟨g2, hf⟩ := kb_gd hf
    refine ks_X0_parentCounts (pc := 41) C g2 dX0_makeLoop_41 ?_
    refine kj_aload_n (pc := 42) C 0 dX0_makeLoop_42 rfl rfl ?_
    refine kj_dup (pc := 43) C dX0_makeLoop_43 rfl ?_
    refine kg_X0_loopEnd (pc := 44) (v := (kb_g σ 7)) C wf_X0_33 dX0_makeLoop_44 rfl ?_
    refine kj_iconst (pc := 47) (v := (1 : Int32)) C dX0_makeLoop_47 (by decide) ?_
    refine kj_iadd (pc := 48) C dX0_makeLoop_48 ?_
    refine kp_X0_loopEnd (pc := 49) C wf_X0_33 dX0_makeLoop_49 ?_
    cases hf
    exact kj_vret (pc := 52) C dX0_makeLoop_52
  refine kj_sub [0, 1, 2] (L2 := [(0, .ref (a 2)), (1, .int x1), (2, .int x2)]) rfl ?_
  rw [fe_X0_makeLoop] at hf
  refine kj_aload_n (pc := 0) C 0 dX0_makeLoop_0 rfl rfl ?_
  refine kg_X0_loopEnd (pc := 1) (v := (kb_g σ 7)) C wf_X0_33 dX0_makeLoop_1 rfl ?_
  refine kj_sipush (pc := 4) (v := (600 : Int32)) C dX0_makeLoop_4 (by decide) ?_
  refine kj_icmp_ge (pc := 7) 52 C dX0_makeLoop_7 (by decide) (fun c1 => ?_) (fun c1 => ?_)
  · have hf := kb_ift hf c1
    cases hf
    exact kj_vret (pc := 52) C dX0_makeLoop_52
  · have hf := kb_ife hf c1
    refine kj_aload_n (pc := 10) C 0 dX0_makeLoop_10 rfl rfl ?_
    refine kg_X0_firstParents (pc := 11) C wf_X0_22 dX0_makeLoop_11 ?_
    refine kj_aload_n (pc := 14) C 0 dX0_makeLoop_14 rfl rfl ?_
    refine kg_X0_loopEnd (pc := 15) (v := (kb_g σ 7)) C wf_X0_33 dX0_makeLoop_15 rfl ?_
    refine kj_iload_n (pc := 18) C 2 dX0_makeLoop_18 rfl rfl ?_
    refine kj_if_le (pc := 19) 30 C dX0_makeLoop_19 (by decide) (fun c2 => ?_) (fun c2 => ?_)
    · have hf := kb_ift hf c2
      refine kj_iconst (pc := 30) (v := (-1 : Int32)) C dX0_makeLoop_30 (by decide) ?_
      refine kj_sub [0, 2] (L2 := [(0, .ref (a 2)), (2, .int x2)]) rfl ?_
      exact hp31 x2 (-1 : Int32) (kb_g σ 7) σ hf
    · have hf := kb_ife hf c2
      refine kj_aload_n (pc := 22) C 0 dX0_makeLoop_22 rfl rfl ?_
      refine kj_iload_n (pc := 23) C 1 dX0_makeLoop_23 rfl rfl ?_
      refine kj_callV0 (pc := 24) (as := [.int x1]) (rest := [.int (kb_g σ 7), .ref (a 11)]) (b := (a 2)) C (ct_X0_needleLoop l V A x1 a σ sh ex rfl) wd_X0_needleLoop wk_X0_98 wi_X0_needleLoop ws_X0_needleLoop wz_X0 rfl rfl hd_X0_needleLoop ⟨by decide, by decide⟩ 2 rfl rfl rfl rfl (Nat.le_of_ble_eq_true rfl) (by decide) dX0_makeLoop_24 ?_
      refine kj_goto (pc := 27) 31 C dX0_makeLoop_27 (by decide) ?_
      refine kj_sub [0, 2] (L2 := [(0, .ref (a 2)), (2, .int x2)]) rfl ?_
      exact hp31 x2 (fn_X0_needleLoop x1 σ) (kb_g σ 7) σ hf
def fp_X0_castOn_38   : Nat → Int32 → Int32 → kb_S → Option (kb_S)
  | 0 => fun _ _ _ => none
  | nn + 1 => fun x1 x3 σ => 
  if x1 ≤ x3 then
    if kb_in (1 : Int32) 32 = true then
      (fn_X0_fillNeedle  (kb_ap σ 1 (1 : Int32).toNatClampNeg (kb_g σ 7))).bind fun q3 =>
      some q3
    else none
  else
    (fn_X0_makeLoop (0 : Int32) (0 : Int32) σ).bind fun q2 =>
    (fp_X0_castOn_38  nn) x1 (x3 + (1 : Int32)) q2
theorem fp_X0_castOn_38_s   (nn : Nat) (x1 : Int32) (x3 : Int32) (σ : kb_S) : fp_X0_castOn_38  (nn + 1) x1 x3 σ =
  if x1 ≤ x3 then
    if kb_in (1 : Int32) 32 = true then
      (fn_X0_fillNeedle  (kb_ap σ 1 (1 : Int32).toNatClampNeg (kb_g σ 7))).bind fun q3 =>
      some q3
    else none
  else
    (fn_X0_makeLoop (0 : Int32) (0 : Int32) σ).bind fun q2 =>
    (fp_X0_castOn_38  nn) x1 (x3 + (1 : Int32)) q2 := rfl
def fn_X0_castOn  (x1 : Int32) (x2 : Int32) (σ : kb_S) : Option (kb_S) :=
  if x2 = 0 ∨ x2 = 1 then
    if kb_in (0 : Int32) 32 = true then
      if kb_in (0 : Int32) 32 = true then
        if kb_in (1 : Int32) 32 = true then
          fp_X0_castOn_38   kb_FU x1 (0 : Int32) (kb_p (kb_ap (kb_ap (kb_ap (kb_p (kb_p σ 1 x2) 2 (0 : Int32)) 1 (0 : Int32).toNatClampNeg (0 : Int32)) 2 (0 : Int32).toNatClampNeg (0 : Int32)) 2 (1 : Int32).toNatClampNeg (0 : Int32)) 7 (0 : Int32))
        else none
      else none
    else none
  else none
theorem fe_X0_castOn  (x1 : Int32) (x2 : Int32) (σ : kb_S) : fn_X0_castOn  x1 x2 σ =
  if x2 = 0 ∨ x2 = 1 then
    if kb_in (0 : Int32) 32 = true then
      if kb_in (0 : Int32) 32 = true then
        if kb_in (1 : Int32) 32 = true then
          fp_X0_castOn_38   kb_FU x1 (0 : Int32) (kb_p (kb_ap (kb_ap (kb_ap (kb_p (kb_p σ 1 x2) 2 (0 : Int32)) 1 (0 : Int32).toNatClampNeg (0 : Int32)) 2 (0 : Int32).toNatClampNeg (0 : Int32)) 2 (1 : Int32).toNatClampNeg (0 : Int32)) 7 (0 : Int32))
        else none
      else none
    else none
  else none := rfl
theorem hd_X0_castOn : yX0_castOn.cls = RX0 ∧ yX0_castOn.cls ≠ "java/lang/invoke/MethodHandle" ∧ yX0_castOn.cls ≠ "java/lang/invoke/VarHandle" ∧ (parseMethodDescriptor yX0_castOn.desc).map (fun d => d.parameters.length) = some 2 := by decide +kernel
set_option maxRecDepth 100000 in
set_option maxHeartbeats 4000000 in
theorem ct_X0_castOn (l : Launch) (V : kb_V) (A : Nat → Prop)  (x1 : Int32) (x2 : Int32) (a : Nat → Nat) (σ : kb_S) (sh : Value) (ex : va_W) {σ9 : kb_S} (hf : fn_X0_castOn  x1 x2 σ = some σ9) : kb_T l yX0_castOn cX0_castOn 4 none ({ frames := 2, cells := 0, slots := 0, locals := 43 } : Room) V A [.ref (a 2), .int x1, .int x2] (kb_W V a σ sh ex) none (kb_W V a σ9 sh ex) 0 0 := by
  refine kb_start (cc := cX0_castOn) (nL := 4) (ret := none) (own := RX0) (by decide) rfl (Nat.le_of_ble_eq_true rfl) ?_
  intro p e s m args below meth c C
  have hp38 : ∀ (nn : Nat) (x1 : Int32) (x3 : Int32) (σ : kb_S), fp_X0_castOn_38   nn x1 x3 σ = some σ9 → kb_J p l e ({ frames := 2, cells := 0, slots := 0, locals := 43 } : Room) s m args below meth c 4 V A 0 0 (MQ below (kb_post V A none (kb_W V a σ9 sh ex)) args s 0 0 A) 38 [(0, .ref (a 2)), (1, .int x1), (3, .int x3)] [] (kb_W V a σ sh ex) := by
    intro nn38
    induction nn38 with
    | zero => intro x1 x3 σ hf; exact kb_no hf
    | succ nn38 ih38 =>
      intro x1 x3 σ hf
      rw [fp_X0_castOn_38_s] at hf
      refine kj_iload_n (pc := 38) C 2 dX0_castOn_38 rfl rfl ?_
      refine kj_iload_n (pc := 39) C 1 dX0_castOn_39 rfl rfl ?_
      refine kj_icmp_ge (pc := 40) 55 C dX0_castOn_40 (by decide) (fun c1 => ?_) (fun c1 => ?_)
      · have hf := kb_ift hf c1
        refine kj_aload_n (pc := 55) C 0 dX0_castOn_55 rfl rfl ?_
        refine kg_X0_firstLoops (pc := 56) C wf_X0_9 dX0_castOn_56 ?_
        refine kj_iconst (pc := 59) (v := (1 : Int32)) C dX0_castOn_59 (by decide) ?_
        refine kj_aload_n (pc := 60) C 0 dX0_castOn_60 rfl rfl ?_
        refine kg_X0_loopEnd (pc := 61) (v := (kb_g σ 7)) C wf_X0_33 dX0_castOn_61 rfl ?_
        obtain ⟨g2, hf⟩ := kb_gd hf
        refine ks_X0_firstLoops (pc := 64) C g2 dX0_castOn_64 ?_
        refine kj_aload_n (pc := 65) C 0 dX0_castOn_65 rfl rfl ?_
        obtain ⟨q3, hq3, hf⟩ := kb_bd hf
        refine kj_callV0 (pc := 66) (as := []) (rest := []) (b := (a 2)) C (ct_X0_fillNeedle l V A  a (kb_ap σ 1 (1 : Int32).toNatClampNeg (kb_g σ 7)) sh ex hq3) wd_X0_fillNeedle wk_X0_40 wi_X0_fillNeedle ws_X0_fillNeedle wz_X0 rfl rfl hd_X0_fillNeedle ⟨by decide, by decide⟩ 2 rfl rfl rfl rfl (Nat.le_of_ble_eq_true rfl) (by decide) dX0_castOn_66 ?_
        cases hf
        exact kj_vret (pc := 69) C dX0_castOn_69
      · have hf := kb_ife hf c1
        refine kj_aload_n (pc := 43) C 0 dX0_castOn_43 rfl rfl ?_
        refine kj_iconst (pc := 44) (v := (0 : Int32)) C dX0_castOn_44 (by decide) ?_
        refine kj_iconst (pc := 45) (v := (0 : Int32)) C dX0_castOn_45 (by decide) ?_
        obtain ⟨q2, hq2, hf⟩ := kb_bd hf
        refine kj_callV0 (pc := 46) (as := [.int (0 : Int32), .int (0 : Int32)]) (rest := []) (b := (a 2)) C (ct_X0_makeLoop l V A (0 : Int32) (0 : Int32) a σ sh ex hq2) wd_X0_makeLoop wk_X0_36 wi_X0_makeLoop ws_X0_makeLoop wz_X0 rfl rfl hd_X0_makeLoop ⟨by decide, by decide⟩ 2 rfl rfl rfl rfl (Nat.le_of_ble_eq_true rfl) (by decide) dX0_castOn_46 ?_
        refine kj_iinc (pc := 49) C 2 [1, 2, 0] (L2 := [(0, .ref (a 2)), (1, .int x1), (3, .int (x3 + (1 : Int32)))]) dX0_castOn_49 rfl rfl (by decide) rfl ?_
        refine kj_goto (pc := 52) 38 C dX0_castOn_52 (by decide) ?_
        exact ih38 x1 (x3 + (1 : Int32)) q2 hf
  refine kj_sub [0, 1, 2] (L2 := [(0, .ref (a 2)), (1, .int x1), (2, .int x2)]) rfl ?_
  rw [fe_X0_castOn] at hf
  refine kj_aload_n (pc := 0) C 0 dX0_castOn_0 rfl rfl ?_
  refine kj_iload_n (pc := 1) C 2 dX0_castOn_1 rfl rfl ?_
  obtain ⟨g1, hf⟩ := kb_gd hf
  refine kp_X0_round (pc := 2) C wf_X0_25 dX0_castOn_2 g1 ?_
  refine kj_aload_n (pc := 5) C 0 dX0_castOn_5 rfl rfl ?_
  refine kj_iconst (pc := 6) (v := (0 : Int32)) C dX0_castOn_6 (by decide) ?_
  refine kp_X0_rowCount (pc := 7) C wf_X0_29 dX0_castOn_7 ?_
  refine kj_aload_n (pc := 10) C 0 dX0_castOn_10 rfl rfl ?_
  refine kg_X0_firstLoops (pc := 11) C wf_X0_9 dX0_castOn_11 ?_
  refine kj_iconst (pc := 14) (v := (0 : Int32)) C dX0_castOn_14 (by decide) ?_
  refine kj_iconst (pc := 15) (v := (0 : Int32)) C dX0_castOn_15 (by decide) ?_
  obtain ⟨g2, hf⟩ := kb_gd hf
  refine ks_X0_firstLoops (pc := 16) C g2 dX0_castOn_16 ?_
  refine kj_aload_n (pc := 17) C 0 dX0_castOn_17 rfl rfl ?_
  refine kg_X0_firstStitches (pc := 18) C wf_X0_13 dX0_castOn_18 ?_
  refine kj_iconst (pc := 21) (v := (0 : Int32)) C dX0_castOn_21 (by decide) ?_
  refine kj_iconst (pc := 22) (v := (0 : Int32)) C dX0_castOn_22 (by decide) ?_
  obtain ⟨g3, hf⟩ := kb_gd hf
  refine ks_X0_firstStitches (pc := 23) C g3 dX0_castOn_23 ?_
  refine kj_aload_n (pc := 24) C 0 dX0_castOn_24 rfl rfl ?_
  refine kg_X0_firstStitches (pc := 25) C wf_X0_13 dX0_castOn_25 ?_
  refine kj_iconst (pc := 28) (v := (1 : Int32)) C dX0_castOn_28 (by decide) ?_
  refine kj_iconst (pc := 29) (v := (0 : Int32)) C dX0_castOn_29 (by decide) ?_
  obtain ⟨g4, hf⟩ := kb_gd hf
  refine ks_X0_firstStitches (pc := 30) C g4 dX0_castOn_30 ?_
  refine kj_aload_n (pc := 31) C 0 dX0_castOn_31 rfl rfl ?_
  refine kj_iconst (pc := 32) (v := (0 : Int32)) C dX0_castOn_32 (by decide) ?_
  refine kp_X0_loopEnd (pc := 33) C wf_X0_33 dX0_castOn_33 ?_
  refine kj_iconst (pc := 36) (v := (0 : Int32)) C dX0_castOn_36 (by decide) ?_
  refine kj_istore_n (pc := 37) C [1, 2, 3, 0] (L2 := [(0, .ref (a 2)), (1, .int x1), (2, .int x2), (3, .int (0 : Int32))]) dX0_castOn_37 rfl (by decide) rfl ?_
  refine kj_sub [0, 1, 3] (L2 := [(0, .ref (a 2)), (1, .int x1), (3, .int (0 : Int32))]) rfl ?_
  exact hp38 kb_FU x1 (0 : Int32) (kb_p (kb_ap (kb_ap (kb_ap (kb_p (kb_p σ 1 x2) 2 (0 : Int32)) 1 (0 : Int32).toNatClampNeg (0 : Int32)) 2 (0 : Int32).toNatClampNeg (0 : Int32)) 2 (1 : Int32).toNatClampNeg (0 : Int32)) 7 (0 : Int32)) hf
def fn_X0_rowCount   (σ : kb_S) : Int32 :=
  (kb_g σ 2)
theorem fe_X0_rowCount   (σ : kb_S) : fn_X0_rowCount   σ =
  (kb_g σ 2) := rfl
theorem hd_X0_rowCount : yX0_rowCount.cls = RX0 ∧ yX0_rowCount.cls ≠ "java/lang/invoke/MethodHandle" ∧ yX0_rowCount.cls ≠ "java/lang/invoke/VarHandle" ∧ (parseMethodDescriptor yX0_rowCount.desc).map (fun d => d.parameters.length) = some 0 := by decide +kernel
set_option maxRecDepth 100000 in
set_option maxHeartbeats 4000000 in
theorem ct_X0_rowCount (l : Launch) (V : kb_V) (A : Nat → Prop)   (a : Nat → Nat) (σ : kb_S) (sh : Value) (ex : va_W) {r : Int32} (hf : fn_X0_rowCount   σ = r) : kb_T l yX0_rowCount cX0_rowCount 1 (some .int) ({ frames := 0, cells := 0, slots := 0, locals := 0 } : Room) V A [.ref (a 2)] (kb_W V a σ sh ex) (some (.int r)) (kb_W V a σ sh ex) 0 0 := by
  refine kb_start (cc := cX0_rowCount) (nL := 1) (ret := (some .int)) (own := RX0) (by decide) rfl (Nat.le_of_ble_eq_true rfl) ?_
  intro p e s m args below meth c C
  refine kj_sub [0] (L2 := [(0, .ref (a 2))]) rfl ?_
  rw [fe_X0_rowCount] at hf
  refine kj_aload_n (pc := 0) C 0 dX0_rowCount_0 rfl rfl ?_
  refine kg_X0_rowCount (pc := 1) (v := (kb_g σ 2)) C wf_X0_29 dX0_rowCount_1 rfl ?_
  subst hf
  exact kj_iret (pc := 4) C dX0_rowCount_4
def fn_X0_takeBack  (x1 : Int32) (σ : kb_S) : Option (kb_S) :=
  (fn_X0_fillNeedle  (kb_p σ 2 (if ((kb_g σ 2) - x1) < (0 : Int32) then (0 : Int32) else ((kb_g σ 2) - x1)))).bind fun q1 =>
  some q1
theorem fe_X0_takeBack  (x1 : Int32) (σ : kb_S) : fn_X0_takeBack  x1 σ =
  (fn_X0_fillNeedle  (kb_p σ 2 (if ((kb_g σ 2) - x1) < (0 : Int32) then (0 : Int32) else ((kb_g σ 2) - x1)))).bind fun q1 =>
  some q1 := rfl
theorem hd_X0_takeBack : yX0_takeBack.cls = RX0 ∧ yX0_takeBack.cls ≠ "java/lang/invoke/MethodHandle" ∧ yX0_takeBack.cls ≠ "java/lang/invoke/VarHandle" ∧ (parseMethodDescriptor yX0_takeBack.desc).map (fun d => d.parameters.length) = some 1 := by decide +kernel
set_option maxRecDepth 100000 in
set_option maxHeartbeats 4000000 in
theorem ct_X0_takeBack (l : Launch) (V : kb_V) (A : Nat → Prop)  (x1 : Int32) (a : Nat → Nat) (σ : kb_S) (sh : Value) (ex : va_W) {σ9 : kb_S} (hf : fn_X0_takeBack  x1 σ = some σ9) : kb_T l yX0_takeBack cX0_takeBack 2 none ({ frames := 1, cells := 0, slots := 0, locals := 30 } : Room) V A [.ref (a 2), .int x1] (kb_W V a σ sh ex) none (kb_W V a σ9 sh ex) 0 0 := by
  refine kb_start (cc := cX0_takeBack) (nL := 2) (ret := none) (own := RX0) (by decide) rfl (Nat.le_of_ble_eq_true rfl) ?_
  intro p e s m args below meth c C
  refine kj_sub [0, 1] (L2 := [(0, .ref (a 2)), (1, .int x1)]) rfl ?_
  rw [fe_X0_takeBack] at hf
  refine kj_aload_n (pc := 0) C 0 dX0_takeBack_0 rfl rfl ?_
  refine kj_aload_n (pc := 1) C 0 dX0_takeBack_1 rfl rfl ?_
  refine kg_X0_rowCount (pc := 2) (v := (kb_g σ 2)) C wf_X0_29 dX0_takeBack_2 rfl ?_
  refine kj_iload_n (pc := 5) C 1 dX0_takeBack_5 rfl rfl ?_
  refine kj_isub (pc := 6) C dX0_takeBack_6 ?_
  refine kj_iconst (pc := 7) (v := (0 : Int32)) C dX0_takeBack_7 (by decide) ?_
  refine kj_mmax (pc := 8) C wk_X0_43 wi_Mmax wz_Math wd_Mmax (by decide) (Nat.le_of_ble_eq_true rfl) (by decide) dX0_takeBack_8 ?_
  refine kp_X0_rowCount (pc := 11) C wf_X0_29 dX0_takeBack_11 ?_
  refine kj_aload_n (pc := 14) C 0 dX0_takeBack_14 rfl rfl ?_
  obtain ⟨q1, hq1, hf⟩ := kb_bd hf
  refine kj_callV0 (pc := 15) (as := []) (rest := []) (b := (a 2)) C (ct_X0_fillNeedle l V A  a (kb_p σ 2 (if ((kb_g σ 2) - x1) < (0 : Int32) then (0 : Int32) else ((kb_g σ 2) - x1))) sh ex hq1) wd_X0_fillNeedle wk_X0_40 wi_X0_fillNeedle ws_X0_fillNeedle wz_X0 rfl rfl hd_X0_fillNeedle ⟨by decide, by decide⟩ 2 rfl rfl rfl rfl (Nat.le_of_ble_eq_true rfl) (by decide) dX0_takeBack_15 ?_
  cases hf
  exact kj_vret (pc := 18) C dX0_takeBack_18
def fn_X0_loopCount   (σ : kb_S) : Option (Int32) :=
  if kb_in ((kb_g σ 2) + (1 : Int32)) 32 = true then
    some (kb_a σ 1 ((kb_g σ 2) + (1 : Int32)).toNatClampNeg)
  else none
theorem fe_X0_loopCount   (σ : kb_S) : fn_X0_loopCount   σ =
  if kb_in ((kb_g σ 2) + (1 : Int32)) 32 = true then
    some (kb_a σ 1 ((kb_g σ 2) + (1 : Int32)).toNatClampNeg)
  else none := rfl
theorem hd_X0_loopCount : yX0_loopCount.cls = RX0 ∧ yX0_loopCount.cls ≠ "java/lang/invoke/MethodHandle" ∧ yX0_loopCount.cls ≠ "java/lang/invoke/VarHandle" ∧ (parseMethodDescriptor yX0_loopCount.desc).map (fun d => d.parameters.length) = some 0 := by decide +kernel
set_option maxRecDepth 100000 in
set_option maxHeartbeats 4000000 in
theorem ct_X0_loopCount (l : Launch) (V : kb_V) (A : Nat → Prop)   (a : Nat → Nat) (σ : kb_S) (sh : Value) (ex : va_W) {r : Int32} (hf : fn_X0_loopCount   σ = some r) : kb_T l yX0_loopCount cX0_loopCount 1 (some .int) ({ frames := 0, cells := 0, slots := 0, locals := 0 } : Room) V A [.ref (a 2)] (kb_W V a σ sh ex) (some (.int r)) (kb_W V a σ sh ex) 0 0 := by
  refine kb_start (cc := cX0_loopCount) (nL := 1) (ret := (some .int)) (own := RX0) (by decide) rfl (Nat.le_of_ble_eq_true rfl) ?_
  intro p e s m args below meth c C
  refine kj_sub [0] (L2 := [(0, .ref (a 2))]) rfl ?_
  rw [fe_X0_loopCount] at hf
  refine kj_aload_n (pc := 0) C 0 dX0_loopCount_0 rfl rfl ?_
  refine kg_X0_firstLoops (pc := 1) C wf_X0_9 dX0_loopCount_1 ?_
  refine kj_aload_n (pc := 4) C 0 dX0_loopCount_4 rfl rfl ?_
  refine kg_X0_rowCount (pc := 5) (v := (kb_g σ 2)) C wf_X0_29 dX0_loopCount_5 rfl ?_
  refine kj_iconst (pc := 8) (v := (1 : Int32)) C dX0_loopCount_8 (by decide) ?_
  refine kj_iadd (pc := 9) C dX0_loopCount_9 ?_
  obtain ⟨g1, hf⟩ := kb_gd hf
  refine ka_X0_firstLoops (pc := 10) (v := (kb_a σ 1 ((kb_g σ 2) + (1 : Int32)).toNatClampNeg)) C g1 dX0_loopCount_10 rfl ?_
  cases hf
  exact kj_iret (pc := 11) C dX0_loopCount_11
def fn_X0_startRow   (σ : kb_S) : Option (kb_S) :=
  (fn_X0_loopCount  (kb_p σ 6 (0 : Int32))).bind fun q1 =>
  if kb_in ((kb_g σ 2) + (1 : Int32)) 32 = true then
    some (kb_p (kb_p (kb_p σ 6 (0 : Int32)) 7 q1) 8 (kb_a σ 2 ((kb_g σ 2) + (1 : Int32)).toNatClampNeg))
  else none
theorem fe_X0_startRow   (σ : kb_S) : fn_X0_startRow   σ =
  (fn_X0_loopCount  (kb_p σ 6 (0 : Int32))).bind fun q1 =>
  if kb_in ((kb_g σ 2) + (1 : Int32)) 32 = true then
    some (kb_p (kb_p (kb_p σ 6 (0 : Int32)) 7 q1) 8 (kb_a σ 2 ((kb_g σ 2) + (1 : Int32)).toNatClampNeg))
  else none := rfl
theorem hd_X0_startRow : yX0_startRow.cls = RX0 ∧ yX0_startRow.cls ≠ "java/lang/invoke/MethodHandle" ∧ yX0_startRow.cls ≠ "java/lang/invoke/VarHandle" ∧ (parseMethodDescriptor yX0_startRow.desc).map (fun d => d.parameters.length) = some 0 := by decide +kernel
set_option maxRecDepth 100000 in
set_option maxHeartbeats 4000000 in
theorem ct_X0_startRow (l : Launch) (V : kb_V) (A : Nat → Prop)   (a : Nat → Nat) (σ : kb_S) (sh : Value) (ex : va_W) {σ9 : kb_S} (hf : fn_X0_startRow   σ = some σ9) : kb_T l yX0_startRow cX0_startRow 1 none ({ frames := 1, cells := 0, slots := 0, locals := 20 } : Room) V A [.ref (a 2)] (kb_W V a σ sh ex) none (kb_W V a σ9 sh ex) 0 0 := by
  refine kb_start (cc := cX0_startRow) (nL := 1) (ret := none) (own := RX0) (by decide) rfl (Nat.le_of_ble_eq_true rfl) ?_
  intro p e s m args below meth c C
  refine kj_sub [0] (L2 := [(0, .ref (a 2))]) rfl ?_
  rw [fe_X0_startRow] at hf
  refine kj_aload_n (pc := 0) C 0 dX0_startRow_0 rfl rfl ?_
  refine kj_iconst (pc := 1) (v := (0 : Int32)) C dX0_startRow_1 (by decide) ?_
  refine kp_X0_taken (pc := 2) C wf_X0_58 dX0_startRow_2 ?_
  refine kj_aload_n (pc := 5) C 0 dX0_startRow_5 rfl rfl ?_
  refine kj_aload_n (pc := 6) C 0 dX0_startRow_6 rfl rfl ?_
  obtain ⟨q1, hq1, hf⟩ := kb_bd hf
  refine kj_callV0 (pc := 7) (as := []) (rest := [.ref (a 2)]) (b := (a 2)) C (ct_X0_loopCount l V A  a (kb_p σ 6 (0 : Int32)) sh ex hq1) wd_X0_loopCount wk_X0_61 wi_X0_loopCount ws_X0_loopCount wz_X0 rfl rfl hd_X0_loopCount ⟨by decide, by decide⟩ 2 rfl rfl rfl rfl (Nat.le_of_ble_eq_true rfl) (by decide) dX0_startRow_7 ?_
  refine kp_X0_loopEnd (pc := 10) C wf_X0_33 dX0_startRow_10 ?_
  refine kj_aload_n (pc := 13) C 0 dX0_startRow_13 rfl rfl ?_
  refine kj_aload_n (pc := 14) C 0 dX0_startRow_14 rfl rfl ?_
  refine kg_X0_firstStitches (pc := 15) C wf_X0_13 dX0_startRow_15 ?_
  refine kj_aload_n (pc := 18) C 0 dX0_startRow_18 rfl rfl ?_
  refine kg_X0_rowCount (pc := 19) (v := (kb_g σ 2)) C wf_X0_29 dX0_startRow_19 rfl ?_
  refine kj_iconst (pc := 22) (v := (1 : Int32)) C dX0_startRow_22 (by decide) ?_
  refine kj_iadd (pc := 23) C dX0_startRow_23 ?_
  obtain ⟨g2, hf⟩ := kb_gd hf
  refine ka_X0_firstStitches (pc := 24) (v := (kb_a σ 2 ((kb_g σ 2) + (1 : Int32)).toNatClampNeg)) C g2 dX0_startRow_24 rfl ?_
  refine kp_X0_stitchEnd (pc := 25) C wf_X0_65 dX0_startRow_25 ?_
  cases hf
  exact kj_vret (pc := 28) C dX0_startRow_28
def fn_X0_leftCount   (σ : kb_S) : Int32 :=
  ((kb_g σ 3) - (kb_g σ 6))
theorem fe_X0_leftCount   (σ : kb_S) : fn_X0_leftCount   σ =
  ((kb_g σ 3) - (kb_g σ 6)) := rfl
theorem hd_X0_leftCount : yX0_leftCount.cls = RX0 ∧ yX0_leftCount.cls ≠ "java/lang/invoke/MethodHandle" ∧ yX0_leftCount.cls ≠ "java/lang/invoke/VarHandle" ∧ (parseMethodDescriptor yX0_leftCount.desc).map (fun d => d.parameters.length) = some 0 := by decide +kernel
set_option maxRecDepth 100000 in
set_option maxHeartbeats 4000000 in
theorem ct_X0_leftCount (l : Launch) (V : kb_V) (A : Nat → Prop)   (a : Nat → Nat) (σ : kb_S) (sh : Value) (ex : va_W) {r : Int32} (hf : fn_X0_leftCount   σ = r) : kb_T l yX0_leftCount cX0_leftCount 1 (some .int) ({ frames := 0, cells := 0, slots := 0, locals := 0 } : Room) V A [.ref (a 2)] (kb_W V a σ sh ex) (some (.int r)) (kb_W V a σ sh ex) 0 0 := by
  refine kb_start (cc := cX0_leftCount) (nL := 1) (ret := (some .int)) (own := RX0) (by decide) rfl (Nat.le_of_ble_eq_true rfl) ?_
  intro p e s m args below meth c C
  refine kj_sub [0] (L2 := [(0, .ref (a 2))]) rfl ?_
  rw [fe_X0_leftCount] at hf
  refine kj_aload_n (pc := 0) C 0 dX0_leftCount_0 rfl rfl ?_
  refine kg_X0_needleCount (pc := 1) (v := (kb_g σ 3)) C wf_X0_49 dX0_leftCount_1 rfl ?_
  refine kj_aload_n (pc := 4) C 0 dX0_leftCount_4 rfl rfl ?_
  refine kg_X0_taken (pc := 5) (v := (kb_g σ 6)) C wf_X0_58 dX0_leftCount_5 rfl ?_
  refine kj_isub (pc := 8) C dX0_leftCount_8 ?_
  subst hf
  exact kj_iret (pc := 9) C dX0_leftCount_9
def fn_X0_madeSoFar   (σ : kb_S) : Option (Int32) :=
  (fn_X0_loopCount  σ).bind fun q1 =>
  some ((kb_g σ 7) - q1)
theorem fe_X0_madeSoFar   (σ : kb_S) : fn_X0_madeSoFar   σ =
  (fn_X0_loopCount  σ).bind fun q1 =>
  some ((kb_g σ 7) - q1) := rfl
theorem hd_X0_madeSoFar : yX0_madeSoFar.cls = RX0 ∧ yX0_madeSoFar.cls ≠ "java/lang/invoke/MethodHandle" ∧ yX0_madeSoFar.cls ≠ "java/lang/invoke/VarHandle" ∧ (parseMethodDescriptor yX0_madeSoFar.desc).map (fun d => d.parameters.length) = some 0 := by decide +kernel
set_option maxRecDepth 100000 in
set_option maxHeartbeats 4000000 in
theorem ct_X0_madeSoFar (l : Launch) (V : kb_V) (A : Nat → Prop)   (a : Nat → Nat) (σ : kb_S) (sh : Value) (ex : va_W) {r : Int32} (hf : fn_X0_madeSoFar   σ = some r) : kb_T l yX0_madeSoFar cX0_madeSoFar 1 (some .int) ({ frames := 1, cells := 0, slots := 0, locals := 20 } : Room) V A [.ref (a 2)] (kb_W V a σ sh ex) (some (.int r)) (kb_W V a σ sh ex) 0 0 := by
  refine kb_start (cc := cX0_madeSoFar) (nL := 1) (ret := (some .int)) (own := RX0) (by decide) rfl (Nat.le_of_ble_eq_true rfl) ?_
  intro p e s m args below meth c C
  refine kj_sub [0] (L2 := [(0, .ref (a 2))]) rfl ?_
  rw [fe_X0_madeSoFar] at hf
  refine kj_aload_n (pc := 0) C 0 dX0_madeSoFar_0 rfl rfl ?_
  refine kg_X0_loopEnd (pc := 1) (v := (kb_g σ 7)) C wf_X0_33 dX0_madeSoFar_1 rfl ?_
  refine kj_aload_n (pc := 4) C 0 dX0_madeSoFar_4 rfl rfl ?_
  obtain ⟨q1, hq1, hf⟩ := kb_bd hf
  refine kj_callV0 (pc := 5) (as := []) (rest := [.int (kb_g σ 7)]) (b := (a 2)) C (ct_X0_loopCount l V A  a σ sh ex hq1) wd_X0_loopCount wk_X0_61 wi_X0_loopCount ws_X0_loopCount wz_X0 rfl rfl hd_X0_loopCount ⟨by decide, by decide⟩ 2 rfl rfl rfl rfl (Nat.le_of_ble_eq_true rfl) (by decide) dX0_madeSoFar_5 ?_
  refine kj_isub (pc := 8) C dX0_madeSoFar_8 ?_
  cases hf
  exact kj_iret (pc := 9) C dX0_madeSoFar_9
def fn_X6_cableA  (x0 : Int32)  : Int32 :=
  (x0 / (100 : Int32))
theorem fe_X6_cableA  (x0 : Int32)  : fn_X6_cableA  x0  =
  (x0 / (100 : Int32)) := rfl
theorem hd_X6_cableA : yX6_cableA.cls ≠ "java/lang/invoke/MethodHandle" ∧ yX6_cableA.cls ≠ "java/lang/invoke/VarHandle" ∧ (parseMethodDescriptor yX6_cableA.desc).map (fun d => d.parameters.length) = some 1 := by decide +kernel
set_option maxRecDepth 100000 in
set_option maxHeartbeats 4000000 in
theorem ct_X6_cableA (l : Launch) (V : kb_V) (A : Nat → Prop)  (x0 : Int32) (ws : va_W) {r : Int32} (hf : fn_X6_cableA  x0  = r) : kb_T l yX6_cableA cX6_cableA 1 (some .int) ({ frames := 0, cells := 0, slots := 0, locals := 0 } : Room) V A [.int x0] ws (some (.int r)) ws 0 0 := by
  refine kb_start (cc := cX6_cableA) (nL := 1) (ret := (some .int)) (own := RX6) (by decide) rfl (Nat.le_of_ble_eq_true rfl) ?_
  intro p e s m args below meth c C
  refine kj_sub [0] (L2 := [(0, .int x0)]) rfl ?_
  rw [fe_X6_cableA] at hf
  refine kj_iload_n (pc := 0) C 0 dX6_cableA_0 rfl rfl ?_
  refine kj_bipush (pc := 1) (v := (100 : Int32)) C dX6_cableA_1 (by decide) ?_
  refine kj_idiv (pc := 3) C dX6_cableA_3 (by decide) ?_
  subst hf
  exact kj_iret (pc := 4) C dX6_cableA_4
def fn_X6_cableB  (x0 : Int32)  : Int32 :=
  (((x0 / (10 : Int32)) - (x0 / (10 : Int32)) / (10 : Int32) * (10 : Int32)) - (1 : Int32))
theorem fe_X6_cableB  (x0 : Int32)  : fn_X6_cableB  x0  =
  (((x0 / (10 : Int32)) - (x0 / (10 : Int32)) / (10 : Int32) * (10 : Int32)) - (1 : Int32)) := rfl
theorem hd_X6_cableB : yX6_cableB.cls ≠ "java/lang/invoke/MethodHandle" ∧ yX6_cableB.cls ≠ "java/lang/invoke/VarHandle" ∧ (parseMethodDescriptor yX6_cableB.desc).map (fun d => d.parameters.length) = some 1 := by decide +kernel
set_option maxRecDepth 100000 in
set_option maxHeartbeats 4000000 in
theorem ct_X6_cableB (l : Launch) (V : kb_V) (A : Nat → Prop)  (x0 : Int32) (ws : va_W) {r : Int32} (hf : fn_X6_cableB  x0  = r) : kb_T l yX6_cableB cX6_cableB 1 (some .int) ({ frames := 0, cells := 0, slots := 0, locals := 0 } : Room) V A [.int x0] ws (some (.int r)) ws 0 0 := by
  refine kb_start (cc := cX6_cableB) (nL := 1) (ret := (some .int)) (own := RX6) (by decide) rfl (Nat.le_of_ble_eq_true rfl) ?_
  intro p e s m args below meth c C
  refine kj_sub [0] (L2 := [(0, .int x0)]) rfl ?_
  rw [fe_X6_cableB] at hf
  refine kj_iload_n (pc := 0) C 0 dX6_cableB_0 rfl rfl ?_
  refine kj_bipush (pc := 1) (v := (10 : Int32)) C dX6_cableB_1 (by decide) ?_
  refine kj_idiv (pc := 3) C dX6_cableB_3 (by decide) ?_
  refine kj_bipush (pc := 4) (v := (10 : Int32)) C dX6_cableB_4 (by decide) ?_
  refine kj_irem (pc := 6) C dX6_cableB_6 (by decide) ?_
  refine kj_iconst (pc := 7) (v := (1 : Int32)) C dX6_cableB_7 (by decide) ?_
  refine kj_isub (pc := 8) C dX6_cableB_8 ?_
  subst hf
  exact kj_iret (pc := 9) C dX6_cableB_9
def fp_X6_loopsMade_12   (x0 : Int32) : Option (Int32) :=
  some ((fn_X6_cableA x0) + (fn_X6_cableB x0))
theorem fp_X6_loopsMade_12_e   (x0 : Int32) : fp_X6_loopsMade_12  x0 =
  some ((fn_X6_cableA x0) + (fn_X6_cableB x0)) := rfl
def fn_X6_loopsMade  (x0 : Int32)  : Option (Int32) :=
  if x0 < 0 then
    fp_X6_loopsMade_12   x0
  else
    if x0 < (Int32.ofNat 10) then
      if kb_in x0 10 = true then
        some (kb_MAKES x0.toNatClampNeg)
      else none
    else
      fp_X6_loopsMade_12   x0
theorem fe_X6_loopsMade  (x0 : Int32)  : fn_X6_loopsMade  x0  =
  if x0 < 0 then
    fp_X6_loopsMade_12   x0
  else
    if x0 < (Int32.ofNat 10) then
      if kb_in x0 10 = true then
        some (kb_MAKES x0.toNatClampNeg)
      else none
    else
      fp_X6_loopsMade_12   x0 := rfl
theorem hd_X6_loopsMade : yX6_loopsMade.cls ≠ "java/lang/invoke/MethodHandle" ∧ yX6_loopsMade.cls ≠ "java/lang/invoke/VarHandle" ∧ (parseMethodDescriptor yX6_loopsMade.desc).map (fun d => d.parameters.length) = some 1 := by decide +kernel
set_option maxRecDepth 100000 in
set_option maxHeartbeats 4000000 in
theorem ct_X6_loopsMade (l : Launch) (V : kb_V) (A : Nat → Prop)  (x0 : Int32) (ws : va_W) {r : Int32} (hf : fn_X6_loopsMade  x0  = some r) : kb_T l yX6_loopsMade cX6_loopsMade 1 (some .int) ({ frames := 1, cells := 0, slots := 0, locals := 20 } : Room) V A [.int x0] ws (some (.int r)) ws 0 0 := by
  refine kb_start (cc := cX6_loopsMade) (nL := 1) (ret := (some .int)) (own := RX6) (by decide) rfl (Nat.le_of_ble_eq_true rfl) ?_
  intro p e s m args below meth c C
  have hp12 : ∀ (x0 : Int32), fp_X6_loopsMade_12   x0 = some r → kb_J p l e ({ frames := 1, cells := 0, slots := 0, locals := 20 } : Room) s m args below meth c 1 V A 0 0 (MQ below (kb_post V A (some (.int r)) ws) args s 0 0 A) 12 [(0, .int x0)] [] ws := by
    intro x0 hf
    rw [fp_X6_loopsMade_12_e] at hf
    refine kj_iload_n (pc := 12) C 0 dX6_loopsMade_12 rfl rfl ?_
    refine kj_callS0 (pc := 13) (as := [.int x0]) (rest := []) C (ct_X6_cableA l V A x0 ws rfl) wd_X6_cableA wk_X6_13 wi_X6_cableA wz_X6 rfl rfl hd_X6_cableA ⟨by decide, by decide⟩ rfl (Nat.le_of_ble_eq_true rfl) (by decide) dX6_loopsMade_13 ?_
    refine kj_iload_n (pc := 16) C 0 dX6_loopsMade_16 rfl rfl ?_
    refine kj_callS0 (pc := 17) (as := [.int x0]) (rest := [.int (fn_X6_cableA x0)]) C (ct_X6_cableB l V A x0 ws rfl) wd_X6_cableB wk_X6_17 wi_X6_cableB wz_X6 rfl rfl hd_X6_cableB ⟨by decide, by decide⟩ rfl (Nat.le_of_ble_eq_true rfl) (by decide) dX6_loopsMade_17 ?_
    refine kj_iadd (pc := 20) C dX6_loopsMade_20 ?_
    cases hf
    exact kj_iret (pc := 21) C dX6_loopsMade_21
  refine kj_sub [0] (L2 := [(0, .int x0)]) rfl ?_
  rw [fe_X6_loopsMade] at hf
  refine kj_iload_n (pc := 0) C 0 dX6_loopsMade_0 rfl rfl ?_
  refine kj_if_lt (pc := 1) 12 C dX6_loopsMade_1 (by decide) (fun c1 => ?_) (fun c1 => ?_)
  · have hf := kb_ift hf c1
    exact hp12 x0 hf
  · have hf := kb_ife hf c1
    refine kj_iload_n (pc := 4) C 0 dX6_loopsMade_4 rfl rfl ?_
    refine kj_gets (pc := 5) C C.2.1.2.2.1 wf_X6_20 dX6_loopsMade_5 ?_
    refine kj_slen (pc := 8) C C.2.1.2.2.1 dX6_loopsMade_8 ?_
    refine kj_icmp_lt (pc := 9) 22 C dX6_loopsMade_9 (by decide) (fun c2 => ?_) (fun c2 => ?_)
    · have hf := kb_ift hf c2
      refine kj_gets (pc := 22) C C.2.1.2.2.1 wf_X6_20 dX6_loopsMade_22 ?_
      refine kj_iload_n (pc := 25) C 0 dX6_loopsMade_25 rfl rfl ?_
      obtain ⟨g3, hf⟩ := kb_gd hf
      refine kj_sld (pc := 26) C C.2.1.2.2.1 (kb_inv g3) dX6_loopsMade_26 ?_
      cases hf
      exact kj_iret (pc := 27) C dX6_loopsMade_27
    · have hf := kb_ife hf c2
      exact hp12 x0 hf
def fp_X6_loopsTaken_12   (x0 : Int32) : Option (Int32) :=
  some ((fn_X6_cableA x0) + (fn_X6_cableB x0))
theorem fp_X6_loopsTaken_12_e   (x0 : Int32) : fp_X6_loopsTaken_12  x0 =
  some ((fn_X6_cableA x0) + (fn_X6_cableB x0)) := rfl
def fn_X6_loopsTaken  (x0 : Int32)  : Option (Int32) :=
  if x0 < 0 then
    fp_X6_loopsTaken_12   x0
  else
    if x0 < (Int32.ofNat 10) then
      if kb_in x0 10 = true then
        some (kb_TAKES x0.toNatClampNeg)
      else none
    else
      fp_X6_loopsTaken_12   x0
theorem fe_X6_loopsTaken  (x0 : Int32)  : fn_X6_loopsTaken  x0  =
  if x0 < 0 then
    fp_X6_loopsTaken_12   x0
  else
    if x0 < (Int32.ofNat 10) then
      if kb_in x0 10 = true then
        some (kb_TAKES x0.toNatClampNeg)
      else none
    else
      fp_X6_loopsTaken_12   x0 := rfl
theorem hd_X6_loopsTaken : yX6_loopsTaken.cls ≠ "java/lang/invoke/MethodHandle" ∧ yX6_loopsTaken.cls ≠ "java/lang/invoke/VarHandle" ∧ (parseMethodDescriptor yX6_loopsTaken.desc).map (fun d => d.parameters.length) = some 1 := by decide +kernel
set_option maxRecDepth 100000 in
set_option maxHeartbeats 4000000 in
theorem ct_X6_loopsTaken (l : Launch) (V : kb_V) (A : Nat → Prop)  (x0 : Int32) (ws : va_W) {r : Int32} (hf : fn_X6_loopsTaken  x0  = some r) : kb_T l yX6_loopsTaken cX6_loopsTaken 1 (some .int) ({ frames := 1, cells := 0, slots := 0, locals := 20 } : Room) V A [.int x0] ws (some (.int r)) ws 0 0 := by
  refine kb_start (cc := cX6_loopsTaken) (nL := 1) (ret := (some .int)) (own := RX6) (by decide) rfl (Nat.le_of_ble_eq_true rfl) ?_
  intro p e s m args below meth c C
  have hp12 : ∀ (x0 : Int32), fp_X6_loopsTaken_12   x0 = some r → kb_J p l e ({ frames := 1, cells := 0, slots := 0, locals := 20 } : Room) s m args below meth c 1 V A 0 0 (MQ below (kb_post V A (some (.int r)) ws) args s 0 0 A) 12 [(0, .int x0)] [] ws := by
    intro x0 hf
    rw [fp_X6_loopsTaken_12_e] at hf
    refine kj_iload_n (pc := 12) C 0 dX6_loopsTaken_12 rfl rfl ?_
    refine kj_callS0 (pc := 13) (as := [.int x0]) (rest := []) C (ct_X6_cableA l V A x0 ws rfl) wd_X6_cableA wk_X6_13 wi_X6_cableA wz_X6 rfl rfl hd_X6_cableA ⟨by decide, by decide⟩ rfl (Nat.le_of_ble_eq_true rfl) (by decide) dX6_loopsTaken_13 ?_
    refine kj_iload_n (pc := 16) C 0 dX6_loopsTaken_16 rfl rfl ?_
    refine kj_callS0 (pc := 17) (as := [.int x0]) (rest := [.int (fn_X6_cableA x0)]) C (ct_X6_cableB l V A x0 ws rfl) wd_X6_cableB wk_X6_17 wi_X6_cableB wz_X6 rfl rfl hd_X6_cableB ⟨by decide, by decide⟩ rfl (Nat.le_of_ble_eq_true rfl) (by decide) dX6_loopsTaken_17 ?_
    refine kj_iadd (pc := 20) C dX6_loopsTaken_20 ?_
    cases hf
    exact kj_iret (pc := 21) C dX6_loopsTaken_21
  refine kj_sub [0] (L2 := [(0, .int x0)]) rfl ?_
  rw [fe_X6_loopsTaken] at hf
  refine kj_iload_n (pc := 0) C 0 dX6_loopsTaken_0 rfl rfl ?_
  refine kj_if_lt (pc := 1) 12 C dX6_loopsTaken_1 (by decide) (fun c1 => ?_) (fun c1 => ?_)
  · have hf := kb_ift hf c1
    exact hp12 x0 hf
  · have hf := kb_ife hf c1
    refine kj_iload_n (pc := 4) C 0 dX6_loopsTaken_4 rfl rfl ?_
    refine kj_gets (pc := 5) C C.2.1.2.1 wf_X6_9 dX6_loopsTaken_5 ?_
    refine kj_slen (pc := 8) C C.2.1.2.1 dX6_loopsTaken_8 ?_
    refine kj_icmp_lt (pc := 9) 22 C dX6_loopsTaken_9 (by decide) (fun c2 => ?_) (fun c2 => ?_)
    · have hf := kb_ift hf c2
      refine kj_gets (pc := 22) C C.2.1.2.1 wf_X6_9 dX6_loopsTaken_22 ?_
      refine kj_iload_n (pc := 25) C 0 dX6_loopsTaken_25 rfl rfl ?_
      obtain ⟨g3, hf⟩ := kb_gd hf
      refine kj_sld (pc := 26) C C.2.1.2.1 (kb_inv g3) dX6_loopsTaken_26 ?_
      cases hf
      exact kj_iret (pc := 27) C dX6_loopsTaken_27
    · have hf := kb_ife hf c2
      exact hp12 x0 hf
def fp_X0_faultOfStitch_34   (x1 : Int32) (σ : kb_S) : Option (Int32) :=
  (fn_X6_loopsMade x1).bind fun q1 =>
  if ((kb_g σ 7) + q1) ≤ (600 : Int32) then
    some (0 : Int32)
  else
    some (6 : Int32)
theorem fp_X0_faultOfStitch_34_e   (x1 : Int32) (σ : kb_S) : fp_X0_faultOfStitch_34  x1 σ =
  (fn_X6_loopsMade x1).bind fun q1 =>
  if ((kb_g σ 7) + q1) ≤ (600 : Int32) then
    some (0 : Int32)
  else
    some (6 : Int32) := rfl
def fn_X0_faultOfStitch  (x1 : Int32) (σ : kb_S) : Option (Int32) :=
  (fn_X6_loopsTaken x1).bind fun q1 =>
  if q1 ≤ (fn_X0_leftCount  σ) then
    if x1 = (8 : Int32) then
      (fn_X0_madeSoFar  σ).bind fun q4 =>
      if ((fn_X0_leftCount  σ) + q4) = (1 : Int32) then
        some (5 : Int32)
      else
        fp_X0_faultOfStitch_34   x1 σ
    else
      fp_X0_faultOfStitch_34   x1 σ
  else
    some (4 : Int32)
theorem fe_X0_faultOfStitch  (x1 : Int32) (σ : kb_S) : fn_X0_faultOfStitch  x1 σ =
  (fn_X6_loopsTaken x1).bind fun q1 =>
  if q1 ≤ (fn_X0_leftCount  σ) then
    if x1 = (8 : Int32) then
      (fn_X0_madeSoFar  σ).bind fun q4 =>
      if ((fn_X0_leftCount  σ) + q4) = (1 : Int32) then
        some (5 : Int32)
      else
        fp_X0_faultOfStitch_34   x1 σ
    else
      fp_X0_faultOfStitch_34   x1 σ
  else
    some (4 : Int32) := rfl
theorem hd_X0_faultOfStitch : yX0_faultOfStitch.cls = RX0 ∧ yX0_faultOfStitch.cls ≠ "java/lang/invoke/MethodHandle" ∧ yX0_faultOfStitch.cls ≠ "java/lang/invoke/VarHandle" ∧ (parseMethodDescriptor yX0_faultOfStitch.desc).map (fun d => d.parameters.length) = some 1 := by decide +kernel
set_option maxRecDepth 100000 in
set_option maxHeartbeats 4000000 in
theorem ct_X0_faultOfStitch (l : Launch) (V : kb_V) (A : Nat → Prop)  (x1 : Int32) (a : Nat → Nat) (σ : kb_S) (sh : Value) (ex : va_W) {r : Int32} (hf : fn_X0_faultOfStitch  x1 σ = some r) : kb_T l yX0_faultOfStitch cX0_faultOfStitch 2 (some .int) ({ frames := 2, cells := 0, slots := 0, locals := 40 } : Room) V A [.ref (a 2), .int x1] (kb_W V a σ sh ex) (some (.int r)) (kb_W V a σ sh ex) 0 0 := by
  refine kb_start (cc := cX0_faultOfStitch) (nL := 2) (ret := (some .int)) (own := RX0) (by decide) rfl (Nat.le_of_ble_eq_true rfl) ?_
  intro p e s m args below meth c C
  have hp34 : ∀ (x1 : Int32) (σ : kb_S), fp_X0_faultOfStitch_34   x1 σ = some r → kb_J p l e ({ frames := 2, cells := 0, slots := 0, locals := 40 } : Room) s m args below meth c 2 V A 0 0 (MQ below (kb_post V A (some (.int r)) (kb_W V a σ sh ex)) args s 0 0 A) 34 [(0, .ref (a 2)), (1, .int x1)] [] (kb_W V a σ sh ex) := by
    intro x1 σ hf
    rw [fp_X0_faultOfStitch_34_e] at hf
    refine kj_aload_n (pc := 34) C 0 dX0_faultOfStitch_34 rfl rfl ?_
    refine kg_X0_loopEnd (pc := 35) (v := (kb_g σ 7)) C wf_X0_33 dX0_faultOfStitch_35 rfl ?_
    refine kj_iload_n (pc := 38) C 1 dX0_faultOfStitch_38 rfl rfl ?_
    obtain ⟨q1, hq1, hf⟩ := kb_bd hf
    refine kj_callS0 (pc := 39) (as := [.int x1]) (rest := [.int (kb_g σ 7)]) C (ct_X6_loopsMade l V A x1 (kb_W V a σ sh ex) hq1) wd_X6_loopsMade wk_X0_82 wi_X6_loopsMade wz_X6 rfl rfl hd_X6_loopsMade ⟨by decide, by decide⟩ rfl (Nat.le_of_ble_eq_true rfl) (by decide) dX0_faultOfStitch_39 ?_
    refine kj_iadd (pc := 42) C dX0_faultOfStitch_42 ?_
    refine kj_sipush (pc := 43) (v := (600 : Int32)) C dX0_faultOfStitch_43 (by decide) ?_
    refine kj_icmp_le (pc := 46) 52 C dX0_faultOfStitch_46 (by decide) (fun c2 => ?_) (fun c2 => ?_)
    · have hf := kb_ift hf c2
      refine kj_iconst (pc := 52) (v := (0 : Int32)) C dX0_faultOfStitch_52 (by decide) ?_
      cases hf
      exact kj_iret (pc := 53) C dX0_faultOfStitch_53
    · have hf := kb_ife hf c2
      refine kj_bipush (pc := 49) (v := (6 : Int32)) C dX0_faultOfStitch_49 (by decide) ?_
      cases hf
      exact kj_iret (pc := 51) C dX0_faultOfStitch_51
  refine kj_sub [0, 1] (L2 := [(0, .ref (a 2)), (1, .int x1)]) rfl ?_
  rw [fe_X0_faultOfStitch] at hf
  refine kj_iload_n (pc := 0) C 1 dX0_faultOfStitch_0 rfl rfl ?_
  obtain ⟨q1, hq1, hf⟩ := kb_bd hf
  refine kj_callS0 (pc := 1) (as := [.int x1]) (rest := []) C (ct_X6_loopsTaken l V A x1 (kb_W V a σ sh ex) hq1) wd_X6_loopsTaken wk_X0_68 wi_X6_loopsTaken wz_X6 rfl rfl hd_X6_loopsTaken ⟨by decide, by decide⟩ rfl (Nat.le_of_ble_eq_true rfl) (by decide) dX0_faultOfStitch_1 ?_
  refine kj_aload_n (pc := 4) C 0 dX0_faultOfStitch_4 rfl rfl ?_
  refine kj_callV0 (pc := 5) (as := []) (rest := [.int q1]) (b := (a 2)) C (ct_X0_leftCount l V A  a σ sh ex rfl) wd_X0_leftCount wk_X0_74 wi_X0_leftCount ws_X0_leftCount wz_X0 rfl rfl hd_X0_leftCount ⟨by decide, by decide⟩ 2 rfl rfl rfl rfl (Nat.le_of_ble_eq_true rfl) (by decide) dX0_faultOfStitch_5 ?_
  refine kj_icmp_le (pc := 8) 13 C dX0_faultOfStitch_8 (by decide) (fun c2 => ?_) (fun c2 => ?_)
  · have hf := kb_ift hf c2
    refine kj_iload_n (pc := 13) C 1 dX0_faultOfStitch_13 rfl rfl ?_
    refine kj_bipush (pc := 14) (v := (8 : Int32)) C dX0_faultOfStitch_14 (by decide) ?_
    refine kj_icmp_ne (pc := 16) 34 C dX0_faultOfStitch_16 (by decide) (fun c3 => ?_) (fun c3 => ?_)
    · have hf := kb_ife hf c3
      exact hp34 x1 σ hf
    · have hf := kb_ift hf c3
      refine kj_aload_n (pc := 19) C 0 dX0_faultOfStitch_19 rfl rfl ?_
      refine kj_callV0 (pc := 20) (as := []) (rest := []) (b := (a 2)) C (ct_X0_leftCount l V A  a σ sh ex rfl) wd_X0_leftCount wk_X0_74 wi_X0_leftCount ws_X0_leftCount wz_X0 rfl rfl hd_X0_leftCount ⟨by decide, by decide⟩ 2 rfl rfl rfl rfl (Nat.le_of_ble_eq_true rfl) (by decide) dX0_faultOfStitch_20 ?_
      refine kj_aload_n (pc := 23) C 0 dX0_faultOfStitch_23 rfl rfl ?_
      obtain ⟨q4, hq4, hf⟩ := kb_bd hf
      refine kj_callV0 (pc := 24) (as := []) (rest := [.int (fn_X0_leftCount  σ)]) (b := (a 2)) C (ct_X0_madeSoFar l V A  a σ sh ex hq4) wd_X0_madeSoFar wk_X0_79 wi_X0_madeSoFar ws_X0_madeSoFar wz_X0 rfl rfl hd_X0_madeSoFar ⟨by decide, by decide⟩ 2 rfl rfl rfl rfl (Nat.le_of_ble_eq_true rfl) (by decide) dX0_faultOfStitch_24 ?_
      refine kj_iadd (pc := 27) C dX0_faultOfStitch_27 ?_
      refine kj_iconst (pc := 28) (v := (1 : Int32)) C dX0_faultOfStitch_28 (by decide) ?_
      refine kj_icmp_ne (pc := 29) 34 C dX0_faultOfStitch_29 (by decide) (fun c5 => ?_) (fun c5 => ?_)
      · have hf := kb_ife hf c5
        exact hp34 x1 σ hf
      · have hf := kb_ift hf c5
        refine kj_iconst (pc := 32) (v := (5 : Int32)) C dX0_faultOfStitch_32 (by decide) ?_
        cases hf
        exact kj_iret (pc := 33) C dX0_faultOfStitch_33
  · have hf := kb_ife hf c2
    refine kj_iconst (pc := 11) (v := (4 : Int32)) C dX0_faultOfStitch_11 (by decide) ?_
    cases hf
    exact kj_iret (pc := 12) C dX0_faultOfStitch_12
def fp_X0_makeCableLoops_28   : Nat → Int32 → Int32 → kb_S → Option (kb_S)
  | 0 => fun _ _ _ => none
  | nn + 1 => fun x1 x3 σ => 
  if x1 ≤ x3 then
    some σ
  else
    (fn_X0_makeLoop ((kb_g σ 6) + x3) (1 : Int32) σ).bind fun q2 =>
    (fp_X0_makeCableLoops_28  nn) x1 (x3 + (1 : Int32)) q2
theorem fp_X0_makeCableLoops_28_s   (nn : Nat) (x1 : Int32) (x3 : Int32) (σ : kb_S) : fp_X0_makeCableLoops_28  (nn + 1) x1 x3 σ =
  if x1 ≤ x3 then
    some σ
  else
    (fn_X0_makeLoop ((kb_g σ 6) + x3) (1 : Int32) σ).bind fun q2 =>
    (fp_X0_makeCableLoops_28  nn) x1 (x3 + (1 : Int32)) q2 := rfl
def fp_X0_makeCableLoops_2   : Nat → Int32 → Int32 → Int32 → kb_S → Option (kb_S)
  | 0 => fun _ _ _ _ => none
  | nn + 1 => fun x1 x2 x3 σ => 
  if x2 ≤ x3 then
    fp_X0_makeCableLoops_28   kb_FU x1 (0 : Int32) σ
  else
    (fn_X0_makeLoop (((kb_g σ 6) + x1) + x3) (1 : Int32) σ).bind fun q2 =>
    (fp_X0_makeCableLoops_2  nn) x1 x2 (x3 + (1 : Int32)) q2
theorem fp_X0_makeCableLoops_2_s   (nn : Nat) (x1 : Int32) (x2 : Int32) (x3 : Int32) (σ : kb_S) : fp_X0_makeCableLoops_2  (nn + 1) x1 x2 x3 σ =
  if x2 ≤ x3 then
    fp_X0_makeCableLoops_28   kb_FU x1 (0 : Int32) σ
  else
    (fn_X0_makeLoop (((kb_g σ 6) + x1) + x3) (1 : Int32) σ).bind fun q2 =>
    (fp_X0_makeCableLoops_2  nn) x1 x2 (x3 + (1 : Int32)) q2 := rfl
def fn_X0_makeCableLoops  (x1 : Int32) (x2 : Int32) (σ : kb_S) : Option (kb_S) :=
  fp_X0_makeCableLoops_2   kb_FU x1 x2 (0 : Int32) σ
theorem fe_X0_makeCableLoops  (x1 : Int32) (x2 : Int32) (σ : kb_S) : fn_X0_makeCableLoops  x1 x2 σ =
  fp_X0_makeCableLoops_2   kb_FU x1 x2 (0 : Int32) σ := rfl
theorem hd_X0_makeCableLoops : yX0_makeCableLoops.cls = RX0 ∧ yX0_makeCableLoops.cls ≠ "java/lang/invoke/MethodHandle" ∧ yX0_makeCableLoops.cls ≠ "java/lang/invoke/VarHandle" ∧ (parseMethodDescriptor yX0_makeCableLoops.desc).map (fun d => d.parameters.length) = some 2 := by decide +kernel
set_option maxRecDepth 100000 in
set_option maxHeartbeats 4000000 in
theorem ct_X0_makeCableLoops (l : Launch) (V : kb_V) (A : Nat → Prop)  (x1 : Int32) (x2 : Int32) (a : Nat → Nat) (σ : kb_S) (sh : Value) (ex : va_W) {σ9 : kb_S} (hf : fn_X0_makeCableLoops  x1 x2 σ = some σ9) : kb_T l yX0_makeCableLoops cX0_makeCableLoops 4 none ({ frames := 2, cells := 0, slots := 0, locals := 43 } : Room) V A [.ref (a 2), .int x1, .int x2] (kb_W V a σ sh ex) none (kb_W V a σ9 sh ex) 0 0 := by
  refine kb_start (cc := cX0_makeCableLoops) (nL := 4) (ret := none) (own := RX0) (by decide) rfl (Nat.le_of_ble_eq_true rfl) ?_
  intro p e s m args below meth c C
  have hp28 : ∀ (nn : Nat) (x1 : Int32) (x3 : Int32) (σ : kb_S), fp_X0_makeCableLoops_28   nn x1 x3 σ = some σ9 → kb_J p l e ({ frames := 2, cells := 0, slots := 0, locals := 43 } : Room) s m args below meth c 4 V A 0 0 (MQ below (kb_post V A none (kb_W V a σ9 sh ex)) args s 0 0 A) 28 [(0, .ref (a 2)), (1, .int x1), (3, .int x3)] [] (kb_W V a σ sh ex) := by
    intro nn28
    induction nn28 with
    | zero => intro x1 x3 σ hf; exact kb_no hf
    | succ nn28 ih28 =>
      intro x1 x3 σ hf
      rw [fp_X0_makeCableLoops_28_s] at hf
      refine kj_iload_n (pc := 28) C 2 dX0_makeCableLoops_28 rfl rfl ?_
      refine kj_iload_n (pc := 29) C 1 dX0_makeCableLoops_29 rfl rfl ?_
      refine kj_icmp_ge (pc := 30) 50 C dX0_makeCableLoops_30 (by decide) (fun c1 => ?_) (fun c1 => ?_)
      · have hf := kb_ift hf c1
        cases hf
        exact kj_vret (pc := 50) C dX0_makeCableLoops_50
      · have hf := kb_ife hf c1
        refine kj_aload_n (pc := 33) C 0 dX0_makeCableLoops_33 rfl rfl ?_
        refine kj_aload_n (pc := 34) C 0 dX0_makeCableLoops_34 rfl rfl ?_
        refine kg_X0_taken (pc := 35) (v := (kb_g σ 6)) C wf_X0_58 dX0_makeCableLoops_35 rfl ?_
        refine kj_iload_n (pc := 38) C 2 dX0_makeCableLoops_38 rfl rfl ?_
        refine kj_iadd (pc := 39) C dX0_makeCableLoops_39 ?_
        refine kj_iconst (pc := 40) (v := (1 : Int32)) C dX0_makeCableLoops_40 (by decide) ?_
        obtain ⟨q2, hq2, hf⟩ := kb_bd hf
        refine kj_callV0 (pc := 41) (as := [.int ((kb_g σ 6) + x3), .int (1 : Int32)]) (rest := []) (b := (a 2)) C (ct_X0_makeLoop l V A ((kb_g σ 6) + x3) (1 : Int32) a σ sh ex hq2) wd_X0_makeLoop wk_X0_36 wi_X0_makeLoop ws_X0_makeLoop wz_X0 rfl rfl hd_X0_makeLoop ⟨by decide, by decide⟩ 2 rfl rfl rfl rfl (Nat.le_of_ble_eq_true rfl) (by decide) dX0_makeCableLoops_41 ?_
        refine kj_iinc (pc := 44) C 2 [1, 2, 0] (L2 := [(0, .ref (a 2)), (1, .int x1), (3, .int (x3 + (1 : Int32)))]) dX0_makeCableLoops_44 rfl rfl (by decide) rfl ?_
        refine kj_goto (pc := 47) 28 C dX0_makeCableLoops_47 (by decide) ?_
        exact ih28 x1 (x3 + (1 : Int32)) q2 hf
  have hp2 : ∀ (nn : Nat) (x1 : Int32) (x2 : Int32) (x3 : Int32) (σ : kb_S), fp_X0_makeCableLoops_2   nn x1 x2 x3 σ = some σ9 → kb_J p l e ({ frames := 2, cells := 0, slots := 0, locals := 43 } : Room) s m args below meth c 4 V A 0 0 (MQ below (kb_post V A none (kb_W V a σ9 sh ex)) args s 0 0 A) 2 [(0, .ref (a 2)), (1, .int x1), (2, .int x2), (3, .int x3)] [] (kb_W V a σ sh ex) := by
    intro nn2
    induction nn2 with
    | zero => intro x1 x2 x3 σ hf; exact kb_no hf
    | succ nn2 ih2 =>
      intro x1 x2 x3 σ hf
      rw [fp_X0_makeCableLoops_2_s] at hf
      refine kj_iload_n (pc := 2) C 3 dX0_makeCableLoops_2 rfl rfl ?_
      refine kj_iload_n (pc := 3) C 2 dX0_makeCableLoops_3 rfl rfl ?_
      refine kj_icmp_ge (pc := 4) 26 C dX0_makeCableLoops_4 (by decide) (fun c1 => ?_) (fun c1 => ?_)
      · have hf := kb_ift hf c1
        refine kj_iconst (pc := 26) (v := (0 : Int32)) C dX0_makeCableLoops_26 (by decide) ?_
        refine kj_istore_n (pc := 27) C [1, 2, 3, 0] (L2 := [(0, .ref (a 2)), (1, .int x1), (2, .int x2), (3, .int (0 : Int32))]) dX0_makeCableLoops_27 rfl (by decide) rfl ?_
        refine kj_sub [0, 1, 3] (L2 := [(0, .ref (a 2)), (1, .int x1), (3, .int (0 : Int32))]) rfl ?_
        exact hp28 kb_FU x1 (0 : Int32) σ hf
      · have hf := kb_ife hf c1
        refine kj_aload_n (pc := 7) C 0 dX0_makeCableLoops_7 rfl rfl ?_
        refine kj_aload_n (pc := 8) C 0 dX0_makeCableLoops_8 rfl rfl ?_
        refine kg_X0_taken (pc := 9) (v := (kb_g σ 6)) C wf_X0_58 dX0_makeCableLoops_9 rfl ?_
        refine kj_iload_n (pc := 12) C 1 dX0_makeCableLoops_12 rfl rfl ?_
        refine kj_iadd (pc := 13) C dX0_makeCableLoops_13 ?_
        refine kj_iload_n (pc := 14) C 3 dX0_makeCableLoops_14 rfl rfl ?_
        refine kj_iadd (pc := 15) C dX0_makeCableLoops_15 ?_
        refine kj_iconst (pc := 16) (v := (1 : Int32)) C dX0_makeCableLoops_16 (by decide) ?_
        obtain ⟨q2, hq2, hf⟩ := kb_bd hf
        refine kj_callV0 (pc := 17) (as := [.int (((kb_g σ 6) + x1) + x3), .int (1 : Int32)]) (rest := []) (b := (a 2)) C (ct_X0_makeLoop l V A (((kb_g σ 6) + x1) + x3) (1 : Int32) a σ sh ex hq2) wd_X0_makeLoop wk_X0_36 wi_X0_makeLoop ws_X0_makeLoop wz_X0 rfl rfl hd_X0_makeLoop ⟨by decide, by decide⟩ 2 rfl rfl rfl rfl (Nat.le_of_ble_eq_true rfl) (by decide) dX0_makeCableLoops_17 ?_
        refine kj_iinc (pc := 20) C 3 [1, 2, 3, 0] (L2 := [(0, .ref (a 2)), (1, .int x1), (2, .int x2), (3, .int (x3 + (1 : Int32)))]) dX0_makeCableLoops_20 rfl rfl (by decide) rfl ?_
        refine kj_goto (pc := 23) 2 C dX0_makeCableLoops_23 (by decide) ?_
        exact ih2 x1 x2 (x3 + (1 : Int32)) q2 hf
  refine kj_sub [0, 1, 2] (L2 := [(0, .ref (a 2)), (1, .int x1), (2, .int x2)]) rfl ?_
  rw [fe_X0_makeCableLoops] at hf
  refine kj_iconst (pc := 0) (v := (0 : Int32)) C dX0_makeCableLoops_0 (by decide) ?_
  refine kj_istore_n (pc := 1) C [1, 2, 3, 0] (L2 := [(0, .ref (a 2)), (1, .int x1), (2, .int x2), (3, .int (0 : Int32))]) dX0_makeCableLoops_1 rfl (by decide) rfl ?_
  exact hp2 kb_FU x1 x2 (0 : Int32) σ hf
def fn_X6_isCable  (x0 : Int32)  : Int32 :=
  if x0 < (10 : Int32) then
    (0 : Int32)
  else
    (1 : Int32)
theorem fe_X6_isCable  (x0 : Int32)  : fn_X6_isCable  x0  =
  if x0 < (10 : Int32) then
    (0 : Int32)
  else
    (1 : Int32) := rfl
theorem hd_X6_isCable : yX6_isCable.cls ≠ "java/lang/invoke/MethodHandle" ∧ yX6_isCable.cls ≠ "java/lang/invoke/VarHandle" ∧ (parseMethodDescriptor yX6_isCable.desc).map (fun d => d.parameters.length) = some 1 := by decide +kernel
set_option maxRecDepth 100000 in
set_option maxHeartbeats 4000000 in
theorem ct_X6_isCable (l : Launch) (V : kb_V) (A : Nat → Prop)  (x0 : Int32) (ws : va_W) {r : Int32} (hf : fn_X6_isCable  x0  = r) : kb_T l yX6_isCable cX6_isCable 1 (some .boolean) ({ frames := 0, cells := 0, slots := 0, locals := 0 } : Room) V A [.int x0] ws (some (.int r)) ws 0 0 := by
  refine kb_start (cc := cX6_isCable) (nL := 1) (ret := (some .boolean)) (own := RX6) (by decide) rfl (Nat.le_of_ble_eq_true rfl) ?_
  intro p e s m args below meth c C
  refine kj_sub [0] (L2 := [(0, .int x0)]) rfl ?_
  rw [fe_X6_isCable] at hf
  refine kj_iload_n (pc := 0) C 0 dX6_isCable_0 rfl rfl ?_
  refine kj_bipush (pc := 1) (v := (10 : Int32)) C dX6_isCable_1 (by decide) ?_
  refine kj_icmp_lt (pc := 3) 10 C dX6_isCable_3 (by decide) (fun c1 => ?_) (fun c1 => ?_)
  · have hf := kb_ift hf c1
    refine kj_iconst (pc := 10) (v := (0 : Int32)) C dX6_isCable_10 (by decide) ?_
    subst hf
    exact kj_zret (pc := 11) C (by decide) dX6_isCable_11
  · have hf := kb_ife hf c1
    refine kj_iconst (pc := 6) (v := (1 : Int32)) C dX6_isCable_6 (by decide) ?_
    refine kj_goto (pc := 7) 11 C dX6_isCable_7 (by decide) ?_
    subst hf
    exact kj_zret (pc := 11) C (by decide) dX6_isCable_11
def fp_X0_addStitch_52   (x1 : Int32) (σ : kb_S) : Option (kb_S) :=
  (fn_X6_loopsTaken x1).bind fun q1 =>
  if (1200 : Int32) ≤ (kb_g σ 8) then
    some (kb_p σ 6 ((kb_g σ 6) + q1))
  else
    if kb_in (kb_g σ 8) 1200 = true then
      some (kb_p (kb_ap (kb_p σ 6 ((kb_g σ 6) + q1)) 3 (kb_g σ 8).toNatClampNeg x1) 8 ((kb_g σ 8) + (1 : Int32)))
    else none
theorem fp_X0_addStitch_52_e   (x1 : Int32) (σ : kb_S) : fp_X0_addStitch_52  x1 σ =
  (fn_X6_loopsTaken x1).bind fun q1 =>
  if (1200 : Int32) ≤ (kb_g σ 8) then
    some (kb_p σ 6 ((kb_g σ 6) + q1))
  else
    if kb_in (kb_g σ 8) 1200 = true then
      some (kb_p (kb_ap (kb_p σ 6 ((kb_g σ 6) + q1)) 3 (kb_g σ 8).toNatClampNeg x1) 8 ((kb_g σ 8) + (1 : Int32)))
    else none := rfl
def fp_X0_addStitch_29   : Nat → Int32 → Int32 → Int32 → kb_S → Option (kb_S)
  | 0 => fun _ _ _ _ => none
  | nn + 1 => fun x1 x2 x3 σ => 
  if x2 ≤ x3 then
    fp_X0_addStitch_52   x1 σ
  else
    (fn_X6_loopsTaken x1).bind fun q2 =>
    (fn_X0_makeLoop (kb_g σ 6) q2 σ).bind fun q3 =>
    (fp_X0_addStitch_29  nn) x1 x2 (x3 + (1 : Int32)) q3
theorem fp_X0_addStitch_29_s   (nn : Nat) (x1 : Int32) (x2 : Int32) (x3 : Int32) (σ : kb_S) : fp_X0_addStitch_29  (nn + 1) x1 x2 x3 σ =
  if x2 ≤ x3 then
    fp_X0_addStitch_52   x1 σ
  else
    (fn_X6_loopsTaken x1).bind fun q2 =>
    (fn_X0_makeLoop (kb_g σ 6) q2 σ).bind fun q3 =>
    (fp_X0_addStitch_29  nn) x1 x2 (x3 + (1 : Int32)) q3 := rfl
def fn_X0_addStitch  (x1 : Int32) (σ : kb_S) : Option (kb_S) :=
  if (fn_X6_isCable x1) = 0 then
    (fn_X6_loopsMade x1).bind fun q2 =>
    fp_X0_addStitch_29   kb_FU x1 q2 (0 : Int32) σ
  else
    (fn_X0_makeCableLoops (fn_X6_cableA x1) (fn_X6_cableB x1) σ).bind fun q2 =>
    fp_X0_addStitch_52   x1 q2
theorem fe_X0_addStitch  (x1 : Int32) (σ : kb_S) : fn_X0_addStitch  x1 σ =
  if (fn_X6_isCable x1) = 0 then
    (fn_X6_loopsMade x1).bind fun q2 =>
    fp_X0_addStitch_29   kb_FU x1 q2 (0 : Int32) σ
  else
    (fn_X0_makeCableLoops (fn_X6_cableA x1) (fn_X6_cableB x1) σ).bind fun q2 =>
    fp_X0_addStitch_52   x1 q2 := rfl
theorem hd_X0_addStitch : yX0_addStitch.cls = RX0 ∧ yX0_addStitch.cls ≠ "java/lang/invoke/MethodHandle" ∧ yX0_addStitch.cls ≠ "java/lang/invoke/VarHandle" ∧ (parseMethodDescriptor yX0_addStitch.desc).map (fun d => d.parameters.length) = some 1 := by decide +kernel
set_option maxRecDepth 100000 in
set_option maxHeartbeats 4000000 in
theorem ct_X0_addStitch (l : Launch) (V : kb_V) (A : Nat → Prop)  (x1 : Int32) (a : Nat → Nat) (σ : kb_S) (sh : Value) (ex : va_W) {σ9 : kb_S} (hf : fn_X0_addStitch  x1 σ = some σ9) : kb_T l yX0_addStitch cX0_addStitch 4 none ({ frames := 3, cells := 0, slots := 0, locals := 66 } : Room) V A [.ref (a 2), .int x1] (kb_W V a σ sh ex) none (kb_W V a σ9 sh ex) 0 0 := by
  refine kb_start (cc := cX0_addStitch) (nL := 4) (ret := none) (own := RX0) (by decide) rfl (Nat.le_of_ble_eq_true rfl) ?_
  intro p e s m args below meth c C
  have hp52 : ∀ (x1 : Int32) (σ : kb_S), fp_X0_addStitch_52   x1 σ = some σ9 → kb_J p l e ({ frames := 3, cells := 0, slots := 0, locals := 66 } : Room) s m args below meth c 4 V A 0 0 (MQ below (kb_post V A none (kb_W V a σ9 sh ex)) args s 0 0 A) 52 [(0, .ref (a 2)), (1, .int x1)] [] (kb_W V a σ sh ex) := by
    intro x1 σ hf
    rw [fp_X0_addStitch_52_e] at hf
    refine kj_aload_n (pc := 52) C 0 dX0_addStitch_52 rfl rfl ?_
    refine kj_dup (pc := 53) C dX0_addStitch_53 rfl ?_
    refine kg_X0_taken (pc := 54) (v := (kb_g σ 6)) C wf_X0_58 dX0_addStitch_54 rfl ?_
    refine kj_iload_n (pc := 57) C 1 dX0_addStitch_57 rfl rfl ?_
    obtain ⟨q1, hq1, hf⟩ := kb_bd hf
    refine kj_callS0 (pc := 58) (as := [.int x1]) (rest := [.int (kb_g σ 6), .ref (a 2)]) C (ct_X6_loopsTaken l V A x1 (kb_W V a σ sh ex) hq1) wd_X6_loopsTaken wk_X0_68 wi_X6_loopsTaken wz_X6 rfl rfl hd_X6_loopsTaken ⟨by decide, by decide⟩ rfl (Nat.le_of_ble_eq_true rfl) (by decide) dX0_addStitch_58 ?_
    refine kj_iadd (pc := 61) C dX0_addStitch_61 ?_
    refine kp_X0_taken (pc := 62) C wf_X0_58 dX0_addStitch_62 ?_
    refine kj_aload_n (pc := 65) C 0 dX0_addStitch_65 rfl rfl ?_
    refine kg_X0_stitchEnd (pc := 66) (v := (kb_g σ 8)) C wf_X0_65 dX0_addStitch_66 rfl ?_
    refine kj_sipush (pc := 69) (v := (1200 : Int32)) C dX0_addStitch_69 (by decide) ?_
    refine kj_icmp_ge (pc := 72) 95 C dX0_addStitch_72 (by decide) (fun c2 => ?_) (fun c2 => ?_)
    · have hf := kb_ift hf c2
      cases hf
      exact kj_vret (pc := 95) C dX0_addStitch_95
    · have hf := kb_ife hf c2
      refine kj_aload_n (pc := 75) C 0 dX0_addStitch_75 rfl rfl ?_
      refine kg_X0_stitches (pc := 76) C wf_X0_16 dX0_addStitch_76 ?_
      refine kj_aload_n (pc := 79) C 0 dX0_addStitch_79 rfl rfl ?_
      refine kg_X0_stitchEnd (pc := 80) (v := (kb_g σ 8)) C wf_X0_65 dX0_addStitch_80 rfl ?_
      refine kj_iload_n (pc := 83) C 1 dX0_addStitch_83 rfl rfl ?_
      obtain ⟨g3, hf⟩ := kb_gd hf
      refine ks_X0_stitches (pc := 84) C g3 dX0_addStitch_84 ?_
      refine kj_aload_n (pc := 85) C 0 dX0_addStitch_85 rfl rfl ?_
      refine kj_dup (pc := 86) C dX0_addStitch_86 rfl ?_
      refine kg_X0_stitchEnd (pc := 87) (v := (kb_g σ 8)) C wf_X0_65 dX0_addStitch_87 rfl ?_
      refine kj_iconst (pc := 90) (v := (1 : Int32)) C dX0_addStitch_90 (by decide) ?_
      refine kj_iadd (pc := 91) C dX0_addStitch_91 ?_
      refine kp_X0_stitchEnd (pc := 92) C wf_X0_65 dX0_addStitch_92 ?_
      cases hf
      exact kj_vret (pc := 95) C dX0_addStitch_95
  have hp29 : ∀ (nn : Nat) (x1 : Int32) (x2 : Int32) (x3 : Int32) (σ : kb_S), fp_X0_addStitch_29   nn x1 x2 x3 σ = some σ9 → kb_J p l e ({ frames := 3, cells := 0, slots := 0, locals := 66 } : Room) s m args below meth c 4 V A 0 0 (MQ below (kb_post V A none (kb_W V a σ9 sh ex)) args s 0 0 A) 29 [(0, .ref (a 2)), (1, .int x1), (2, .int x2), (3, .int x3)] [] (kb_W V a σ sh ex) := by
    intro nn29
    induction nn29 with
    | zero => intro x1 x2 x3 σ hf; exact kb_no hf
    | succ nn29 ih29 =>
      intro x1 x2 x3 σ hf
      rw [fp_X0_addStitch_29_s] at hf
      refine kj_iload_n (pc := 29) C 3 dX0_addStitch_29 rfl rfl ?_
      refine kj_iload_n (pc := 30) C 2 dX0_addStitch_30 rfl rfl ?_
      refine kj_icmp_ge (pc := 31) 52 C dX0_addStitch_31 (by decide) (fun c1 => ?_) (fun c1 => ?_)
      · have hf := kb_ift hf c1
        refine kj_sub [0, 1] (L2 := [(0, .ref (a 2)), (1, .int x1)]) rfl ?_
        exact hp52 x1 σ hf
      · have hf := kb_ife hf c1
        refine kj_aload_n (pc := 34) C 0 dX0_addStitch_34 rfl rfl ?_
        refine kj_aload_n (pc := 35) C 0 dX0_addStitch_35 rfl rfl ?_
        refine kg_X0_taken (pc := 36) (v := (kb_g σ 6)) C wf_X0_58 dX0_addStitch_36 rfl ?_
        refine kj_iload_n (pc := 39) C 1 dX0_addStitch_39 rfl rfl ?_
        obtain ⟨q2, hq2, hf⟩ := kb_bd hf
        refine kj_callS0 (pc := 40) (as := [.int x1]) (rest := [.int (kb_g σ 6), .ref (a 2)]) C (ct_X6_loopsTaken l V A x1 (kb_W V a σ sh ex) hq2) wd_X6_loopsTaken wk_X0_68 wi_X6_loopsTaken wz_X6 rfl rfl hd_X6_loopsTaken ⟨by decide, by decide⟩ rfl (Nat.le_of_ble_eq_true rfl) (by decide) dX0_addStitch_40 ?_
        obtain ⟨q3, hq3, hf⟩ := kb_bd hf
        refine kj_callV0 (pc := 43) (as := [.int (kb_g σ 6), .int q2]) (rest := []) (b := (a 2)) C (ct_X0_makeLoop l V A (kb_g σ 6) q2 a σ sh ex hq3) wd_X0_makeLoop wk_X0_36 wi_X0_makeLoop ws_X0_makeLoop wz_X0 rfl rfl hd_X0_makeLoop ⟨by decide, by decide⟩ 2 rfl rfl rfl rfl (Nat.le_of_ble_eq_true rfl) (by decide) dX0_addStitch_43 ?_
        refine kj_iinc (pc := 46) C 3 [1, 2, 3, 0] (L2 := [(0, .ref (a 2)), (1, .int x1), (2, .int x2), (3, .int (x3 + (1 : Int32)))]) dX0_addStitch_46 rfl rfl (by decide) rfl ?_
        refine kj_goto (pc := 49) 29 C dX0_addStitch_49 (by decide) ?_
        exact ih29 x1 x2 (x3 + (1 : Int32)) q3 hf
  refine kj_sub [0, 1] (L2 := [(0, .ref (a 2)), (1, .int x1)]) rfl ?_
  rw [fe_X0_addStitch] at hf
  refine kj_iload_n (pc := 0) C 1 dX0_addStitch_0 rfl rfl ?_
  refine kj_callS0 (pc := 1) (as := [.int x1]) (rest := []) C (ct_X6_isCable l V A x1 (kb_W V a σ sh ex) rfl) wd_X6_isCable wk_X0_85 wi_X6_isCable wz_X6 rfl rfl hd_X6_isCable ⟨by decide, by decide⟩ rfl (Nat.le_of_ble_eq_true rfl) (by decide) dX0_addStitch_1 ?_
  refine kj_if_eq (pc := 4) 22 C dX0_addStitch_4 (by decide) (fun c1 => ?_) (fun c1 => ?_)
  · have hf := kb_ift hf c1
    refine kj_iload_n (pc := 22) C 1 dX0_addStitch_22 rfl rfl ?_
    obtain ⟨q2, hq2, hf⟩ := kb_bd hf
    refine kj_callS0 (pc := 23) (as := [.int x1]) (rest := []) C (ct_X6_loopsMade l V A x1 (kb_W V a σ sh ex) hq2) wd_X6_loopsMade wk_X0_82 wi_X6_loopsMade wz_X6 rfl rfl hd_X6_loopsMade ⟨by decide, by decide⟩ rfl (Nat.le_of_ble_eq_true rfl) (by decide) dX0_addStitch_23 ?_
    refine kj_istore_n (pc := 26) C [1, 2, 0] (L2 := [(0, .ref (a 2)), (1, .int x1), (2, .int q2)]) dX0_addStitch_26 rfl (by decide) rfl ?_
    refine kj_iconst (pc := 27) (v := (0 : Int32)) C dX0_addStitch_27 (by decide) ?_
    refine kj_istore_n (pc := 28) C [1, 2, 3, 0] (L2 := [(0, .ref (a 2)), (1, .int x1), (2, .int q2), (3, .int (0 : Int32))]) dX0_addStitch_28 rfl (by decide) rfl ?_
    exact hp29 kb_FU x1 q2 (0 : Int32) σ hf
  · have hf := kb_ife hf c1
    refine kj_aload_n (pc := 7) C 0 dX0_addStitch_7 rfl rfl ?_
    refine kj_iload_n (pc := 8) C 1 dX0_addStitch_8 rfl rfl ?_
    refine kj_callS0 (pc := 9) (as := [.int x1]) (rest := [.ref (a 2)]) C (ct_X6_cableA l V A x1 (kb_W V a σ sh ex) rfl) wd_X6_cableA wk_X0_89 wi_X6_cableA wz_X6 rfl rfl hd_X6_cableA ⟨by decide, by decide⟩ rfl (Nat.le_of_ble_eq_true rfl) (by decide) dX0_addStitch_9 ?_
    refine kj_iload_n (pc := 12) C 1 dX0_addStitch_12 rfl rfl ?_
    refine kj_callS0 (pc := 13) (as := [.int x1]) (rest := [.int (fn_X6_cableA x1), .ref (a 2)]) C (ct_X6_cableB l V A x1 (kb_W V a σ sh ex) rfl) wd_X6_cableB wk_X0_92 wi_X6_cableB wz_X6 rfl rfl hd_X6_cableB ⟨by decide, by decide⟩ rfl (Nat.le_of_ble_eq_true rfl) (by decide) dX0_addStitch_13 ?_
    obtain ⟨q2, hq2, hf⟩ := kb_bd hf
    refine kj_callV0 (pc := 16) (as := [.int (fn_X6_cableA x1), .int (fn_X6_cableB x1)]) (rest := []) (b := (a 2)) C (ct_X0_makeCableLoops l V A (fn_X6_cableA x1) (fn_X6_cableB x1) a σ sh ex hq2) wd_X0_makeCableLoops wk_X0_95 wi_X0_makeCableLoops ws_X0_makeCableLoops wz_X0 rfl rfl hd_X0_makeCableLoops ⟨by decide, by decide⟩ 2 rfl rfl rfl rfl (Nat.le_of_ble_eq_true rfl) (by decide) dX0_addStitch_16 ?_
    refine kj_goto (pc := 19) 52 C dX0_addStitch_19 (by decide) ?_
    exact hp52 x1 q2 hf
def fn_X0_faultOfRow   (σ : kb_S) : Option (Int32) :=
  if (fn_X0_leftCount  σ) ≤ 0 then
    (fn_X0_madeSoFar  σ).bind fun q2 =>
    if q2 ≤ (40 : Int32) then
      if (kb_g σ 2) < (30 : Int32) then
        some (0 : Int32)
      else
        some (9 : Int32)
    else
      some (8 : Int32)
  else
    some (7 : Int32)
theorem fe_X0_faultOfRow   (σ : kb_S) : fn_X0_faultOfRow   σ =
  if (fn_X0_leftCount  σ) ≤ 0 then
    (fn_X0_madeSoFar  σ).bind fun q2 =>
    if q2 ≤ (40 : Int32) then
      if (kb_g σ 2) < (30 : Int32) then
        some (0 : Int32)
      else
        some (9 : Int32)
    else
      some (8 : Int32)
  else
    some (7 : Int32) := rfl
theorem hd_X0_faultOfRow : yX0_faultOfRow.cls = RX0 ∧ yX0_faultOfRow.cls ≠ "java/lang/invoke/MethodHandle" ∧ yX0_faultOfRow.cls ≠ "java/lang/invoke/VarHandle" ∧ (parseMethodDescriptor yX0_faultOfRow.desc).map (fun d => d.parameters.length) = some 0 := by decide +kernel
set_option maxRecDepth 100000 in
set_option maxHeartbeats 4000000 in
theorem ct_X0_faultOfRow (l : Launch) (V : kb_V) (A : Nat → Prop)   (a : Nat → Nat) (σ : kb_S) (sh : Value) (ex : va_W) {r : Int32} (hf : fn_X0_faultOfRow   σ = some r) : kb_T l yX0_faultOfRow cX0_faultOfRow 1 (some .int) ({ frames := 2, cells := 0, slots := 0, locals := 40 } : Room) V A [.ref (a 2)] (kb_W V a σ sh ex) (some (.int r)) (kb_W V a σ sh ex) 0 0 := by
  refine kb_start (cc := cX0_faultOfRow) (nL := 1) (ret := (some .int)) (own := RX0) (by decide) rfl (Nat.le_of_ble_eq_true rfl) ?_
  intro p e s m args below meth c C
  refine kj_sub [0] (L2 := [(0, .ref (a 2))]) rfl ?_
  rw [fe_X0_faultOfRow] at hf
  refine kj_aload_n (pc := 0) C 0 dX0_faultOfRow_0 rfl rfl ?_
  refine kj_callV0 (pc := 1) (as := []) (rest := []) (b := (a 2)) C (ct_X0_leftCount l V A  a σ sh ex rfl) wd_X0_leftCount wk_X0_74 wi_X0_leftCount ws_X0_leftCount wz_X0 rfl rfl hd_X0_leftCount ⟨by decide, by decide⟩ 2 rfl rfl rfl rfl (Nat.le_of_ble_eq_true rfl) (by decide) dX0_faultOfRow_1 ?_
  refine kj_if_le (pc := 4) 10 C dX0_faultOfRow_4 (by decide) (fun c1 => ?_) (fun c1 => ?_)
  · have hf := kb_ift hf c1
    refine kj_aload_n (pc := 10) C 0 dX0_faultOfRow_10 rfl rfl ?_
    obtain ⟨q2, hq2, hf⟩ := kb_bd hf
    refine kj_callV0 (pc := 11) (as := []) (rest := []) (b := (a 2)) C (ct_X0_madeSoFar l V A  a σ sh ex hq2) wd_X0_madeSoFar wk_X0_79 wi_X0_madeSoFar ws_X0_madeSoFar wz_X0 rfl rfl hd_X0_madeSoFar ⟨by decide, by decide⟩ 2 rfl rfl rfl rfl (Nat.le_of_ble_eq_true rfl) (by decide) dX0_faultOfRow_11 ?_
    refine kj_bipush (pc := 14) (v := (40 : Int32)) C dX0_faultOfRow_14 (by decide) ?_
    refine kj_icmp_le (pc := 16) 22 C dX0_faultOfRow_16 (by decide) (fun c3 => ?_) (fun c3 => ?_)
    · have hf := kb_ift hf c3
      refine kj_aload_n (pc := 22) C 0 dX0_faultOfRow_22 rfl rfl ?_
      refine kg_X0_rowCount (pc := 23) (v := (kb_g σ 2)) C wf_X0_29 dX0_faultOfRow_23 rfl ?_
      refine kj_bipush (pc := 26) (v := (30 : Int32)) C dX0_faultOfRow_26 (by decide) ?_
      refine kj_icmp_lt (pc := 28) 36 C dX0_faultOfRow_28 (by decide) (fun c4 => ?_) (fun c4 => ?_)
      · have hf := kb_ift hf c4
        refine kj_iconst (pc := 36) (v := (0 : Int32)) C dX0_faultOfRow_36 (by decide) ?_
        cases hf
        exact kj_iret (pc := 37) C dX0_faultOfRow_37
      · have hf := kb_ife hf c4
        refine kj_bipush (pc := 31) (v := (9 : Int32)) C dX0_faultOfRow_31 (by decide) ?_
        refine kj_goto (pc := 33) 37 C dX0_faultOfRow_33 (by decide) ?_
        cases hf
        exact kj_iret (pc := 37) C dX0_faultOfRow_37
    · have hf := kb_ife hf c3
      refine kj_bipush (pc := 19) (v := (8 : Int32)) C dX0_faultOfRow_19 (by decide) ?_
      cases hf
      exact kj_iret (pc := 21) C dX0_faultOfRow_21
  · have hf := kb_ife hf c1
    refine kj_bipush (pc := 7) (v := (7 : Int32)) C dX0_faultOfRow_7 (by decide) ?_
    cases hf
    exact kj_iret (pc := 9) C dX0_faultOfRow_9
def fn_X0_keepRow   (σ : kb_S) : Option (kb_S) :=
  if (30 : Int32) ≤ (kb_g σ 2) then
    some σ
  else
    if kb_in (((kb_g σ 2) + (1 : Int32)) + (1 : Int32)) 32 = true then
      if kb_in (((kb_g σ 2) + (1 : Int32)) + (1 : Int32)) 32 = true then
        (fn_X0_fillNeedle  (kb_ap (kb_ap (kb_p σ 2 ((kb_g σ 2) + (1 : Int32))) 1 (((kb_g σ 2) + (1 : Int32)) + (1 : Int32)).toNatClampNeg (kb_g σ 7)) 2 (((kb_g σ 2) + (1 : Int32)) + (1 : Int32)).toNatClampNeg (kb_g σ 8))).bind fun q4 =>
        some q4
      else none
    else none
theorem fe_X0_keepRow   (σ : kb_S) : fn_X0_keepRow   σ =
  if (30 : Int32) ≤ (kb_g σ 2) then
    some σ
  else
    if kb_in (((kb_g σ 2) + (1 : Int32)) + (1 : Int32)) 32 = true then
      if kb_in (((kb_g σ 2) + (1 : Int32)) + (1 : Int32)) 32 = true then
        (fn_X0_fillNeedle  (kb_ap (kb_ap (kb_p σ 2 ((kb_g σ 2) + (1 : Int32))) 1 (((kb_g σ 2) + (1 : Int32)) + (1 : Int32)).toNatClampNeg (kb_g σ 7)) 2 (((kb_g σ 2) + (1 : Int32)) + (1 : Int32)).toNatClampNeg (kb_g σ 8))).bind fun q4 =>
        some q4
      else none
    else none := rfl
theorem hd_X0_keepRow : yX0_keepRow.cls = RX0 ∧ yX0_keepRow.cls ≠ "java/lang/invoke/MethodHandle" ∧ yX0_keepRow.cls ≠ "java/lang/invoke/VarHandle" ∧ (parseMethodDescriptor yX0_keepRow.desc).map (fun d => d.parameters.length) = some 0 := by decide +kernel
set_option maxRecDepth 100000 in
set_option maxHeartbeats 4000000 in
theorem ct_X0_keepRow (l : Launch) (V : kb_V) (A : Nat → Prop)   (a : Nat → Nat) (σ : kb_S) (sh : Value) (ex : va_W) {σ9 : kb_S} (hf : fn_X0_keepRow   σ = some σ9) : kb_T l yX0_keepRow cX0_keepRow 1 none ({ frames := 1, cells := 0, slots := 0, locals := 22 } : Room) V A [.ref (a 2)] (kb_W V a σ sh ex) none (kb_W V a σ9 sh ex) 0 0 := by
  refine kb_start (cc := cX0_keepRow) (nL := 1) (ret := none) (own := RX0) (by decide) rfl (Nat.le_of_ble_eq_true rfl) ?_
  intro p e s m args below meth c C
  refine kj_sub [0] (L2 := [(0, .ref (a 2))]) rfl ?_
  rw [fe_X0_keepRow] at hf
  refine kj_aload_n (pc := 0) C 0 dX0_keepRow_0 rfl rfl ?_
  refine kg_X0_rowCount (pc := 1) (v := (kb_g σ 2)) C wf_X0_29 dX0_keepRow_1 rfl ?_
  refine kj_bipush (pc := 4) (v := (30 : Int32)) C dX0_keepRow_4 (by decide) ?_
  refine kj_icmp_ge (pc := 6) 53 C dX0_keepRow_6 (by decide) (fun c1 => ?_) (fun c1 => ?_)
  · have hf := kb_ift hf c1
    cases hf
    exact kj_vret (pc := 53) C dX0_keepRow_53
  · have hf := kb_ife hf c1
    refine kj_aload_n (pc := 9) C 0 dX0_keepRow_9 rfl rfl ?_
    refine kj_dup (pc := 10) C dX0_keepRow_10 rfl ?_
    refine kg_X0_rowCount (pc := 11) (v := (kb_g σ 2)) C wf_X0_29 dX0_keepRow_11 rfl ?_
    refine kj_iconst (pc := 14) (v := (1 : Int32)) C dX0_keepRow_14 (by decide) ?_
    refine kj_iadd (pc := 15) C dX0_keepRow_15 ?_
    refine kp_X0_rowCount (pc := 16) C wf_X0_29 dX0_keepRow_16 ?_
    refine kj_aload_n (pc := 19) C 0 dX0_keepRow_19 rfl rfl ?_
    refine kg_X0_firstLoops (pc := 20) C wf_X0_9 dX0_keepRow_20 ?_
    refine kj_aload_n (pc := 23) C 0 dX0_keepRow_23 rfl rfl ?_
    refine kg_X0_rowCount (pc := 24) (v := ((kb_g σ 2) + (1 : Int32))) C wf_X0_29 dX0_keepRow_24 rfl ?_
    refine kj_iconst (pc := 27) (v := (1 : Int32)) C dX0_keepRow_27 (by decide) ?_
    refine kj_iadd (pc := 28) C dX0_keepRow_28 ?_
    refine kj_aload_n (pc := 29) C 0 dX0_keepRow_29 rfl rfl ?_
    refine kg_X0_loopEnd (pc := 30) (v := (kb_g σ 7)) C wf_X0_33 dX0_keepRow_30 rfl ?_
    obtain ⟨g2, hf⟩ := kb_gd hf
    refine ks_X0_firstLoops (pc := 33) C g2 dX0_keepRow_33 ?_
    refine kj_aload_n (pc := 34) C 0 dX0_keepRow_34 rfl rfl ?_
    refine kg_X0_firstStitches (pc := 35) C wf_X0_13 dX0_keepRow_35 ?_
    refine kj_aload_n (pc := 38) C 0 dX0_keepRow_38 rfl rfl ?_
    refine kg_X0_rowCount (pc := 39) (v := ((kb_g σ 2) + (1 : Int32))) C wf_X0_29 dX0_keepRow_39 rfl ?_
    refine kj_iconst (pc := 42) (v := (1 : Int32)) C dX0_keepRow_42 (by decide) ?_
    refine kj_iadd (pc := 43) C dX0_keepRow_43 ?_
    refine kj_aload_n (pc := 44) C 0 dX0_keepRow_44 rfl rfl ?_
    refine kg_X0_stitchEnd (pc := 45) (v := (kb_g σ 8)) C wf_X0_65 dX0_keepRow_45 rfl ?_
    obtain ⟨g3, hf⟩ := kb_gd hf
    refine ks_X0_firstStitches (pc := 48) C g3 dX0_keepRow_48 ?_
    refine kj_aload_n (pc := 49) C 0 dX0_keepRow_49 rfl rfl ?_
    obtain ⟨q4, hq4, hf⟩ := kb_bd hf
    refine kj_callV0 (pc := 50) (as := []) (rest := []) (b := (a 2)) C (ct_X0_fillNeedle l V A  a (kb_ap (kb_ap (kb_p σ 2 ((kb_g σ 2) + (1 : Int32))) 1 (((kb_g σ 2) + (1 : Int32)) + (1 : Int32)).toNatClampNeg (kb_g σ 7)) 2 (((kb_g σ 2) + (1 : Int32)) + (1 : Int32)).toNatClampNeg (kb_g σ 8)) sh ex hq4) wd_X0_fillNeedle wk_X0_40 wi_X0_fillNeedle ws_X0_fillNeedle wz_X0 rfl rfl hd_X0_fillNeedle ⟨by decide, by decide⟩ 2 rfl rfl rfl rfl (Nat.le_of_ble_eq_true rfl) (by decide) dX0_keepRow_50 ?_
    cases hf
    exact kj_vret (pc := 53) C dX0_keepRow_53
def fn_X0_liveCount   (σ : kb_S) : Int32 :=
  (kb_g σ 3)
theorem fe_X0_liveCount   (σ : kb_S) : fn_X0_liveCount   σ =
  (kb_g σ 3) := rfl
theorem hd_X0_liveCount : yX0_liveCount.cls = RX0 ∧ yX0_liveCount.cls ≠ "java/lang/invoke/MethodHandle" ∧ yX0_liveCount.cls ≠ "java/lang/invoke/VarHandle" ∧ (parseMethodDescriptor yX0_liveCount.desc).map (fun d => d.parameters.length) = some 0 := by decide +kernel
set_option maxRecDepth 100000 in
set_option maxHeartbeats 4000000 in
theorem ct_X0_liveCount (l : Launch) (V : kb_V) (A : Nat → Prop)   (a : Nat → Nat) (σ : kb_S) (sh : Value) (ex : va_W) {r : Int32} (hf : fn_X0_liveCount   σ = r) : kb_T l yX0_liveCount cX0_liveCount 1 (some .int) ({ frames := 0, cells := 0, slots := 0, locals := 0 } : Room) V A [.ref (a 2)] (kb_W V a σ sh ex) (some (.int r)) (kb_W V a σ sh ex) 0 0 := by
  refine kb_start (cc := cX0_liveCount) (nL := 1) (ret := (some .int)) (own := RX0) (by decide) rfl (Nat.le_of_ble_eq_true rfl) ?_
  intro p e s m args below meth c C
  refine kj_sub [0] (L2 := [(0, .ref (a 2))]) rfl ?_
  rw [fe_X0_liveCount] at hf
  refine kj_aload_n (pc := 0) C 0 dX0_liveCount_0 rfl rfl ?_
  refine kg_X0_needleCount (pc := 1) (v := (kb_g σ 3)) C wf_X0_49 dX0_liveCount_1 rfl ?_
  subst hf
  exact kj_iret (pc := 4) C dX0_liveCount_4
def fn_X0_hasRow  (x1 : Int32) (σ : kb_S) : Int32 :=
  if x1 < 0 then
    (0 : Int32)
  else
    if (kb_g σ 2) < x1 then
      (0 : Int32)
    else
      (1 : Int32)
theorem fe_X0_hasRow  (x1 : Int32) (σ : kb_S) : fn_X0_hasRow  x1 σ =
  if x1 < 0 then
    (0 : Int32)
  else
    if (kb_g σ 2) < x1 then
      (0 : Int32)
    else
      (1 : Int32) := rfl
theorem hd_X0_hasRow : yX0_hasRow.cls = RX0 ∧ yX0_hasRow.cls ≠ "java/lang/invoke/MethodHandle" ∧ yX0_hasRow.cls ≠ "java/lang/invoke/VarHandle" ∧ (parseMethodDescriptor yX0_hasRow.desc).map (fun d => d.parameters.length) = some 1 := by decide +kernel
set_option maxRecDepth 100000 in
set_option maxHeartbeats 4000000 in
theorem ct_X0_hasRow (l : Launch) (V : kb_V) (A : Nat → Prop)  (x1 : Int32) (a : Nat → Nat) (σ : kb_S) (sh : Value) (ex : va_W) {r : Int32} (hf : fn_X0_hasRow  x1 σ = r) : kb_T l yX0_hasRow cX0_hasRow 2 (some .boolean) ({ frames := 0, cells := 0, slots := 0, locals := 0 } : Room) V A [.ref (a 2), .int x1] (kb_W V a σ sh ex) (some (.int r)) (kb_W V a σ sh ex) 0 0 := by
  refine kb_start (cc := cX0_hasRow) (nL := 2) (ret := (some .boolean)) (own := RX0) (by decide) rfl (Nat.le_of_ble_eq_true rfl) ?_
  intro p e s m args below meth c C
  refine kj_sub [0, 1] (L2 := [(0, .ref (a 2)), (1, .int x1)]) rfl ?_
  rw [fe_X0_hasRow] at hf
  refine kj_iload_n (pc := 0) C 1 dX0_hasRow_0 rfl rfl ?_
  refine kj_if_lt (pc := 1) 16 C dX0_hasRow_1 (by decide) (fun c1 => ?_) (fun c1 => ?_)
  · have hf := kb_ift hf c1
    refine kj_iconst (pc := 16) (v := (0 : Int32)) C dX0_hasRow_16 (by decide) ?_
    subst hf
    exact kj_zret (pc := 17) C (by decide) dX0_hasRow_17
  · have hf := kb_ife hf c1
    refine kj_iload_n (pc := 4) C 1 dX0_hasRow_4 rfl rfl ?_
    refine kj_aload_n (pc := 5) C 0 dX0_hasRow_5 rfl rfl ?_
    refine kg_X0_rowCount (pc := 6) (v := (kb_g σ 2)) C wf_X0_29 dX0_hasRow_6 rfl ?_
    refine kj_icmp_gt (pc := 9) 16 C dX0_hasRow_9 (by decide) (fun c2 => ?_) (fun c2 => ?_)
    · have hf := kb_ift hf c2
      refine kj_iconst (pc := 16) (v := (0 : Int32)) C dX0_hasRow_16 (by decide) ?_
      subst hf
      exact kj_zret (pc := 17) C (by decide) dX0_hasRow_17
    · have hf := kb_ife hf c2
      refine kj_iconst (pc := 12) (v := (1 : Int32)) C dX0_hasRow_12 (by decide) ?_
      refine kj_goto (pc := 13) 17 C dX0_hasRow_13 (by decide) ?_
      subst hf
      exact kj_zret (pc := 17) C (by decide) dX0_hasRow_17
def fn_X0_hasLoop  (x1 : Int32) (σ : kb_S) : Option (Int32) :=
  if x1 < 0 then
    some (0 : Int32)
  else
    (fn_X0_loopCount  σ).bind fun q2 =>
    if q2 ≤ x1 then
      some (0 : Int32)
    else
      some (1 : Int32)
theorem fe_X0_hasLoop  (x1 : Int32) (σ : kb_S) : fn_X0_hasLoop  x1 σ =
  if x1 < 0 then
    some (0 : Int32)
  else
    (fn_X0_loopCount  σ).bind fun q2 =>
    if q2 ≤ x1 then
      some (0 : Int32)
    else
      some (1 : Int32) := rfl
theorem hd_X0_hasLoop : yX0_hasLoop.cls = RX0 ∧ yX0_hasLoop.cls ≠ "java/lang/invoke/MethodHandle" ∧ yX0_hasLoop.cls ≠ "java/lang/invoke/VarHandle" ∧ (parseMethodDescriptor yX0_hasLoop.desc).map (fun d => d.parameters.length) = some 1 := by decide +kernel
set_option maxRecDepth 100000 in
set_option maxHeartbeats 4000000 in
theorem ct_X0_hasLoop (l : Launch) (V : kb_V) (A : Nat → Prop)  (x1 : Int32) (a : Nat → Nat) (σ : kb_S) (sh : Value) (ex : va_W) {r : Int32} (hf : fn_X0_hasLoop  x1 σ = some r) : kb_T l yX0_hasLoop cX0_hasLoop 2 (some .boolean) ({ frames := 1, cells := 0, slots := 0, locals := 20 } : Room) V A [.ref (a 2), .int x1] (kb_W V a σ sh ex) (some (.int r)) (kb_W V a σ sh ex) 0 0 := by
  refine kb_start (cc := cX0_hasLoop) (nL := 2) (ret := (some .boolean)) (own := RX0) (by decide) rfl (Nat.le_of_ble_eq_true rfl) ?_
  intro p e s m args below meth c C
  refine kj_sub [0, 1] (L2 := [(0, .ref (a 2)), (1, .int x1)]) rfl ?_
  rw [fe_X0_hasLoop] at hf
  refine kj_iload_n (pc := 0) C 1 dX0_hasLoop_0 rfl rfl ?_
  refine kj_if_lt (pc := 1) 16 C dX0_hasLoop_1 (by decide) (fun c1 => ?_) (fun c1 => ?_)
  · have hf := kb_ift hf c1
    refine kj_iconst (pc := 16) (v := (0 : Int32)) C dX0_hasLoop_16 (by decide) ?_
    cases hf
    exact kj_zret (pc := 17) C (by decide) dX0_hasLoop_17
  · have hf := kb_ife hf c1
    refine kj_iload_n (pc := 4) C 1 dX0_hasLoop_4 rfl rfl ?_
    refine kj_aload_n (pc := 5) C 0 dX0_hasLoop_5 rfl rfl ?_
    obtain ⟨q2, hq2, hf⟩ := kb_bd hf
    refine kj_callV0 (pc := 6) (as := []) (rest := [.int x1]) (b := (a 2)) C (ct_X0_loopCount l V A  a σ sh ex hq2) wd_X0_loopCount wk_X0_61 wi_X0_loopCount ws_X0_loopCount wz_X0 rfl rfl hd_X0_loopCount ⟨by decide, by decide⟩ 2 rfl rfl rfl rfl (Nat.le_of_ble_eq_true rfl) (by decide) dX0_hasLoop_6 ?_
    refine kj_icmp_ge (pc := 9) 16 C dX0_hasLoop_9 (by decide) (fun c3 => ?_) (fun c3 => ?_)
    · have hf := kb_ift hf c3
      refine kj_iconst (pc := 16) (v := (0 : Int32)) C dX0_hasLoop_16 (by decide) ?_
      cases hf
      exact kj_zret (pc := 17) C (by decide) dX0_hasLoop_17
    · have hf := kb_ife hf c3
      refine kj_iconst (pc := 12) (v := (1 : Int32)) C dX0_hasLoop_12 (by decide) ?_
      refine kj_goto (pc := 13) 17 C dX0_hasLoop_13 (by decide) ?_
      cases hf
      exact kj_zret (pc := 17) C (by decide) dX0_hasLoop_17
def fn_X0_madeIn  (x1 : Int32) (σ : kb_S) : Option (Int32) :=
  if (fn_X0_hasRow x1 σ) = 0 then
    some (0 : Int32)
  else
    if kb_in (x1 + (1 : Int32)) 32 = true then
      if kb_in x1 32 = true then
        some ((kb_a σ 1 (x1 + (1 : Int32)).toNatClampNeg) - (kb_a σ 1 x1.toNatClampNeg))
      else none
    else none
theorem fe_X0_madeIn  (x1 : Int32) (σ : kb_S) : fn_X0_madeIn  x1 σ =
  if (fn_X0_hasRow x1 σ) = 0 then
    some (0 : Int32)
  else
    if kb_in (x1 + (1 : Int32)) 32 = true then
      if kb_in x1 32 = true then
        some ((kb_a σ 1 (x1 + (1 : Int32)).toNatClampNeg) - (kb_a σ 1 x1.toNatClampNeg))
      else none
    else none := rfl
theorem hd_X0_madeIn : yX0_madeIn.cls = RX0 ∧ yX0_madeIn.cls ≠ "java/lang/invoke/MethodHandle" ∧ yX0_madeIn.cls ≠ "java/lang/invoke/VarHandle" ∧ (parseMethodDescriptor yX0_madeIn.desc).map (fun d => d.parameters.length) = some 1 := by decide +kernel
set_option maxRecDepth 100000 in
set_option maxHeartbeats 4000000 in
theorem ct_X0_madeIn (l : Launch) (V : kb_V) (A : Nat → Prop)  (x1 : Int32) (a : Nat → Nat) (σ : kb_S) (sh : Value) (ex : va_W) {r : Int32} (hf : fn_X0_madeIn  x1 σ = some r) : kb_T l yX0_madeIn cX0_madeIn 2 (some .int) ({ frames := 1, cells := 0, slots := 0, locals := 21 } : Room) V A [.ref (a 2), .int x1] (kb_W V a σ sh ex) (some (.int r)) (kb_W V a σ sh ex) 0 0 := by
  refine kb_start (cc := cX0_madeIn) (nL := 2) (ret := (some .int)) (own := RX0) (by decide) rfl (Nat.le_of_ble_eq_true rfl) ?_
  intro p e s m args below meth c C
  refine kj_sub [0, 1] (L2 := [(0, .ref (a 2)), (1, .int x1)]) rfl ?_
  rw [fe_X0_madeIn] at hf
  refine kj_aload_n (pc := 0) C 0 dX0_madeIn_0 rfl rfl ?_
  refine kj_iload_n (pc := 1) C 1 dX0_madeIn_1 rfl rfl ?_
  refine kj_callV0 (pc := 2) (as := [.int x1]) (rest := []) (b := (a 2)) C (ct_X0_hasRow l V A x1 a σ sh ex rfl) wd_X0_hasRow wk_X0_101 wi_X0_hasRow ws_X0_hasRow wz_X0 rfl rfl hd_X0_hasRow ⟨by decide, by decide⟩ 2 rfl rfl rfl rfl (Nat.le_of_ble_eq_true rfl) (by decide) dX0_madeIn_2 ?_
  refine kj_if_eq (pc := 5) 26 C dX0_madeIn_5 (by decide) (fun c1 => ?_) (fun c1 => ?_)
  · have hf := kb_ift hf c1
    refine kj_iconst (pc := 26) (v := (0 : Int32)) C dX0_madeIn_26 (by decide) ?_
    cases hf
    exact kj_iret (pc := 27) C dX0_madeIn_27
  · have hf := kb_ife hf c1
    refine kj_aload_n (pc := 8) C 0 dX0_madeIn_8 rfl rfl ?_
    refine kg_X0_firstLoops (pc := 9) C wf_X0_9 dX0_madeIn_9 ?_
    refine kj_iload_n (pc := 12) C 1 dX0_madeIn_12 rfl rfl ?_
    refine kj_iconst (pc := 13) (v := (1 : Int32)) C dX0_madeIn_13 (by decide) ?_
    refine kj_iadd (pc := 14) C dX0_madeIn_14 ?_
    obtain ⟨g2, hf⟩ := kb_gd hf
    refine ka_X0_firstLoops (pc := 15) (v := (kb_a σ 1 (x1 + (1 : Int32)).toNatClampNeg)) C g2 dX0_madeIn_15 rfl ?_
    refine kj_aload_n (pc := 16) C 0 dX0_madeIn_16 rfl rfl ?_
    refine kg_X0_firstLoops (pc := 17) C wf_X0_9 dX0_madeIn_17 ?_
    refine kj_iload_n (pc := 20) C 1 dX0_madeIn_20 rfl rfl ?_
    obtain ⟨g3, hf⟩ := kb_gd hf
    refine ka_X0_firstLoops (pc := 21) (v := (kb_a σ 1 x1.toNatClampNeg)) C g3 dX0_madeIn_21 rfl ?_
    refine kj_isub (pc := 22) C dX0_madeIn_22 ?_
    refine kj_goto (pc := 23) 27 C dX0_madeIn_23 (by decide) ?_
    cases hf
    exact kj_iret (pc := 27) C dX0_madeIn_27
def fp_X0_bornIn_2   : Nat → Int32 → Int32 → kb_S → Option (Int32)
  | 0 => fun _ _ _ => none
  | nn + 1 => fun x1 x2 σ => 
  if (kb_g σ 2) ≤ x2 then
    some (kb_g σ 2)
  else
    if kb_in (x2 + (1 : Int32)) 32 = true then
      if (kb_a σ 1 (x2 + (1 : Int32)).toNatClampNeg) ≤ x1 then
        (fp_X0_bornIn_2  nn) x1 (x2 + (1 : Int32)) σ
      else
        some x2
    else none
theorem fp_X0_bornIn_2_s   (nn : Nat) (x1 : Int32) (x2 : Int32) (σ : kb_S) : fp_X0_bornIn_2  (nn + 1) x1 x2 σ =
  if (kb_g σ 2) ≤ x2 then
    some (kb_g σ 2)
  else
    if kb_in (x2 + (1 : Int32)) 32 = true then
      if (kb_a σ 1 (x2 + (1 : Int32)).toNatClampNeg) ≤ x1 then
        (fp_X0_bornIn_2  nn) x1 (x2 + (1 : Int32)) σ
      else
        some x2
    else none := rfl
def fn_X0_bornIn  (x1 : Int32) (σ : kb_S) : Option (Int32) :=
  fp_X0_bornIn_2   kb_FU x1 (0 : Int32) σ
theorem fe_X0_bornIn  (x1 : Int32) (σ : kb_S) : fn_X0_bornIn  x1 σ =
  fp_X0_bornIn_2   kb_FU x1 (0 : Int32) σ := rfl
theorem hd_X0_bornIn : yX0_bornIn.cls = RX0 ∧ yX0_bornIn.cls ≠ "java/lang/invoke/MethodHandle" ∧ yX0_bornIn.cls ≠ "java/lang/invoke/VarHandle" ∧ (parseMethodDescriptor yX0_bornIn.desc).map (fun d => d.parameters.length) = some 1 := by decide +kernel
set_option maxRecDepth 100000 in
set_option maxHeartbeats 4000000 in
theorem ct_X0_bornIn (l : Launch) (V : kb_V) (A : Nat → Prop)  (x1 : Int32) (a : Nat → Nat) (σ : kb_S) (sh : Value) (ex : va_W) {r : Int32} (hf : fn_X0_bornIn  x1 σ = some r) : kb_T l yX0_bornIn cX0_bornIn 3 (some .int) ({ frames := 0, cells := 0, slots := 0, locals := 0 } : Room) V A [.ref (a 2), .int x1] (kb_W V a σ sh ex) (some (.int r)) (kb_W V a σ sh ex) 0 0 := by
  refine kb_start (cc := cX0_bornIn) (nL := 3) (ret := (some .int)) (own := RX0) (by decide) rfl (Nat.le_of_ble_eq_true rfl) ?_
  intro p e s m args below meth c C
  have hp2 : ∀ (nn : Nat) (x1 : Int32) (x2 : Int32) (σ : kb_S), fp_X0_bornIn_2   nn x1 x2 σ = some r → kb_J p l e ({ frames := 0, cells := 0, slots := 0, locals := 0 } : Room) s m args below meth c 3 V A 0 0 (MQ below (kb_post V A (some (.int r)) (kb_W V a σ sh ex)) args s 0 0 A) 2 [(0, .ref (a 2)), (1, .int x1), (2, .int x2)] [] (kb_W V a σ sh ex) := by
    intro nn2
    induction nn2 with
    | zero => intro x1 x2 σ hf; exact kb_no hf
    | succ nn2 ih2 =>
      intro x1 x2 σ hf
      rw [fp_X0_bornIn_2_s] at hf
      refine kj_iload_n (pc := 2) C 2 dX0_bornIn_2 rfl rfl ?_
      refine kj_aload_n (pc := 3) C 0 dX0_bornIn_3 rfl rfl ?_
      refine kg_X0_rowCount (pc := 4) (v := (kb_g σ 2)) C wf_X0_29 dX0_bornIn_4 rfl ?_
      refine kj_icmp_ge (pc := 7) 30 C dX0_bornIn_7 (by decide) (fun c1 => ?_) (fun c1 => ?_)
      · have hf := kb_ift hf c1
        refine kj_aload_n (pc := 30) C 0 dX0_bornIn_30 rfl rfl ?_
        refine kg_X0_rowCount (pc := 31) (v := (kb_g σ 2)) C wf_X0_29 dX0_bornIn_31 rfl ?_
        cases hf
        exact kj_iret (pc := 34) C dX0_bornIn_34
      · have hf := kb_ife hf c1
        refine kj_iload_n (pc := 10) C 1 dX0_bornIn_10 rfl rfl ?_
        refine kj_aload_n (pc := 11) C 0 dX0_bornIn_11 rfl rfl ?_
        refine kg_X0_firstLoops (pc := 12) C wf_X0_9 dX0_bornIn_12 ?_
        refine kj_iload_n (pc := 15) C 2 dX0_bornIn_15 rfl rfl ?_
        refine kj_iconst (pc := 16) (v := (1 : Int32)) C dX0_bornIn_16 (by decide) ?_
        refine kj_iadd (pc := 17) C dX0_bornIn_17 ?_
        obtain ⟨g2, hf⟩ := kb_gd hf
        refine ka_X0_firstLoops (pc := 18) (v := (kb_a σ 1 (x2 + (1 : Int32)).toNatClampNeg)) C g2 dX0_bornIn_18 rfl ?_
        refine kj_icmp_ge (pc := 19) 24 C dX0_bornIn_19 (by decide) (fun c3 => ?_) (fun c3 => ?_)
        · have hf := kb_ift hf c3
          refine kj_iinc (pc := 24) C 2 [1, 2, 0] (L2 := [(0, .ref (a 2)), (1, .int x1), (2, .int (x2 + (1 : Int32)))]) dX0_bornIn_24 rfl rfl (by decide) rfl ?_
          refine kj_goto (pc := 27) 2 C dX0_bornIn_27 (by decide) ?_
          exact ih2 x1 (x2 + (1 : Int32)) σ hf
        · have hf := kb_ife hf c3
          refine kj_iload_n (pc := 22) C 2 dX0_bornIn_22 rfl rfl ?_
          cases hf
          exact kj_iret (pc := 23) C dX0_bornIn_23
  refine kj_sub [0, 1] (L2 := [(0, .ref (a 2)), (1, .int x1)]) rfl ?_
  rw [fe_X0_bornIn] at hf
  refine kj_iconst (pc := 0) (v := (0 : Int32)) C dX0_bornIn_0 (by decide) ?_
  refine kj_istore_n (pc := 1) C [1, 2, 0] (L2 := [(0, .ref (a 2)), (1, .int x1), (2, .int (0 : Int32))]) dX0_bornIn_1 rfl (by decide) rfl ?_
  exact hp2 kb_FU x1 (0 : Int32) σ hf
def fn_X0_diedIn  (x1 : Int32) (σ : kb_S) : Option (Int32) :=
  (fn_X0_bornIn x1 σ).bind fun q1 =>
  if (kb_g σ 2) ≤ q1 then
    some (0 : Int32)
  else
    some (q1 + (1 : Int32))
theorem fe_X0_diedIn  (x1 : Int32) (σ : kb_S) : fn_X0_diedIn  x1 σ =
  (fn_X0_bornIn x1 σ).bind fun q1 =>
  if (kb_g σ 2) ≤ q1 then
    some (0 : Int32)
  else
    some (q1 + (1 : Int32)) := rfl
theorem hd_X0_diedIn : yX0_diedIn.cls = RX0 ∧ yX0_diedIn.cls ≠ "java/lang/invoke/MethodHandle" ∧ yX0_diedIn.cls ≠ "java/lang/invoke/VarHandle" ∧ (parseMethodDescriptor yX0_diedIn.desc).map (fun d => d.parameters.length) = some 1 := by decide +kernel
set_option maxRecDepth 100000 in
set_option maxHeartbeats 4000000 in
theorem ct_X0_diedIn (l : Launch) (V : kb_V) (A : Nat → Prop)  (x1 : Int32) (a : Nat → Nat) (σ : kb_S) (sh : Value) (ex : va_W) {r : Int32} (hf : fn_X0_diedIn  x1 σ = some r) : kb_T l yX0_diedIn cX0_diedIn 3 (some .int) ({ frames := 1, cells := 0, slots := 0, locals := 22 } : Room) V A [.ref (a 2), .int x1] (kb_W V a σ sh ex) (some (.int r)) (kb_W V a σ sh ex) 0 0 := by
  refine kb_start (cc := cX0_diedIn) (nL := 3) (ret := (some .int)) (own := RX0) (by decide) rfl (Nat.le_of_ble_eq_true rfl) ?_
  intro p e s m args below meth c C
  refine kj_sub [0, 1] (L2 := [(0, .ref (a 2)), (1, .int x1)]) rfl ?_
  rw [fe_X0_diedIn] at hf
  refine kj_aload_n (pc := 0) C 0 dX0_diedIn_0 rfl rfl ?_
  refine kj_iload_n (pc := 1) C 1 dX0_diedIn_1 rfl rfl ?_
  obtain ⟨q1, hq1, hf⟩ := kb_bd hf
  refine kj_callV0 (pc := 2) (as := [.int x1]) (rest := []) (b := (a 2)) C (ct_X0_bornIn l V A x1 a σ sh ex hq1) wd_X0_bornIn wk_X0_104 wi_X0_bornIn ws_X0_bornIn wz_X0 rfl rfl hd_X0_bornIn ⟨by decide, by decide⟩ 2 rfl rfl rfl rfl (Nat.le_of_ble_eq_true rfl) (by decide) dX0_diedIn_2 ?_
  refine kj_istore_n (pc := 5) C [1, 2, 0] (L2 := [(0, .ref (a 2)), (1, .int x1), (2, .int q1)]) dX0_diedIn_5 rfl (by decide) rfl ?_
  refine kj_iload_n (pc := 6) C 2 dX0_diedIn_6 rfl rfl ?_
  refine kj_aload_n (pc := 7) C 0 dX0_diedIn_7 rfl rfl ?_
  refine kg_X0_rowCount (pc := 8) (v := (kb_g σ 2)) C wf_X0_29 dX0_diedIn_8 rfl ?_
  refine kj_icmp_ge (pc := 11) 20 C dX0_diedIn_11 (by decide) (fun c2 => ?_) (fun c2 => ?_)
  · have hf := kb_ift hf c2
    refine kj_iconst (pc := 20) (v := (0 : Int32)) C dX0_diedIn_20 (by decide) ?_
    cases hf
    exact kj_iret (pc := 21) C dX0_diedIn_21
  · have hf := kb_ife hf c2
    refine kj_iload_n (pc := 14) C 2 dX0_diedIn_14 rfl rfl ?_
    refine kj_iconst (pc := 15) (v := (1 : Int32)) C dX0_diedIn_15 (by decide) ?_
    refine kj_iadd (pc := 16) C dX0_diedIn_16 ?_
    refine kj_goto (pc := 17) 21 C dX0_diedIn_17 (by decide) ?_
    cases hf
    exact kj_iret (pc := 21) C dX0_diedIn_21
def fn_X0_parentCount  (x1 : Int32) (σ : kb_S) : Option (Int32) :=
  (fn_X0_hasLoop x1 σ).bind fun q1 =>
  if q1 = 0 then
    some (0 : Int32)
  else
    if kb_in x1 600 = true then
      some (kb_a σ 4 x1.toNatClampNeg)
    else none
theorem fe_X0_parentCount  (x1 : Int32) (σ : kb_S) : fn_X0_parentCount  x1 σ =
  (fn_X0_hasLoop x1 σ).bind fun q1 =>
  if q1 = 0 then
    some (0 : Int32)
  else
    if kb_in x1 600 = true then
      some (kb_a σ 4 x1.toNatClampNeg)
    else none := rfl
theorem hd_X0_parentCount : yX0_parentCount.cls = RX0 ∧ yX0_parentCount.cls ≠ "java/lang/invoke/MethodHandle" ∧ yX0_parentCount.cls ≠ "java/lang/invoke/VarHandle" ∧ (parseMethodDescriptor yX0_parentCount.desc).map (fun d => d.parameters.length) = some 1 := by decide +kernel
set_option maxRecDepth 100000 in
set_option maxHeartbeats 4000000 in
theorem ct_X0_parentCount (l : Launch) (V : kb_V) (A : Nat → Prop)  (x1 : Int32) (a : Nat → Nat) (σ : kb_S) (sh : Value) (ex : va_W) {r : Int32} (hf : fn_X0_parentCount  x1 σ = some r) : kb_T l yX0_parentCount cX0_parentCount 2 (some .int) ({ frames := 2, cells := 0, slots := 0, locals := 41 } : Room) V A [.ref (a 2), .int x1] (kb_W V a σ sh ex) (some (.int r)) (kb_W V a σ sh ex) 0 0 := by
  refine kb_start (cc := cX0_parentCount) (nL := 2) (ret := (some .int)) (own := RX0) (by decide) rfl (Nat.le_of_ble_eq_true rfl) ?_
  intro p e s m args below meth c C
  refine kj_sub [0, 1] (L2 := [(0, .ref (a 2)), (1, .int x1)]) rfl ?_
  rw [fe_X0_parentCount] at hf
  refine kj_aload_n (pc := 0) C 0 dX0_parentCount_0 rfl rfl ?_
  refine kj_iload_n (pc := 1) C 1 dX0_parentCount_1 rfl rfl ?_
  obtain ⟨q1, hq1, hf⟩ := kb_bd hf
  refine kj_callV0 (pc := 2) (as := [.int x1]) (rest := []) (b := (a 2)) C (ct_X0_hasLoop l V A x1 a σ sh ex hq1) wd_X0_hasLoop wk_X0_107 wi_X0_hasLoop ws_X0_hasLoop wz_X0 rfl rfl hd_X0_hasLoop ⟨by decide, by decide⟩ 2 rfl rfl rfl rfl (Nat.le_of_ble_eq_true rfl) (by decide) dX0_parentCount_2 ?_
  refine kj_if_eq (pc := 5) 17 C dX0_parentCount_5 (by decide) (fun c2 => ?_) (fun c2 => ?_)
  · have hf := kb_ift hf c2
    refine kj_iconst (pc := 17) (v := (0 : Int32)) C dX0_parentCount_17 (by decide) ?_
    cases hf
    exact kj_iret (pc := 18) C dX0_parentCount_18
  · have hf := kb_ife hf c2
    refine kj_aload_n (pc := 8) C 0 dX0_parentCount_8 rfl rfl ?_
    refine kg_X0_parentCounts (pc := 9) C wf_X0_19 dX0_parentCount_9 ?_
    refine kj_iload_n (pc := 12) C 1 dX0_parentCount_12 rfl rfl ?_
    obtain ⟨g3, hf⟩ := kb_gd hf
    refine ka_X0_parentCounts (pc := 13) (v := (kb_a σ 4 x1.toNatClampNeg)) C g3 dX0_parentCount_13 rfl ?_
    refine kj_goto (pc := 14) 18 C dX0_parentCount_14 (by decide) ?_
    cases hf
    exact kj_iret (pc := 18) C dX0_parentCount_18
def fn_X0_parent  (x1 : Int32) (x2 : Int32) (σ : kb_S) : Option (Int32) :=
  (fn_X0_hasLoop x1 σ).bind fun q1 =>
  if q1 = 0 then
    some (-1 : Int32)
  else
    if kb_in x1 600 = true then
      some ((kb_a σ 5 x1.toNatClampNeg) + (x2 * (kb_g σ 5)))
    else none
theorem fe_X0_parent  (x1 : Int32) (x2 : Int32) (σ : kb_S) : fn_X0_parent  x1 x2 σ =
  (fn_X0_hasLoop x1 σ).bind fun q1 =>
  if q1 = 0 then
    some (-1 : Int32)
  else
    if kb_in x1 600 = true then
      some ((kb_a σ 5 x1.toNatClampNeg) + (x2 * (kb_g σ 5)))
    else none := rfl
theorem hd_X0_parent : yX0_parent.cls = RX0 ∧ yX0_parent.cls ≠ "java/lang/invoke/MethodHandle" ∧ yX0_parent.cls ≠ "java/lang/invoke/VarHandle" ∧ (parseMethodDescriptor yX0_parent.desc).map (fun d => d.parameters.length) = some 2 := by decide +kernel
set_option maxRecDepth 100000 in
set_option maxHeartbeats 4000000 in
theorem ct_X0_parent (l : Launch) (V : kb_V) (A : Nat → Prop)  (x1 : Int32) (x2 : Int32) (a : Nat → Nat) (σ : kb_S) (sh : Value) (ex : va_W) {r : Int32} (hf : fn_X0_parent  x1 x2 σ = some r) : kb_T l yX0_parent cX0_parent 3 (some .int) ({ frames := 2, cells := 0, slots := 0, locals := 41 } : Room) V A [.ref (a 2), .int x1, .int x2] (kb_W V a σ sh ex) (some (.int r)) (kb_W V a σ sh ex) 0 0 := by
  refine kb_start (cc := cX0_parent) (nL := 3) (ret := (some .int)) (own := RX0) (by decide) rfl (Nat.le_of_ble_eq_true rfl) ?_
  intro p e s m args below meth c C
  refine kj_sub [0, 1, 2] (L2 := [(0, .ref (a 2)), (1, .int x1), (2, .int x2)]) rfl ?_
  rw [fe_X0_parent] at hf
  refine kj_aload_n (pc := 0) C 0 dX0_parent_0 rfl rfl ?_
  refine kj_iload_n (pc := 1) C 1 dX0_parent_1 rfl rfl ?_
  obtain ⟨q1, hq1, hf⟩ := kb_bd hf
  refine kj_callV0 (pc := 2) (as := [.int x1]) (rest := []) (b := (a 2)) C (ct_X0_hasLoop l V A x1 a σ sh ex hq1) wd_X0_hasLoop wk_X0_107 wi_X0_hasLoop ws_X0_hasLoop wz_X0 rfl rfl hd_X0_hasLoop ⟨by decide, by decide⟩ 2 rfl rfl rfl rfl (Nat.le_of_ble_eq_true rfl) (by decide) dX0_parent_2 ?_
  refine kj_if_eq (pc := 5) 24 C dX0_parent_5 (by decide) (fun c2 => ?_) (fun c2 => ?_)
  · have hf := kb_ift hf c2
    refine kj_iconst (pc := 24) (v := (-1 : Int32)) C dX0_parent_24 (by decide) ?_
    cases hf
    exact kj_iret (pc := 25) C dX0_parent_25
  · have hf := kb_ife hf c2
    refine kj_aload_n (pc := 8) C 0 dX0_parent_8 rfl rfl ?_
    refine kg_X0_firstParents (pc := 9) C wf_X0_22 dX0_parent_9 ?_
    refine kj_iload_n (pc := 12) C 1 dX0_parent_12 rfl rfl ?_
    obtain ⟨g3, hf⟩ := kb_gd hf
    refine ka_X0_firstParents (pc := 13) (v := (kb_a σ 5 x1.toNatClampNeg)) C g3 dX0_parent_13 rfl ?_
    refine kj_iload_n (pc := 14) C 2 dX0_parent_14 rfl rfl ?_
    refine kj_aload_n (pc := 15) C 0 dX0_parent_15 rfl rfl ?_
    refine kg_X0_needleStep (pc := 16) (v := (kb_g σ 5)) C wf_X0_55 dX0_parent_16 rfl ?_
    refine kj_imul (pc := 19) C dX0_parent_19 ?_
    refine kj_iadd (pc := 20) C dX0_parent_20 ?_
    refine kj_goto (pc := 21) 25 C dX0_parent_21 (by decide) ?_
    cases hf
    exact kj_iret (pc := 25) C dX0_parent_25
def fp_X0_ladderLength_7   : Nat → Int32 → Int32 → Int32 → kb_S → Option (Int32)
  | 0 => fun _ _ _ _ => none
  | nn + 1 => fun x2 x3 x4 σ => 
  if (kb_g σ 2) ≤ x4 then
    some x2
  else
    (fn_X0_parentCount x3 σ).bind fun q2 =>
    if q2 ≤ 0 then
      some x2
    else
      (fn_X0_parent x3 (0 : Int32) σ).bind fun q4 =>
      (fp_X0_ladderLength_7  nn) (x2 + (1 : Int32)) q4 (x4 + (1 : Int32)) σ
theorem fp_X0_ladderLength_7_s   (nn : Nat) (x2 : Int32) (x3 : Int32) (x4 : Int32) (σ : kb_S) : fp_X0_ladderLength_7  (nn + 1) x2 x3 x4 σ =
  if (kb_g σ 2) ≤ x4 then
    some x2
  else
    (fn_X0_parentCount x3 σ).bind fun q2 =>
    if q2 ≤ 0 then
      some x2
    else
      (fn_X0_parent x3 (0 : Int32) σ).bind fun q4 =>
      (fp_X0_ladderLength_7  nn) (x2 + (1 : Int32)) q4 (x4 + (1 : Int32)) σ := rfl
def fn_X0_ladderLength  (x1 : Int32) (σ : kb_S) : Option (Int32) :=
  fp_X0_ladderLength_7   kb_FU (1 : Int32) x1 (0 : Int32) σ
theorem fe_X0_ladderLength  (x1 : Int32) (σ : kb_S) : fn_X0_ladderLength  x1 σ =
  fp_X0_ladderLength_7   kb_FU (1 : Int32) x1 (0 : Int32) σ := rfl
theorem hd_X0_ladderLength : yX0_ladderLength.cls = RX0 ∧ yX0_ladderLength.cls ≠ "java/lang/invoke/MethodHandle" ∧ yX0_ladderLength.cls ≠ "java/lang/invoke/VarHandle" ∧ (parseMethodDescriptor yX0_ladderLength.desc).map (fun d => d.parameters.length) = some 1 := by decide +kernel
set_option maxRecDepth 100000 in
set_option maxHeartbeats 4000000 in
theorem ct_X0_ladderLength (l : Launch) (V : kb_V) (A : Nat → Prop)  (x1 : Int32) (a : Nat → Nat) (σ : kb_S) (sh : Value) (ex : va_W) {r : Int32} (hf : fn_X0_ladderLength  x1 σ = some r) : kb_T l yX0_ladderLength cX0_ladderLength 5 (some .int) ({ frames := 3, cells := 0, slots := 0, locals := 63 } : Room) V A [.ref (a 2), .int x1] (kb_W V a σ sh ex) (some (.int r)) (kb_W V a σ sh ex) 0 0 := by
  refine kb_start (cc := cX0_ladderLength) (nL := 5) (ret := (some .int)) (own := RX0) (by decide) rfl (Nat.le_of_ble_eq_true rfl) ?_
  intro p e s m args below meth c C
  have hp7 : ∀ (nn : Nat) (x2 : Int32) (x3 : Int32) (x4 : Int32) (σ : kb_S), fp_X0_ladderLength_7   nn x2 x3 x4 σ = some r → kb_J p l e ({ frames := 3, cells := 0, slots := 0, locals := 63 } : Room) s m args below meth c 5 V A 0 0 (MQ below (kb_post V A (some (.int r)) (kb_W V a σ sh ex)) args s 0 0 A) 7 [(0, .ref (a 2)), (2, .int x2), (3, .int x3), (4, .int x4)] [] (kb_W V a σ sh ex) := by
    intro nn7
    induction nn7 with
    | zero => intro x2 x3 x4 σ hf; exact kb_no hf
    | succ nn7 ih7 =>
      intro x2 x3 x4 σ hf
      rw [fp_X0_ladderLength_7_s] at hf
      refine kj_iload (pc := 7) C 3 dX0_ladderLength_7 rfl ?_
      refine kj_aload_n (pc := 9) C 0 dX0_ladderLength_9 rfl rfl ?_
      refine kg_X0_rowCount (pc := 10) (v := (kb_g σ 2)) C wf_X0_29 dX0_ladderLength_10 rfl ?_
      refine kj_icmp_ge (pc := 13) 40 C dX0_ladderLength_13 (by decide) (fun c1 => ?_) (fun c1 => ?_)
      · have hf := kb_ift hf c1
        refine kj_iload_n (pc := 40) C 1 dX0_ladderLength_40 rfl rfl ?_
        cases hf
        exact kj_iret (pc := 41) C dX0_ladderLength_41
      · have hf := kb_ife hf c1
        refine kj_aload_n (pc := 16) C 0 dX0_ladderLength_16 rfl rfl ?_
        refine kj_iload_n (pc := 17) C 2 dX0_ladderLength_17 rfl rfl ?_
        obtain ⟨q2, hq2, hf⟩ := kb_bd hf
        refine kj_callV0 (pc := 18) (as := [.int x3]) (rest := []) (b := (a 2)) C (ct_X0_parentCount l V A x3 a σ sh ex hq2) wd_X0_parentCount wk_X0_110 wi_X0_parentCount ws_X0_parentCount wz_X0 rfl rfl hd_X0_parentCount ⟨by decide, by decide⟩ 2 rfl rfl rfl rfl (Nat.le_of_ble_eq_true rfl) (by decide) dX0_ladderLength_18 ?_
        refine kj_if_le (pc := 21) 40 C dX0_ladderLength_21 (by decide) (fun c3 => ?_) (fun c3 => ?_)
        · have hf := kb_ift hf c3
          refine kj_iload_n (pc := 40) C 1 dX0_ladderLength_40 rfl rfl ?_
          cases hf
          exact kj_iret (pc := 41) C dX0_ladderLength_41
        · have hf := kb_ife hf c3
          refine kj_aload_n (pc := 24) C 0 dX0_ladderLength_24 rfl rfl ?_
          refine kj_iload_n (pc := 25) C 2 dX0_ladderLength_25 rfl rfl ?_
          refine kj_iconst (pc := 26) (v := (0 : Int32)) C dX0_ladderLength_26 (by decide) ?_
          obtain ⟨q4, hq4, hf⟩ := kb_bd hf
          refine kj_callV0 (pc := 27) (as := [.int x3, .int (0 : Int32)]) (rest := []) (b := (a 2)) C (ct_X0_parent l V A x3 (0 : Int32) a σ sh ex hq4) wd_X0_parent wk_X0_113 wi_X0_parent ws_X0_parent wz_X0 rfl rfl hd_X0_parent ⟨by decide, by decide⟩ 2 rfl rfl rfl rfl (Nat.le_of_ble_eq_true rfl) (by decide) dX0_ladderLength_27 ?_
          refine kj_istore_n (pc := 30) C [1, 2, 0, 3] (L2 := [(0, .ref (a 2)), (2, .int x2), (3, .int q4), (4, .int x4)]) dX0_ladderLength_30 rfl (by decide) rfl ?_
          refine kj_iinc (pc := 31) C 1 [1, 0, 2, 3] (L2 := [(0, .ref (a 2)), (2, .int (x2 + (1 : Int32))), (3, .int q4), (4, .int x4)]) dX0_ladderLength_31 rfl rfl (by decide) rfl ?_
          refine kj_iinc (pc := 34) C 3 [1, 2, 3, 0] (L2 := [(0, .ref (a 2)), (2, .int (x2 + (1 : Int32))), (3, .int q4), (4, .int (x4 + (1 : Int32)))]) dX0_ladderLength_34 rfl rfl (by decide) rfl ?_
          refine kj_goto (pc := 37) 7 C dX0_ladderLength_37 (by decide) ?_
          exact ih7 (x2 + (1 : Int32)) q4 (x4 + (1 : Int32)) σ hf
  refine kj_sub [0, 1] (L2 := [(0, .ref (a 2)), (1, .int x1)]) rfl ?_
  rw [fe_X0_ladderLength] at hf
  refine kj_iconst (pc := 0) (v := (1 : Int32)) C dX0_ladderLength_0 (by decide) ?_
  refine kj_istore_n (pc := 1) C [1, 2, 0] (L2 := [(0, .ref (a 2)), (1, .int x1), (2, .int (1 : Int32))]) dX0_ladderLength_1 rfl (by decide) rfl ?_
  refine kj_iload_n (pc := 2) C 1 dX0_ladderLength_2 rfl rfl ?_
  refine kj_istore_n (pc := 3) C [1, 2, 3, 0] (L2 := [(0, .ref (a 2)), (1, .int x1), (2, .int (1 : Int32)), (3, .int x1)]) dX0_ladderLength_3 rfl (by decide) rfl ?_
  refine kj_iconst (pc := 4) (v := (0 : Int32)) C dX0_ladderLength_4 (by decide) ?_
  refine kj_istore (pc := 5) C [1, 2, 3, 4, 0] (L2 := [(0, .ref (a 2)), (1, .int x1), (2, .int (1 : Int32)), (3, .int x1), (4, .int (0 : Int32))]) dX0_ladderLength_5 (by decide) rfl ?_
  refine kj_sub [0, 2, 3, 4] (L2 := [(0, .ref (a 2)), (2, .int (1 : Int32)), (3, .int x1), (4, .int (0 : Int32))]) rfl ?_
  exact hp7 kb_FU (1 : Int32) x1 (0 : Int32) σ hf
def fn_X0_stitchCount  (x1 : Int32) (σ : kb_S) : Option (Int32) :=
  if (fn_X0_hasRow x1 σ) = 0 then
    some (0 : Int32)
  else
    if kb_in (x1 + (1 : Int32)) 32 = true then
      if kb_in x1 32 = true then
        some ((kb_a σ 2 (x1 + (1 : Int32)).toNatClampNeg) - (kb_a σ 2 x1.toNatClampNeg))
      else none
    else none
theorem fe_X0_stitchCount  (x1 : Int32) (σ : kb_S) : fn_X0_stitchCount  x1 σ =
  if (fn_X0_hasRow x1 σ) = 0 then
    some (0 : Int32)
  else
    if kb_in (x1 + (1 : Int32)) 32 = true then
      if kb_in x1 32 = true then
        some ((kb_a σ 2 (x1 + (1 : Int32)).toNatClampNeg) - (kb_a σ 2 x1.toNatClampNeg))
      else none
    else none := rfl
theorem hd_X0_stitchCount : yX0_stitchCount.cls = RX0 ∧ yX0_stitchCount.cls ≠ "java/lang/invoke/MethodHandle" ∧ yX0_stitchCount.cls ≠ "java/lang/invoke/VarHandle" ∧ (parseMethodDescriptor yX0_stitchCount.desc).map (fun d => d.parameters.length) = some 1 := by decide +kernel
set_option maxRecDepth 100000 in
set_option maxHeartbeats 4000000 in
theorem ct_X0_stitchCount (l : Launch) (V : kb_V) (A : Nat → Prop)  (x1 : Int32) (a : Nat → Nat) (σ : kb_S) (sh : Value) (ex : va_W) {r : Int32} (hf : fn_X0_stitchCount  x1 σ = some r) : kb_T l yX0_stitchCount cX0_stitchCount 2 (some .int) ({ frames := 1, cells := 0, slots := 0, locals := 21 } : Room) V A [.ref (a 2), .int x1] (kb_W V a σ sh ex) (some (.int r)) (kb_W V a σ sh ex) 0 0 := by
  refine kb_start (cc := cX0_stitchCount) (nL := 2) (ret := (some .int)) (own := RX0) (by decide) rfl (Nat.le_of_ble_eq_true rfl) ?_
  intro p e s m args below meth c C
  refine kj_sub [0, 1] (L2 := [(0, .ref (a 2)), (1, .int x1)]) rfl ?_
  rw [fe_X0_stitchCount] at hf
  refine kj_aload_n (pc := 0) C 0 dX0_stitchCount_0 rfl rfl ?_
  refine kj_iload_n (pc := 1) C 1 dX0_stitchCount_1 rfl rfl ?_
  refine kj_callV0 (pc := 2) (as := [.int x1]) (rest := []) (b := (a 2)) C (ct_X0_hasRow l V A x1 a σ sh ex rfl) wd_X0_hasRow wk_X0_101 wi_X0_hasRow ws_X0_hasRow wz_X0 rfl rfl hd_X0_hasRow ⟨by decide, by decide⟩ 2 rfl rfl rfl rfl (Nat.le_of_ble_eq_true rfl) (by decide) dX0_stitchCount_2 ?_
  refine kj_if_eq (pc := 5) 26 C dX0_stitchCount_5 (by decide) (fun c1 => ?_) (fun c1 => ?_)
  · have hf := kb_ift hf c1
    refine kj_iconst (pc := 26) (v := (0 : Int32)) C dX0_stitchCount_26 (by decide) ?_
    cases hf
    exact kj_iret (pc := 27) C dX0_stitchCount_27
  · have hf := kb_ife hf c1
    refine kj_aload_n (pc := 8) C 0 dX0_stitchCount_8 rfl rfl ?_
    refine kg_X0_firstStitches (pc := 9) C wf_X0_13 dX0_stitchCount_9 ?_
    refine kj_iload_n (pc := 12) C 1 dX0_stitchCount_12 rfl rfl ?_
    refine kj_iconst (pc := 13) (v := (1 : Int32)) C dX0_stitchCount_13 (by decide) ?_
    refine kj_iadd (pc := 14) C dX0_stitchCount_14 ?_
    obtain ⟨g2, hf⟩ := kb_gd hf
    refine ka_X0_firstStitches (pc := 15) (v := (kb_a σ 2 (x1 + (1 : Int32)).toNatClampNeg)) C g2 dX0_stitchCount_15 rfl ?_
    refine kj_aload_n (pc := 16) C 0 dX0_stitchCount_16 rfl rfl ?_
    refine kg_X0_firstStitches (pc := 17) C wf_X0_13 dX0_stitchCount_17 ?_
    refine kj_iload_n (pc := 20) C 1 dX0_stitchCount_20 rfl rfl ?_
    obtain ⟨g3, hf⟩ := kb_gd hf
    refine ka_X0_firstStitches (pc := 21) (v := (kb_a σ 2 x1.toNatClampNeg)) C g3 dX0_stitchCount_21 rfl ?_
    refine kj_isub (pc := 22) C dX0_stitchCount_22 ?_
    refine kj_goto (pc := 23) 27 C dX0_stitchCount_23 (by decide) ?_
    cases hf
    exact kj_iret (pc := 27) C dX0_stitchCount_27
def fn_X0_stitchAt  (x1 : Int32) (x2 : Int32) (σ : kb_S) : Option (Int32) :=
  if x2 < 0 then
    some (0 : Int32)
  else
    (fn_X0_stitchCount x1 σ).bind fun q2 =>
    if x2 < q2 then
      if kb_in x1 32 = true then
        if kb_in ((kb_a σ 2 x1.toNatClampNeg) + x2) 1200 = true then
          some (kb_a σ 3 ((kb_a σ 2 x1.toNatClampNeg) + x2).toNatClampNeg)
        else none
      else none
    else
      some (0 : Int32)
theorem fe_X0_stitchAt  (x1 : Int32) (x2 : Int32) (σ : kb_S) : fn_X0_stitchAt  x1 x2 σ =
  if x2 < 0 then
    some (0 : Int32)
  else
    (fn_X0_stitchCount x1 σ).bind fun q2 =>
    if x2 < q2 then
      if kb_in x1 32 = true then
        if kb_in ((kb_a σ 2 x1.toNatClampNeg) + x2) 1200 = true then
          some (kb_a σ 3 ((kb_a σ 2 x1.toNatClampNeg) + x2).toNatClampNeg)
        else none
      else none
    else
      some (0 : Int32) := rfl
theorem hd_X0_stitchAt : yX0_stitchAt.cls = RX0 ∧ yX0_stitchAt.cls ≠ "java/lang/invoke/MethodHandle" ∧ yX0_stitchAt.cls ≠ "java/lang/invoke/VarHandle" ∧ (parseMethodDescriptor yX0_stitchAt.desc).map (fun d => d.parameters.length) = some 2 := by decide +kernel
set_option maxRecDepth 100000 in
set_option maxHeartbeats 4000000 in
theorem ct_X0_stitchAt (l : Launch) (V : kb_V) (A : Nat → Prop)  (x1 : Int32) (x2 : Int32) (a : Nat → Nat) (σ : kb_S) (sh : Value) (ex : va_W) {r : Int32} (hf : fn_X0_stitchAt  x1 x2 σ = some r) : kb_T l yX0_stitchAt cX0_stitchAt 3 (some .int) ({ frames := 2, cells := 0, slots := 0, locals := 42 } : Room) V A [.ref (a 2), .int x1, .int x2] (kb_W V a σ sh ex) (some (.int r)) (kb_W V a σ sh ex) 0 0 := by
  refine kb_start (cc := cX0_stitchAt) (nL := 3) (ret := (some .int)) (own := RX0) (by decide) rfl (Nat.le_of_ble_eq_true rfl) ?_
  intro p e s m args below meth c C
  refine kj_sub [0, 1, 2] (L2 := [(0, .ref (a 2)), (1, .int x1), (2, .int x2)]) rfl ?_
  rw [fe_X0_stitchAt] at hf
  refine kj_iload_n (pc := 0) C 2 dX0_stitchAt_0 rfl rfl ?_
  refine kj_if_lt (pc := 1) 13 C dX0_stitchAt_1 (by decide) (fun c1 => ?_) (fun c1 => ?_)
  · have hf := kb_ift hf c1
    refine kj_iconst (pc := 13) (v := (0 : Int32)) C dX0_stitchAt_13 (by decide) ?_
    cases hf
    exact kj_iret (pc := 14) C dX0_stitchAt_14
  · have hf := kb_ife hf c1
    refine kj_iload_n (pc := 4) C 2 dX0_stitchAt_4 rfl rfl ?_
    refine kj_aload_n (pc := 5) C 0 dX0_stitchAt_5 rfl rfl ?_
    refine kj_iload_n (pc := 6) C 1 dX0_stitchAt_6 rfl rfl ?_
    obtain ⟨q2, hq2, hf⟩ := kb_bd hf
    refine kj_callV0 (pc := 7) (as := [.int x1]) (rest := [.int x2]) (b := (a 2)) C (ct_X0_stitchCount l V A x1 a σ sh ex hq2) wd_X0_stitchCount wk_X0_116 wi_X0_stitchCount ws_X0_stitchCount wz_X0 rfl rfl hd_X0_stitchCount ⟨by decide, by decide⟩ 2 rfl rfl rfl rfl (Nat.le_of_ble_eq_true rfl) (by decide) dX0_stitchAt_7 ?_
    refine kj_icmp_lt (pc := 10) 15 C dX0_stitchAt_10 (by decide) (fun c3 => ?_) (fun c3 => ?_)
    · have hf := kb_ift hf c3
      refine kj_aload_n (pc := 15) C 0 dX0_stitchAt_15 rfl rfl ?_
      refine kg_X0_stitches (pc := 16) C wf_X0_16 dX0_stitchAt_16 ?_
      refine kj_aload_n (pc := 19) C 0 dX0_stitchAt_19 rfl rfl ?_
      refine kg_X0_firstStitches (pc := 20) C wf_X0_13 dX0_stitchAt_20 ?_
      refine kj_iload_n (pc := 23) C 1 dX0_stitchAt_23 rfl rfl ?_
      obtain ⟨g4, hf⟩ := kb_gd hf
      refine ka_X0_firstStitches (pc := 24) (v := (kb_a σ 2 x1.toNatClampNeg)) C g4 dX0_stitchAt_24 rfl ?_
      refine kj_iload_n (pc := 25) C 2 dX0_stitchAt_25 rfl rfl ?_
      refine kj_iadd (pc := 26) C dX0_stitchAt_26 ?_
      obtain ⟨g5, hf⟩ := kb_gd hf
      refine ka_X0_stitches (pc := 27) (v := (kb_a σ 3 ((kb_a σ 2 x1.toNatClampNeg) + x2).toNatClampNeg)) C g5 dX0_stitchAt_27 rfl ?_
      cases hf
      exact kj_iret (pc := 28) C dX0_stitchAt_28
    · have hf := kb_ife hf c3
      refine kj_iconst (pc := 13) (v := (0 : Int32)) C dX0_stitchAt_13 (by decide) ?_
      cases hf
      exact kj_iret (pc := 14) C dX0_stitchAt_14
def fn_X6_seenFromBehind  (x0 : Int32)  : Int32 :=
  if x0 = 0 then
    (1 : Int32)
  else
    if x0 = (1 : Int32) then
      (0 : Int32)
    else
      x0
theorem fe_X6_seenFromBehind  (x0 : Int32)  : fn_X6_seenFromBehind  x0  =
  if x0 = 0 then
    (1 : Int32)
  else
    if x0 = (1 : Int32) then
      (0 : Int32)
    else
      x0 := rfl
theorem hd_X6_seenFromBehind : yX6_seenFromBehind.cls ≠ "java/lang/invoke/MethodHandle" ∧ yX6_seenFromBehind.cls ≠ "java/lang/invoke/VarHandle" ∧ (parseMethodDescriptor yX6_seenFromBehind.desc).map (fun d => d.parameters.length) = some 1 := by decide +kernel
set_option maxRecDepth 100000 in
set_option maxHeartbeats 4000000 in
theorem ct_X6_seenFromBehind (l : Launch) (V : kb_V) (A : Nat → Prop)  (x0 : Int32) (ws : va_W) {r : Int32} (hf : fn_X6_seenFromBehind  x0  = r) : kb_T l yX6_seenFromBehind cX6_seenFromBehind 1 (some .int) ({ frames := 0, cells := 0, slots := 0, locals := 0 } : Room) V A [.int x0] ws (some (.int r)) ws 0 0 := by
  refine kb_start (cc := cX6_seenFromBehind) (nL := 1) (ret := (some .int)) (own := RX6) (by decide) rfl (Nat.le_of_ble_eq_true rfl) ?_
  intro p e s m args below meth c C
  refine kj_sub [0] (L2 := [(0, .int x0)]) rfl ?_
  rw [fe_X6_seenFromBehind] at hf
  refine kj_iload_n (pc := 0) C 0 dX6_seenFromBehind_0 rfl rfl ?_
  refine kj_if_ne (pc := 1) 6 C dX6_seenFromBehind_1 (by decide) (fun c1 => ?_) (fun c1 => ?_)
  · have hf := kb_ife hf c1
    refine kj_iload_n (pc := 6) C 0 dX6_seenFromBehind_6 rfl rfl ?_
    refine kj_iconst (pc := 7) (v := (1 : Int32)) C dX6_seenFromBehind_7 (by decide) ?_
    refine kj_icmp_ne (pc := 8) 15 C dX6_seenFromBehind_8 (by decide) (fun c2 => ?_) (fun c2 => ?_)
    · have hf := kb_ife hf c2
      refine kj_iload_n (pc := 15) C 0 dX6_seenFromBehind_15 rfl rfl ?_
      subst hf
      exact kj_iret (pc := 16) C dX6_seenFromBehind_16
    · have hf := kb_ift hf c2
      refine kj_iconst (pc := 11) (v := (0 : Int32)) C dX6_seenFromBehind_11 (by decide) ?_
      refine kj_goto (pc := 12) 16 C dX6_seenFromBehind_12 (by decide) ?_
      subst hf
      exact kj_iret (pc := 16) C dX6_seenFromBehind_16
  · have hf := kb_ift hf c1
    refine kj_iconst (pc := 4) (v := (1 : Int32)) C dX6_seenFromBehind_4 (by decide) ?_
    subst hf
    exact kj_iret (pc := 5) C dX6_seenFromBehind_5
def fp_X0_stitchSeen_18   (x1 : Int32) (x2 : Int32) (y0 : Int32) (σ : kb_S) : Option (Int32) :=
  if y0 = 0 then
    (fn_X0_stitchAt x1 x2 σ).bind fun q2 =>
    some q2
  else
    (fn_X0_stitchCount x1 σ).bind fun q2 =>
    (fn_X0_stitchAt x1 ((q2 - (1 : Int32)) - x2) σ).bind fun q3 =>
    some (fn_X6_seenFromBehind q3)
theorem fp_X0_stitchSeen_18_e   (x1 : Int32) (x2 : Int32) (y0 : Int32) (σ : kb_S) : fp_X0_stitchSeen_18  x1 x2 y0 σ =
  if y0 = 0 then
    (fn_X0_stitchAt x1 x2 σ).bind fun q2 =>
    some q2
  else
    (fn_X0_stitchCount x1 σ).bind fun q2 =>
    (fn_X0_stitchAt x1 ((q2 - (1 : Int32)) - x2) σ).bind fun q3 =>
    some (fn_X6_seenFromBehind q3) := rfl
def fp_X0_stitchSeen_17   (x1 : Int32) (x2 : Int32) (σ : kb_S) : Option (Int32) :=
  fp_X0_stitchSeen_18   x1 x2 (0 : Int32) σ
theorem fp_X0_stitchSeen_17_e   (x1 : Int32) (x2 : Int32) (σ : kb_S) : fp_X0_stitchSeen_17  x1 x2 σ =
  fp_X0_stitchSeen_18   x1 x2 (0 : Int32) σ := rfl
def fn_X0_stitchSeen  (x1 : Int32) (x2 : Int32) (σ : kb_S) : Option (Int32) :=
  if (kb_g σ 1) = 0 then
    if (x1 - x1 / (2 : Int32) * (2 : Int32)) = 0 then
      fp_X0_stitchSeen_18   x1 x2 (1 : Int32) σ
    else
      fp_X0_stitchSeen_17   x1 x2 σ
  else
    fp_X0_stitchSeen_17   x1 x2 σ
theorem fe_X0_stitchSeen  (x1 : Int32) (x2 : Int32) (σ : kb_S) : fn_X0_stitchSeen  x1 x2 σ =
  if (kb_g σ 1) = 0 then
    if (x1 - x1 / (2 : Int32) * (2 : Int32)) = 0 then
      fp_X0_stitchSeen_18   x1 x2 (1 : Int32) σ
    else
      fp_X0_stitchSeen_17   x1 x2 σ
  else
    fp_X0_stitchSeen_17   x1 x2 σ := rfl
theorem hd_X0_stitchSeen : yX0_stitchSeen.cls = RX0 ∧ yX0_stitchSeen.cls ≠ "java/lang/invoke/MethodHandle" ∧ yX0_stitchSeen.cls ≠ "java/lang/invoke/VarHandle" ∧ (parseMethodDescriptor yX0_stitchSeen.desc).map (fun d => d.parameters.length) = some 2 := by decide +kernel
set_option maxRecDepth 100000 in
set_option maxHeartbeats 4000000 in
theorem ct_X0_stitchSeen (l : Launch) (V : kb_V) (A : Nat → Prop)  (x1 : Int32) (x2 : Int32) (a : Nat → Nat) (σ : kb_S) (sh : Value) (ex : va_W) {r : Int32} (hf : fn_X0_stitchSeen  x1 x2 σ = some r) : kb_T l yX0_stitchSeen cX0_stitchSeen 4 (some .int) ({ frames := 3, cells := 0, slots := 0, locals := 64 } : Room) V A [.ref (a 2), .int x1, .int x2] (kb_W V a σ sh ex) (some (.int r)) (kb_W V a σ sh ex) 0 0 := by
  refine kb_start (cc := cX0_stitchSeen) (nL := 4) (ret := (some .int)) (own := RX0) (by decide) rfl (Nat.le_of_ble_eq_true rfl) ?_
  intro p e s m args below meth c C
  have hp18 : ∀ (x1 : Int32) (x2 : Int32) (y0 : Int32) (σ : kb_S), fp_X0_stitchSeen_18   x1 x2 y0 σ = some r → kb_J p l e ({ frames := 3, cells := 0, slots := 0, locals := 64 } : Room) s m args below meth c 4 V A 0 0 (MQ below (kb_post V A (some (.int r)) (kb_W V a σ sh ex)) args s 0 0 A) 18 [(0, .ref (a 2)), (1, .int x1), (2, .int x2)] [.int y0] (kb_W V a σ sh ex) := by
    intro x1 x2 y0 σ hf
    rw [fp_X0_stitchSeen_18_e] at hf
    refine kj_istore_n (pc := 18) C [1, 2, 3, 0] (L2 := [(0, .ref (a 2)), (1, .int x1), (2, .int x2), (3, .int y0)]) dX0_stitchSeen_18 rfl (by decide) rfl ?_
    refine kj_iload_n (pc := 19) C 3 dX0_stitchSeen_19 rfl rfl ?_
    refine kj_if_eq (pc := 20) 41 C dX0_stitchSeen_20 (by decide) (fun c1 => ?_) (fun c1 => ?_)
    · have hf := kb_ift hf c1
      refine kj_aload_n (pc := 41) C 0 dX0_stitchSeen_41 rfl rfl ?_
      refine kj_iload_n (pc := 42) C 1 dX0_stitchSeen_42 rfl rfl ?_
      refine kj_iload_n (pc := 43) C 2 dX0_stitchSeen_43 rfl rfl ?_
      obtain ⟨q2, hq2, hf⟩ := kb_bd hf
      refine kj_callV0 (pc := 44) (as := [.int x1, .int x2]) (rest := []) (b := (a 2)) C (ct_X0_stitchAt l V A x1 x2 a σ sh ex hq2) wd_X0_stitchAt wk_X0_119 wi_X0_stitchAt ws_X0_stitchAt wz_X0 rfl rfl hd_X0_stitchAt ⟨by decide, by decide⟩ 2 rfl rfl rfl rfl (Nat.le_of_ble_eq_true rfl) (by decide) dX0_stitchSeen_44 ?_
      cases hf
      exact kj_iret (pc := 47) C dX0_stitchSeen_47
    · have hf := kb_ife hf c1
      refine kj_aload_n (pc := 23) C 0 dX0_stitchSeen_23 rfl rfl ?_
      refine kj_iload_n (pc := 24) C 1 dX0_stitchSeen_24 rfl rfl ?_
      refine kj_aload_n (pc := 25) C 0 dX0_stitchSeen_25 rfl rfl ?_
      refine kj_iload_n (pc := 26) C 1 dX0_stitchSeen_26 rfl rfl ?_
      obtain ⟨q2, hq2, hf⟩ := kb_bd hf
      refine kj_callV0 (pc := 27) (as := [.int x1]) (rest := [.int x1, .ref (a 2)]) (b := (a 2)) C (ct_X0_stitchCount l V A x1 a σ sh ex hq2) wd_X0_stitchCount wk_X0_116 wi_X0_stitchCount ws_X0_stitchCount wz_X0 rfl rfl hd_X0_stitchCount ⟨by decide, by decide⟩ 2 rfl rfl rfl rfl (Nat.le_of_ble_eq_true rfl) (by decide) dX0_stitchSeen_27 ?_
      refine kj_iconst (pc := 30) (v := (1 : Int32)) C dX0_stitchSeen_30 (by decide) ?_
      refine kj_isub (pc := 31) C dX0_stitchSeen_31 ?_
      refine kj_iload_n (pc := 32) C 2 dX0_stitchSeen_32 rfl rfl ?_
      refine kj_isub (pc := 33) C dX0_stitchSeen_33 ?_
      obtain ⟨q3, hq3, hf⟩ := kb_bd hf
      refine kj_callV0 (pc := 34) (as := [.int x1, .int ((q2 - (1 : Int32)) - x2)]) (rest := []) (b := (a 2)) C (ct_X0_stitchAt l V A x1 ((q2 - (1 : Int32)) - x2) a σ sh ex hq3) wd_X0_stitchAt wk_X0_119 wi_X0_stitchAt ws_X0_stitchAt wz_X0 rfl rfl hd_X0_stitchAt ⟨by decide, by decide⟩ 2 rfl rfl rfl rfl (Nat.le_of_ble_eq_true rfl) (by decide) dX0_stitchSeen_34 ?_
      refine kj_callS0 (pc := 37) (as := [.int q3]) (rest := []) C (ct_X6_seenFromBehind l V A q3 (kb_W V a σ sh ex) rfl) wd_X6_seenFromBehind wk_X0_122 wi_X6_seenFromBehind wz_X6 rfl rfl hd_X6_seenFromBehind ⟨by decide, by decide⟩ rfl (Nat.le_of_ble_eq_true rfl) (by decide) dX0_stitchSeen_37 ?_
      cases hf
      exact kj_iret (pc := 40) C dX0_stitchSeen_40
  have hp17 : ∀ (x1 : Int32) (x2 : Int32) (σ : kb_S), fp_X0_stitchSeen_17   x1 x2 σ = some r → kb_J p l e ({ frames := 3, cells := 0, slots := 0, locals := 64 } : Room) s m args below meth c 4 V A 0 0 (MQ below (kb_post V A (some (.int r)) (kb_W V a σ sh ex)) args s 0 0 A) 17 [(0, .ref (a 2)), (1, .int x1), (2, .int x2)] [] (kb_W V a σ sh ex) := by
    intro x1 x2 σ hf
    rw [fp_X0_stitchSeen_17_e] at hf
    refine kj_iconst (pc := 17) (v := (0 : Int32)) C dX0_stitchSeen_17 (by decide) ?_
    exact hp18 x1 x2 (0 : Int32) σ hf
  refine kj_sub [0, 1, 2] (L2 := [(0, .ref (a 2)), (1, .int x1), (2, .int x2)]) rfl ?_
  rw [fe_X0_stitchSeen] at hf
  refine kj_aload_n (pc := 0) C 0 dX0_stitchSeen_0 rfl rfl ?_
  refine kg_X0_round (pc := 1) (v := (kb_g σ 1)) C wf_X0_25 dX0_stitchSeen_1 rfl ?_
  refine kj_if_ne (pc := 4) 17 C dX0_stitchSeen_4 (by decide) (fun c1 => ?_) (fun c1 => ?_)
  · have hf := kb_ife hf c1
    exact hp17 x1 x2 σ hf
  · have hf := kb_ift hf c1
    refine kj_iload_n (pc := 7) C 1 dX0_stitchSeen_7 rfl rfl ?_
    refine kj_iconst (pc := 8) (v := (2 : Int32)) C dX0_stitchSeen_8 (by decide) ?_
    refine kj_irem (pc := 9) C dX0_stitchSeen_9 (by decide) ?_
    refine kj_if_ne (pc := 10) 17 C dX0_stitchSeen_10 (by decide) (fun c2 => ?_) (fun c2 => ?_)
    · have hf := kb_ife hf c2
      exact hp17 x1 x2 σ hf
    · have hf := kb_ift hf c2
      refine kj_iconst (pc := 13) (v := (1 : Int32)) C dX0_stitchSeen_13 (by decide) ?_
      refine kj_goto (pc := 14) 18 C dX0_stitchSeen_14 (by decide) ?_
      exact hp18 x1 x2 (1 : Int32) σ hf
def fp_X0_crossings_48  (kc11 : Int32 → Int32 → Int32 → Int32 → kb_S → Option (Int32)) (x1 : Int32) (x2 : Int32) (x3 : Int32) (x4 : Int32) (σ : kb_S) : Option (Int32) :=
  kc11 x1 x2 x3 (x4 + (1 : Int32)) σ
theorem fp_X0_crossings_48_e  (kc11 : Int32 → Int32 → Int32 → Int32 → kb_S → Option (Int32)) (x1 : Int32) (x2 : Int32) (x3 : Int32) (x4 : Int32) (σ : kb_S) : fp_X0_crossings_48 kc11 x1 x2 x3 x4 σ =
  kc11 x1 x2 x3 (x4 + (1 : Int32)) σ := rfl
def fp_X0_crossings_11   : Nat → Int32 → Int32 → Int32 → Int32 → kb_S → Option (Int32)
  | 0 => fun _ _ _ _ _ => none
  | nn + 1 => fun x1 x2 x3 x4 σ => 
  if x3 ≤ x4 then
    some x2
  else
    (fn_X0_stitchAt x1 x4 σ).bind fun q2 =>
    if (fn_X6_isCable q2) = 0 then
      fp_X0_crossings_48  (fp_X0_crossings_11  nn) x1 x2 x3 x4 σ
    else
      fp_X0_crossings_48  (fp_X0_crossings_11  nn) x1 (x2 + ((fn_X6_cableA q2) * (fn_X6_cableB q2))) x3 x4 σ
theorem fp_X0_crossings_11_s   (nn : Nat) (x1 : Int32) (x2 : Int32) (x3 : Int32) (x4 : Int32) (σ : kb_S) : fp_X0_crossings_11  (nn + 1) x1 x2 x3 x4 σ =
  if x3 ≤ x4 then
    some x2
  else
    (fn_X0_stitchAt x1 x4 σ).bind fun q2 =>
    if (fn_X6_isCable q2) = 0 then
      fp_X0_crossings_48  (fp_X0_crossings_11  nn) x1 x2 x3 x4 σ
    else
      fp_X0_crossings_48  (fp_X0_crossings_11  nn) x1 (x2 + ((fn_X6_cableA q2) * (fn_X6_cableB q2))) x3 x4 σ := rfl
def fn_X0_crossings  (x1 : Int32) (σ : kb_S) : Option (Int32) :=
  (fn_X0_stitchCount x1 σ).bind fun q1 =>
  fp_X0_crossings_11   kb_FU x1 (0 : Int32) q1 (0 : Int32) σ
theorem fe_X0_crossings  (x1 : Int32) (σ : kb_S) : fn_X0_crossings  x1 σ =
  (fn_X0_stitchCount x1 σ).bind fun q1 =>
  fp_X0_crossings_11   kb_FU x1 (0 : Int32) q1 (0 : Int32) σ := rfl
theorem hd_X0_crossings : yX0_crossings.cls = RX0 ∧ yX0_crossings.cls ≠ "java/lang/invoke/MethodHandle" ∧ yX0_crossings.cls ≠ "java/lang/invoke/VarHandle" ∧ (parseMethodDescriptor yX0_crossings.desc).map (fun d => d.parameters.length) = some 1 := by decide +kernel
set_option maxRecDepth 100000 in
set_option maxHeartbeats 4000000 in
theorem ct_X0_crossings (l : Launch) (V : kb_V) (A : Nat → Prop)  (x1 : Int32) (a : Nat → Nat) (σ : kb_S) (sh : Value) (ex : va_W) {r : Int32} (hf : fn_X0_crossings  x1 σ = some r) : kb_T l yX0_crossings cX0_crossings 6 (some .int) ({ frames := 3, cells := 0, slots := 0, locals := 64 } : Room) V A [.ref (a 2), .int x1] (kb_W V a σ sh ex) (some (.int r)) (kb_W V a σ sh ex) 0 0 := by
  refine kb_start (cc := cX0_crossings) (nL := 6) (ret := (some .int)) (own := RX0) (by decide) rfl (Nat.le_of_ble_eq_true rfl) ?_
  intro p e s m args below meth c C
  have hp11 : ∀ (nn : Nat) (x1 : Int32) (x2 : Int32) (x3 : Int32) (x4 : Int32) (σ : kb_S), fp_X0_crossings_11   nn x1 x2 x3 x4 σ = some r → kb_J p l e ({ frames := 3, cells := 0, slots := 0, locals := 64 } : Room) s m args below meth c 6 V A 0 0 (MQ below (kb_post V A (some (.int r)) (kb_W V a σ sh ex)) args s 0 0 A) 11 [(0, .ref (a 2)), (1, .int x1), (2, .int x2), (3, .int x3), (4, .int x4)] [] (kb_W V a σ sh ex) := by
    intro nn11
    induction nn11 with
    | zero => intro x1 x2 x3 x4 σ hf; exact kb_no hf
    | succ nn11 ih11 =>
      have hp48 : ∀ (x1 : Int32) (x2 : Int32) (x3 : Int32) (x4 : Int32) (σ : kb_S), fp_X0_crossings_48  (fp_X0_crossings_11   nn11) x1 x2 x3 x4 σ = some r → kb_J p l e ({ frames := 3, cells := 0, slots := 0, locals := 64 } : Room) s m args below meth c 6 V A 0 0 (MQ below (kb_post V A (some (.int r)) (kb_W V a σ sh ex)) args s 0 0 A) 48 [(0, .ref (a 2)), (1, .int x1), (2, .int x2), (3, .int x3), (4, .int x4)] [] (kb_W V a σ sh ex) := by
        intro x1 x2 x3 x4 σ hf
        rw [fp_X0_crossings_48_e] at hf
        refine kj_iinc (pc := 48) C 4 [1, 2, 3, 4, 0] (L2 := [(0, .ref (a 2)), (1, .int x1), (2, .int x2), (3, .int x3), (4, .int (x4 + (1 : Int32)))]) dX0_crossings_48 rfl rfl (by decide) rfl ?_
        refine kj_goto (pc := 51) 11 C dX0_crossings_51 (by decide) ?_
        exact ih11 x1 x2 x3 (x4 + (1 : Int32)) σ hf
      intro x1 x2 x3 x4 σ hf
      rw [fp_X0_crossings_11_s] at hf
      refine kj_iload (pc := 11) C 4 dX0_crossings_11 rfl ?_
      refine kj_iload_n (pc := 13) C 3 dX0_crossings_13 rfl rfl ?_
      refine kj_icmp_ge (pc := 14) 54 C dX0_crossings_14 (by decide) (fun c1 => ?_) (fun c1 => ?_)
      · have hf := kb_ift hf c1
        refine kj_iload_n (pc := 54) C 2 dX0_crossings_54 rfl rfl ?_
        cases hf
        exact kj_iret (pc := 55) C dX0_crossings_55
      · have hf := kb_ife hf c1
        refine kj_aload_n (pc := 17) C 0 dX0_crossings_17 rfl rfl ?_
        refine kj_iload_n (pc := 18) C 1 dX0_crossings_18 rfl rfl ?_
        refine kj_iload (pc := 19) C 4 dX0_crossings_19 rfl ?_
        obtain ⟨q2, hq2, hf⟩ := kb_bd hf
        refine kj_callV0 (pc := 21) (as := [.int x1, .int x4]) (rest := []) (b := (a 2)) C (ct_X0_stitchAt l V A x1 x4 a σ sh ex hq2) wd_X0_stitchAt wk_X0_119 wi_X0_stitchAt ws_X0_stitchAt wz_X0 rfl rfl hd_X0_stitchAt ⟨by decide, by decide⟩ 2 rfl rfl rfl rfl (Nat.le_of_ble_eq_true rfl) (by decide) dX0_crossings_21 ?_
        refine kj_istore (pc := 24) C [1, 2, 3, 4, 5, 0] (L2 := [(0, .ref (a 2)), (1, .int x1), (2, .int x2), (3, .int x3), (4, .int x4), (5, .int q2)]) dX0_crossings_24 (by decide) rfl ?_
        refine kj_iload (pc := 26) C 5 dX0_crossings_26 rfl ?_
        refine kj_callS0 (pc := 28) (as := [.int q2]) (rest := []) C (ct_X6_isCable l V A q2 (kb_W V a σ sh ex) rfl) wd_X6_isCable wk_X0_85 wi_X6_isCable wz_X6 rfl rfl hd_X6_isCable ⟨by decide, by decide⟩ rfl (Nat.le_of_ble_eq_true rfl) (by decide) dX0_crossings_28 ?_
        refine kj_if_eq (pc := 31) 48 C dX0_crossings_31 (by decide) (fun c3 => ?_) (fun c3 => ?_)
        · have hf := kb_ift hf c3
          refine kj_sub [0, 1, 2, 3, 4] (L2 := [(0, .ref (a 2)), (1, .int x1), (2, .int x2), (3, .int x3), (4, .int x4)]) rfl ?_
          exact hp48 x1 x2 x3 x4 σ hf
        · have hf := kb_ife hf c3
          refine kj_iload_n (pc := 34) C 2 dX0_crossings_34 rfl rfl ?_
          refine kj_iload (pc := 35) C 5 dX0_crossings_35 rfl ?_
          refine kj_callS0 (pc := 37) (as := [.int q2]) (rest := [.int x2]) C (ct_X6_cableA l V A q2 (kb_W V a σ sh ex) rfl) wd_X6_cableA wk_X0_89 wi_X6_cableA wz_X6 rfl rfl hd_X6_cableA ⟨by decide, by decide⟩ rfl (Nat.le_of_ble_eq_true rfl) (by decide) dX0_crossings_37 ?_
          refine kj_iload (pc := 40) C 5 dX0_crossings_40 rfl ?_
          refine kj_callS0 (pc := 42) (as := [.int q2]) (rest := [.int (fn_X6_cableA q2), .int x2]) C (ct_X6_cableB l V A q2 (kb_W V a σ sh ex) rfl) wd_X6_cableB wk_X0_92 wi_X6_cableB wz_X6 rfl rfl hd_X6_cableB ⟨by decide, by decide⟩ rfl (Nat.le_of_ble_eq_true rfl) (by decide) dX0_crossings_42 ?_
          refine kj_imul (pc := 45) C dX0_crossings_45 ?_
          refine kj_iadd (pc := 46) C dX0_crossings_46 ?_
          refine kj_istore_n (pc := 47) C [1, 2, 0, 3, 4, 5] (L2 := [(0, .ref (a 2)), (1, .int x1), (2, .int (x2 + ((fn_X6_cableA q2) * (fn_X6_cableB q2)))), (3, .int x3), (4, .int x4), (5, .int q2)]) dX0_crossings_47 rfl (by decide) rfl ?_
          refine kj_sub [0, 1, 2, 3, 4] (L2 := [(0, .ref (a 2)), (1, .int x1), (2, .int (x2 + ((fn_X6_cableA q2) * (fn_X6_cableB q2)))), (3, .int x3), (4, .int x4)]) rfl ?_
          exact hp48 x1 (x2 + ((fn_X6_cableA q2) * (fn_X6_cableB q2))) x3 x4 σ hf
  refine kj_sub [0, 1] (L2 := [(0, .ref (a 2)), (1, .int x1)]) rfl ?_
  rw [fe_X0_crossings] at hf
  refine kj_iconst (pc := 0) (v := (0 : Int32)) C dX0_crossings_0 (by decide) ?_
  refine kj_istore_n (pc := 1) C [1, 2, 0] (L2 := [(0, .ref (a 2)), (1, .int x1), (2, .int (0 : Int32))]) dX0_crossings_1 rfl (by decide) rfl ?_
  refine kj_aload_n (pc := 2) C 0 dX0_crossings_2 rfl rfl ?_
  refine kj_iload_n (pc := 3) C 1 dX0_crossings_3 rfl rfl ?_
  obtain ⟨q1, hq1, hf⟩ := kb_bd hf
  refine kj_callV0 (pc := 4) (as := [.int x1]) (rest := []) (b := (a 2)) C (ct_X0_stitchCount l V A x1 a σ sh ex hq1) wd_X0_stitchCount wk_X0_116 wi_X0_stitchCount ws_X0_stitchCount wz_X0 rfl rfl hd_X0_stitchCount ⟨by decide, by decide⟩ 2 rfl rfl rfl rfl (Nat.le_of_ble_eq_true rfl) (by decide) dX0_crossings_4 ?_
  refine kj_istore_n (pc := 7) C [1, 2, 3, 0] (L2 := [(0, .ref (a 2)), (1, .int x1), (2, .int (0 : Int32)), (3, .int q1)]) dX0_crossings_7 rfl (by decide) rfl ?_
  refine kj_iconst (pc := 8) (v := (0 : Int32)) C dX0_crossings_8 (by decide) ?_
  refine kj_istore (pc := 9) C [1, 2, 3, 4, 0] (L2 := [(0, .ref (a 2)), (1, .int x1), (2, .int (0 : Int32)), (3, .int q1), (4, .int (0 : Int32))]) dX0_crossings_9 (by decide) rfl ?_
  exact hp11 kb_FU x1 (0 : Int32) q1 (0 : Int32) σ hf
def fp_X0_boundIn_56  (kc28 : Int32 → Int32 → Int32 → kb_S → Option (Int32)) (x2 : Int32) (x3 : Int32) (x4 : Int32) (σ : kb_S) : Option (Int32) :=
  kc28 x2 x3 (x4 + (1 : Int32)) σ
theorem fp_X0_boundIn_56_e  (kc28 : Int32 → Int32 → Int32 → kb_S → Option (Int32)) (x2 : Int32) (x3 : Int32) (x4 : Int32) (σ : kb_S) : fp_X0_boundIn_56 kc28 x2 x3 x4 σ =
  kc28 x2 x3 (x4 + (1 : Int32)) σ := rfl
def fp_X0_boundIn_28   : Nat → Int32 → Int32 → Int32 → kb_S → Option (Int32)
  | 0 => fun _ _ _ _ => none
  | nn + 1 => fun x2 x3 x4 σ => 
  if kb_in (x2 + (1 : Int32)) 32 = true then
    if (kb_a σ 2 (x2 + (1 : Int32)).toNatClampNeg) ≤ x4 then
      some x3
    else
      if kb_in x4 1200 = true then
        if (kb_a σ 3 x4.toNatClampNeg) = (8 : Int32) then
          fp_X0_boundIn_56  (fp_X0_boundIn_28  nn) x2 (x3 + (1 : Int32)) x4 σ
        else
          fp_X0_boundIn_56  (fp_X0_boundIn_28  nn) x2 x3 x4 σ
      else none
  else none
theorem fp_X0_boundIn_28_s   (nn : Nat) (x2 : Int32) (x3 : Int32) (x4 : Int32) (σ : kb_S) : fp_X0_boundIn_28  (nn + 1) x2 x3 x4 σ =
  if kb_in (x2 + (1 : Int32)) 32 = true then
    if (kb_a σ 2 (x2 + (1 : Int32)).toNatClampNeg) ≤ x4 then
      some x3
    else
      if kb_in x4 1200 = true then
        if (kb_a σ 3 x4.toNatClampNeg) = (8 : Int32) then
          fp_X0_boundIn_56  (fp_X0_boundIn_28  nn) x2 (x3 + (1 : Int32)) x4 σ
        else
          fp_X0_boundIn_56  (fp_X0_boundIn_28  nn) x2 x3 x4 σ
      else none
  else none := rfl
def fn_X0_boundIn  (x1 : Int32) (x2 : Int32) (σ : kb_S) : Option (Int32) :=
  if (fn_X0_hasRow x1 σ) = 0 then
    some (0 : Int32)
  else
    if (fn_X0_hasRow x2 σ) = 0 then
      some (0 : Int32)
    else
      if kb_in x1 32 = true then
        fp_X0_boundIn_28   kb_FU x2 (0 : Int32) (kb_a σ 2 x1.toNatClampNeg) σ
      else none
theorem fe_X0_boundIn  (x1 : Int32) (x2 : Int32) (σ : kb_S) : fn_X0_boundIn  x1 x2 σ =
  if (fn_X0_hasRow x1 σ) = 0 then
    some (0 : Int32)
  else
    if (fn_X0_hasRow x2 σ) = 0 then
      some (0 : Int32)
    else
      if kb_in x1 32 = true then
        fp_X0_boundIn_28   kb_FU x2 (0 : Int32) (kb_a σ 2 x1.toNatClampNeg) σ
      else none := rfl
theorem hd_X0_boundIn : yX0_boundIn.cls = RX0 ∧ yX0_boundIn.cls ≠ "java/lang/invoke/MethodHandle" ∧ yX0_boundIn.cls ≠ "java/lang/invoke/VarHandle" ∧ (parseMethodDescriptor yX0_boundIn.desc).map (fun d => d.parameters.length) = some 2 := by decide +kernel
set_option maxRecDepth 100000 in
set_option maxHeartbeats 4000000 in
theorem ct_X0_boundIn (l : Launch) (V : kb_V) (A : Nat → Prop)  (x1 : Int32) (x2 : Int32) (a : Nat → Nat) (σ : kb_S) (sh : Value) (ex : va_W) {r : Int32} (hf : fn_X0_boundIn  x1 x2 σ = some r) : kb_T l yX0_boundIn cX0_boundIn 5 (some .int) ({ frames := 1, cells := 0, slots := 0, locals := 21 } : Room) V A [.ref (a 2), .int x1, .int x2] (kb_W V a σ sh ex) (some (.int r)) (kb_W V a σ sh ex) 0 0 := by
  refine kb_start (cc := cX0_boundIn) (nL := 5) (ret := (some .int)) (own := RX0) (by decide) rfl (Nat.le_of_ble_eq_true rfl) ?_
  intro p e s m args below meth c C
  have hp28 : ∀ (nn : Nat) (x2 : Int32) (x3 : Int32) (x4 : Int32) (σ : kb_S), fp_X0_boundIn_28   nn x2 x3 x4 σ = some r → kb_J p l e ({ frames := 1, cells := 0, slots := 0, locals := 21 } : Room) s m args below meth c 5 V A 0 0 (MQ below (kb_post V A (some (.int r)) (kb_W V a σ sh ex)) args s 0 0 A) 28 [(0, .ref (a 2)), (2, .int x2), (3, .int x3), (4, .int x4)] [] (kb_W V a σ sh ex) := by
    intro nn28
    induction nn28 with
    | zero => intro x2 x3 x4 σ hf; exact kb_no hf
    | succ nn28 ih28 =>
      have hp56 : ∀ (x2 : Int32) (x3 : Int32) (x4 : Int32) (σ : kb_S), fp_X0_boundIn_56  (fp_X0_boundIn_28   nn28) x2 x3 x4 σ = some r → kb_J p l e ({ frames := 1, cells := 0, slots := 0, locals := 21 } : Room) s m args below meth c 5 V A 0 0 (MQ below (kb_post V A (some (.int r)) (kb_W V a σ sh ex)) args s 0 0 A) 56 [(0, .ref (a 2)), (2, .int x2), (3, .int x3), (4, .int x4)] [] (kb_W V a σ sh ex) := by
        intro x2 x3 x4 σ hf
        rw [fp_X0_boundIn_56_e] at hf
        refine kj_iinc (pc := 56) C 3 [1, 2, 3, 0] (L2 := [(0, .ref (a 2)), (2, .int x2), (3, .int x3), (4, .int (x4 + (1 : Int32)))]) dX0_boundIn_56 rfl rfl (by decide) rfl ?_
        refine kj_goto (pc := 59) 28 C dX0_boundIn_59 (by decide) ?_
        exact ih28 x2 x3 (x4 + (1 : Int32)) σ hf
      intro x2 x3 x4 σ hf
      rw [fp_X0_boundIn_28_s] at hf
      refine kj_iload (pc := 28) C 3 dX0_boundIn_28 rfl ?_
      refine kj_aload_n (pc := 30) C 0 dX0_boundIn_30 rfl rfl ?_
      refine kg_X0_firstStitches (pc := 31) C wf_X0_13 dX0_boundIn_31 ?_
      refine kj_iload_n (pc := 34) C 1 dX0_boundIn_34 rfl rfl ?_
      refine kj_iconst (pc := 35) (v := (1 : Int32)) C dX0_boundIn_35 (by decide) ?_
      refine kj_iadd (pc := 36) C dX0_boundIn_36 ?_
      obtain ⟨g1, hf⟩ := kb_gd hf
      refine ka_X0_firstStitches (pc := 37) (v := (kb_a σ 2 (x2 + (1 : Int32)).toNatClampNeg)) C g1 dX0_boundIn_37 rfl ?_
      refine kj_icmp_ge (pc := 38) 62 C dX0_boundIn_38 (by decide) (fun c2 => ?_) (fun c2 => ?_)
      · have hf := kb_ift hf c2
        refine kj_iload_n (pc := 62) C 2 dX0_boundIn_62 rfl rfl ?_
        cases hf
        exact kj_iret (pc := 63) C dX0_boundIn_63
      · have hf := kb_ife hf c2
        refine kj_aload_n (pc := 41) C 0 dX0_boundIn_41 rfl rfl ?_
        refine kg_X0_stitches (pc := 42) C wf_X0_16 dX0_boundIn_42 ?_
        refine kj_iload (pc := 45) C 3 dX0_boundIn_45 rfl ?_
        obtain ⟨g3, hf⟩ := kb_gd hf
        refine ka_X0_stitches (pc := 47) (v := (kb_a σ 3 x4.toNatClampNeg)) C g3 dX0_boundIn_47 rfl ?_
        refine kj_bipush (pc := 48) (v := (8 : Int32)) C dX0_boundIn_48 (by decide) ?_
        refine kj_icmp_ne (pc := 50) 56 C dX0_boundIn_50 (by decide) (fun c4 => ?_) (fun c4 => ?_)
        · have hf := kb_ife hf c4
          exact hp56 x2 x3 x4 σ hf
        · have hf := kb_ift hf c4
          refine kj_iinc (pc := 53) C 2 [1, 2, 0, 3] (L2 := [(0, .ref (a 2)), (2, .int x2), (3, .int (x3 + (1 : Int32))), (4, .int x4)]) dX0_boundIn_53 rfl rfl (by decide) rfl ?_
          exact hp56 x2 (x3 + (1 : Int32)) x4 σ hf
  refine kj_sub [0, 1, 2] (L2 := [(0, .ref (a 2)), (1, .int x1), (2, .int x2)]) rfl ?_
  rw [fe_X0_boundIn] at hf
  refine kj_aload_n (pc := 0) C 0 dX0_boundIn_0 rfl rfl ?_
  refine kj_iload_n (pc := 1) C 1 dX0_boundIn_1 rfl rfl ?_
  refine kj_callV0 (pc := 2) (as := [.int x1]) (rest := []) (b := (a 2)) C (ct_X0_hasRow l V A x1 a σ sh ex rfl) wd_X0_hasRow wk_X0_101 wi_X0_hasRow ws_X0_hasRow wz_X0 rfl rfl hd_X0_hasRow ⟨by decide, by decide⟩ 2 rfl rfl rfl rfl (Nat.le_of_ble_eq_true rfl) (by decide) dX0_boundIn_2 ?_
  refine kj_if_eq (pc := 5) 16 C dX0_boundIn_5 (by decide) (fun c1 => ?_) (fun c1 => ?_)
  · have hf := kb_ift hf c1
    refine kj_iconst (pc := 16) (v := (0 : Int32)) C dX0_boundIn_16 (by decide) ?_
    cases hf
    exact kj_iret (pc := 17) C dX0_boundIn_17
  · have hf := kb_ife hf c1
    refine kj_aload_n (pc := 8) C 0 dX0_boundIn_8 rfl rfl ?_
    refine kj_iload_n (pc := 9) C 2 dX0_boundIn_9 rfl rfl ?_
    refine kj_callV0 (pc := 10) (as := [.int x2]) (rest := []) (b := (a 2)) C (ct_X0_hasRow l V A x2 a σ sh ex rfl) wd_X0_hasRow wk_X0_101 wi_X0_hasRow ws_X0_hasRow wz_X0 rfl rfl hd_X0_hasRow ⟨by decide, by decide⟩ 2 rfl rfl rfl rfl (Nat.le_of_ble_eq_true rfl) (by decide) dX0_boundIn_10 ?_
    refine kj_if_ne (pc := 13) 18 C dX0_boundIn_13 (by decide) (fun c2 => ?_) (fun c2 => ?_)
    · have hf := kb_ife hf c2
      refine kj_iconst (pc := 18) (v := (0 : Int32)) C dX0_boundIn_18 (by decide) ?_
      refine kj_istore_n (pc := 19) C [1, 2, 3, 0] (L2 := [(0, .ref (a 2)), (1, .int x1), (2, .int x2), (3, .int (0 : Int32))]) dX0_boundIn_19 rfl (by decide) rfl ?_
      refine kj_aload_n (pc := 20) C 0 dX0_boundIn_20 rfl rfl ?_
      refine kg_X0_firstStitches (pc := 21) C wf_X0_13 dX0_boundIn_21 ?_
      refine kj_iload_n (pc := 24) C 1 dX0_boundIn_24 rfl rfl ?_
      obtain ⟨g3, hf⟩ := kb_gd hf
      refine ka_X0_firstStitches (pc := 25) (v := (kb_a σ 2 x1.toNatClampNeg)) C g3 dX0_boundIn_25 rfl ?_
      refine kj_istore (pc := 26) C [1, 2, 3, 4, 0] (L2 := [(0, .ref (a 2)), (1, .int x1), (2, .int x2), (3, .int (0 : Int32)), (4, .int (kb_a σ 2 x1.toNatClampNeg))]) dX0_boundIn_26 (by decide) rfl ?_
      refine kj_sub [0, 2, 3, 4] (L2 := [(0, .ref (a 2)), (2, .int x2), (3, .int (0 : Int32)), (4, .int (kb_a σ 2 x1.toNatClampNeg))]) rfl ?_
      exact hp28 kb_FU x2 (0 : Int32) (kb_a σ 2 x1.toNatClampNeg) σ hf
    · have hf := kb_ift hf c2
      refine kj_iconst (pc := 16) (v := (0 : Int32)) C dX0_boundIn_16 (by decide) ?_
      cases hf
      exact kj_iret (pc := 17) C dX0_boundIn_17
def fn_X1_answer  (x0 : Int32) (x1 : Int32)  : Int32 :=
  (-(((1000 : Int32) * x0) + x1))
theorem fe_X1_answer  (x0 : Int32) (x1 : Int32)  : fn_X1_answer  x0 x1  =
  (-(((1000 : Int32) * x0) + x1)) := rfl
theorem hd_X1_answer : yX1_answer.cls ≠ "java/lang/invoke/MethodHandle" ∧ yX1_answer.cls ≠ "java/lang/invoke/VarHandle" ∧ (parseMethodDescriptor yX1_answer.desc).map (fun d => d.parameters.length) = some 2 := by decide +kernel
set_option maxRecDepth 100000 in
set_option maxHeartbeats 4000000 in
theorem ct_X1_answer (l : Launch) (V : kb_V) (A : Nat → Prop)  (x0 : Int32) (x1 : Int32) (ws : va_W) {r : Int32} (hf : fn_X1_answer  x0 x1  = r) : kb_T l yX1_answer cX1_answer 2 (some .int) ({ frames := 0, cells := 0, slots := 0, locals := 0 } : Room) V A [.int x0, .int x1] ws (some (.int r)) ws 0 0 := by
  refine kb_start (cc := cX1_answer) (nL := 2) (ret := (some .int)) (own := RX1) (by decide) rfl (Nat.le_of_ble_eq_true rfl) ?_
  intro p e s m args below meth c C
  refine kj_sub [0, 1] (L2 := [(0, .int x0), (1, .int x1)]) rfl ?_
  rw [fe_X1_answer] at hf
  refine kj_sipush (pc := 0) (v := (1000 : Int32)) C dX1_answer_0 (by decide) ?_
  refine kj_iload_n (pc := 3) C 0 dX1_answer_3 rfl rfl ?_
  refine kj_imul (pc := 4) C dX1_answer_4 ?_
  refine kj_iload_n (pc := 5) C 1 dX1_answer_5 rfl rfl ?_
  refine kj_iadd (pc := 6) C dX1_answer_6 ?_
  refine kj_ineg (pc := 7) C dX1_answer_7 ?_
  subst hf
  exact kj_iret (pc := 8) C dX1_answer_8
def fn_X3_clear   (σ : kb_S) : Option (kb_S) :=
  some (kb_p σ 16 (0 : Int32))
theorem fe_X3_clear   (σ : kb_S) : fn_X3_clear   σ =
  some (kb_p σ 16 (0 : Int32)) := rfl
theorem hd_X3_clear : yX3_clear.cls = RX3 ∧ yX3_clear.cls ≠ "java/lang/invoke/MethodHandle" ∧ yX3_clear.cls ≠ "java/lang/invoke/VarHandle" ∧ (parseMethodDescriptor yX3_clear.desc).map (fun d => d.parameters.length) = some 0 := by decide +kernel
set_option maxRecDepth 100000 in
set_option maxHeartbeats 4000000 in
theorem ct_X3_clear (l : Launch) (V : kb_V) (A : Nat → Prop)   (a : Nat → Nat) (σ : kb_S) (sh : Value) (ex : va_W) {σ9 : kb_S} (hf : fn_X3_clear   σ = some σ9) : kb_T l yX3_clear cX3_clear 1 none ({ frames := 0, cells := 0, slots := 0, locals := 0 } : Room) V A [.ref (a 5)] (kb_W V a σ sh ex) none (kb_W V a σ9 sh ex) 0 0 := by
  refine kb_start (cc := cX3_clear) (nL := 1) (ret := none) (own := RX3) (by decide) rfl (Nat.le_of_ble_eq_true rfl) ?_
  intro p e s m args below meth c C
  refine kj_sub [0] (L2 := [(0, .ref (a 5))]) rfl ?_
  rw [fe_X3_clear] at hf
  refine kj_aload_n (pc := 0) C 0 dX3_clear_0 rfl rfl ?_
  refine kj_iconst (pc := 1) (v := (0 : Int32)) C dX3_clear_1 (by decide) ?_
  refine kp_X3_size (pc := 2) C wf_X3_28 dX3_clear_2 ?_
  cases hf
  exact kj_vret (pc := 5) C dX3_clear_5
def fn_X3_size   (σ : kb_S) : Int32 :=
  (kb_g σ 16)
theorem fe_X3_size   (σ : kb_S) : fn_X3_size   σ =
  (kb_g σ 16) := rfl
theorem hd_X3_size : yX3_size.cls = RX3 ∧ yX3_size.cls ≠ "java/lang/invoke/MethodHandle" ∧ yX3_size.cls ≠ "java/lang/invoke/VarHandle" ∧ (parseMethodDescriptor yX3_size.desc).map (fun d => d.parameters.length) = some 0 := by decide +kernel
set_option maxRecDepth 100000 in
set_option maxHeartbeats 4000000 in
theorem ct_X3_size (l : Launch) (V : kb_V) (A : Nat → Prop)   (a : Nat → Nat) (σ : kb_S) (sh : Value) (ex : va_W) {r : Int32} (hf : fn_X3_size   σ = r) : kb_T l yX3_size cX3_size 1 (some .int) ({ frames := 0, cells := 0, slots := 0, locals := 0 } : Room) V A [.ref (a 5)] (kb_W V a σ sh ex) (some (.int r)) (kb_W V a σ sh ex) 0 0 := by
  refine kb_start (cc := cX3_size) (nL := 1) (ret := (some .int)) (own := RX3) (by decide) rfl (Nat.le_of_ble_eq_true rfl) ?_
  intro p e s m args below meth c C
  refine kj_sub [0] (L2 := [(0, .ref (a 5))]) rfl ?_
  rw [fe_X3_size] at hf
  refine kj_aload_n (pc := 0) C 0 dX3_size_0 rfl rfl ?_
  refine kg_X3_size (pc := 1) (v := (kb_g σ 16)) C wf_X3_28 dX3_size_1 rfl ?_
  subst hf
  exact kj_iret (pc := 4) C dX3_size_4
def fn_X3_add  (x1 : Int32) (x2 : Int32) (x3 : Int32) (x4 : Int32) (σ : kb_S) : Option (kb_S) :=
  if (200 : Int32) ≤ (kb_g σ 16) then
    some σ
  else
    if kb_in (kb_g σ 16) 200 = true then
      if kb_in (kb_g σ 16) 200 = true then
        if kb_in (kb_g σ 16) 200 = true then
          if kb_in (kb_g σ 16) 200 = true then
            if kb_in (kb_g σ 16) 200 = true then
              some (kb_p (kb_bp (kb_ap (kb_ap (kb_ap (kb_ap σ 7 (kb_g σ 16).toNatClampNeg x1) 10 (kb_g σ 16).toNatClampNeg x2) 9 (kb_g σ 16).toNatClampNeg x3) 8 (kb_g σ 16).toNatClampNeg x4) 2 (kb_g σ 16).toNatClampNeg (0 : Int64)) 16 ((kb_g σ 16) + (1 : Int32)))
            else none
          else none
        else none
      else none
    else none
theorem fe_X3_add  (x1 : Int32) (x2 : Int32) (x3 : Int32) (x4 : Int32) (σ : kb_S) : fn_X3_add  x1 x2 x3 x4 σ =
  if (200 : Int32) ≤ (kb_g σ 16) then
    some σ
  else
    if kb_in (kb_g σ 16) 200 = true then
      if kb_in (kb_g σ 16) 200 = true then
        if kb_in (kb_g σ 16) 200 = true then
          if kb_in (kb_g σ 16) 200 = true then
            if kb_in (kb_g σ 16) 200 = true then
              some (kb_p (kb_bp (kb_ap (kb_ap (kb_ap (kb_ap σ 7 (kb_g σ 16).toNatClampNeg x1) 10 (kb_g σ 16).toNatClampNeg x2) 9 (kb_g σ 16).toNatClampNeg x3) 8 (kb_g σ 16).toNatClampNeg x4) 2 (kb_g σ 16).toNatClampNeg (0 : Int64)) 16 ((kb_g σ 16) + (1 : Int32)))
            else none
          else none
        else none
      else none
    else none := rfl
theorem hd_X3_add : yX3_add.cls = RX3 ∧ yX3_add.cls ≠ "java/lang/invoke/MethodHandle" ∧ yX3_add.cls ≠ "java/lang/invoke/VarHandle" ∧ (parseMethodDescriptor yX3_add.desc).map (fun d => d.parameters.length) = some 4 := by decide +kernel
set_option maxRecDepth 100000 in
set_option maxHeartbeats 4000000 in
theorem ct_X3_add (l : Launch) (V : kb_V) (A : Nat → Prop)  (x1 : Int32) (x2 : Int32) (x3 : Int32) (x4 : Int32) (a : Nat → Nat) (σ : kb_S) (sh : Value) (ex : va_W) {σ9 : kb_S} (hf : fn_X3_add  x1 x2 x3 x4 σ = some σ9) : kb_T l yX3_add cX3_add 5 none ({ frames := 0, cells := 0, slots := 0, locals := 0 } : Room) V A [.ref (a 5), .int x1, .int x2, .int x3, .int x4] (kb_W V a σ sh ex) none (kb_W V a σ9 sh ex) 0 0 := by
  refine kb_start (cc := cX3_add) (nL := 5) (ret := none) (own := RX3) (by decide) rfl (Nat.le_of_ble_eq_true rfl) ?_
  intro p e s m args below meth c C
  refine kj_sub [0, 1, 2, 3, 4] (L2 := [(0, .ref (a 5)), (1, .int x1), (2, .int x2), (3, .int x3), (4, .int x4)]) rfl ?_
  rw [fe_X3_add] at hf
  refine kj_aload_n (pc := 0) C 0 dX3_add_0 rfl rfl ?_
  refine kg_X3_size (pc := 1) (v := (kb_g σ 16)) C wf_X3_28 dX3_add_1 rfl ?_
  refine kj_sipush (pc := 4) (v := (200 : Int32)) C dX3_add_4 (by decide) ?_
  refine kj_icmp_ge (pc := 7) 71 C dX3_add_7 (by decide) (fun c1 => ?_) (fun c1 => ?_)
  · have hf := kb_ift hf c1
    cases hf
    exact kj_vret (pc := 71) C dX3_add_71
  · have hf := kb_ife hf c1
    refine kj_aload_n (pc := 10) C 0 dX3_add_10 rfl rfl ?_
    refine kg_X3_kinds (pc := 11) C wf_X3_11 dX3_add_11 ?_
    refine kj_aload_n (pc := 14) C 0 dX3_add_14 rfl rfl ?_
    refine kg_X3_size (pc := 15) (v := (kb_g σ 16)) C wf_X3_28 dX3_add_15 rfl ?_
    refine kj_iload_n (pc := 18) C 1 dX3_add_18 rfl rfl ?_
    obtain ⟨g2, hf⟩ := kb_gd hf
    refine ks_X3_kinds (pc := 19) C g2 dX3_add_19 ?_
    refine kj_aload_n (pc := 20) C 0 dX3_add_20 rfl rfl ?_
    refine kg_X3_links (pc := 21) C wf_X3_21 dX3_add_21 ?_
    refine kj_aload_n (pc := 24) C 0 dX3_add_24 rfl rfl ?_
    refine kg_X3_size (pc := 25) (v := (kb_g σ 16)) C wf_X3_28 dX3_add_25 rfl ?_
    refine kj_iload_n (pc := 28) C 2 dX3_add_28 rfl rfl ?_
    obtain ⟨g3, hf⟩ := kb_gd hf
    refine ks_X3_links (pc := 29) C g3 dX3_add_29 ?_
    refine kj_aload_n (pc := 30) C 0 dX3_add_30 rfl rfl ?_
    refine kg_X3_counts (pc := 31) C wf_X3_18 dX3_add_31 ?_
    refine kj_aload_n (pc := 34) C 0 dX3_add_34 rfl rfl ?_
    refine kg_X3_size (pc := 35) (v := (kb_g σ 16)) C wf_X3_28 dX3_add_35 rfl ?_
    refine kj_iload_n (pc := 38) C 3 dX3_add_38 rfl rfl ?_
    obtain ⟨g4, hf⟩ := kb_gd hf
    refine ks_X3_counts (pc := 39) C g4 dX3_add_39 ?_
    refine kj_aload_n (pc := 40) C 0 dX3_add_40 rfl rfl ?_
    refine kg_X3_places (pc := 41) C wf_X3_15 dX3_add_41 ?_
    refine kj_aload_n (pc := 44) C 0 dX3_add_44 rfl rfl ?_
    refine kg_X3_size (pc := 45) (v := (kb_g σ 16)) C wf_X3_28 dX3_add_45 rfl ?_
    refine kj_iload (pc := 48) C 4 dX3_add_48 rfl ?_
    obtain ⟨g5, hf⟩ := kb_gd hf
    refine ks_X3_places (pc := 50) C g5 dX3_add_50 ?_
    refine kj_aload_n (pc := 51) C 0 dX3_add_51 rfl rfl ?_
    refine kg_X3_takes (pc := 52) C wf_X3_24 dX3_add_52 ?_
    refine kj_aload_n (pc := 55) C 0 dX3_add_55 rfl rfl ?_
    refine kg_X3_size (pc := 56) (v := (kb_g σ 16)) C wf_X3_28 dX3_add_56 rfl ?_
    refine kj_lconst (pc := 59) (v := (0 : Int64)) C dX3_add_59 (by decide) ?_
    obtain ⟨g6, hf⟩ := kb_gd hf
    refine ks_X3_takes (pc := 60) C g6 dX3_add_60 ?_
    refine kj_aload_n (pc := 61) C 0 dX3_add_61 rfl rfl ?_
    refine kj_dup (pc := 62) C dX3_add_62 rfl ?_
    refine kg_X3_size (pc := 63) (v := (kb_g σ 16)) C wf_X3_28 dX3_add_63 rfl ?_
    refine kj_iconst (pc := 66) (v := (1 : Int32)) C dX3_add_66 (by decide) ?_
    refine kj_iadd (pc := 67) C dX3_add_67 ?_
    refine kp_X3_size (pc := 68) C wf_X3_28 dX3_add_68 ?_
    cases hf
    exact kj_vret (pc := 71) C dX3_add_71
def fn_X3_addStitches  (x1 : Int32) (x2 : Int32) (x3 : Int32) (σ : kb_S) : Option (kb_S) :=
  (fn_X3_add (0 : Int32) x1 x2 x3 σ).bind fun q1 =>
  some q1
theorem fe_X3_addStitches  (x1 : Int32) (x2 : Int32) (x3 : Int32) (σ : kb_S) : fn_X3_addStitches  x1 x2 x3 σ =
  (fn_X3_add (0 : Int32) x1 x2 x3 σ).bind fun q1 =>
  some q1 := rfl
theorem hd_X3_addStitches : yX3_addStitches.cls = RX3 ∧ yX3_addStitches.cls ≠ "java/lang/invoke/MethodHandle" ∧ yX3_addStitches.cls ≠ "java/lang/invoke/VarHandle" ∧ (parseMethodDescriptor yX3_addStitches.desc).map (fun d => d.parameters.length) = some 3 := by decide +kernel
set_option maxRecDepth 100000 in
set_option maxHeartbeats 4000000 in
theorem ct_X3_addStitches (l : Launch) (V : kb_V) (A : Nat → Prop)  (x1 : Int32) (x2 : Int32) (x3 : Int32) (a : Nat → Nat) (σ : kb_S) (sh : Value) (ex : va_W) {σ9 : kb_S} (hf : fn_X3_addStitches  x1 x2 x3 σ = some σ9) : kb_T l yX3_addStitches cX3_addStitches 4 none ({ frames := 1, cells := 0, slots := 0, locals := 24 } : Room) V A [.ref (a 5), .int x1, .int x2, .int x3] (kb_W V a σ sh ex) none (kb_W V a σ9 sh ex) 0 0 := by
  refine kb_start (cc := cX3_addStitches) (nL := 4) (ret := none) (own := RX3) (by decide) rfl (Nat.le_of_ble_eq_true rfl) ?_
  intro p e s m args below meth c C
  refine kj_sub [0, 1, 2, 3] (L2 := [(0, .ref (a 5)), (1, .int x1), (2, .int x2), (3, .int x3)]) rfl ?_
  rw [fe_X3_addStitches] at hf
  refine kj_aload_n (pc := 0) C 0 dX3_addStitches_0 rfl rfl ?_
  refine kj_iconst (pc := 1) (v := (0 : Int32)) C dX3_addStitches_1 (by decide) ?_
  refine kj_iload_n (pc := 2) C 1 dX3_addStitches_2 rfl rfl ?_
  refine kj_iload_n (pc := 3) C 2 dX3_addStitches_3 rfl rfl ?_
  refine kj_iload_n (pc := 4) C 3 dX3_addStitches_4 rfl rfl ?_
  obtain ⟨q1, hq1, hf⟩ := kb_bd hf
  refine kj_callV0 (pc := 5) (as := [.int (0 : Int32), .int x1, .int x2, .int x3]) (rest := []) (b := (a 5)) C (ct_X3_add l V A (0 : Int32) x1 x2 x3 a σ sh ex hq1) wd_X3_add wk_X3_32 wi_X3_add ws_X3_add wz_X3 rfl rfl hd_X3_add ⟨by decide, by decide⟩ 5 rfl rfl rfl rfl (Nat.le_of_ble_eq_true rfl) (by decide) dX3_addStitches_5 ?_
  cases hf
  exact kj_vret (pc := 8) C dX3_addStitches_8
def fn_X3_addOpen  (x1 : Int32) (x2 : Int32) (σ : kb_S) : Option (kb_S) :=
  (fn_X3_add x1 (0 : Int32) (0 : Int32) x2 σ).bind fun q1 =>
  some q1
theorem fe_X3_addOpen  (x1 : Int32) (x2 : Int32) (σ : kb_S) : fn_X3_addOpen  x1 x2 σ =
  (fn_X3_add x1 (0 : Int32) (0 : Int32) x2 σ).bind fun q1 =>
  some q1 := rfl
theorem hd_X3_addOpen : yX3_addOpen.cls = RX3 ∧ yX3_addOpen.cls ≠ "java/lang/invoke/MethodHandle" ∧ yX3_addOpen.cls ≠ "java/lang/invoke/VarHandle" ∧ (parseMethodDescriptor yX3_addOpen.desc).map (fun d => d.parameters.length) = some 2 := by decide +kernel
set_option maxRecDepth 100000 in
set_option maxHeartbeats 4000000 in
theorem ct_X3_addOpen (l : Launch) (V : kb_V) (A : Nat → Prop)  (x1 : Int32) (x2 : Int32) (a : Nat → Nat) (σ : kb_S) (sh : Value) (ex : va_W) {σ9 : kb_S} (hf : fn_X3_addOpen  x1 x2 σ = some σ9) : kb_T l yX3_addOpen cX3_addOpen 3 none ({ frames := 1, cells := 0, slots := 0, locals := 24 } : Room) V A [.ref (a 5), .int x1, .int x2] (kb_W V a σ sh ex) none (kb_W V a σ9 sh ex) 0 0 := by
  refine kb_start (cc := cX3_addOpen) (nL := 3) (ret := none) (own := RX3) (by decide) rfl (Nat.le_of_ble_eq_true rfl) ?_
  intro p e s m args below meth c C
  refine kj_sub [0, 1, 2] (L2 := [(0, .ref (a 5)), (1, .int x1), (2, .int x2)]) rfl ?_
  rw [fe_X3_addOpen] at hf
  refine kj_aload_n (pc := 0) C 0 dX3_addOpen_0 rfl rfl ?_
  refine kj_iload_n (pc := 1) C 1 dX3_addOpen_1 rfl rfl ?_
  refine kj_iconst (pc := 2) (v := (0 : Int32)) C dX3_addOpen_2 (by decide) ?_
  refine kj_iconst (pc := 3) (v := (0 : Int32)) C dX3_addOpen_3 (by decide) ?_
  refine kj_iload_n (pc := 4) C 2 dX3_addOpen_4 rfl rfl ?_
  obtain ⟨q1, hq1, hf⟩ := kb_bd hf
  refine kj_callV0 (pc := 5) (as := [.int x1, .int (0 : Int32), .int (0 : Int32), .int x2]) (rest := []) (b := (a 5)) C (ct_X3_add l V A x1 (0 : Int32) (0 : Int32) x2 a σ sh ex hq1) wd_X3_add wk_X3_32 wi_X3_add ws_X3_add wz_X3 rfl rfl hd_X3_add ⟨by decide, by decide⟩ 5 rfl rfl rfl rfl (Nat.le_of_ble_eq_true rfl) (by decide) dX3_addOpen_5 ?_
  cases hf
  exact kj_vret (pc := 8) C dX3_addOpen_8
def fp_X3_addClose_37   (x1 : Int32) (x3 : Int32) (σ : kb_S) : Option (kb_S) :=
  (fn_X3_add (3 : Int32) x1 (0 : Int32) x3 σ).bind fun q1 =>
  some q1
theorem fp_X3_addClose_37_e   (x1 : Int32) (x3 : Int32) (σ : kb_S) : fp_X3_addClose_37  x1 x3 σ =
  (fn_X3_add (3 : Int32) x1 (0 : Int32) x3 σ).bind fun q1 =>
  some q1 := rfl
def fn_X3_addClose  (x1 : Int32) (x2 : Int32) (x3 : Int32) (x4 : Int64) (σ : kb_S) : Option (kb_S) :=
  if x1 < 0 then
    fp_X3_addClose_37   x1 x3 σ
  else
    if (kb_g σ 16) ≤ x1 then
      fp_X3_addClose_37   x1 x3 σ
    else
      if kb_in x1 200 = true then
        if kb_in x1 200 = true then
          if kb_in x1 200 = true then
            fp_X3_addClose_37   x1 x3 (kb_bp (kb_ap (kb_ap σ 10 x1.toNatClampNeg (kb_g σ 16)) 9 x1.toNatClampNeg x2) 2 x1.toNatClampNeg x4)
          else none
        else none
      else none
theorem fe_X3_addClose  (x1 : Int32) (x2 : Int32) (x3 : Int32) (x4 : Int64) (σ : kb_S) : fn_X3_addClose  x1 x2 x3 x4 σ =
  if x1 < 0 then
    fp_X3_addClose_37   x1 x3 σ
  else
    if (kb_g σ 16) ≤ x1 then
      fp_X3_addClose_37   x1 x3 σ
    else
      if kb_in x1 200 = true then
        if kb_in x1 200 = true then
          if kb_in x1 200 = true then
            fp_X3_addClose_37   x1 x3 (kb_bp (kb_ap (kb_ap σ 10 x1.toNatClampNeg (kb_g σ 16)) 9 x1.toNatClampNeg x2) 2 x1.toNatClampNeg x4)
          else none
        else none
      else none := rfl
theorem hd_X3_addClose : yX3_addClose.cls = RX3 ∧ yX3_addClose.cls ≠ "java/lang/invoke/MethodHandle" ∧ yX3_addClose.cls ≠ "java/lang/invoke/VarHandle" ∧ (parseMethodDescriptor yX3_addClose.desc).map (fun d => d.parameters.length) = some 4 := by decide +kernel
set_option maxRecDepth 100000 in
set_option maxHeartbeats 4000000 in
theorem ct_X3_addClose (l : Launch) (V : kb_V) (A : Nat → Prop)  (x1 : Int32) (x2 : Int32) (x3 : Int32) (x4 : Int64) (a : Nat → Nat) (σ : kb_S) (sh : Value) (ex : va_W) {σ9 : kb_S} (hf : fn_X3_addClose  x1 x2 x3 x4 σ = some σ9) : kb_T l yX3_addClose cX3_addClose 6 none ({ frames := 1, cells := 0, slots := 0, locals := 24 } : Room) V A [.ref (a 5), .int x1, .int x2, .int x3, .long x4] (kb_W V a σ sh ex) none (kb_W V a σ9 sh ex) 0 0 := by
  refine kb_start (cc := cX3_addClose) (nL := 6) (ret := none) (own := RX3) (by decide) rfl (Nat.le_of_ble_eq_true rfl) ?_
  intro p e s m args below meth c C
  have hp37 : ∀ (x1 : Int32) (x3 : Int32) (σ : kb_S), fp_X3_addClose_37   x1 x3 σ = some σ9 → kb_J p l e ({ frames := 1, cells := 0, slots := 0, locals := 24 } : Room) s m args below meth c 6 V A 0 0 (MQ below (kb_post V A none (kb_W V a σ9 sh ex)) args s 0 0 A) 37 [(0, .ref (a 5)), (1, .int x1), (3, .int x3)] [] (kb_W V a σ sh ex) := by
    intro x1 x3 σ hf
    rw [fp_X3_addClose_37_e] at hf
    refine kj_aload_n (pc := 37) C 0 dX3_addClose_37 rfl rfl ?_
    refine kj_iconst (pc := 38) (v := (3 : Int32)) C dX3_addClose_38 (by decide) ?_
    refine kj_iload_n (pc := 39) C 1 dX3_addClose_39 rfl rfl ?_
    refine kj_iconst (pc := 40) (v := (0 : Int32)) C dX3_addClose_40 (by decide) ?_
    refine kj_iload_n (pc := 41) C 2 dX3_addClose_41 rfl rfl ?_
    obtain ⟨q1, hq1, hf⟩ := kb_bd hf
    refine kj_callV0 (pc := 42) (as := [.int (3 : Int32), .int x1, .int (0 : Int32), .int x3]) (rest := []) (b := (a 5)) C (ct_X3_add l V A (3 : Int32) x1 (0 : Int32) x3 a σ sh ex hq1) wd_X3_add wk_X3_32 wi_X3_add ws_X3_add wz_X3 rfl rfl hd_X3_add ⟨by decide, by decide⟩ 5 rfl rfl rfl rfl (Nat.le_of_ble_eq_true rfl) (by decide) dX3_addClose_42 ?_
    cases hf
    exact kj_vret (pc := 45) C dX3_addClose_45
  refine kj_sub [0, 1, 2, 3, 4] (L2 := [(0, .ref (a 5)), (1, .int x1), (2, .int x2), (3, .int x3), (4, .long x4)]) rfl ?_
  rw [fe_X3_addClose] at hf
  refine kj_iload_n (pc := 0) C 1 dX3_addClose_0 rfl rfl ?_
  refine kj_if_lt (pc := 1) 37 C dX3_addClose_1 (by decide) (fun c1 => ?_) (fun c1 => ?_)
  · have hf := kb_ift hf c1
    refine kj_sub [0, 1, 3] (L2 := [(0, .ref (a 5)), (1, .int x1), (3, .int x3)]) rfl ?_
    exact hp37 x1 x3 σ hf
  · have hf := kb_ife hf c1
    refine kj_iload_n (pc := 4) C 1 dX3_addClose_4 rfl rfl ?_
    refine kj_aload_n (pc := 5) C 0 dX3_addClose_5 rfl rfl ?_
    refine kg_X3_size (pc := 6) (v := (kb_g σ 16)) C wf_X3_28 dX3_addClose_6 rfl ?_
    refine kj_icmp_ge (pc := 9) 37 C dX3_addClose_9 (by decide) (fun c2 => ?_) (fun c2 => ?_)
    · have hf := kb_ift hf c2
      refine kj_sub [0, 1, 3] (L2 := [(0, .ref (a 5)), (1, .int x1), (3, .int x3)]) rfl ?_
      exact hp37 x1 x3 σ hf
    · have hf := kb_ife hf c2
      refine kj_aload_n (pc := 12) C 0 dX3_addClose_12 rfl rfl ?_
      refine kg_X3_links (pc := 13) C wf_X3_21 dX3_addClose_13 ?_
      refine kj_iload_n (pc := 16) C 1 dX3_addClose_16 rfl rfl ?_
      refine kj_aload_n (pc := 17) C 0 dX3_addClose_17 rfl rfl ?_
      refine kg_X3_size (pc := 18) (v := (kb_g σ 16)) C wf_X3_28 dX3_addClose_18 rfl ?_
      obtain ⟨g3, hf⟩ := kb_gd hf
      refine ks_X3_links (pc := 21) C g3 dX3_addClose_21 ?_
      refine kj_aload_n (pc := 22) C 0 dX3_addClose_22 rfl rfl ?_
      refine kg_X3_counts (pc := 23) C wf_X3_18 dX3_addClose_23 ?_
      refine kj_iload_n (pc := 26) C 1 dX3_addClose_26 rfl rfl ?_
      refine kj_iload_n (pc := 27) C 2 dX3_addClose_27 rfl rfl ?_
      obtain ⟨g4, hf⟩ := kb_gd hf
      refine ks_X3_counts (pc := 28) C g4 dX3_addClose_28 ?_
      refine kj_aload_n (pc := 29) C 0 dX3_addClose_29 rfl rfl ?_
      refine kg_X3_takes (pc := 30) C wf_X3_24 dX3_addClose_30 ?_
      refine kj_iload_n (pc := 33) C 1 dX3_addClose_33 rfl rfl ?_
      refine kj_lload (pc := 34) C 4 dX3_addClose_34 rfl ?_
      obtain ⟨g5, hf⟩ := kb_gd hf
      refine ks_X3_takes (pc := 36) C g5 dX3_addClose_36 ?_
      refine kj_sub [0, 1, 3] (L2 := [(0, .ref (a 5)), (1, .int x1), (3, .int x3)]) rfl ?_
      exact hp37 x1 x3 (kb_bp (kb_ap (kb_ap σ 10 x1.toNatClampNeg (kb_g σ 16)) 9 x1.toNatClampNeg x2) 2 x1.toNatClampNeg x4) hf
def fn_X3_has  (x1 : Int32) (σ : kb_S) : Int32 :=
  if x1 < 0 then
    (0 : Int32)
  else
    if (kb_g σ 16) ≤ x1 then
      (0 : Int32)
    else
      (1 : Int32)
theorem fe_X3_has  (x1 : Int32) (σ : kb_S) : fn_X3_has  x1 σ =
  if x1 < 0 then
    (0 : Int32)
  else
    if (kb_g σ 16) ≤ x1 then
      (0 : Int32)
    else
      (1 : Int32) := rfl
theorem hd_X3_has : yX3_has.cls = RX3 ∧ yX3_has.cls ≠ "java/lang/invoke/MethodHandle" ∧ yX3_has.cls ≠ "java/lang/invoke/VarHandle" ∧ (parseMethodDescriptor yX3_has.desc).map (fun d => d.parameters.length) = some 1 := by decide +kernel
set_option maxRecDepth 100000 in
set_option maxHeartbeats 4000000 in
theorem ct_X3_has (l : Launch) (V : kb_V) (A : Nat → Prop)  (x1 : Int32) (a : Nat → Nat) (σ : kb_S) (sh : Value) (ex : va_W) {r : Int32} (hf : fn_X3_has  x1 σ = r) : kb_T l yX3_has cX3_has 2 (some .boolean) ({ frames := 0, cells := 0, slots := 0, locals := 0 } : Room) V A [.ref (a 5), .int x1] (kb_W V a σ sh ex) (some (.int r)) (kb_W V a σ sh ex) 0 0 := by
  refine kb_start (cc := cX3_has) (nL := 2) (ret := (some .boolean)) (own := RX3) (by decide) rfl (Nat.le_of_ble_eq_true rfl) ?_
  intro p e s m args below meth c C
  refine kj_sub [0, 1] (L2 := [(0, .ref (a 5)), (1, .int x1)]) rfl ?_
  rw [fe_X3_has] at hf
  refine kj_iload_n (pc := 0) C 1 dX3_has_0 rfl rfl ?_
  refine kj_if_lt (pc := 1) 16 C dX3_has_1 (by decide) (fun c1 => ?_) (fun c1 => ?_)
  · have hf := kb_ift hf c1
    refine kj_iconst (pc := 16) (v := (0 : Int32)) C dX3_has_16 (by decide) ?_
    subst hf
    exact kj_zret (pc := 17) C (by decide) dX3_has_17
  · have hf := kb_ife hf c1
    refine kj_iload_n (pc := 4) C 1 dX3_has_4 rfl rfl ?_
    refine kj_aload_n (pc := 5) C 0 dX3_has_5 rfl rfl ?_
    refine kg_X3_size (pc := 6) (v := (kb_g σ 16)) C wf_X3_28 dX3_has_6 rfl ?_
    refine kj_icmp_ge (pc := 9) 16 C dX3_has_9 (by decide) (fun c2 => ?_) (fun c2 => ?_)
    · have hf := kb_ift hf c2
      refine kj_iconst (pc := 16) (v := (0 : Int32)) C dX3_has_16 (by decide) ?_
      subst hf
      exact kj_zret (pc := 17) C (by decide) dX3_has_17
    · have hf := kb_ife hf c2
      refine kj_iconst (pc := 12) (v := (1 : Int32)) C dX3_has_12 (by decide) ?_
      refine kj_goto (pc := 13) 17 C dX3_has_13 (by decide) ?_
      subst hf
      exact kj_zret (pc := 17) C (by decide) dX3_has_17
def fn_X3_kind  (x1 : Int32) (σ : kb_S) : Option (Int32) :=
  if (fn_X3_has x1 σ) = 0 then
    some (3 : Int32)
  else
    if kb_in x1 200 = true then
      some (kb_a σ 7 x1.toNatClampNeg)
    else none
theorem fe_X3_kind  (x1 : Int32) (σ : kb_S) : fn_X3_kind  x1 σ =
  if (fn_X3_has x1 σ) = 0 then
    some (3 : Int32)
  else
    if kb_in x1 200 = true then
      some (kb_a σ 7 x1.toNatClampNeg)
    else none := rfl
theorem hd_X3_kind : yX3_kind.cls = RX3 ∧ yX3_kind.cls ≠ "java/lang/invoke/MethodHandle" ∧ yX3_kind.cls ≠ "java/lang/invoke/VarHandle" ∧ (parseMethodDescriptor yX3_kind.desc).map (fun d => d.parameters.length) = some 1 := by decide +kernel
set_option maxRecDepth 100000 in
set_option maxHeartbeats 4000000 in
theorem ct_X3_kind (l : Launch) (V : kb_V) (A : Nat → Prop)  (x1 : Int32) (a : Nat → Nat) (σ : kb_S) (sh : Value) (ex : va_W) {r : Int32} (hf : fn_X3_kind  x1 σ = some r) : kb_T l yX3_kind cX3_kind 2 (some .int) ({ frames := 1, cells := 0, slots := 0, locals := 21 } : Room) V A [.ref (a 5), .int x1] (kb_W V a σ sh ex) (some (.int r)) (kb_W V a σ sh ex) 0 0 := by
  refine kb_start (cc := cX3_kind) (nL := 2) (ret := (some .int)) (own := RX3) (by decide) rfl (Nat.le_of_ble_eq_true rfl) ?_
  intro p e s m args below meth c C
  refine kj_sub [0, 1] (L2 := [(0, .ref (a 5)), (1, .int x1)]) rfl ?_
  rw [fe_X3_kind] at hf
  refine kj_aload_n (pc := 0) C 0 dX3_kind_0 rfl rfl ?_
  refine kj_iload_n (pc := 1) C 1 dX3_kind_1 rfl rfl ?_
  refine kj_callV0 (pc := 2) (as := [.int x1]) (rest := []) (b := (a 5)) C (ct_X3_has l V A x1 a σ sh ex rfl) wd_X3_has wk_X3_36 wi_X3_has ws_X3_has wz_X3 rfl rfl hd_X3_has ⟨by decide, by decide⟩ 5 rfl rfl rfl rfl (Nat.le_of_ble_eq_true rfl) (by decide) dX3_kind_2 ?_
  refine kj_if_eq (pc := 5) 17 C dX3_kind_5 (by decide) (fun c1 => ?_) (fun c1 => ?_)
  · have hf := kb_ift hf c1
    refine kj_iconst (pc := 17) (v := (3 : Int32)) C dX3_kind_17 (by decide) ?_
    cases hf
    exact kj_iret (pc := 18) C dX3_kind_18
  · have hf := kb_ife hf c1
    refine kj_aload_n (pc := 8) C 0 dX3_kind_8 rfl rfl ?_
    refine kg_X3_kinds (pc := 9) C wf_X3_11 dX3_kind_9 ?_
    refine kj_iload_n (pc := 12) C 1 dX3_kind_12 rfl rfl ?_
    obtain ⟨g2, hf⟩ := kb_gd hf
    refine ka_X3_kinds (pc := 13) (v := (kb_a σ 7 x1.toNatClampNeg)) C g2 dX3_kind_13 rfl ?_
    refine kj_goto (pc := 14) 18 C dX3_kind_14 (by decide) ?_
    cases hf
    exact kj_iret (pc := 18) C dX3_kind_18
def fn_X3_link  (x1 : Int32) (σ : kb_S) : Option (Int32) :=
  if (fn_X3_has x1 σ) = 0 then
    some (0 : Int32)
  else
    if kb_in x1 200 = true then
      some (kb_a σ 10 x1.toNatClampNeg)
    else none
theorem fe_X3_link  (x1 : Int32) (σ : kb_S) : fn_X3_link  x1 σ =
  if (fn_X3_has x1 σ) = 0 then
    some (0 : Int32)
  else
    if kb_in x1 200 = true then
      some (kb_a σ 10 x1.toNatClampNeg)
    else none := rfl
theorem hd_X3_link : yX3_link.cls = RX3 ∧ yX3_link.cls ≠ "java/lang/invoke/MethodHandle" ∧ yX3_link.cls ≠ "java/lang/invoke/VarHandle" ∧ (parseMethodDescriptor yX3_link.desc).map (fun d => d.parameters.length) = some 1 := by decide +kernel
set_option maxRecDepth 100000 in
set_option maxHeartbeats 4000000 in
theorem ct_X3_link (l : Launch) (V : kb_V) (A : Nat → Prop)  (x1 : Int32) (a : Nat → Nat) (σ : kb_S) (sh : Value) (ex : va_W) {r : Int32} (hf : fn_X3_link  x1 σ = some r) : kb_T l yX3_link cX3_link 2 (some .int) ({ frames := 1, cells := 0, slots := 0, locals := 21 } : Room) V A [.ref (a 5), .int x1] (kb_W V a σ sh ex) (some (.int r)) (kb_W V a σ sh ex) 0 0 := by
  refine kb_start (cc := cX3_link) (nL := 2) (ret := (some .int)) (own := RX3) (by decide) rfl (Nat.le_of_ble_eq_true rfl) ?_
  intro p e s m args below meth c C
  refine kj_sub [0, 1] (L2 := [(0, .ref (a 5)), (1, .int x1)]) rfl ?_
  rw [fe_X3_link] at hf
  refine kj_aload_n (pc := 0) C 0 dX3_link_0 rfl rfl ?_
  refine kj_iload_n (pc := 1) C 1 dX3_link_1 rfl rfl ?_
  refine kj_callV0 (pc := 2) (as := [.int x1]) (rest := []) (b := (a 5)) C (ct_X3_has l V A x1 a σ sh ex rfl) wd_X3_has wk_X3_36 wi_X3_has ws_X3_has wz_X3 rfl rfl hd_X3_has ⟨by decide, by decide⟩ 5 rfl rfl rfl rfl (Nat.le_of_ble_eq_true rfl) (by decide) dX3_link_2 ?_
  refine kj_if_eq (pc := 5) 17 C dX3_link_5 (by decide) (fun c1 => ?_) (fun c1 => ?_)
  · have hf := kb_ift hf c1
    refine kj_iconst (pc := 17) (v := (0 : Int32)) C dX3_link_17 (by decide) ?_
    cases hf
    exact kj_iret (pc := 18) C dX3_link_18
  · have hf := kb_ife hf c1
    refine kj_aload_n (pc := 8) C 0 dX3_link_8 rfl rfl ?_
    refine kg_X3_links (pc := 9) C wf_X3_21 dX3_link_9 ?_
    refine kj_iload_n (pc := 12) C 1 dX3_link_12 rfl rfl ?_
    obtain ⟨g2, hf⟩ := kb_gd hf
    refine ka_X3_links (pc := 13) (v := (kb_a σ 10 x1.toNatClampNeg)) C g2 dX3_link_13 rfl ?_
    refine kj_goto (pc := 14) 18 C dX3_link_14 (by decide) ?_
    cases hf
    exact kj_iret (pc := 18) C dX3_link_18
def fn_X3_count  (x1 : Int32) (σ : kb_S) : Option (Int32) :=
  if (fn_X3_has x1 σ) = 0 then
    some (0 : Int32)
  else
    if kb_in x1 200 = true then
      some (kb_a σ 9 x1.toNatClampNeg)
    else none
theorem fe_X3_count  (x1 : Int32) (σ : kb_S) : fn_X3_count  x1 σ =
  if (fn_X3_has x1 σ) = 0 then
    some (0 : Int32)
  else
    if kb_in x1 200 = true then
      some (kb_a σ 9 x1.toNatClampNeg)
    else none := rfl
theorem hd_X3_count : yX3_count.cls = RX3 ∧ yX3_count.cls ≠ "java/lang/invoke/MethodHandle" ∧ yX3_count.cls ≠ "java/lang/invoke/VarHandle" ∧ (parseMethodDescriptor yX3_count.desc).map (fun d => d.parameters.length) = some 1 := by decide +kernel
set_option maxRecDepth 100000 in
set_option maxHeartbeats 4000000 in
theorem ct_X3_count (l : Launch) (V : kb_V) (A : Nat → Prop)  (x1 : Int32) (a : Nat → Nat) (σ : kb_S) (sh : Value) (ex : va_W) {r : Int32} (hf : fn_X3_count  x1 σ = some r) : kb_T l yX3_count cX3_count 2 (some .int) ({ frames := 1, cells := 0, slots := 0, locals := 21 } : Room) V A [.ref (a 5), .int x1] (kb_W V a σ sh ex) (some (.int r)) (kb_W V a σ sh ex) 0 0 := by
  refine kb_start (cc := cX3_count) (nL := 2) (ret := (some .int)) (own := RX3) (by decide) rfl (Nat.le_of_ble_eq_true rfl) ?_
  intro p e s m args below meth c C
  refine kj_sub [0, 1] (L2 := [(0, .ref (a 5)), (1, .int x1)]) rfl ?_
  rw [fe_X3_count] at hf
  refine kj_aload_n (pc := 0) C 0 dX3_count_0 rfl rfl ?_
  refine kj_iload_n (pc := 1) C 1 dX3_count_1 rfl rfl ?_
  refine kj_callV0 (pc := 2) (as := [.int x1]) (rest := []) (b := (a 5)) C (ct_X3_has l V A x1 a σ sh ex rfl) wd_X3_has wk_X3_36 wi_X3_has ws_X3_has wz_X3 rfl rfl hd_X3_has ⟨by decide, by decide⟩ 5 rfl rfl rfl rfl (Nat.le_of_ble_eq_true rfl) (by decide) dX3_count_2 ?_
  refine kj_if_eq (pc := 5) 17 C dX3_count_5 (by decide) (fun c1 => ?_) (fun c1 => ?_)
  · have hf := kb_ift hf c1
    refine kj_iconst (pc := 17) (v := (0 : Int32)) C dX3_count_17 (by decide) ?_
    cases hf
    exact kj_iret (pc := 18) C dX3_count_18
  · have hf := kb_ife hf c1
    refine kj_aload_n (pc := 8) C 0 dX3_count_8 rfl rfl ?_
    refine kg_X3_counts (pc := 9) C wf_X3_18 dX3_count_9 ?_
    refine kj_iload_n (pc := 12) C 1 dX3_count_12 rfl rfl ?_
    obtain ⟨g2, hf⟩ := kb_gd hf
    refine ka_X3_counts (pc := 13) (v := (kb_a σ 9 x1.toNatClampNeg)) C g2 dX3_count_13 rfl ?_
    refine kj_goto (pc := 14) 18 C dX3_count_14 (by decide) ?_
    cases hf
    exact kj_iret (pc := 18) C dX3_count_18
def fn_X3_place  (x1 : Int32) (σ : kb_S) : Option (Int32) :=
  if (fn_X3_has x1 σ) = 0 then
    some (0 : Int32)
  else
    if kb_in x1 200 = true then
      some (kb_a σ 8 x1.toNatClampNeg)
    else none
theorem fe_X3_place  (x1 : Int32) (σ : kb_S) : fn_X3_place  x1 σ =
  if (fn_X3_has x1 σ) = 0 then
    some (0 : Int32)
  else
    if kb_in x1 200 = true then
      some (kb_a σ 8 x1.toNatClampNeg)
    else none := rfl
theorem hd_X3_place : yX3_place.cls = RX3 ∧ yX3_place.cls ≠ "java/lang/invoke/MethodHandle" ∧ yX3_place.cls ≠ "java/lang/invoke/VarHandle" ∧ (parseMethodDescriptor yX3_place.desc).map (fun d => d.parameters.length) = some 1 := by decide +kernel
set_option maxRecDepth 100000 in
set_option maxHeartbeats 4000000 in
theorem ct_X3_place (l : Launch) (V : kb_V) (A : Nat → Prop)  (x1 : Int32) (a : Nat → Nat) (σ : kb_S) (sh : Value) (ex : va_W) {r : Int32} (hf : fn_X3_place  x1 σ = some r) : kb_T l yX3_place cX3_place 2 (some .int) ({ frames := 1, cells := 0, slots := 0, locals := 21 } : Room) V A [.ref (a 5), .int x1] (kb_W V a σ sh ex) (some (.int r)) (kb_W V a σ sh ex) 0 0 := by
  refine kb_start (cc := cX3_place) (nL := 2) (ret := (some .int)) (own := RX3) (by decide) rfl (Nat.le_of_ble_eq_true rfl) ?_
  intro p e s m args below meth c C
  refine kj_sub [0, 1] (L2 := [(0, .ref (a 5)), (1, .int x1)]) rfl ?_
  rw [fe_X3_place] at hf
  refine kj_aload_n (pc := 0) C 0 dX3_place_0 rfl rfl ?_
  refine kj_iload_n (pc := 1) C 1 dX3_place_1 rfl rfl ?_
  refine kj_callV0 (pc := 2) (as := [.int x1]) (rest := []) (b := (a 5)) C (ct_X3_has l V A x1 a σ sh ex rfl) wd_X3_has wk_X3_36 wi_X3_has ws_X3_has wz_X3 rfl rfl hd_X3_has ⟨by decide, by decide⟩ 5 rfl rfl rfl rfl (Nat.le_of_ble_eq_true rfl) (by decide) dX3_place_2 ?_
  refine kj_if_eq (pc := 5) 17 C dX3_place_5 (by decide) (fun c1 => ?_) (fun c1 => ?_)
  · have hf := kb_ift hf c1
    refine kj_iconst (pc := 17) (v := (0 : Int32)) C dX3_place_17 (by decide) ?_
    cases hf
    exact kj_iret (pc := 18) C dX3_place_18
  · have hf := kb_ife hf c1
    refine kj_aload_n (pc := 8) C 0 dX3_place_8 rfl rfl ?_
    refine kg_X3_places (pc := 9) C wf_X3_15 dX3_place_9 ?_
    refine kj_iload_n (pc := 12) C 1 dX3_place_12 rfl rfl ?_
    obtain ⟨g2, hf⟩ := kb_gd hf
    refine ka_X3_places (pc := 13) (v := (kb_a σ 8 x1.toNatClampNeg)) C g2 dX3_place_13 rfl ?_
    refine kj_goto (pc := 14) 18 C dX3_place_14 (by decide) ?_
    cases hf
    exact kj_iret (pc := 18) C dX3_place_18
def fn_X3_takes  (x1 : Int32) (σ : kb_S) : Option (Int64) :=
  if (fn_X3_has x1 σ) = 0 then
    some (0 : Int64)
  else
    if kb_in x1 200 = true then
      some (kb_b σ 2 x1.toNatClampNeg)
    else none
theorem fe_X3_takes  (x1 : Int32) (σ : kb_S) : fn_X3_takes  x1 σ =
  if (fn_X3_has x1 σ) = 0 then
    some (0 : Int64)
  else
    if kb_in x1 200 = true then
      some (kb_b σ 2 x1.toNatClampNeg)
    else none := rfl
theorem hd_X3_takes : yX3_takes.cls = RX3 ∧ yX3_takes.cls ≠ "java/lang/invoke/MethodHandle" ∧ yX3_takes.cls ≠ "java/lang/invoke/VarHandle" ∧ (parseMethodDescriptor yX3_takes.desc).map (fun d => d.parameters.length) = some 1 := by decide +kernel
set_option maxRecDepth 100000 in
set_option maxHeartbeats 4000000 in
theorem ct_X3_takes (l : Launch) (V : kb_V) (A : Nat → Prop)  (x1 : Int32) (a : Nat → Nat) (σ : kb_S) (sh : Value) (ex : va_W) {r : Int64} (hf : fn_X3_takes  x1 σ = some r) : kb_T l yX3_takes cX3_takes 2 (some .long) ({ frames := 1, cells := 0, slots := 0, locals := 21 } : Room) V A [.ref (a 5), .int x1] (kb_W V a σ sh ex) (some (.long r)) (kb_W V a σ sh ex) 0 0 := by
  refine kb_start (cc := cX3_takes) (nL := 2) (ret := (some .long)) (own := RX3) (by decide) rfl (Nat.le_of_ble_eq_true rfl) ?_
  intro p e s m args below meth c C
  refine kj_sub [0, 1] (L2 := [(0, .ref (a 5)), (1, .int x1)]) rfl ?_
  rw [fe_X3_takes] at hf
  refine kj_aload_n (pc := 0) C 0 dX3_takes_0 rfl rfl ?_
  refine kj_iload_n (pc := 1) C 1 dX3_takes_1 rfl rfl ?_
  refine kj_callV0 (pc := 2) (as := [.int x1]) (rest := []) (b := (a 5)) C (ct_X3_has l V A x1 a σ sh ex rfl) wd_X3_has wk_X3_36 wi_X3_has ws_X3_has wz_X3 rfl rfl hd_X3_has ⟨by decide, by decide⟩ 5 rfl rfl rfl rfl (Nat.le_of_ble_eq_true rfl) (by decide) dX3_takes_2 ?_
  refine kj_if_eq (pc := 5) 17 C dX3_takes_5 (by decide) (fun c1 => ?_) (fun c1 => ?_)
  · have hf := kb_ift hf c1
    refine kj_lconst (pc := 17) (v := (0 : Int64)) C dX3_takes_17 (by decide) ?_
    cases hf
    exact kj_lret (pc := 18) C dX3_takes_18
  · have hf := kb_ife hf c1
    refine kj_aload_n (pc := 8) C 0 dX3_takes_8 rfl rfl ?_
    refine kg_X3_takes (pc := 9) C wf_X3_24 dX3_takes_9 ?_
    refine kj_iload_n (pc := 12) C 1 dX3_takes_12 rfl rfl ?_
    obtain ⟨g2, hf⟩ := kb_gd hf
    refine ka_X3_takes (pc := 13) (v := (kb_b σ 2 x1.toNatClampNeg)) C g2 dX3_takes_13 rfl ?_
    refine kj_goto (pc := 14) 18 C dX3_takes_14 (by decide) ?_
    cases hf
    exact kj_lret (pc := 18) C dX3_takes_18
def fn_X6_cable  (x0 : Int32) (x1 : Int32) (x2 : Int32)  : Int32 :=
  ((((100 : Int32) * x0) + ((10 : Int32) * x1)) + x2)
theorem fe_X6_cable  (x0 : Int32) (x1 : Int32) (x2 : Int32)  : fn_X6_cable  x0 x1 x2  =
  ((((100 : Int32) * x0) + ((10 : Int32) * x1)) + x2) := rfl
theorem hd_X6_cable : yX6_cable.cls ≠ "java/lang/invoke/MethodHandle" ∧ yX6_cable.cls ≠ "java/lang/invoke/VarHandle" ∧ (parseMethodDescriptor yX6_cable.desc).map (fun d => d.parameters.length) = some 3 := by decide +kernel
set_option maxRecDepth 100000 in
set_option maxHeartbeats 4000000 in
theorem ct_X6_cable (l : Launch) (V : kb_V) (A : Nat → Prop)  (x0 : Int32) (x1 : Int32) (x2 : Int32) (ws : va_W) {r : Int32} (hf : fn_X6_cable  x0 x1 x2  = r) : kb_T l yX6_cable cX6_cable 3 (some .int) ({ frames := 0, cells := 0, slots := 0, locals := 0 } : Room) V A [.int x0, .int x1, .int x2] ws (some (.int r)) ws 0 0 := by
  refine kb_start (cc := cX6_cable) (nL := 3) (ret := (some .int)) (own := RX6) (by decide) rfl (Nat.le_of_ble_eq_true rfl) ?_
  intro p e s m args below meth c C
  refine kj_sub [0, 1, 2] (L2 := [(0, .int x0), (1, .int x1), (2, .int x2)]) rfl ?_
  rw [fe_X6_cable] at hf
  refine kj_bipush (pc := 0) (v := (100 : Int32)) C dX6_cable_0 (by decide) ?_
  refine kj_iload_n (pc := 2) C 0 dX6_cable_2 rfl rfl ?_
  refine kj_imul (pc := 3) C dX6_cable_3 ?_
  refine kj_bipush (pc := 4) (v := (10 : Int32)) C dX6_cable_4 (by decide) ?_
  refine kj_iload_n (pc := 6) C 1 dX6_cable_6 rfl rfl ?_
  refine kj_imul (pc := 7) C dX6_cable_7 ?_
  refine kj_iadd (pc := 8) C dX6_cable_8 ?_
  refine kj_iload_n (pc := 9) C 2 dX6_cable_9 rfl rfl ?_
  refine kj_iadd (pc := 10) C dX6_cable_10 ?_
  subst hf
  exact kj_iret (pc := 11) C dX6_cable_11
def fn_X6_isBehind  (x0 : Int32)  : Int32 :=
  if (x0 - x0 / (10 : Int32) * (10 : Int32)) = (1 : Int32) then
    (1 : Int32)
  else
    (0 : Int32)
theorem fe_X6_isBehind  (x0 : Int32)  : fn_X6_isBehind  x0  =
  if (x0 - x0 / (10 : Int32) * (10 : Int32)) = (1 : Int32) then
    (1 : Int32)
  else
    (0 : Int32) := rfl
theorem hd_X6_isBehind : yX6_isBehind.cls ≠ "java/lang/invoke/MethodHandle" ∧ yX6_isBehind.cls ≠ "java/lang/invoke/VarHandle" ∧ (parseMethodDescriptor yX6_isBehind.desc).map (fun d => d.parameters.length) = some 1 := by decide +kernel
set_option maxRecDepth 100000 in
set_option maxHeartbeats 4000000 in
theorem ct_X6_isBehind (l : Launch) (V : kb_V) (A : Nat → Prop)  (x0 : Int32) (ws : va_W) {r : Int32} (hf : fn_X6_isBehind  x0  = r) : kb_T l yX6_isBehind cX6_isBehind 1 (some .boolean) ({ frames := 0, cells := 0, slots := 0, locals := 0 } : Room) V A [.int x0] ws (some (.int r)) ws 0 0 := by
  refine kb_start (cc := cX6_isBehind) (nL := 1) (ret := (some .boolean)) (own := RX6) (by decide) rfl (Nat.le_of_ble_eq_true rfl) ?_
  intro p e s m args below meth c C
  refine kj_sub [0] (L2 := [(0, .int x0)]) rfl ?_
  rw [fe_X6_isBehind] at hf
  refine kj_iload_n (pc := 0) C 0 dX6_isBehind_0 rfl rfl ?_
  refine kj_bipush (pc := 1) (v := (10 : Int32)) C dX6_isBehind_1 (by decide) ?_
  refine kj_irem (pc := 3) C dX6_isBehind_3 (by decide) ?_
  refine kj_iconst (pc := 4) (v := (1 : Int32)) C dX6_isBehind_4 (by decide) ?_
  refine kj_icmp_ne (pc := 5) 12 C dX6_isBehind_5 (by decide) (fun c1 => ?_) (fun c1 => ?_)
  · have hf := kb_ife hf c1
    refine kj_iconst (pc := 12) (v := (0 : Int32)) C dX6_isBehind_12 (by decide) ?_
    subst hf
    exact kj_zret (pc := 13) C (by decide) dX6_isBehind_13
  · have hf := kb_ift hf c1
    refine kj_iconst (pc := 8) (v := (1 : Int32)) C dX6_isBehind_8 (by decide) ?_
    refine kj_goto (pc := 9) 13 C dX6_isBehind_9 (by decide) ?_
    subst hf
    exact kj_zret (pc := 13) C (by decide) dX6_isBehind_13
def fn_X6_nameOf  (x0 : Int32)  : Nat :=
  if x0 = (0 : Int32) then
    3
  else if x0 = (1 : Int32) then
    4
  else if x0 = (2 : Int32) then
    6
  else if x0 = (3 : Int32) then
    1
  else if x0 = (4 : Int32) then
    5
  else if x0 = (5 : Int32) then
    2
  else if x0 = (6 : Int32) then
    0
  else if x0 = (7 : Int32) then
    7
  else if x0 = (8 : Int32) then
    8
  else
    18
theorem fe_X6_nameOf  (x0 : Int32)  : fn_X6_nameOf  x0  =
  if x0 = (0 : Int32) then
    3
  else if x0 = (1 : Int32) then
    4
  else if x0 = (2 : Int32) then
    6
  else if x0 = (3 : Int32) then
    1
  else if x0 = (4 : Int32) then
    5
  else if x0 = (5 : Int32) then
    2
  else if x0 = (6 : Int32) then
    0
  else if x0 = (7 : Int32) then
    7
  else if x0 = (8 : Int32) then
    8
  else
    18 := rfl
theorem hd_X6_nameOf : yX6_nameOf.cls ≠ "java/lang/invoke/MethodHandle" ∧ yX6_nameOf.cls ≠ "java/lang/invoke/VarHandle" ∧ (parseMethodDescriptor yX6_nameOf.desc).map (fun d => d.parameters.length) = some 1 := by decide +kernel
set_option maxRecDepth 100000 in
set_option maxHeartbeats 4000000 in
theorem ct_X6_nameOf (l : Launch) (V : kb_V) (A : Nat → Prop)  (x0 : Int32) (ws : va_W) {r : Nat} (hf : fn_X6_nameOf  x0  = r) : kb_T l yX6_nameOf cX6_nameOf 1 (some (.object "java/lang/String")) ({ frames := 0, cells := 0, slots := 0, locals := 0 } : Room) V A [.int x0] ws (some (.ref (V.2.2 (10 + r)))) ws 0 0 := by
  refine kb_start (cc := cX6_nameOf) (nL := 1) (ret := (some (.object "java/lang/String"))) (own := RX6) (by decide) rfl (Nat.le_of_ble_eq_true rfl) ?_
  intro p e s m args below meth c C
  refine kj_sub [0] (L2 := [(0, .int x0)]) rfl ?_
  rw [fe_X6_nameOf] at hf
  refine kj_iload_n (pc := 0) C 0 dX6_nameOf_0 rfl rfl ?_
  by_cases c1_0 : x0 = (0 : Int32)
  · have hf := kb_ift hf c1_0
    refine kj_tabIn (pc := 1) 52 C dX6_nameOf_1 (by rw [c1_0]; decide) (by rw [c1_0]; decide) (by rw [c1_0]; rfl) (by decide) ?_
    refine kj_ldcS (pc := 52) (tx := "k") (a := 13) C (by decide +kernel) dX6_nameOf_52 ?_
    subst hf
    exact kj_aret (pc := 54) C dX6_nameOf_54
  have hf := kb_ife hf c1_0
  by_cases c1_1 : x0 = (1 : Int32)
  · have hf := kb_ift hf c1_1
    refine kj_tabIn (pc := 1) 55 C dX6_nameOf_1 (by rw [c1_1]; decide) (by rw [c1_1]; decide) (by rw [c1_1]; rfl) (by decide) ?_
    refine kj_ldcS (pc := 55) (tx := "p") (a := 14) C (by decide +kernel) dX6_nameOf_55 ?_
    subst hf
    exact kj_aret (pc := 57) C dX6_nameOf_57
  have hf := kb_ife hf c1_1
  by_cases c1_2 : x0 = (2 : Int32)
  · have hf := kb_ift hf c1_2
    refine kj_tabIn (pc := 1) 58 C dX6_nameOf_1 (by rw [c1_2]; decide) (by rw [c1_2]; decide) (by rw [c1_2]; rfl) (by decide) ?_
    refine kj_ldcS (pc := 58) (tx := "sl") (a := 16) C (by decide +kernel) dX6_nameOf_58 ?_
    subst hf
    exact kj_aret (pc := 60) C dX6_nameOf_60
  have hf := kb_ife hf c1_2
  by_cases c1_3 : x0 = (3 : Int32)
  · have hf := kb_ift hf c1_3
    refine kj_tabIn (pc := 1) 61 C dX6_nameOf_1 (by rw [c1_3]; decide) (by rw [c1_3]; decide) (by rw [c1_3]; rfl) (by decide) ?_
    refine kj_ldcS (pc := 61) (tx := "k2tog") (a := 11) C (by decide +kernel) dX6_nameOf_61 ?_
    subst hf
    exact kj_aret (pc := 63) C dX6_nameOf_63
  have hf := kb_ife hf c1_3
  by_cases c1_4 : x0 = (4 : Int32)
  · have hf := kb_ift hf c1_4
    refine kj_tabIn (pc := 1) 64 C dX6_nameOf_1 (by rw [c1_4]; decide) (by rw [c1_4]; decide) (by rw [c1_4]; rfl) (by decide) ?_
    refine kj_ldcS (pc := 64) (tx := "ssk") (a := 15) C (by decide +kernel) dX6_nameOf_64 ?_
    subst hf
    exact kj_aret (pc := 66) C dX6_nameOf_66
  have hf := kb_ife hf c1_4
  by_cases c1_5 : x0 = (5 : Int32)
  · have hf := kb_ift hf c1_5
    refine kj_tabIn (pc := 1) 67 C dX6_nameOf_1 (by rw [c1_5]; decide) (by rw [c1_5]; decide) (by rw [c1_5]; rfl) (by decide) ?_
    refine kj_ldcS (pc := 67) (tx := "k3tog") (a := 12) C (by decide +kernel) dX6_nameOf_67 ?_
    subst hf
    exact kj_aret (pc := 69) C dX6_nameOf_69
  have hf := kb_ife hf c1_5
  by_cases c1_6 : x0 = (6 : Int32)
  · have hf := kb_ift hf c1_6
    refine kj_tabIn (pc := 1) 70 C dX6_nameOf_1 (by rw [c1_6]; decide) (by rw [c1_6]; decide) (by rw [c1_6]; rfl) (by decide) ?_
    refine kj_ldcS (pc := 70) (tx := "kfb") (a := 10) C (by decide +kernel) dX6_nameOf_70 ?_
    subst hf
    exact kj_aret (pc := 72) C dX6_nameOf_72
  have hf := kb_ife hf c1_6
  by_cases c1_7 : x0 = (7 : Int32)
  · have hf := kb_ift hf c1_7
    refine kj_tabIn (pc := 1) 73 C dX6_nameOf_1 (by rw [c1_7]; decide) (by rw [c1_7]; decide) (by rw [c1_7]; rfl) (by decide) ?_
    refine kj_ldcS (pc := 73) (tx := "yo") (a := 17) C (by decide +kernel) dX6_nameOf_73 ?_
    subst hf
    exact kj_aret (pc := 75) C dX6_nameOf_75
  have hf := kb_ife hf c1_7
  by_cases c1_8 : x0 = (8 : Int32)
  · have hf := kb_ift hf c1_8
    refine kj_tabIn (pc := 1) 76 C dX6_nameOf_1 (by rw [c1_8]; decide) (by rw [c1_8]; decide) (by rw [c1_8]; rfl) (by decide) ?_
    refine kj_ldcS (pc := 76) (tx := "bind") (a := 18) C (by decide +kernel) dX6_nameOf_76 ?_
    subst hf
    exact kj_aret (pc := 78) C dX6_nameOf_78
  have hf := kb_ife hf c1_8
  refine kj_tabOut (pc := 1) 79 C dX6_nameOf_1 (kb_out (fun z h1 h2 => by
    have hz : z = 0 ∨ z = 1 ∨ z = 2 ∨ z = 3 ∨ z = 4 ∨ z = 5 ∨ z = 6 ∨ z = 7 ∨ z = 8 := by omega
    rcases hz with rfl | rfl | rfl | rfl | rfl | rfl | rfl | rfl | rfl
    · exact c1_0
    · exact c1_1
    · exact c1_2
    · exact c1_3
    · exact c1_4
    · exact c1_5
    · exact c1_6
    · exact c1_7
    · exact c1_8)) (by decide) ?_
  refine kj_ldcS (pc := 79) (tx := "cast1") (a := 28) C (by decide +kernel) dX6_nameOf_79 ?_
  subst hf
  exact kj_aret (pc := 81) C dX6_nameOf_81
def fn_X7_length   (σ : kb_S) : Int32 :=
  (kb_g σ 0)
theorem fe_X7_length   (σ : kb_S) : fn_X7_length   σ =
  (kb_g σ 0) := rfl
theorem hd_X7_length : yX7_length.cls = RX7 ∧ yX7_length.cls ≠ "java/lang/invoke/MethodHandle" ∧ yX7_length.cls ≠ "java/lang/invoke/VarHandle" ∧ (parseMethodDescriptor yX7_length.desc).map (fun d => d.parameters.length) = some 0 := by decide +kernel
set_option maxRecDepth 100000 in
set_option maxHeartbeats 4000000 in
theorem ct_X7_length (l : Launch) (V : kb_V) (A : Nat → Prop)   (a : Nat → Nat) (σ : kb_S) (sh : Value) (ex : va_W) {r : Int32} (hf : fn_X7_length   σ = r) : kb_T l yX7_length cX7_length 1 (some .int) ({ frames := 0, cells := 0, slots := 0, locals := 0 } : Room) V A [.ref (a 1)] (kb_W V a σ sh ex) (some (.int r)) (kb_W V a σ sh ex) 0 0 := by
  refine kb_start (cc := cX7_length) (nL := 1) (ret := (some .int)) (own := RX7) (by decide) rfl (Nat.le_of_ble_eq_true rfl) ?_
  intro p e s m args below meth c C
  refine kj_sub [0] (L2 := [(0, .ref (a 1))]) rfl ?_
  rw [fe_X7_length] at hf
  refine kj_aload_n (pc := 0) C 0 dX7_length_0 rfl rfl ?_
  refine kg_X7_length (pc := 1) (v := (kb_g σ 0)) C wf_X7_13 dX7_length_1 rfl ?_
  subst hf
  exact kj_iret (pc := 4) C dX7_length_4
def fn_X7_hasRoomFor  (x1 : Int32) (σ : kb_S) : Int32 :=
  if ((200 : Int32) - (kb_g σ 0)) < x1 then
    (0 : Int32)
  else
    (1 : Int32)
theorem fe_X7_hasRoomFor  (x1 : Int32) (σ : kb_S) : fn_X7_hasRoomFor  x1 σ =
  if ((200 : Int32) - (kb_g σ 0)) < x1 then
    (0 : Int32)
  else
    (1 : Int32) := rfl
theorem hd_X7_hasRoomFor : yX7_hasRoomFor.cls = RX7 ∧ yX7_hasRoomFor.cls ≠ "java/lang/invoke/MethodHandle" ∧ yX7_hasRoomFor.cls ≠ "java/lang/invoke/VarHandle" ∧ (parseMethodDescriptor yX7_hasRoomFor.desc).map (fun d => d.parameters.length) = some 1 := by decide +kernel
set_option maxRecDepth 100000 in
set_option maxHeartbeats 4000000 in
theorem ct_X7_hasRoomFor (l : Launch) (V : kb_V) (A : Nat → Prop)  (x1 : Int32) (a : Nat → Nat) (σ : kb_S) (sh : Value) (ex : va_W) {r : Int32} (hf : fn_X7_hasRoomFor  x1 σ = r) : kb_T l yX7_hasRoomFor cX7_hasRoomFor 2 (some .boolean) ({ frames := 0, cells := 0, slots := 0, locals := 0 } : Room) V A [.ref (a 1), .int x1] (kb_W V a σ sh ex) (some (.int r)) (kb_W V a σ sh ex) 0 0 := by
  refine kb_start (cc := cX7_hasRoomFor) (nL := 2) (ret := (some .boolean)) (own := RX7) (by decide) rfl (Nat.le_of_ble_eq_true rfl) ?_
  intro p e s m args below meth c C
  refine kj_sub [0, 1] (L2 := [(0, .ref (a 1)), (1, .int x1)]) rfl ?_
  rw [fe_X7_hasRoomFor] at hf
  refine kj_iload_n (pc := 0) C 1 dX7_hasRoomFor_0 rfl rfl ?_
  refine kj_sipush (pc := 1) (v := (200 : Int32)) C dX7_hasRoomFor_1 (by decide) ?_
  refine kj_aload_n (pc := 4) C 0 dX7_hasRoomFor_4 rfl rfl ?_
  refine kg_X7_length (pc := 5) (v := (kb_g σ 0)) C wf_X7_13 dX7_hasRoomFor_5 rfl ?_
  refine kj_isub (pc := 8) C dX7_hasRoomFor_8 ?_
  refine kj_icmp_gt (pc := 9) 16 C dX7_hasRoomFor_9 (by decide) (fun c1 => ?_) (fun c1 => ?_)
  · have hf := kb_ift hf c1
    refine kj_iconst (pc := 16) (v := (0 : Int32)) C dX7_hasRoomFor_16 (by decide) ?_
    subst hf
    exact kj_zret (pc := 17) C (by decide) dX7_hasRoomFor_17
  · have hf := kb_ife hf c1
    refine kj_iconst (pc := 12) (v := (1 : Int32)) C dX7_hasRoomFor_12 (by decide) ?_
    refine kj_goto (pc := 13) 17 C dX7_hasRoomFor_13 (by decide) ?_
    subst hf
    exact kj_zret (pc := 17) C (by decide) dX7_hasRoomFor_17
def fp_X7_add_5   : Nat → Int64 → Int32 → kb_S → Option (kb_S)
  | 0 => fun _ _ _ => none
  | nn + 1 => fun x1 x4 σ => 
  if x4 < 0 then
    some σ
  else
    if (200 : Int32) ≤ (kb_g σ 0) then
      some σ
    else
      if kb_in (kb_g σ 0) 200 = true then
        (fp_X7_add_5  nn) x1 (x4 + (-1 : Int32)) (kb_p (kb_ap σ 0 (kb_g σ 0).toNatClampNeg ((((x1.toUInt64 >>> (((8 : Int32) * x4).toInt64.toUInt64 &&& Int64.toUInt64 63)).toInt64).toInt32) &&& (255 : Int32))) 0 ((kb_g σ 0) + (1 : Int32)))
      else none
theorem fp_X7_add_5_s   (nn : Nat) (x1 : Int64) (x4 : Int32) (σ : kb_S) : fp_X7_add_5  (nn + 1) x1 x4 σ =
  if x4 < 0 then
    some σ
  else
    if (200 : Int32) ≤ (kb_g σ 0) then
      some σ
    else
      if kb_in (kb_g σ 0) 200 = true then
        (fp_X7_add_5  nn) x1 (x4 + (-1 : Int32)) (kb_p (kb_ap σ 0 (kb_g σ 0).toNatClampNeg ((((x1.toUInt64 >>> (((8 : Int32) * x4).toInt64.toUInt64 &&& Int64.toUInt64 63)).toInt64).toInt32) &&& (255 : Int32))) 0 ((kb_g σ 0) + (1 : Int32)))
      else none := rfl
def fn_X7_add  (x1 : Int64) (x3 : Int32) (σ : kb_S) : Option (kb_S) :=
  fp_X7_add_5   kb_FU x1 (x3 - (1 : Int32)) σ
theorem fe_X7_add  (x1 : Int64) (x3 : Int32) (σ : kb_S) : fn_X7_add  x1 x3 σ =
  fp_X7_add_5   kb_FU x1 (x3 - (1 : Int32)) σ := rfl
theorem hd_X7_add : yX7_add.cls = RX7 ∧ yX7_add.cls ≠ "java/lang/invoke/MethodHandle" ∧ yX7_add.cls ≠ "java/lang/invoke/VarHandle" ∧ (parseMethodDescriptor yX7_add.desc).map (fun d => d.parameters.length) = some 2 := by decide +kernel
set_option maxRecDepth 100000 in
set_option maxHeartbeats 4000000 in
theorem ct_X7_add (l : Launch) (V : kb_V) (A : Nat → Prop)  (x1 : Int64) (x3 : Int32) (a : Nat → Nat) (σ : kb_S) (sh : Value) (ex : va_W) {σ9 : kb_S} (hf : fn_X7_add  x1 x3 σ = some σ9) : kb_T l yX7_add cX7_add 5 none ({ frames := 0, cells := 0, slots := 0, locals := 0 } : Room) V A [.ref (a 1), .long x1, .int x3] (kb_W V a σ sh ex) none (kb_W V a σ9 sh ex) 0 0 := by
  refine kb_start (cc := cX7_add) (nL := 5) (ret := none) (own := RX7) (by decide) rfl (Nat.le_of_ble_eq_true rfl) ?_
  intro p e s m args below meth c C
  have hp5 : ∀ (nn : Nat) (x1 : Int64) (x4 : Int32) (σ : kb_S), fp_X7_add_5   nn x1 x4 σ = some σ9 → kb_J p l e ({ frames := 0, cells := 0, slots := 0, locals := 0 } : Room) s m args below meth c 5 V A 0 0 (MQ below (kb_post V A none (kb_W V a σ9 sh ex)) args s 0 0 A) 5 [(0, .ref (a 1)), (1, .long x1), (4, .int x4)] [] (kb_W V a σ sh ex) := by
    intro nn5
    induction nn5 with
    | zero => intro x1 x4 σ hf; exact kb_no hf
    | succ nn5 ih5 =>
      intro x1 x4 σ hf
      rw [fp_X7_add_5_s] at hf
      refine kj_iload (pc := 5) C 2 dX7_add_5 rfl ?_
      refine kj_if_lt (pc := 7) 57 C dX7_add_7 (by decide) (fun c1 => ?_) (fun c1 => ?_)
      · have hf := kb_ift hf c1
        cases hf
        exact kj_vret (pc := 57) C dX7_add_57
      · have hf := kb_ife hf c1
        refine kj_aload_n (pc := 10) C 0 dX7_add_10 rfl rfl ?_
        refine kg_X7_length (pc := 11) (v := (kb_g σ 0)) C wf_X7_13 dX7_add_11 rfl ?_
        refine kj_sipush (pc := 14) (v := (200 : Int32)) C dX7_add_14 (by decide) ?_
        refine kj_icmp_ge (pc := 17) 57 C dX7_add_17 (by decide) (fun c2 => ?_) (fun c2 => ?_)
        · have hf := kb_ift hf c2
          cases hf
          exact kj_vret (pc := 57) C dX7_add_57
        · have hf := kb_ife hf c2
          refine kj_aload_n (pc := 20) C 0 dX7_add_20 rfl rfl ?_
          refine kg_X7_bytes (pc := 21) C wf_X7_9 dX7_add_21 ?_
          refine kj_aload_n (pc := 24) C 0 dX7_add_24 rfl rfl ?_
          refine kg_X7_length (pc := 25) (v := (kb_g σ 0)) C wf_X7_13 dX7_add_25 rfl ?_
          refine kj_lload_n (pc := 28) C 1 dX7_add_28 rfl rfl ?_
          refine kj_bipush (pc := 29) (v := (8 : Int32)) C dX7_add_29 (by decide) ?_
          refine kj_iload (pc := 31) C 2 dX7_add_31 rfl ?_
          refine kj_imul (pc := 33) C dX7_add_33 ?_
          refine kj_lushr (pc := 34) C dX7_add_34 ?_
          refine kj_l2i (pc := 35) C dX7_add_35 ?_
          refine kj_sipush (pc := 36) (v := (255 : Int32)) C dX7_add_36 (by decide) ?_
          refine kj_iand (pc := 39) C dX7_add_39 ?_
          obtain ⟨g3, hf⟩ := kb_gd hf
          refine ks_X7_bytes (pc := 40) C g3 dX7_add_40 ?_
          refine kj_aload_n (pc := 41) C 0 dX7_add_41 rfl rfl ?_
          refine kj_dup (pc := 42) C dX7_add_42 rfl ?_
          refine kg_X7_length (pc := 43) (v := (kb_g σ 0)) C wf_X7_13 dX7_add_43 rfl ?_
          refine kj_iconst (pc := 46) (v := (1 : Int32)) C dX7_add_46 (by decide) ?_
          refine kj_iadd (pc := 47) C dX7_add_47 ?_
          refine kp_X7_length (pc := 48) C wf_X7_13 dX7_add_48 ?_
          refine kj_iinc (pc := 51) C 2 [1, 2, 0] (L2 := [(0, .ref (a 1)), (1, .long x1), (4, .int (x4 + (-1 : Int32)))]) dX7_add_51 rfl rfl (by decide) rfl ?_
          refine kj_goto (pc := 54) 5 C dX7_add_54 (by decide) ?_
          exact ih5 x1 (x4 + (-1 : Int32)) (kb_p (kb_ap σ 0 (kb_g σ 0).toNatClampNeg ((((x1.toUInt64 >>> (((8 : Int32) * x4).toInt64.toUInt64 &&& Int64.toUInt64 63)).toInt64).toInt32) &&& (255 : Int32))) 0 ((kb_g σ 0) + (1 : Int32))) hf
  refine kj_sub [0, 1, 2] (L2 := [(0, .ref (a 1)), (1, .long x1), (3, .int x3)]) rfl ?_
  rw [fe_X7_add] at hf
  refine kj_iload_n (pc := 0) C 2 dX7_add_0 rfl rfl ?_
  refine kj_iconst (pc := 1) (v := (1 : Int32)) C dX7_add_1 (by decide) ?_
  refine kj_isub (pc := 2) C dX7_add_2 ?_
  refine kj_istore (pc := 3) C [1, 2, 3, 0] (L2 := [(0, .ref (a 1)), (1, .long x1), (3, .int x3), (4, .int (x3 - (1 : Int32)))]) dX7_add_3 (by decide) rfl ?_
  refine kj_sub [0, 1, 3] (L2 := [(0, .ref (a 1)), (1, .long x1), (4, .int (x3 - (1 : Int32)))]) rfl ?_
  exact hp5 kb_FU x1 (x3 - (1 : Int32)) σ hf
def fn_X7_clear   (σ : kb_S) : Option (kb_S) :=
  some (kb_p σ 0 (0 : Int32))
theorem fe_X7_clear   (σ : kb_S) : fn_X7_clear   σ =
  some (kb_p σ 0 (0 : Int32)) := rfl
theorem hd_X7_clear : yX7_clear.cls = RX7 ∧ yX7_clear.cls ≠ "java/lang/invoke/MethodHandle" ∧ yX7_clear.cls ≠ "java/lang/invoke/VarHandle" ∧ (parseMethodDescriptor yX7_clear.desc).map (fun d => d.parameters.length) = some 0 := by decide +kernel
set_option maxRecDepth 100000 in
set_option maxHeartbeats 4000000 in
theorem ct_X7_clear (l : Launch) (V : kb_V) (A : Nat → Prop)   (a : Nat → Nat) (σ : kb_S) (sh : Value) (ex : va_W) {σ9 : kb_S} (hf : fn_X7_clear   σ = some σ9) : kb_T l yX7_clear cX7_clear 1 none ({ frames := 0, cells := 0, slots := 0, locals := 0 } : Room) V A [.ref (a 1)] (kb_W V a σ sh ex) none (kb_W V a σ9 sh ex) 0 0 := by
  refine kb_start (cc := cX7_clear) (nL := 1) (ret := none) (own := RX7) (by decide) rfl (Nat.le_of_ble_eq_true rfl) ?_
  intro p e s m args below meth c C
  refine kj_sub [0] (L2 := [(0, .ref (a 1))]) rfl ?_
  rw [fe_X7_clear] at hf
  refine kj_aload_n (pc := 0) C 0 dX7_clear_0 rfl rfl ?_
  refine kj_iconst (pc := 1) (v := (0 : Int32)) C dX7_clear_1 (by decide) ?_
  refine kp_X7_length (pc := 2) C wf_X7_13 dX7_clear_2 ?_
  cases hf
  exact kj_vret (pc := 5) C dX7_clear_5
def fn_X7_byteAt  (x1 : Int32) (σ : kb_S) : Option (Int32) :=
  if x1 < 0 then
    some (-1 : Int32)
  else
    if (kb_g σ 0) ≤ x1 then
      some (-1 : Int32)
    else
      if kb_in x1 200 = true then
        some (kb_a σ 0 x1.toNatClampNeg)
      else none
theorem fe_X7_byteAt  (x1 : Int32) (σ : kb_S) : fn_X7_byteAt  x1 σ =
  if x1 < 0 then
    some (-1 : Int32)
  else
    if (kb_g σ 0) ≤ x1 then
      some (-1 : Int32)
    else
      if kb_in x1 200 = true then
        some (kb_a σ 0 x1.toNatClampNeg)
      else none := rfl
theorem hd_X7_byteAt : yX7_byteAt.cls = RX7 ∧ yX7_byteAt.cls ≠ "java/lang/invoke/MethodHandle" ∧ yX7_byteAt.cls ≠ "java/lang/invoke/VarHandle" ∧ (parseMethodDescriptor yX7_byteAt.desc).map (fun d => d.parameters.length) = some 1 := by decide +kernel
set_option maxRecDepth 100000 in
set_option maxHeartbeats 4000000 in
theorem ct_X7_byteAt (l : Launch) (V : kb_V) (A : Nat → Prop)  (x1 : Int32) (a : Nat → Nat) (σ : kb_S) (sh : Value) (ex : va_W) {r : Int32} (hf : fn_X7_byteAt  x1 σ = some r) : kb_T l yX7_byteAt cX7_byteAt 2 (some .int) ({ frames := 0, cells := 0, slots := 0, locals := 0 } : Room) V A [.ref (a 1), .int x1] (kb_W V a σ sh ex) (some (.int r)) (kb_W V a σ sh ex) 0 0 := by
  refine kb_start (cc := cX7_byteAt) (nL := 2) (ret := (some .int)) (own := RX7) (by decide) rfl (Nat.le_of_ble_eq_true rfl) ?_
  intro p e s m args below meth c C
  refine kj_sub [0, 1] (L2 := [(0, .ref (a 1)), (1, .int x1)]) rfl ?_
  rw [fe_X7_byteAt] at hf
  refine kj_iload_n (pc := 0) C 1 dX7_byteAt_0 rfl rfl ?_
  refine kj_if_lt (pc := 1) 21 C dX7_byteAt_1 (by decide) (fun c1 => ?_) (fun c1 => ?_)
  · have hf := kb_ift hf c1
    refine kj_iconst (pc := 21) (v := (-1 : Int32)) C dX7_byteAt_21 (by decide) ?_
    cases hf
    exact kj_iret (pc := 22) C dX7_byteAt_22
  · have hf := kb_ife hf c1
    refine kj_iload_n (pc := 4) C 1 dX7_byteAt_4 rfl rfl ?_
    refine kj_aload_n (pc := 5) C 0 dX7_byteAt_5 rfl rfl ?_
    refine kg_X7_length (pc := 6) (v := (kb_g σ 0)) C wf_X7_13 dX7_byteAt_6 rfl ?_
    refine kj_icmp_ge (pc := 9) 21 C dX7_byteAt_9 (by decide) (fun c2 => ?_) (fun c2 => ?_)
    · have hf := kb_ift hf c2
      refine kj_iconst (pc := 21) (v := (-1 : Int32)) C dX7_byteAt_21 (by decide) ?_
      cases hf
      exact kj_iret (pc := 22) C dX7_byteAt_22
    · have hf := kb_ife hf c2
      refine kj_aload_n (pc := 12) C 0 dX7_byteAt_12 rfl rfl ?_
      refine kg_X7_bytes (pc := 13) C wf_X7_9 dX7_byteAt_13 ?_
      refine kj_iload_n (pc := 16) C 1 dX7_byteAt_16 rfl rfl ?_
      obtain ⟨g3, hf⟩ := kb_gd hf
      refine ka_X7_bytes (pc := 17) (v := (kb_a σ 0 x1.toNatClampNeg)) C g3 dX7_byteAt_17 rfl ?_
      refine kj_goto (pc := 18) 22 C dX7_byteAt_18 (by decide) ?_
      cases hf
      exact kj_iret (pc := 22) C dX7_byteAt_22
