def fn_X9_newLoop  (x1 : Int32) (μ : kb_S) : Option (kb_S) :=
  if kb_in (kb_g μ 3) 600 = true then
    if kb_in (kb_g μ 3) 600 = true then
      if kb_in (kb_g μ 3) 600 = true then
        if kb_in (kb_g μ 3) 600 = true then
          some (kb_p (kb_ap (kb_ap (kb_ap (kb_ap μ 1 (kb_g μ 3).toNatClampNeg x1) 2 (kb_g μ 3).toNatClampNeg (0 : Int32)) 3 (kb_g μ 3).toNatClampNeg (vp_nar .boolean (0 : Int32))) 4 (kb_g μ 3).toNatClampNeg (0 : Int32)) 3 ((kb_g μ 3) + (1 : Int32)))
        else none
      else none
    else none
  else none
theorem fe_X9_newLoop  (x1 : Int32) (μ : kb_S) : fn_X9_newLoop  x1 μ =
  if kb_in (kb_g μ 3) 600 = true then
    if kb_in (kb_g μ 3) 600 = true then
      if kb_in (kb_g μ 3) 600 = true then
        if kb_in (kb_g μ 3) 600 = true then
          some (kb_p (kb_ap (kb_ap (kb_ap (kb_ap μ 1 (kb_g μ 3).toNatClampNeg x1) 2 (kb_g μ 3).toNatClampNeg (0 : Int32)) 3 (kb_g μ 3).toNatClampNeg (vp_nar .boolean (0 : Int32))) 4 (kb_g μ 3).toNatClampNeg (0 : Int32)) 3 ((kb_g μ 3) + (1 : Int32)))
        else none
      else none
    else none
  else none := rfl
theorem hd_X9_newLoop : yX9_newLoop.cls = RX9 ∧ yX9_newLoop.cls ≠ "java/lang/invoke/MethodHandle" ∧ yX9_newLoop.cls ≠ "java/lang/invoke/VarHandle" ∧ (parseMethodDescriptor yX9_newLoop.desc).map (fun d => d.parameters.length) = some 1 := by decide +kernel
set_option maxRecDepth 100000 in
set_option maxHeartbeats 4000000 in
theorem ct_X9_newLoop (l : Launch) (V : kb_V) (A : Nat → Prop)  (x1 : Int32) (d : Nat → Nat) (μ : kb_S) (ex : va_W) {μ9 : kb_S} (hf : fn_X9_newLoop  x1 μ = some μ9) : kb_T l yX9_newLoop cX9_newLoop 2 none ({ frames := 0, cells := 0, slots := 0, locals := 0 } : Room) V A [.ref (d 0), .int x1] (kb_WM V d μ ex) none (kb_WM V d μ9 ex) 0 0 := by
  refine kb_start (cc := cX9_newLoop) (nL := 2) (ret := none) (own := RX9) (by decide) rfl (Nat.le_of_ble_eq_true rfl) ?_
  intro p e s m args below meth c C
  refine kj_sub [0, 1] (L2 := [(0, .ref (d 0)), (1, .int x1)]) rfl ?_
  rw [fe_X9_newLoop] at hf
  refine kj_aload_n (pc := 0) C 0 dX9_newLoop_0 rfl rfl ?_
  refine kg_X9_born (pc := 1) C wf_X9_13 dX9_newLoop_1 ?_
  refine kj_aload_n (pc := 4) C 0 dX9_newLoop_4 rfl rfl ?_
  refine kg_X9_loops (pc := 5) (v := (kb_g μ 3)) C wf_X9_83 dX9_newLoop_5 rfl ?_
  refine kj_iload_n (pc := 8) C 1 dX9_newLoop_8 rfl rfl ?_
  obtain ⟨g1, hf⟩ := kb_gd hf
  refine ks_X9_born (pc := 9) C g1 dX9_newLoop_9 ?_
  refine kj_aload_n (pc := 10) C 0 dX9_newLoop_10 rfl rfl ?_
  refine kg_X9_died (pc := 11) C wf_X9_16 dX9_newLoop_11 ?_
  refine kj_aload_n (pc := 14) C 0 dX9_newLoop_14 rfl rfl ?_
  refine kg_X9_loops (pc := 15) (v := (kb_g μ 3)) C wf_X9_83 dX9_newLoop_15 rfl ?_
  refine kj_iconst (pc := 18) (v := (0 : Int32)) C dX9_newLoop_18 (by decide) ?_
  obtain ⟨g2, hf⟩ := kb_gd hf
  refine ks_X9_died (pc := 19) C g2 dX9_newLoop_19 ?_
  refine kj_aload_n (pc := 20) C 0 dX9_newLoop_20 rfl rfl ?_
  refine kg_X9_bound (pc := 21) C wf_X9_19 dX9_newLoop_21 ?_
  refine kj_aload_n (pc := 24) C 0 dX9_newLoop_24 rfl rfl ?_
  refine kg_X9_loops (pc := 25) (v := (kb_g μ 3)) C wf_X9_83 dX9_newLoop_25 rfl ?_
  refine kj_iconst (pc := 28) (v := (0 : Int32)) C dX9_newLoop_28 (by decide) ?_
  obtain ⟨g3, hf⟩ := kb_gd hf
  refine ks_X9_bound (pc := 29) C g3 dX9_newLoop_29 ?_
  refine kj_aload_n (pc := 30) C 0 dX9_newLoop_30 rfl rfl ?_
  refine kg_X9_parents (pc := 31) C wf_X9_23 dX9_newLoop_31 ?_
  refine kj_aload_n (pc := 34) C 0 dX9_newLoop_34 rfl rfl ?_
  refine kg_X9_loops (pc := 35) (v := (kb_g μ 3)) C wf_X9_83 dX9_newLoop_35 rfl ?_
  refine kj_iconst (pc := 38) (v := (0 : Int32)) C dX9_newLoop_38 (by decide) ?_
  obtain ⟨g4, hf⟩ := kb_gd hf
  refine ks_X9_parents (pc := 39) C g4 dX9_newLoop_39 ?_
  refine kj_aload_n (pc := 40) C 0 dX9_newLoop_40 rfl rfl ?_
  refine kj_dup (pc := 41) C dX9_newLoop_41 rfl ?_
  refine kg_X9_loops (pc := 42) (v := (kb_g μ 3)) C wf_X9_83 dX9_newLoop_42 rfl ?_
  refine kj_iconst (pc := 45) (v := (1 : Int32)) C dX9_newLoop_45 (by decide) ?_
  refine kj_iadd (pc := 46) C dX9_newLoop_46 ?_
  refine kp_X9_loops (pc := 47) C wf_X9_83 dX9_newLoop_47 ?_
  cases hf
  exact kj_vret (pc := 50) C dX9_newLoop_50
def fp_X9_castOn_29   : Nat → Int32 → Int32 → kb_S → Option (kb_S)
  | 0 => fun _ _ _ => none
  | nn + 1 => fun x1 x3 μ => 
  if x1 ≤ x3 then
    if kb_in (1 : Int32) 32 = true then
      some (kb_ap μ 6 (1 : Int32).toNatClampNeg (kb_g μ 3))
    else none
  else
    (fn_X9_newLoop (0 : Int32) μ).bind fun q2 =>
    (fp_X9_castOn_29  nn) x1 (x3 + (1 : Int32)) q2
theorem fp_X9_castOn_29_s   (nn : Nat) (x1 : Int32) (x3 : Int32) (μ : kb_S) : fp_X9_castOn_29  (nn + 1) x1 x3 μ =
  if x1 ≤ x3 then
    if kb_in (1 : Int32) 32 = true then
      some (kb_ap μ 6 (1 : Int32).toNatClampNeg (kb_g μ 3))
    else none
  else
    (fn_X9_newLoop (0 : Int32) μ).bind fun q2 =>
    (fp_X9_castOn_29  nn) x1 (x3 + (1 : Int32)) q2 := rfl
def fn_X9_castOn  (x1 : Int32) (x2 : Int32) (μ : kb_S) : Option (kb_S) :=
  if x2 = 0 ∨ x2 = 1 then
    if kb_in (0 : Int32) 32 = true then
      fp_X9_castOn_29   kb_FU x1 (0 : Int32) (kb_ap (kb_p (kb_p (kb_p (kb_p μ 2 x2) 3 (0 : Int32)) 4 (0 : Int32)) 11 (0 : Int32)) 6 (0 : Int32).toNatClampNeg (0 : Int32))
    else none
  else none
theorem fe_X9_castOn  (x1 : Int32) (x2 : Int32) (μ : kb_S) : fn_X9_castOn  x1 x2 μ =
  if x2 = 0 ∨ x2 = 1 then
    if kb_in (0 : Int32) 32 = true then
      fp_X9_castOn_29   kb_FU x1 (0 : Int32) (kb_ap (kb_p (kb_p (kb_p (kb_p μ 2 x2) 3 (0 : Int32)) 4 (0 : Int32)) 11 (0 : Int32)) 6 (0 : Int32).toNatClampNeg (0 : Int32))
    else none
  else none := rfl
theorem hd_X9_castOn : yX9_castOn.cls = RX9 ∧ yX9_castOn.cls ≠ "java/lang/invoke/MethodHandle" ∧ yX9_castOn.cls ≠ "java/lang/invoke/VarHandle" ∧ (parseMethodDescriptor yX9_castOn.desc).map (fun d => d.parameters.length) = some 2 := by decide +kernel
set_option maxRecDepth 100000 in
set_option maxHeartbeats 4000000 in
theorem ct_X9_castOn (l : Launch) (V : kb_V) (A : Nat → Prop)  (x1 : Int32) (x2 : Int32) (d : Nat → Nat) (μ : kb_S) (ex : va_W) {μ9 : kb_S} (hf : fn_X9_castOn  x1 x2 μ = some μ9) : kb_T l yX9_castOn cX9_castOn 4 none ({ frames := 1, cells := 0, slots := 0, locals := 21 } : Room) V A [.ref (d 0), .int x1, .int x2] (kb_WM V d μ ex) none (kb_WM V d μ9 ex) 0 0 := by
  refine kb_start (cc := cX9_castOn) (nL := 4) (ret := none) (own := RX9) (by decide) rfl (Nat.le_of_ble_eq_true rfl) ?_
  intro p e s m args below meth c C
  have hp29 : ∀ (nn : Nat) (x1 : Int32) (x3 : Int32) (μ : kb_S), fp_X9_castOn_29   nn x1 x3 μ = some μ9 → kb_J p l e ({ frames := 1, cells := 0, slots := 0, locals := 21 } : Room) s m args below meth c 4 V A 0 0 (MQ below (kb_post V A none (kb_WM V d μ9 ex)) args s 0 0 A) 29 [(0, .ref (d 0)), (1, .int x1), (3, .int x3)] [] (kb_WM V d μ ex) := by
    intro nn29
    induction nn29 with
    | zero => intro x1 x3 μ hf; exact kb_no hf
    | succ nn29 ih29 =>
      intro x1 x3 μ hf
      rw [fp_X9_castOn_29_s] at hf
      refine kj_iload_n (pc := 29) C 2 dX9_castOn_29 rfl rfl ?_
      refine kj_iload_n (pc := 30) C 1 dX9_castOn_30 rfl rfl ?_
      refine kj_icmp_ge (pc := 31) 45 C dX9_castOn_31 (by decide) (fun c1 => ?_) (fun c1 => ?_)
      · have hf := kb_ift hf c1
        refine kj_aload_n (pc := 45) C 0 dX9_castOn_45 rfl rfl ?_
        refine kg_X9_begin (pc := 46) C wf_X9_29 dX9_castOn_46 ?_
        refine kj_iconst (pc := 49) (v := (1 : Int32)) C dX9_castOn_49 (by decide) ?_
        refine kj_aload_n (pc := 50) C 0 dX9_castOn_50 rfl rfl ?_
        refine kg_X9_loops (pc := 51) (v := (kb_g μ 3)) C wf_X9_83 dX9_castOn_51 rfl ?_
        obtain ⟨g2, hf⟩ := kb_gd hf
        refine ks_X9_begin (pc := 54) C g2 dX9_castOn_54 ?_
        cases hf
        exact kj_vret (pc := 55) C dX9_castOn_55
      · have hf := kb_ife hf c1
        refine kj_aload_n (pc := 34) C 0 dX9_castOn_34 rfl rfl ?_
        refine kj_iconst (pc := 35) (v := (0 : Int32)) C dX9_castOn_35 (by decide) ?_
        obtain ⟨q2, hq2, hf⟩ := kb_bd hf
        refine kj_callV0 (pc := 36) (as := [.int (0 : Int32)]) (rest := []) (b := (d 0)) C (ct_X9_newLoop l V A (0 : Int32) d μ ex hq2) wd_X9_newLoop wk_X9_92 wi_X9_newLoop ws_X9_newLoop wz_X9 rfl rfl hd_X9_newLoop ⟨by decide, by decide⟩ 0 rfl rfl rfl rfl (Nat.le_of_ble_eq_true rfl) (by decide) dX9_castOn_36 ?_
        refine kj_iinc (pc := 39) C 2 [1, 2, 0] (L2 := [(0, .ref (d 0)), (1, .int x1), (3, .int (x3 + (1 : Int32)))]) dX9_castOn_39 rfl rfl (by decide) rfl ?_
        refine kj_goto (pc := 42) 29 C dX9_castOn_42 (by decide) ?_
        exact ih29 x1 (x3 + (1 : Int32)) q2 hf
  refine kj_sub [0, 1, 2] (L2 := [(0, .ref (d 0)), (1, .int x1), (2, .int x2)]) rfl ?_
  rw [fe_X9_castOn] at hf
  refine kj_aload_n (pc := 0) C 0 dX9_castOn_0 rfl rfl ?_
  refine kj_iload_n (pc := 1) C 2 dX9_castOn_1 rfl rfl ?_
  obtain ⟨g1, hf⟩ := kb_gd hf
  refine kp_X9_round (pc := 2) C wf_X9_79 dX9_castOn_2 g1 ?_
  refine kj_aload_n (pc := 5) C 0 dX9_castOn_5 rfl rfl ?_
  refine kj_iconst (pc := 6) (v := (0 : Int32)) C dX9_castOn_6 (by decide) ?_
  refine kp_X9_loops (pc := 7) C wf_X9_83 dX9_castOn_7 ?_
  refine kj_aload_n (pc := 10) C 0 dX9_castOn_10 rfl rfl ?_
  refine kj_iconst (pc := 11) (v := (0 : Int32)) C dX9_castOn_11 (by decide) ?_
  refine kp_X9_rows (pc := 12) C wf_X9_86 dX9_castOn_12 ?_
  refine kj_aload_n (pc := 15) C 0 dX9_castOn_15 rfl rfl ?_
  refine kj_iconst (pc := 16) (v := (0 : Int32)) C dX9_castOn_16 (by decide) ?_
  refine kp_X9_written (pc := 17) C wf_X9_89 dX9_castOn_17 ?_
  refine kj_aload_n (pc := 20) C 0 dX9_castOn_20 rfl rfl ?_
  refine kg_X9_begin (pc := 21) C wf_X9_29 dX9_castOn_21 ?_
  refine kj_iconst (pc := 24) (v := (0 : Int32)) C dX9_castOn_24 (by decide) ?_
  refine kj_iconst (pc := 25) (v := (0 : Int32)) C dX9_castOn_25 (by decide) ?_
  obtain ⟨g2, hf⟩ := kb_gd hf
  refine ks_X9_begin (pc := 26) C g2 dX9_castOn_26 ?_
  refine kj_iconst (pc := 27) (v := (0 : Int32)) C dX9_castOn_27 (by decide) ?_
  refine kj_istore_n (pc := 28) C [1, 2, 3, 0] (L2 := [(0, .ref (d 0)), (1, .int x1), (2, .int x2), (3, .int (0 : Int32))]) dX9_castOn_28 rfl (by decide) rfl ?_
  refine kj_sub [0, 1, 3] (L2 := [(0, .ref (d 0)), (1, .int x1), (3, .int (0 : Int32))]) rfl ?_
  exact hp29 kb_FU x1 (0 : Int32) (kb_ap (kb_p (kb_p (kb_p (kb_p μ 2 x2) 3 (0 : Int32)) 4 (0 : Int32)) 11 (0 : Int32)) 6 (0 : Int32).toNatClampNeg (0 : Int32)) hf
def fn_X9_thrown   (μ : kb_S) : Int32 :=
  (kb_g μ 0)
theorem fe_X9_thrown   (μ : kb_S) : fn_X9_thrown   μ =
  (kb_g μ 0) := rfl
theorem hd_X9_thrown : yX9_thrown.cls = RX9 ∧ yX9_thrown.cls ≠ "java/lang/invoke/MethodHandle" ∧ yX9_thrown.cls ≠ "java/lang/invoke/VarHandle" ∧ (parseMethodDescriptor yX9_thrown.desc).map (fun d => d.parameters.length) = some 0 := by decide +kernel
set_option maxRecDepth 100000 in
set_option maxHeartbeats 4000000 in
theorem ct_X9_thrown (l : Launch) (V : kb_V) (A : Nat → Prop)   (d : Nat → Nat) (μ : kb_S) (ex : va_W) {r : Int32} (hf : fn_X9_thrown   μ = r) : kb_T l yX9_thrown cX9_thrown 1 (some .int) ({ frames := 0, cells := 0, slots := 0, locals := 0 } : Room) V A [.ref (d 0)] (kb_WM V d μ ex) (some (.int r)) (kb_WM V d μ ex) 0 0 := by
  refine kb_start (cc := cX9_thrown) (nL := 1) (ret := (some .int)) (own := RX9) (by decide) rfl (Nat.le_of_ble_eq_true rfl) ?_
  intro p e s m args below meth c C
  refine kj_sub [0] (L2 := [(0, .ref (d 0))]) rfl ?_
  rw [fe_X9_thrown] at hf
  refine kj_aload_n (pc := 0) C 0 dX9_thrown_0 rfl rfl ?_
  refine kg_X9_thrown (pc := 1) (v := (kb_g μ 0)) C wf_X9_75 dX9_thrown_1 rfl ?_
  subst hf
  exact kj_iret (pc := 4) C dX9_thrown_4
def fn_X9_in  (x0 : Int32) (x1 : Int32) (x2 : Int32)  : Int32 :=
  if x0 < x1 then
    (0 : Int32)
  else
    if x2 < x0 then
      (0 : Int32)
    else
      (1 : Int32)
theorem fe_X9_in  (x0 : Int32) (x1 : Int32) (x2 : Int32)  : fn_X9_in  x0 x1 x2  =
  if x0 < x1 then
    (0 : Int32)
  else
    if x2 < x0 then
      (0 : Int32)
    else
      (1 : Int32) := rfl
theorem hd_X9_in : yX9_in.cls ≠ "java/lang/invoke/MethodHandle" ∧ yX9_in.cls ≠ "java/lang/invoke/VarHandle" ∧ (parseMethodDescriptor yX9_in.desc).map (fun d => d.parameters.length) = some 3 := by decide +kernel
set_option maxRecDepth 100000 in
set_option maxHeartbeats 4000000 in
theorem ct_X9_in (l : Launch) (V : kb_V) (A : Nat → Prop)  (x0 : Int32) (x1 : Int32) (x2 : Int32) (ws : va_W) {r : Int32} (hf : fn_X9_in  x0 x1 x2  = r) : kb_T l yX9_in cX9_in 3 (some .boolean) ({ frames := 0, cells := 0, slots := 0, locals := 0 } : Room) V A [.int x0, .int x1, .int x2] ws (some (.int r)) ws 0 0 := by
  refine kb_start (cc := cX9_in) (nL := 3) (ret := (some .boolean)) (own := RX9) (by decide) rfl (Nat.le_of_ble_eq_true rfl) ?_
  intro p e s m args below meth c C
  refine kj_sub [0, 1, 2] (L2 := [(0, .int x0), (1, .int x1), (2, .int x2)]) rfl ?_
  rw [fe_X9_in] at hf
  refine kj_iload_n (pc := 0) C 0 dX9_in_0 rfl rfl ?_
  refine kj_iload_n (pc := 1) C 1 dX9_in_1 rfl rfl ?_
  refine kj_icmp_lt (pc := 2) 14 C dX9_in_2 (by decide) (fun c1 => ?_) (fun c1 => ?_)
  · have hf := kb_ift hf c1
    refine kj_iconst (pc := 14) (v := (0 : Int32)) C dX9_in_14 (by decide) ?_
    subst hf
    exact kj_zret (pc := 15) C (by decide) dX9_in_15
  · have hf := kb_ife hf c1
    refine kj_iload_n (pc := 5) C 0 dX9_in_5 rfl rfl ?_
    refine kj_iload_n (pc := 6) C 2 dX9_in_6 rfl rfl ?_
    refine kj_icmp_gt (pc := 7) 14 C dX9_in_7 (by decide) (fun c2 => ?_) (fun c2 => ?_)
    · have hf := kb_ift hf c2
      refine kj_iconst (pc := 14) (v := (0 : Int32)) C dX9_in_14 (by decide) ?_
      subst hf
      exact kj_zret (pc := 15) C (by decide) dX9_in_15
    · have hf := kb_ife hf c2
      refine kj_iconst (pc := 10) (v := (1 : Int32)) C dX9_in_10 (by decide) ?_
      refine kj_goto (pc := 11) 15 C dX9_in_11 (by decide) ?_
      subst hf
      exact kj_zret (pc := 15) C (by decide) dX9_in_15
def fp_X9_says_10   (x1 : Int32) (y0 : Int32) (μ : kb_S) : Option (kb_S × Int32) :=
  if x1 = 0 ∨ x1 = 1 then some ((kb_p μ 0 y0), x1) else none
theorem fp_X9_says_10_e   (x1 : Int32) (y0 : Int32) (μ : kb_S) : fp_X9_says_10  x1 y0 μ =
  if x1 = 0 ∨ x1 = 1 then some ((kb_p μ 0 y0), x1) else none := rfl
def fn_X9_says  (x1 : Int32) (μ : kb_S) : Option (kb_S × Int32) :=
  if x1 = 0 then
    fp_X9_says_10   x1 (1 : Int32) μ
  else
    fp_X9_says_10   x1 (0 : Int32) μ
theorem fe_X9_says  (x1 : Int32) (μ : kb_S) : fn_X9_says  x1 μ =
  if x1 = 0 then
    fp_X9_says_10   x1 (1 : Int32) μ
  else
    fp_X9_says_10   x1 (0 : Int32) μ := rfl
theorem hd_X9_says : yX9_says.cls = RX9 ∧ yX9_says.cls ≠ "java/lang/invoke/MethodHandle" ∧ yX9_says.cls ≠ "java/lang/invoke/VarHandle" ∧ (parseMethodDescriptor yX9_says.desc).map (fun d => d.parameters.length) = some 1 := by decide +kernel
set_option maxRecDepth 100000 in
set_option maxHeartbeats 4000000 in
theorem ct_X9_says (l : Launch) (V : kb_V) (A : Nat → Prop)  (x1 : Int32) (d : Nat → Nat) (μ : kb_S) (ex : va_W) {μ9 : kb_S} {r : Int32} (hf : fn_X9_says  x1 μ = some (μ9, r)) : kb_T l yX9_says cX9_says 2 (some .boolean) ({ frames := 0, cells := 0, slots := 0, locals := 0 } : Room) V A [.ref (d 0), .int x1] (kb_WM V d μ ex) (some (.int r)) (kb_WM V d μ9 ex) 0 0 := by
  refine kb_start (cc := cX9_says) (nL := 2) (ret := (some .boolean)) (own := RX9) (by decide) rfl (Nat.le_of_ble_eq_true rfl) ?_
  intro p e s m args below meth c C
  have hp10 : ∀ (x1 : Int32) (y0 : Int32) (μ : kb_S), fp_X9_says_10   x1 y0 μ = some (μ9, r) → kb_J p l e ({ frames := 0, cells := 0, slots := 0, locals := 0 } : Room) s m args below meth c 2 V A 0 0 (MQ below (kb_post V A (some (.int r)) (kb_WM V d μ9 ex)) args s 0 0 A) 10 [(1, .int x1)] [.int y0, .ref (d 0)] (kb_WM V d μ ex) := by
    intro x1 y0 μ hf
    rw [fp_X9_says_10_e] at hf
    refine kp_X9_thrown (pc := 10) C wf_X9_75 dX9_says_10 ?_
    refine kj_iload_n (pc := 13) C 0 dX9_says_13 rfl rfl ?_
    obtain ⟨g1, hf⟩ := kb_gd hf
    cases hf
    exact kj_zret (pc := 14) C (by rcases g1 with h | h <;> rw [h] <;> rfl) dX9_says_14
  refine kj_sub [0, 1] (L2 := [(0, .ref (d 0)), (1, .int x1)]) rfl ?_
  rw [fe_X9_says] at hf
  refine kj_aload_n (pc := 0) C 0 dX9_says_0 rfl rfl ?_
  refine kj_iload_n (pc := 1) C 1 dX9_says_1 rfl rfl ?_
  refine kj_if_eq (pc := 2) 9 C dX9_says_2 (by decide) (fun c1 => ?_) (fun c1 => ?_)
  · have hf := kb_ift hf c1
    refine kj_iconst (pc := 9) (v := (1 : Int32)) C dX9_says_9 (by decide) ?_
    refine kj_sub [1] (L2 := [(1, .int x1)]) rfl ?_
    exact hp10 x1 (1 : Int32) μ hf
  · have hf := kb_ife hf c1
    refine kj_iconst (pc := 5) (v := (0 : Int32)) C dX9_says_5 (by decide) ?_
    refine kj_goto (pc := 6) 10 C dX9_says_6 (by decide) ?_
    refine kj_sub [1] (L2 := [(1, .int x1)]) rfl ?_
    exact hp10 x1 (0 : Int32) μ hf
def fn_X9_hasParent  (x1 : Int32) (x2 : Int32) (μ : kb_S) : Option (kb_S) :=
  if kb_in x1 600 = true then
    if kb_in (((3 : Int32) * x1) + (kb_a μ 4 x1.toNatClampNeg)) 1800 = true then
      if kb_in x1 600 = true then
        if kb_in x1 600 = true then
          some (kb_ap (kb_ap μ 5 (((3 : Int32) * x1) + (kb_a μ 4 x1.toNatClampNeg)).toNatClampNeg x2) 4 x1.toNatClampNeg ((kb_a μ 4 x1.toNatClampNeg) + (1 : Int32)))
        else none
      else none
    else none
  else none
theorem fe_X9_hasParent  (x1 : Int32) (x2 : Int32) (μ : kb_S) : fn_X9_hasParent  x1 x2 μ =
  if kb_in x1 600 = true then
    if kb_in (((3 : Int32) * x1) + (kb_a μ 4 x1.toNatClampNeg)) 1800 = true then
      if kb_in x1 600 = true then
        if kb_in x1 600 = true then
          some (kb_ap (kb_ap μ 5 (((3 : Int32) * x1) + (kb_a μ 4 x1.toNatClampNeg)).toNatClampNeg x2) 4 x1.toNatClampNeg ((kb_a μ 4 x1.toNatClampNeg) + (1 : Int32)))
        else none
      else none
    else none
  else none := rfl
theorem hd_X9_hasParent : yX9_hasParent.cls = RX9 ∧ yX9_hasParent.cls ≠ "java/lang/invoke/MethodHandle" ∧ yX9_hasParent.cls ≠ "java/lang/invoke/VarHandle" ∧ (parseMethodDescriptor yX9_hasParent.desc).map (fun d => d.parameters.length) = some 2 := by decide +kernel
set_option maxRecDepth 100000 in
set_option maxHeartbeats 4000000 in
theorem ct_X9_hasParent (l : Launch) (V : kb_V) (A : Nat → Prop)  (x1 : Int32) (x2 : Int32) (d : Nat → Nat) (μ : kb_S) (ex : va_W) {μ9 : kb_S} (hf : fn_X9_hasParent  x1 x2 μ = some μ9) : kb_T l yX9_hasParent cX9_hasParent 3 none ({ frames := 0, cells := 0, slots := 0, locals := 0 } : Room) V A [.ref (d 0), .int x1, .int x2] (kb_WM V d μ ex) none (kb_WM V d μ9 ex) 0 0 := by
  refine kb_start (cc := cX9_hasParent) (nL := 3) (ret := none) (own := RX9) (by decide) rfl (Nat.le_of_ble_eq_true rfl) ?_
  intro p e s m args below meth c C
  refine kj_sub [0, 1, 2] (L2 := [(0, .ref (d 0)), (1, .int x1), (2, .int x2)]) rfl ?_
  rw [fe_X9_hasParent] at hf
  refine kj_aload_n (pc := 0) C 0 dX9_hasParent_0 rfl rfl ?_
  refine kg_X9_parent (pc := 1) C wf_X9_26 dX9_hasParent_1 ?_
  refine kj_iconst (pc := 4) (v := (3 : Int32)) C dX9_hasParent_4 (by decide) ?_
  refine kj_iload_n (pc := 5) C 1 dX9_hasParent_5 rfl rfl ?_
  refine kj_imul (pc := 6) C dX9_hasParent_6 ?_
  refine kj_aload_n (pc := 7) C 0 dX9_hasParent_7 rfl rfl ?_
  refine kg_X9_parents (pc := 8) C wf_X9_23 dX9_hasParent_8 ?_
  refine kj_iload_n (pc := 11) C 1 dX9_hasParent_11 rfl rfl ?_
  obtain ⟨g1, hf⟩ := kb_gd hf
  refine ka_X9_parents (pc := 12) (v := (kb_a μ 4 x1.toNatClampNeg)) C g1 dX9_hasParent_12 rfl ?_
  refine kj_iadd (pc := 13) C dX9_hasParent_13 ?_
  refine kj_iload_n (pc := 14) C 2 dX9_hasParent_14 rfl rfl ?_
  obtain ⟨g2, hf⟩ := kb_gd hf
  refine ks_X9_parent (pc := 15) C g2 dX9_hasParent_15 ?_
  refine kj_aload_n (pc := 16) C 0 dX9_hasParent_16 rfl rfl ?_
  refine kg_X9_parents (pc := 17) C wf_X9_23 dX9_hasParent_17 ?_
  refine kj_iload_n (pc := 20) C 1 dX9_hasParent_20 rfl rfl ?_
  refine kj_dup2 (pc := 21) C dX9_hasParent_21 rfl rfl ?_
  obtain ⟨g3, hf⟩ := kb_gd hf
  refine ka_X9_parents (pc := 22) (v := (kb_a μ 4 x1.toNatClampNeg)) C g3 dX9_hasParent_22 rfl ?_
  refine kj_iconst (pc := 23) (v := (1 : Int32)) C dX9_hasParent_23 (by decide) ?_
  refine kj_iadd (pc := 24) C dX9_hasParent_24 ?_
  obtain ⟨g4, hf⟩ := kb_gd hf
  refine ks_X9_parents (pc := 25) C g4 dX9_hasParent_25 ?_
  cases hf
  exact kj_vret (pc := 26) C dX9_hasParent_26
def fn_X9_begin  (x1 : Int32) (x2 : Int32) (μ : kb_S) : Option (kb_S) :=
  (fn_X9_says (fn_X9_in x1 (1 : Int32) (40 : Int32)) μ).bind fun q1 =>
  if q1.2 = 0 then
    some q1.1
  else
    (fn_X9_castOn x1 x2 q1.1).bind fun q3 =>
    some q3
theorem fe_X9_begin  (x1 : Int32) (x2 : Int32) (μ : kb_S) : fn_X9_begin  x1 x2 μ =
  (fn_X9_says (fn_X9_in x1 (1 : Int32) (40 : Int32)) μ).bind fun q1 =>
  if q1.2 = 0 then
    some q1.1
  else
    (fn_X9_castOn x1 x2 q1.1).bind fun q3 =>
    some q3 := rfl
theorem hd_X9_begin : yX9_begin.cls = RX9 ∧ yX9_begin.cls ≠ "java/lang/invoke/MethodHandle" ∧ yX9_begin.cls ≠ "java/lang/invoke/VarHandle" ∧ (parseMethodDescriptor yX9_begin.desc).map (fun d => d.parameters.length) = some 2 := by decide +kernel
set_option maxRecDepth 100000 in
set_option maxHeartbeats 4000000 in
theorem ct_X9_begin (l : Launch) (V : kb_V) (A : Nat → Prop)  (x1 : Int32) (x2 : Int32) (d : Nat → Nat) (μ : kb_S) (ex : va_W) {μ9 : kb_S} (hf : fn_X9_begin  x1 x2 μ = some μ9) : kb_T l yX9_begin cX9_begin 3 none ({ frames := 2, cells := 0, slots := 0, locals := 44 } : Room) V A [.ref (d 0), .int x1, .int x2] (kb_WM V d μ ex) none (kb_WM V d μ9 ex) 0 0 := by
  refine kb_start (cc := cX9_begin) (nL := 3) (ret := none) (own := RX9) (by decide) rfl (Nat.le_of_ble_eq_true rfl) ?_
  intro p e s m args below meth c C
  refine kj_sub [0, 1, 2] (L2 := [(0, .ref (d 0)), (1, .int x1), (2, .int x2)]) rfl ?_
  rw [fe_X9_begin] at hf
  refine kj_aload_n (pc := 0) C 0 dX9_begin_0 rfl rfl ?_
  refine kj_iload_n (pc := 1) C 1 dX9_begin_1 rfl rfl ?_
  refine kj_iconst (pc := 2) (v := (1 : Int32)) C dX9_begin_2 (by decide) ?_
  refine kj_bipush (pc := 3) (v := (40 : Int32)) C dX9_begin_3 (by decide) ?_
  refine kj_callS0 (pc := 5) (as := [.int x1, .int (1 : Int32), .int (40 : Int32)]) (rest := [.ref (d 0)]) C (ct_X9_in l V A x1 (1 : Int32) (40 : Int32) (kb_WM V d μ ex) rfl) wd_X9_in wk_X9_96 wi_X9_in wz_X9 rfl rfl hd_X9_in ⟨by decide, by decide⟩ rfl (Nat.le_of_ble_eq_true rfl) (by decide) dX9_begin_5 ?_
  obtain ⟨q1, hq1, hf⟩ := kb_bd hf
  refine kj_callV0 (pc := 8) (as := [.int (fn_X9_in x1 (1 : Int32) (40 : Int32))]) (rest := []) (b := (d 0)) C (ct_X9_says l V A (fn_X9_in x1 (1 : Int32) (40 : Int32)) d μ ex hq1) wd_X9_says wk_X9_100 wi_X9_says ws_X9_says wz_X9 rfl rfl hd_X9_says ⟨by decide, by decide⟩ 0 rfl rfl rfl rfl (Nat.le_of_ble_eq_true rfl) (by decide) dX9_begin_8 ?_
  refine kj_if_eq (pc := 11) 20 C dX9_begin_11 (by decide) (fun c2 => ?_) (fun c2 => ?_)
  · have hf := kb_ift hf c2
    cases hf
    exact kj_vret (pc := 20) C dX9_begin_20
  · have hf := kb_ife hf c2
    refine kj_aload_n (pc := 14) C 0 dX9_begin_14 rfl rfl ?_
    refine kj_iload_n (pc := 15) C 1 dX9_begin_15 rfl rfl ?_
    refine kj_iload_n (pc := 16) C 2 dX9_begin_16 rfl rfl ?_
    obtain ⟨q3, hq3, hf⟩ := kb_bd hf
    refine kj_callV0 (pc := 17) (as := [.int x1, .int x2]) (rest := []) (b := (d 0)) C (ct_X9_castOn l V A x1 x2 d q1.1 ex hq3) wd_X9_castOn wk_X9_71 wi_X9_castOn ws_X9_castOn wz_X9 rfl rfl hd_X9_castOn ⟨by decide, by decide⟩ 0 rfl rfl rfl rfl (Nat.le_of_ble_eq_true rfl) (by decide) dX9_begin_17 ?_
    cases hf
    exact kj_vret (pc := 20) C dX9_begin_20
def fp_X9_feed_49   : Nat → Int64 → Int32 → kb_S → Option (kb_S × Int32)
  | 0 => fun _ _ _ => none
  | nn + 1 => fun x1 x4 μ => 
  if x4 < 0 then
    some (μ, (kb_g μ 1))
  else
    if kb_in (kb_g μ 1) 200 = true then
      (fp_X9_feed_49  nn) x1 (x4 + (-1 : Int32)) (kb_p (kb_ap μ 0 (kb_g μ 1).toNatClampNeg (((x1 >>> (((8 : Int32) * x4).toInt64 &&& 63)).toInt32) &&& (255 : Int32))) 1 ((kb_g μ 1) + (1 : Int32)))
    else none
theorem fp_X9_feed_49_s   (nn : Nat) (x1 : Int64) (x4 : Int32) (μ : kb_S) : fp_X9_feed_49  (nn + 1) x1 x4 μ =
  if x4 < 0 then
    some (μ, (kb_g μ 1))
  else
    if kb_in (kb_g μ 1) 200 = true then
      (fp_X9_feed_49  nn) x1 (x4 + (-1 : Int32)) (kb_p (kb_ap μ 0 (kb_g μ 1).toNatClampNeg (((x1 >>> (((8 : Int32) * x4).toInt64 &&& 63)).toInt32) &&& (255 : Int32))) 1 ((kb_g μ 1) + (1 : Int32)))
    else none := rfl
def fp_X9_feed_32   (x1 : Int64) (x3 : Int32) (y0 : Int32) (μ : kb_S) : Option (kb_S × Int32) :=
  if y0 ≤ 0 then
    fp_X9_feed_49   kb_FU x1 (x3 - (1 : Int32)) (kb_p μ 0 y0)
  else
    some ((kb_p μ 0 y0), (0 : Int32))
theorem fp_X9_feed_32_e   (x1 : Int64) (x3 : Int32) (y0 : Int32) (μ : kb_S) : fp_X9_feed_32  x1 x3 y0 μ =
  if y0 ≤ 0 then
    fp_X9_feed_49   kb_FU x1 (x3 - (1 : Int32)) (kb_p μ 0 y0)
  else
    some ((kb_p μ 0 y0), (0 : Int32)) := rfl
def fn_X9_feed  (x1 : Int64) (x3 : Int32) (μ : kb_S) : Option (kb_S × Int32) :=
  if (fn_X9_in x3 (1 : Int32) (8 : Int32)) = 0 then
    fp_X9_feed_32   x1 x3 (1 : Int32) μ
  else
    if ((kb_g μ 1) + x3) ≤ (200 : Int32) then
      fp_X9_feed_32   x1 x3 (0 : Int32) μ
    else
      fp_X9_feed_32   x1 x3 (2 : Int32) μ
theorem fe_X9_feed  (x1 : Int64) (x3 : Int32) (μ : kb_S) : fn_X9_feed  x1 x3 μ =
  if (fn_X9_in x3 (1 : Int32) (8 : Int32)) = 0 then
    fp_X9_feed_32   x1 x3 (1 : Int32) μ
  else
    if ((kb_g μ 1) + x3) ≤ (200 : Int32) then
      fp_X9_feed_32   x1 x3 (0 : Int32) μ
    else
      fp_X9_feed_32   x1 x3 (2 : Int32) μ := rfl
theorem hd_X9_feed : yX9_feed.cls = RX9 ∧ yX9_feed.cls ≠ "java/lang/invoke/MethodHandle" ∧ yX9_feed.cls ≠ "java/lang/invoke/VarHandle" ∧ (parseMethodDescriptor yX9_feed.desc).map (fun d => d.parameters.length) = some 2 := by decide +kernel
set_option maxRecDepth 100000 in
set_option maxHeartbeats 4000000 in
theorem ct_X9_feed (l : Launch) (V : kb_V) (A : Nat → Prop)  (x1 : Int64) (x3 : Int32) (d : Nat → Nat) (μ : kb_S) (ex : va_W) {μ9 : kb_S} {r : Int32} (hf : fn_X9_feed  x1 x3 μ = some (μ9, r)) : kb_T l yX9_feed cX9_feed 5 (some .int) ({ frames := 1, cells := 0, slots := 0, locals := 22 } : Room) V A [.ref (d 0), .long x1, .int x3] (kb_WM V d μ ex) (some (.int r)) (kb_WM V d μ9 ex) 0 0 := by
  refine kb_start (cc := cX9_feed) (nL := 5) (ret := (some .int)) (own := RX9) (by decide) rfl (Nat.le_of_ble_eq_true rfl) ?_
  intro p e s m args below meth c C
  have hp49 : ∀ (nn : Nat) (x1 : Int64) (x4 : Int32) (μ : kb_S), fp_X9_feed_49   nn x1 x4 μ = some (μ9, r) → kb_J p l e ({ frames := 1, cells := 0, slots := 0, locals := 22 } : Room) s m args below meth c 5 V A 0 0 (MQ below (kb_post V A (some (.int r)) (kb_WM V d μ9 ex)) args s 0 0 A) 49 [(0, .ref (d 0)), (1, .long x1), (4, .int x4)] [] (kb_WM V d μ ex) := by
    intro nn49
    induction nn49 with
    | zero => intro x1 x4 μ hf; exact kb_no hf
    | succ nn49 ih49 =>
      intro x1 x4 μ hf
      rw [fp_X9_feed_49_s] at hf
      refine kj_iload (pc := 49) C 2 dX9_feed_49 rfl ?_
      refine kj_if_lt (pc := 51) 91 C dX9_feed_51 (by decide) (fun c1 => ?_) (fun c1 => ?_)
      · have hf := kb_ift hf c1
        refine kj_aload_n (pc := 91) C 0 dX9_feed_91 rfl rfl ?_
        refine kg_X9_taped (pc := 92) (v := (kb_g μ 1)) C wf_X9_104 dX9_feed_92 rfl ?_
        cases hf
        exact kj_iret (pc := 95) C dX9_feed_95
      · have hf := kb_ife hf c1
        refine kj_aload_n (pc := 54) C 0 dX9_feed_54 rfl rfl ?_
        refine kg_X9_tape (pc := 55) C wf_X9_7 dX9_feed_55 ?_
        refine kj_aload_n (pc := 58) C 0 dX9_feed_58 rfl rfl ?_
        refine kg_X9_taped (pc := 59) (v := (kb_g μ 1)) C wf_X9_104 dX9_feed_59 rfl ?_
        refine kj_lload_n (pc := 62) C 1 dX9_feed_62 rfl rfl ?_
        refine kj_bipush (pc := 63) (v := (8 : Int32)) C dX9_feed_63 (by decide) ?_
        refine kj_iload (pc := 65) C 2 dX9_feed_65 rfl ?_
        refine kj_imul (pc := 67) C dX9_feed_67 ?_
        refine kj_lshr (pc := 68) C dX9_feed_68 ?_
        refine kj_l2i (pc := 69) C dX9_feed_69 ?_
        refine kj_sipush (pc := 70) (v := (255 : Int32)) C dX9_feed_70 (by decide) ?_
        refine kj_iand (pc := 73) C dX9_feed_73 ?_
        obtain ⟨g2, hf⟩ := kb_gd hf
        refine ks_X9_tape (pc := 74) C g2 dX9_feed_74 ?_
        refine kj_aload_n (pc := 75) C 0 dX9_feed_75 rfl rfl ?_
        refine kj_dup (pc := 76) C dX9_feed_76 rfl ?_
        refine kg_X9_taped (pc := 77) (v := (kb_g μ 1)) C wf_X9_104 dX9_feed_77 rfl ?_
        refine kj_iconst (pc := 80) (v := (1 : Int32)) C dX9_feed_80 (by decide) ?_
        refine kj_iadd (pc := 81) C dX9_feed_81 ?_
        refine kp_X9_taped (pc := 82) C wf_X9_104 dX9_feed_82 ?_
        refine kj_iinc (pc := 85) C 2 [1, 2, 0] (L2 := [(0, .ref (d 0)), (1, .long x1), (4, .int (x4 + (-1 : Int32)))]) dX9_feed_85 rfl rfl (by decide) rfl ?_
        refine kj_goto (pc := 88) 49 C dX9_feed_88 (by decide) ?_
        exact ih49 x1 (x4 + (-1 : Int32)) (kb_p (kb_ap μ 0 (kb_g μ 1).toNatClampNeg (((x1 >>> (((8 : Int32) * x4).toInt64 &&& 63)).toInt32) &&& (255 : Int32))) 1 ((kb_g μ 1) + (1 : Int32))) hf
  have hp32 : ∀ (x1 : Int64) (x3 : Int32) (y0 : Int32) (μ : kb_S), fp_X9_feed_32   x1 x3 y0 μ = some (μ9, r) → kb_J p l e ({ frames := 1, cells := 0, slots := 0, locals := 22 } : Room) s m args below meth c 5 V A 0 0 (MQ below (kb_post V A (some (.int r)) (kb_WM V d μ9 ex)) args s 0 0 A) 32 [(0, .ref (d 0)), (1, .long x1), (3, .int x3)] [.int y0, .ref (d 0)] (kb_WM V d μ ex) := by
    intro x1 x3 y0 μ hf
    rw [fp_X9_feed_32_e] at hf
    refine kp_X9_thrown (pc := 32) C wf_X9_75 dX9_feed_32 ?_
    refine kj_aload_n (pc := 35) C 0 dX9_feed_35 rfl rfl ?_
    refine kg_X9_thrown (pc := 36) (v := y0) C wf_X9_75 dX9_feed_36 rfl ?_
    refine kj_if_le (pc := 39) 44 C dX9_feed_39 (by decide) (fun c1 => ?_) (fun c1 => ?_)
    · have hf := kb_ift hf c1
      refine kj_iload_n (pc := 44) C 2 dX9_feed_44 rfl rfl ?_
      refine kj_iconst (pc := 45) (v := (1 : Int32)) C dX9_feed_45 (by decide) ?_
      refine kj_isub (pc := 46) C dX9_feed_46 ?_
      refine kj_istore (pc := 47) C [1, 2, 3, 0] (L2 := [(0, .ref (d 0)), (1, .long x1), (3, .int x3), (4, .int (x3 - (1 : Int32)))]) dX9_feed_47 (by decide) rfl ?_
      refine kj_sub [0, 1, 3] (L2 := [(0, .ref (d 0)), (1, .long x1), (4, .int (x3 - (1 : Int32)))]) rfl ?_
      exact hp49 kb_FU x1 (x3 - (1 : Int32)) (kb_p μ 0 y0) hf
    · have hf := kb_ife hf c1
      refine kj_iconst (pc := 42) (v := (0 : Int32)) C dX9_feed_42 (by decide) ?_
      cases hf
      exact kj_iret (pc := 43) C dX9_feed_43
  refine kj_sub [0, 1, 2] (L2 := [(0, .ref (d 0)), (1, .long x1), (3, .int x3)]) rfl ?_
  rw [fe_X9_feed] at hf
  refine kj_aload_n (pc := 0) C 0 dX9_feed_0 rfl rfl ?_
  refine kj_iload_n (pc := 1) C 2 dX9_feed_1 rfl rfl ?_
  refine kj_iconst (pc := 2) (v := (1 : Int32)) C dX9_feed_2 (by decide) ?_
  refine kj_bipush (pc := 3) (v := (8 : Int32)) C dX9_feed_3 (by decide) ?_
  refine kj_callS0 (pc := 5) (as := [.int x3, .int (1 : Int32), .int (8 : Int32)]) (rest := [.ref (d 0)]) C (ct_X9_in l V A x3 (1 : Int32) (8 : Int32) (kb_WM V d μ ex) rfl) wd_X9_in wk_X9_96 wi_X9_in wz_X9 rfl rfl hd_X9_in ⟨by decide, by decide⟩ rfl (Nat.le_of_ble_eq_true rfl) (by decide) dX9_feed_5 ?_
  refine kj_if_ne (pc := 8) 15 C dX9_feed_8 (by decide) (fun c1 => ?_) (fun c1 => ?_)
  · have hf := kb_ife hf c1
    refine kj_aload_n (pc := 15) C 0 dX9_feed_15 rfl rfl ?_
    refine kg_X9_taped (pc := 16) (v := (kb_g μ 1)) C wf_X9_104 dX9_feed_16 rfl ?_
    refine kj_iload_n (pc := 19) C 2 dX9_feed_19 rfl rfl ?_
    refine kj_iadd (pc := 20) C dX9_feed_20 ?_
    refine kj_sipush (pc := 21) (v := (200 : Int32)) C dX9_feed_21 (by decide) ?_
    refine kj_icmp_le (pc := 24) 31 C dX9_feed_24 (by decide) (fun c2 => ?_) (fun c2 => ?_)
    · have hf := kb_ift hf c2
      refine kj_iconst (pc := 31) (v := (0 : Int32)) C dX9_feed_31 (by decide) ?_
      exact hp32 x1 x3 (0 : Int32) μ hf
    · have hf := kb_ife hf c2
      refine kj_iconst (pc := 27) (v := (2 : Int32)) C dX9_feed_27 (by decide) ?_
      refine kj_goto (pc := 28) 32 C dX9_feed_28 (by decide) ?_
      exact hp32 x1 x3 (2 : Int32) μ hf
  · have hf := kb_ift hf c1
    refine kj_iconst (pc := 11) (v := (1 : Int32)) C dX9_feed_11 (by decide) ?_
    refine kj_goto (pc := 12) 32 C dX9_feed_12 (by decide) ?_
    exact hp32 x1 x3 (1 : Int32) μ hf
def fn_X9_see   (μ : kb_S) : Option (Int32) :=
  if (kb_g μ 1) ≤ (kb_g μ 5) then
    some (-1 : Int32)
  else
    if kb_in (kb_g μ 5) 200 = true then
      some (kb_a μ 0 (kb_g μ 5).toNatClampNeg)
    else none
theorem fe_X9_see   (μ : kb_S) : fn_X9_see   μ =
  if (kb_g μ 1) ≤ (kb_g μ 5) then
    some (-1 : Int32)
  else
    if kb_in (kb_g μ 5) 200 = true then
      some (kb_a μ 0 (kb_g μ 5).toNatClampNeg)
    else none := rfl
theorem hd_X9_see : yX9_see.cls = RX9 ∧ yX9_see.cls ≠ "java/lang/invoke/MethodHandle" ∧ yX9_see.cls ≠ "java/lang/invoke/VarHandle" ∧ (parseMethodDescriptor yX9_see.desc).map (fun d => d.parameters.length) = some 0 := by decide +kernel
set_option maxRecDepth 100000 in
set_option maxHeartbeats 4000000 in
theorem ct_X9_see (l : Launch) (V : kb_V) (A : Nat → Prop)   (d : Nat → Nat) (μ : kb_S) (ex : va_W) {r : Int32} (hf : fn_X9_see   μ = some r) : kb_T l yX9_see cX9_see 1 (some .int) ({ frames := 0, cells := 0, slots := 0, locals := 0 } : Room) V A [.ref (d 0)] (kb_WM V d μ ex) (some (.int r)) (kb_WM V d μ ex) 0 0 := by
  refine kb_start (cc := cX9_see) (nL := 1) (ret := (some .int)) (own := RX9) (by decide) rfl (Nat.le_of_ble_eq_true rfl) ?_
  intro p e s m args below meth c C
  refine kj_sub [0] (L2 := [(0, .ref (d 0))]) rfl ?_
  rw [fe_X9_see] at hf
  refine kj_aload_n (pc := 0) C 0 dX9_see_0 rfl rfl ?_
  refine kg_X9_at (pc := 1) (v := (kb_g μ 5)) C wf_X9_107 dX9_see_1 rfl ?_
  refine kj_aload_n (pc := 4) C 0 dX9_see_4 rfl rfl ?_
  refine kg_X9_taped (pc := 5) (v := (kb_g μ 1)) C wf_X9_104 dX9_see_5 rfl ?_
  refine kj_icmp_ge (pc := 8) 23 C dX9_see_8 (by decide) (fun c1 => ?_) (fun c1 => ?_)
  · have hf := kb_ift hf c1
    refine kj_iconst (pc := 23) (v := (-1 : Int32)) C dX9_see_23 (by decide) ?_
    cases hf
    exact kj_iret (pc := 24) C dX9_see_24
  · have hf := kb_ife hf c1
    refine kj_aload_n (pc := 11) C 0 dX9_see_11 rfl rfl ?_
    refine kg_X9_tape (pc := 12) C wf_X9_7 dX9_see_12 ?_
    refine kj_aload_n (pc := 15) C 0 dX9_see_15 rfl rfl ?_
    refine kg_X9_at (pc := 16) (v := (kb_g μ 5)) C wf_X9_107 dX9_see_16 rfl ?_
    obtain ⟨g2, hf⟩ := kb_gd hf
    refine ka_X9_tape (pc := 19) (v := (kb_a μ 0 (kb_g μ 5).toNatClampNeg)) C g2 dX9_see_19 rfl ?_
    refine kj_goto (pc := 20) 24 C dX9_see_20 (by decide) ?_
    cases hf
    exact kj_iret (pc := 24) C dX9_see_24
def fp_X9_seeWord_0   : Nat → kb_S → Option (kb_S × Int32)
  | 0 => fun _ => none
  | nn + 1 => fun μ => 
  (fn_X9_see  μ).bind fun q1 =>
  if q1 = (32 : Int32) then
    (fp_X9_seeWord_0  nn) (kb_p μ 5 ((kb_g μ 5) + (1 : Int32)))
  else
    (fn_X9_see  μ).bind fun q3 =>
    some (μ, q3)
theorem fp_X9_seeWord_0_s   (nn : Nat) (μ : kb_S) : fp_X9_seeWord_0  (nn + 1) μ =
  (fn_X9_see  μ).bind fun q1 =>
  if q1 = (32 : Int32) then
    (fp_X9_seeWord_0  nn) (kb_p μ 5 ((kb_g μ 5) + (1 : Int32)))
  else
    (fn_X9_see  μ).bind fun q3 =>
    some (μ, q3) := rfl
def fn_X9_seeWord   (μ : kb_S) : Option (kb_S × Int32) :=
  fp_X9_seeWord_0   kb_FU μ
theorem fe_X9_seeWord   (μ : kb_S) : fn_X9_seeWord   μ =
  fp_X9_seeWord_0   kb_FU μ := rfl
theorem hd_X9_seeWord : yX9_seeWord.cls = RX9 ∧ yX9_seeWord.cls ≠ "java/lang/invoke/MethodHandle" ∧ yX9_seeWord.cls ≠ "java/lang/invoke/VarHandle" ∧ (parseMethodDescriptor yX9_seeWord.desc).map (fun d => d.parameters.length) = some 0 := by decide +kernel
set_option maxRecDepth 100000 in
set_option maxHeartbeats 4000000 in
theorem ct_X9_seeWord (l : Launch) (V : kb_V) (A : Nat → Prop)   (d : Nat → Nat) (μ : kb_S) (ex : va_W) {μ9 : kb_S} {r : Int32} (hf : fn_X9_seeWord   μ = some (μ9, r)) : kb_T l yX9_seeWord cX9_seeWord 1 (some .int) ({ frames := 1, cells := 0, slots := 0, locals := 20 } : Room) V A [.ref (d 0)] (kb_WM V d μ ex) (some (.int r)) (kb_WM V d μ9 ex) 0 0 := by
  refine kb_start (cc := cX9_seeWord) (nL := 1) (ret := (some .int)) (own := RX9) (by decide) rfl (Nat.le_of_ble_eq_true rfl) ?_
  intro p e s m args below meth c C
  have hp0 : ∀ (nn : Nat) (μ : kb_S), fp_X9_seeWord_0   nn μ = some (μ9, r) → kb_J p l e ({ frames := 1, cells := 0, slots := 0, locals := 20 } : Room) s m args below meth c 1 V A 0 0 (MQ below (kb_post V A (some (.int r)) (kb_WM V d μ9 ex)) args s 0 0 A) 0 [(0, .ref (d 0))] [] (kb_WM V d μ ex) := by
    intro nn0
    induction nn0 with
    | zero => intro μ hf; exact kb_no hf
    | succ nn0 ih0 =>
      intro μ hf
      rw [fp_X9_seeWord_0_s] at hf
      refine kj_aload_n (pc := 0) C 0 dX9_seeWord_0 rfl rfl ?_
      obtain ⟨q1, hq1, hf⟩ := kb_bd hf
      refine kj_callV0 (pc := 1) (as := []) (rest := []) (b := (d 0)) C (ct_X9_see l V A  d μ ex hq1) wd_X9_see wk_X9_110 wi_X9_see ws_X9_see wz_X9 rfl rfl hd_X9_see ⟨by decide, by decide⟩ 0 rfl rfl rfl rfl (Nat.le_of_ble_eq_true rfl) (by decide) dX9_seeWord_1 ?_
      refine kj_bipush (pc := 4) (v := (32 : Int32)) C dX9_seeWord_4 (by decide) ?_
      refine kj_icmp_ne (pc := 6) 22 C dX9_seeWord_6 (by decide) (fun c2 => ?_) (fun c2 => ?_)
      · have hf := kb_ife hf c2
        refine kj_aload_n (pc := 22) C 0 dX9_seeWord_22 rfl rfl ?_
        obtain ⟨q3, hq3, hf⟩ := kb_bd hf
        refine kj_callV0 (pc := 23) (as := []) (rest := []) (b := (d 0)) C (ct_X9_see l V A  d μ ex hq3) wd_X9_see wk_X9_110 wi_X9_see ws_X9_see wz_X9 rfl rfl hd_X9_see ⟨by decide, by decide⟩ 0 rfl rfl rfl rfl (Nat.le_of_ble_eq_true rfl) (by decide) dX9_seeWord_23 ?_
        cases hf
        exact kj_iret (pc := 26) C dX9_seeWord_26
      · have hf := kb_ift hf c2
        refine kj_aload_n (pc := 9) C 0 dX9_seeWord_9 rfl rfl ?_
        refine kj_dup (pc := 10) C dX9_seeWord_10 rfl ?_
        refine kg_X9_at (pc := 11) (v := (kb_g μ 5)) C wf_X9_107 dX9_seeWord_11 rfl ?_
        refine kj_iconst (pc := 14) (v := (1 : Int32)) C dX9_seeWord_14 (by decide) ?_
        refine kj_iadd (pc := 15) C dX9_seeWord_15 ?_
        refine kp_X9_at (pc := 16) C wf_X9_107 dX9_seeWord_16 ?_
        refine kj_goto (pc := 19) 0 C dX9_seeWord_19 (by decide) ?_
        exact ih0 (kb_p μ 5 ((kb_g μ 5) + (1 : Int32))) hf
  refine kj_sub [0] (L2 := [(0, .ref (d 0))]) rfl ?_
  rw [fe_X9_seeWord] at hf
  exact hp0 kb_FU μ hf
def fn_X9_wrong  (x1 : Int32) (μ : kb_S) : Option (kb_S) :=
  if (kb_g μ 6) ≤ 0 then
    some (kb_p (kb_p μ 6 x1) 7 (kb_g μ 5))
  else
    some μ
theorem fe_X9_wrong  (x1 : Int32) (μ : kb_S) : fn_X9_wrong  x1 μ =
  if (kb_g μ 6) ≤ 0 then
    some (kb_p (kb_p μ 6 x1) 7 (kb_g μ 5))
  else
    some μ := rfl
theorem hd_X9_wrong : yX9_wrong.cls = RX9 ∧ yX9_wrong.cls ≠ "java/lang/invoke/MethodHandle" ∧ yX9_wrong.cls ≠ "java/lang/invoke/VarHandle" ∧ (parseMethodDescriptor yX9_wrong.desc).map (fun d => d.parameters.length) = some 1 := by decide +kernel
set_option maxRecDepth 100000 in
set_option maxHeartbeats 4000000 in
theorem ct_X9_wrong (l : Launch) (V : kb_V) (A : Nat → Prop)  (x1 : Int32) (d : Nat → Nat) (μ : kb_S) (ex : va_W) {μ9 : kb_S} (hf : fn_X9_wrong  x1 μ = some μ9) : kb_T l yX9_wrong cX9_wrong 2 none ({ frames := 0, cells := 0, slots := 0, locals := 0 } : Room) V A [.ref (d 0), .int x1] (kb_WM V d μ ex) none (kb_WM V d μ9 ex) 0 0 := by
  refine kb_start (cc := cX9_wrong) (nL := 2) (ret := none) (own := RX9) (by decide) rfl (Nat.le_of_ble_eq_true rfl) ?_
  intro p e s m args below meth c C
  refine kj_sub [0, 1] (L2 := [(0, .ref (d 0)), (1, .int x1)]) rfl ?_
  rw [fe_X9_wrong] at hf
  refine kj_aload_n (pc := 0) C 0 dX9_wrong_0 rfl rfl ?_
  refine kg_X9_fault (pc := 1) (v := (kb_g μ 6)) C wf_X9_114 dX9_wrong_1 rfl ?_
  refine kj_if_le (pc := 4) 8 C dX9_wrong_4 (by decide) (fun c1 => ?_) (fun c1 => ?_)
  · have hf := kb_ift hf c1
    refine kj_aload_n (pc := 8) C 0 dX9_wrong_8 rfl rfl ?_
    refine kj_iload_n (pc := 9) C 1 dX9_wrong_9 rfl rfl ?_
    refine kp_X9_fault (pc := 10) C wf_X9_114 dX9_wrong_10 ?_
    refine kj_aload_n (pc := 13) C 0 dX9_wrong_13 rfl rfl ?_
    refine kj_aload_n (pc := 14) C 0 dX9_wrong_14 rfl rfl ?_
    refine kg_X9_at (pc := 15) (v := (kb_g μ 5)) C wf_X9_107 dX9_wrong_15 rfl ?_
    refine kp_X9_place (pc := 18) C wf_X9_117 dX9_wrong_18 ?_
    cases hf
    exact kj_vret (pc := 21) C dX9_wrong_21
  · have hf := kb_ife hf c1
    cases hf
    exact kj_vret (pc := 7) C dX9_wrong_7
def fp_X9_need_34   (y0 : Int32) (μ : kb_S) : Option (kb_S) :=
  some (kb_p μ 5 y0)
theorem fp_X9_need_34_e   (y0 : Int32) (μ : kb_S) : fp_X9_need_34  y0 μ =
  some (kb_p μ 5 y0) := rfl
def fp_X9_need_13   (μ : kb_S) : Option (kb_S) :=
  if (kb_g μ 6) = 0 then
    fp_X9_need_34   ((kb_g μ 5) + (1 : Int32)) μ
  else
    fp_X9_need_34   (kb_g μ 5) μ
theorem fp_X9_need_13_e   (μ : kb_S) : fp_X9_need_13  μ =
  if (kb_g μ 6) = 0 then
    fp_X9_need_34   ((kb_g μ 5) + (1 : Int32)) μ
  else
    fp_X9_need_34   (kb_g μ 5) μ := rfl
def fn_X9_need  (x1 : Int32) (μ : kb_S) : Option (kb_S) :=
  (fn_X9_see  μ).bind fun q1 =>
  if q1 = x1 then
    fp_X9_need_13   μ
  else
    (fn_X9_wrong (1 : Int32) μ).bind fun q3 =>
    fp_X9_need_13   q3
theorem fe_X9_need  (x1 : Int32) (μ : kb_S) : fn_X9_need  x1 μ =
  (fn_X9_see  μ).bind fun q1 =>
  if q1 = x1 then
    fp_X9_need_13   μ
  else
    (fn_X9_wrong (1 : Int32) μ).bind fun q3 =>
    fp_X9_need_13   q3 := rfl
theorem hd_X9_need : yX9_need.cls = RX9 ∧ yX9_need.cls ≠ "java/lang/invoke/MethodHandle" ∧ yX9_need.cls ≠ "java/lang/invoke/VarHandle" ∧ (parseMethodDescriptor yX9_need.desc).map (fun d => d.parameters.length) = some 1 := by decide +kernel
set_option maxRecDepth 100000 in
set_option maxHeartbeats 4000000 in
theorem ct_X9_need (l : Launch) (V : kb_V) (A : Nat → Prop)  (x1 : Int32) (d : Nat → Nat) (μ : kb_S) (ex : va_W) {μ9 : kb_S} (hf : fn_X9_need  x1 μ = some μ9) : kb_T l yX9_need cX9_need 2 none ({ frames := 1, cells := 0, slots := 0, locals := 21 } : Room) V A [.ref (d 0), .int x1] (kb_WM V d μ ex) none (kb_WM V d μ9 ex) 0 0 := by
  refine kb_start (cc := cX9_need) (nL := 2) (ret := none) (own := RX9) (by decide) rfl (Nat.le_of_ble_eq_true rfl) ?_
  intro p e s m args below meth c C
  have hp34 : ∀ (y0 : Int32) (μ : kb_S), fp_X9_need_34   y0 μ = some μ9 → kb_J p l e ({ frames := 1, cells := 0, slots := 0, locals := 21 } : Room) s m args below meth c 2 V A 0 0 (MQ below (kb_post V A none (kb_WM V d μ9 ex)) args s 0 0 A) 34 [] [.int y0, .ref (d 0)] (kb_WM V d μ ex) := by
    intro y0 μ hf
    rw [fp_X9_need_34_e] at hf
    refine kp_X9_at (pc := 34) C wf_X9_107 dX9_need_34 ?_
    cases hf
    exact kj_vret (pc := 37) C dX9_need_37
  have hp13 : ∀ (μ : kb_S), fp_X9_need_13   μ = some μ9 → kb_J p l e ({ frames := 1, cells := 0, slots := 0, locals := 21 } : Room) s m args below meth c 2 V A 0 0 (MQ below (kb_post V A none (kb_WM V d μ9 ex)) args s 0 0 A) 13 [(0, .ref (d 0))] [] (kb_WM V d μ ex) := by
    intro μ hf
    rw [fp_X9_need_13_e] at hf
    refine kj_aload_n (pc := 13) C 0 dX9_need_13 rfl rfl ?_
    refine kj_aload_n (pc := 14) C 0 dX9_need_14 rfl rfl ?_
    refine kg_X9_fault (pc := 15) (v := (kb_g μ 6)) C wf_X9_114 dX9_need_15 rfl ?_
    refine kj_if_ne (pc := 18) 30 C dX9_need_18 (by decide) (fun c1 => ?_) (fun c1 => ?_)
    · have hf := kb_ife hf c1
      refine kj_aload_n (pc := 30) C 0 dX9_need_30 rfl rfl ?_
      refine kg_X9_at (pc := 31) (v := (kb_g μ 5)) C wf_X9_107 dX9_need_31 rfl ?_
      refine kj_sub [] (L2 := []) rfl ?_
      exact hp34 (kb_g μ 5) μ hf
    · have hf := kb_ift hf c1
      refine kj_aload_n (pc := 21) C 0 dX9_need_21 rfl rfl ?_
      refine kg_X9_at (pc := 22) (v := (kb_g μ 5)) C wf_X9_107 dX9_need_22 rfl ?_
      refine kj_iconst (pc := 25) (v := (1 : Int32)) C dX9_need_25 (by decide) ?_
      refine kj_iadd (pc := 26) C dX9_need_26 ?_
      refine kj_goto (pc := 27) 34 C dX9_need_27 (by decide) ?_
      refine kj_sub [] (L2 := []) rfl ?_
      exact hp34 ((kb_g μ 5) + (1 : Int32)) μ hf
  refine kj_sub [0, 1] (L2 := [(0, .ref (d 0)), (1, .int x1)]) rfl ?_
  rw [fe_X9_need] at hf
  refine kj_aload_n (pc := 0) C 0 dX9_need_0 rfl rfl ?_
  obtain ⟨q1, hq1, hf⟩ := kb_bd hf
  refine kj_callV0 (pc := 1) (as := []) (rest := []) (b := (d 0)) C (ct_X9_see l V A  d μ ex hq1) wd_X9_see wk_X9_110 wi_X9_see ws_X9_see wz_X9 rfl rfl hd_X9_see ⟨by decide, by decide⟩ 0 rfl rfl rfl rfl (Nat.le_of_ble_eq_true rfl) (by decide) dX9_need_1 ?_
  refine kj_iload_n (pc := 4) C 1 dX9_need_4 rfl rfl ?_
  refine kj_icmp_eq (pc := 5) 13 C dX9_need_5 (by decide) (fun c2 => ?_) (fun c2 => ?_)
  · have hf := kb_ift hf c2
    refine kj_sub [0] (L2 := [(0, .ref (d 0))]) rfl ?_
    exact hp13 μ hf
  · have hf := kb_ife hf c2
    refine kj_aload_n (pc := 8) C 0 dX9_need_8 rfl rfl ?_
    refine kj_iconst (pc := 9) (v := (1 : Int32)) C dX9_need_9 (by decide) ?_
    obtain ⟨q3, hq3, hf⟩ := kb_bd hf
    refine kj_callV0 (pc := 10) (as := [.int (1 : Int32)]) (rest := []) (b := (d 0)) C (ct_X9_wrong l V A (1 : Int32) d μ ex hq3) wd_X9_wrong wk_X9_120 wi_X9_wrong ws_X9_wrong wz_X9 rfl rfl hd_X9_wrong ⟨by decide, by decide⟩ 0 rfl rfl rfl rfl (Nat.le_of_ble_eq_true rfl) (by decide) dX9_need_10 ?_
    refine kj_sub [0] (L2 := [(0, .ref (d 0))]) rfl ?_
    exact hp13 q3 hf
def fn_X9_add  (x1 : Int32) (x2 : Int32) (x3 : Int32) (μ : kb_S) : Option (kb_S) :=
  if (kb_g μ 6) ≤ 0 then
    if kb_in (kb_g μ 9) 220 = true then
      if kb_in (kb_g μ 9) 220 = true then
        if kb_in (kb_g μ 9) 220 = true then
          some (kb_p (kb_ap (kb_ap (kb_ap μ 9 (kb_g μ 9).toNatClampNeg x1) 10 (kb_g μ 9).toNatClampNeg x2) 11 (kb_g μ 9).toNatClampNeg x3) 9 ((kb_g μ 9) + (1 : Int32)))
        else none
      else none
    else none
  else
    some μ
theorem fe_X9_add  (x1 : Int32) (x2 : Int32) (x3 : Int32) (μ : kb_S) : fn_X9_add  x1 x2 x3 μ =
  if (kb_g μ 6) ≤ 0 then
    if kb_in (kb_g μ 9) 220 = true then
      if kb_in (kb_g μ 9) 220 = true then
        if kb_in (kb_g μ 9) 220 = true then
          some (kb_p (kb_ap (kb_ap (kb_ap μ 9 (kb_g μ 9).toNatClampNeg x1) 10 (kb_g μ 9).toNatClampNeg x2) 11 (kb_g μ 9).toNatClampNeg x3) 9 ((kb_g μ 9) + (1 : Int32)))
        else none
      else none
    else none
  else
    some μ := rfl
theorem hd_X9_add : yX9_add.cls = RX9 ∧ yX9_add.cls ≠ "java/lang/invoke/MethodHandle" ∧ yX9_add.cls ≠ "java/lang/invoke/VarHandle" ∧ (parseMethodDescriptor yX9_add.desc).map (fun d => d.parameters.length) = some 3 := by decide +kernel
set_option maxRecDepth 100000 in
set_option maxHeartbeats 4000000 in
theorem ct_X9_add (l : Launch) (V : kb_V) (A : Nat → Prop)  (x1 : Int32) (x2 : Int32) (x3 : Int32) (d : Nat → Nat) (μ : kb_S) (ex : va_W) {μ9 : kb_S} (hf : fn_X9_add  x1 x2 x3 μ = some μ9) : kb_T l yX9_add cX9_add 4 none ({ frames := 0, cells := 0, slots := 0, locals := 0 } : Room) V A [.ref (d 0), .int x1, .int x2, .int x3] (kb_WM V d μ ex) none (kb_WM V d μ9 ex) 0 0 := by
  refine kb_start (cc := cX9_add) (nL := 4) (ret := none) (own := RX9) (by decide) rfl (Nat.le_of_ble_eq_true rfl) ?_
  intro p e s m args below meth c C
  refine kj_sub [0, 1, 2, 3] (L2 := [(0, .ref (d 0)), (1, .int x1), (2, .int x2), (3, .int x3)]) rfl ?_
  rw [fe_X9_add] at hf
  refine kj_aload_n (pc := 0) C 0 dX9_add_0 rfl rfl ?_
  refine kg_X9_fault (pc := 1) (v := (kb_g μ 6)) C wf_X9_114 dX9_add_1 rfl ?_
  refine kj_if_le (pc := 4) 8 C dX9_add_4 (by decide) (fun c1 => ?_) (fun c1 => ?_)
  · have hf := kb_ift hf c1
    refine kj_aload_n (pc := 8) C 0 dX9_add_8 rfl rfl ?_
    refine kg_X9_mark (pc := 9) C wf_X9_38 dX9_add_9 ?_
    refine kj_aload_n (pc := 12) C 0 dX9_add_12 rfl rfl ?_
    refine kg_X9_marks (pc := 13) (v := (kb_g μ 9)) C wf_X9_123 dX9_add_13 rfl ?_
    refine kj_iload_n (pc := 16) C 1 dX9_add_16 rfl rfl ?_
    obtain ⟨g2, hf⟩ := kb_gd hf
    refine ks_X9_mark (pc := 17) C g2 dX9_add_17 ?_
    refine kj_aload_n (pc := 18) C 0 dX9_add_18 rfl rfl ?_
    refine kg_X9_number (pc := 19) C wf_X9_41 dX9_add_19 ?_
    refine kj_aload_n (pc := 22) C 0 dX9_add_22 rfl rfl ?_
    refine kg_X9_marks (pc := 23) (v := (kb_g μ 9)) C wf_X9_123 dX9_add_23 rfl ?_
    refine kj_iload_n (pc := 26) C 2 dX9_add_26 rfl rfl ?_
    obtain ⟨g3, hf⟩ := kb_gd hf
    refine ks_X9_number (pc := 27) C g3 dX9_add_27 ?_
    refine kj_aload_n (pc := 28) C 0 dX9_add_28 rfl rfl ?_
    refine kg_X9_where (pc := 29) C wf_X9_44 dX9_add_29 ?_
    refine kj_aload_n (pc := 32) C 0 dX9_add_32 rfl rfl ?_
    refine kg_X9_marks (pc := 33) (v := (kb_g μ 9)) C wf_X9_123 dX9_add_33 rfl ?_
    refine kj_iload_n (pc := 36) C 3 dX9_add_36 rfl rfl ?_
    obtain ⟨g4, hf⟩ := kb_gd hf
    refine ks_X9_where (pc := 37) C g4 dX9_add_37 ?_
    refine kj_aload_n (pc := 38) C 0 dX9_add_38 rfl rfl ?_
    refine kj_dup (pc := 39) C dX9_add_39 rfl ?_
    refine kg_X9_marks (pc := 40) (v := (kb_g μ 9)) C wf_X9_123 dX9_add_40 rfl ?_
    refine kj_iconst (pc := 43) (v := (1 : Int32)) C dX9_add_43 (by decide) ?_
    refine kj_iadd (pc := 44) C dX9_add_44 ?_
    refine kp_X9_marks (pc := 45) C wf_X9_123 dX9_add_45 ?_
    cases hf
    exact kj_vret (pc := 48) C dX9_add_48
  · have hf := kb_ife hf c1
    cases hf
    exact kj_vret (pc := 7) C dX9_add_7
def fn_X9_isDigit  (x1 : Int32) (μ : kb_S) : Option (Int32) :=
  (fn_X9_see  μ).bind fun q1 =>
  if q1 < ((48 : Int32) + x1) then
    some (0 : Int32)
  else
    (fn_X9_see  μ).bind fun q3 =>
    if (57 : Int32) < q3 then
      some (0 : Int32)
    else
      some (1 : Int32)
theorem fe_X9_isDigit  (x1 : Int32) (μ : kb_S) : fn_X9_isDigit  x1 μ =
  (fn_X9_see  μ).bind fun q1 =>
  if q1 < ((48 : Int32) + x1) then
    some (0 : Int32)
  else
    (fn_X9_see  μ).bind fun q3 =>
    if (57 : Int32) < q3 then
      some (0 : Int32)
    else
      some (1 : Int32) := rfl
theorem hd_X9_isDigit : yX9_isDigit.cls = RX9 ∧ yX9_isDigit.cls ≠ "java/lang/invoke/MethodHandle" ∧ yX9_isDigit.cls ≠ "java/lang/invoke/VarHandle" ∧ (parseMethodDescriptor yX9_isDigit.desc).map (fun d => d.parameters.length) = some 1 := by decide +kernel
set_option maxRecDepth 100000 in
set_option maxHeartbeats 4000000 in
theorem ct_X9_isDigit (l : Launch) (V : kb_V) (A : Nat → Prop)  (x1 : Int32) (d : Nat → Nat) (μ : kb_S) (ex : va_W) {r : Int32} (hf : fn_X9_isDigit  x1 μ = some r) : kb_T l yX9_isDigit cX9_isDigit 2 (some .boolean) ({ frames := 1, cells := 0, slots := 0, locals := 20 } : Room) V A [.ref (d 0), .int x1] (kb_WM V d μ ex) (some (.int r)) (kb_WM V d μ ex) 0 0 := by
  refine kb_start (cc := cX9_isDigit) (nL := 2) (ret := (some .boolean)) (own := RX9) (by decide) rfl (Nat.le_of_ble_eq_true rfl) ?_
  intro p e s m args below meth c C
  refine kj_sub [0, 1] (L2 := [(0, .ref (d 0)), (1, .int x1)]) rfl ?_
  rw [fe_X9_isDigit] at hf
  refine kj_aload_n (pc := 0) C 0 dX9_isDigit_0 rfl rfl ?_
  obtain ⟨q1, hq1, hf⟩ := kb_bd hf
  refine kj_callV0 (pc := 1) (as := []) (rest := []) (b := (d 0)) C (ct_X9_see l V A  d μ ex hq1) wd_X9_see wk_X9_110 wi_X9_see ws_X9_see wz_X9 rfl rfl hd_X9_see ⟨by decide, by decide⟩ 0 rfl rfl rfl rfl (Nat.le_of_ble_eq_true rfl) (by decide) dX9_isDigit_1 ?_
  refine kj_bipush (pc := 4) (v := (48 : Int32)) C dX9_isDigit_4 (by decide) ?_
  refine kj_iload_n (pc := 6) C 1 dX9_isDigit_6 rfl rfl ?_
  refine kj_iadd (pc := 7) C dX9_isDigit_7 ?_
  refine kj_icmp_lt (pc := 8) 24 C dX9_isDigit_8 (by decide) (fun c2 => ?_) (fun c2 => ?_)
  · have hf := kb_ift hf c2
    refine kj_iconst (pc := 24) (v := (0 : Int32)) C dX9_isDigit_24 (by decide) ?_
    cases hf
    exact kj_zret (pc := 25) C (by decide) dX9_isDigit_25
  · have hf := kb_ife hf c2
    refine kj_aload_n (pc := 11) C 0 dX9_isDigit_11 rfl rfl ?_
    obtain ⟨q3, hq3, hf⟩ := kb_bd hf
    refine kj_callV0 (pc := 12) (as := []) (rest := []) (b := (d 0)) C (ct_X9_see l V A  d μ ex hq3) wd_X9_see wk_X9_110 wi_X9_see ws_X9_see wz_X9 rfl rfl hd_X9_see ⟨by decide, by decide⟩ 0 rfl rfl rfl rfl (Nat.le_of_ble_eq_true rfl) (by decide) dX9_isDigit_12 ?_
    refine kj_bipush (pc := 15) (v := (57 : Int32)) C dX9_isDigit_15 (by decide) ?_
    refine kj_icmp_gt (pc := 17) 24 C dX9_isDigit_17 (by decide) (fun c4 => ?_) (fun c4 => ?_)
    · have hf := kb_ift hf c4
      refine kj_iconst (pc := 24) (v := (0 : Int32)) C dX9_isDigit_24 (by decide) ?_
      cases hf
      exact kj_zret (pc := 25) C (by decide) dX9_isDigit_25
    · have hf := kb_ife hf c4
      refine kj_iconst (pc := 20) (v := (1 : Int32)) C dX9_isDigit_20 (by decide) ?_
      refine kj_goto (pc := 21) 25 C dX9_isDigit_21 (by decide) ?_
      cases hf
      exact kj_zret (pc := 25) C (by decide) dX9_isDigit_25
def fp_X9_count_76   (x2 : Int32) (μ : kb_S) : Option (kb_S × Int32) :=
  if (kb_g μ 6) = 0 then
    (fn_X9_isDigit (0 : Int32) μ).bind fun q2 =>
    if q2 = 0 then
      some (μ, x2)
    else
      (fn_X9_see  μ).bind fun q4 =>
      some ((kb_p μ 5 ((kb_g μ 5) + (1 : Int32))), ((((10 : Int32) * x2) + q4) - (48 : Int32)))
  else
    some (μ, x2)
theorem fp_X9_count_76_e   (x2 : Int32) (μ : kb_S) : fp_X9_count_76  x2 μ =
  if (kb_g μ 6) = 0 then
    (fn_X9_isDigit (0 : Int32) μ).bind fun q2 =>
    if q2 = 0 then
      some (μ, x2)
    else
      (fn_X9_see  μ).bind fun q4 =>
      some ((kb_p μ 5 ((kb_g μ 5) + (1 : Int32))), ((((10 : Int32) * x2) + q4) - (48 : Int32)))
  else
    some (μ, x2) := rfl
def fp_X9_count_25   (x1 : Int32) (μ : kb_S) : Option (kb_S × Int32) :=
  (fn_X9_isDigit (1 : Int32) μ).bind fun q1 =>
  if q1 = 0 then
    (fn_X9_wrong (1 : Int32) μ).bind fun q3 =>
    some (q3, (0 : Int32))
  else
    (fn_X9_see  μ).bind fun q3 =>
    if x1 ≤ (q3 - (48 : Int32)) then
      fp_X9_count_76   (q3 - (48 : Int32)) (kb_p μ 5 ((kb_g μ 5) + (1 : Int32)))
    else
      (fn_X9_isDigit (0 : Int32) (kb_p μ 5 ((kb_g μ 5) + (1 : Int32)))).bind fun q5 =>
      if q5 = 0 then
        (fn_X9_wrong (1 : Int32) (kb_p μ 5 ((kb_g μ 5) + (1 : Int32)))).bind fun q7 =>
        fp_X9_count_76   (q3 - (48 : Int32)) q7
      else
        fp_X9_count_76   (q3 - (48 : Int32)) (kb_p μ 5 ((kb_g μ 5) + (1 : Int32)))
theorem fp_X9_count_25_e   (x1 : Int32) (μ : kb_S) : fp_X9_count_25  x1 μ =
  (fn_X9_isDigit (1 : Int32) μ).bind fun q1 =>
  if q1 = 0 then
    (fn_X9_wrong (1 : Int32) μ).bind fun q3 =>
    some (q3, (0 : Int32))
  else
    (fn_X9_see  μ).bind fun q3 =>
    if x1 ≤ (q3 - (48 : Int32)) then
      fp_X9_count_76   (q3 - (48 : Int32)) (kb_p μ 5 ((kb_g μ 5) + (1 : Int32)))
    else
      (fn_X9_isDigit (0 : Int32) (kb_p μ 5 ((kb_g μ 5) + (1 : Int32)))).bind fun q5 =>
      if q5 = 0 then
        (fn_X9_wrong (1 : Int32) (kb_p μ 5 ((kb_g μ 5) + (1 : Int32)))).bind fun q7 =>
        fp_X9_count_76   (q3 - (48 : Int32)) q7
      else
        fp_X9_count_76   (q3 - (48 : Int32)) (kb_p μ 5 ((kb_g μ 5) + (1 : Int32))) := rfl
def fn_X9_count  (x1 : Int32) (μ : kb_S) : Option (kb_S × Int32) :=
  if x1 = 0 then
    (fn_X9_see  μ).bind fun q2 =>
    if q2 = (48 : Int32) then
      some ((kb_p μ 5 ((kb_g μ 5) + (1 : Int32))), (0 : Int32))
    else
      fp_X9_count_25   x1 μ
  else
    fp_X9_count_25   x1 μ
theorem fe_X9_count  (x1 : Int32) (μ : kb_S) : fn_X9_count  x1 μ =
  if x1 = 0 then
    (fn_X9_see  μ).bind fun q2 =>
    if q2 = (48 : Int32) then
      some ((kb_p μ 5 ((kb_g μ 5) + (1 : Int32))), (0 : Int32))
    else
      fp_X9_count_25   x1 μ
  else
    fp_X9_count_25   x1 μ := rfl
theorem hd_X9_count : yX9_count.cls = RX9 ∧ yX9_count.cls ≠ "java/lang/invoke/MethodHandle" ∧ yX9_count.cls ≠ "java/lang/invoke/VarHandle" ∧ (parseMethodDescriptor yX9_count.desc).map (fun d => d.parameters.length) = some 1 := by decide +kernel
set_option maxRecDepth 100000 in
set_option maxHeartbeats 4000000 in
theorem ct_X9_count (l : Launch) (V : kb_V) (A : Nat → Prop)  (x1 : Int32) (d : Nat → Nat) (μ : kb_S) (ex : va_W) {μ9 : kb_S} {r : Int32} (hf : fn_X9_count  x1 μ = some (μ9, r)) : kb_T l yX9_count cX9_count 3 (some .int) ({ frames := 2, cells := 0, slots := 0, locals := 41 } : Room) V A [.ref (d 0), .int x1] (kb_WM V d μ ex) (some (.int r)) (kb_WM V d μ9 ex) 0 0 := by
  refine kb_start (cc := cX9_count) (nL := 3) (ret := (some .int)) (own := RX9) (by decide) rfl (Nat.le_of_ble_eq_true rfl) ?_
  intro p e s m args below meth c C
  have hp76 : ∀ (x2 : Int32) (μ : kb_S), fp_X9_count_76   x2 μ = some (μ9, r) → kb_J p l e ({ frames := 2, cells := 0, slots := 0, locals := 41 } : Room) s m args below meth c 3 V A 0 0 (MQ below (kb_post V A (some (.int r)) (kb_WM V d μ9 ex)) args s 0 0 A) 76 [(0, .ref (d 0)), (2, .int x2)] [] (kb_WM V d μ ex) := by
    intro x2 μ hf
    rw [fp_X9_count_76_e] at hf
    refine kj_aload_n (pc := 76) C 0 dX9_count_76 rfl rfl ?_
    refine kg_X9_fault (pc := 77) (v := (kb_g μ 6)) C wf_X9_114 dX9_count_77 rfl ?_
    refine kj_if_ne (pc := 80) 114 C dX9_count_80 (by decide) (fun c1 => ?_) (fun c1 => ?_)
    · have hf := kb_ife hf c1
      refine kj_iload_n (pc := 114) C 1 dX9_count_114 rfl rfl ?_
      cases hf
      exact kj_iret (pc := 115) C dX9_count_115
    · have hf := kb_ift hf c1
      refine kj_aload_n (pc := 83) C 0 dX9_count_83 rfl rfl ?_
      refine kj_iconst (pc := 84) (v := (0 : Int32)) C dX9_count_84 (by decide) ?_
      obtain ⟨q2, hq2, hf⟩ := kb_bd hf
      refine kj_callV0 (pc := 85) (as := [.int (0 : Int32)]) (rest := []) (b := (d 0)) C (ct_X9_isDigit l V A (0 : Int32) d μ ex hq2) wd_X9_isDigit wk_X9_126 wi_X9_isDigit ws_X9_isDigit wz_X9 rfl rfl hd_X9_isDigit ⟨by decide, by decide⟩ 0 rfl rfl rfl rfl (Nat.le_of_ble_eq_true rfl) (by decide) dX9_count_85 ?_
      refine kj_if_eq (pc := 88) 114 C dX9_count_88 (by decide) (fun c3 => ?_) (fun c3 => ?_)
      · have hf := kb_ift hf c3
        refine kj_iload_n (pc := 114) C 1 dX9_count_114 rfl rfl ?_
        cases hf
        exact kj_iret (pc := 115) C dX9_count_115
      · have hf := kb_ife hf c3
        refine kj_bipush (pc := 91) (v := (10 : Int32)) C dX9_count_91 (by decide) ?_
        refine kj_iload_n (pc := 93) C 1 dX9_count_93 rfl rfl ?_
        refine kj_imul (pc := 94) C dX9_count_94 ?_
        refine kj_aload_n (pc := 95) C 0 dX9_count_95 rfl rfl ?_
        obtain ⟨q4, hq4, hf⟩ := kb_bd hf
        refine kj_callV0 (pc := 96) (as := []) (rest := [.int ((10 : Int32) * x2)]) (b := (d 0)) C (ct_X9_see l V A  d μ ex hq4) wd_X9_see wk_X9_110 wi_X9_see ws_X9_see wz_X9 rfl rfl hd_X9_see ⟨by decide, by decide⟩ 0 rfl rfl rfl rfl (Nat.le_of_ble_eq_true rfl) (by decide) dX9_count_96 ?_
        refine kj_iadd (pc := 99) C dX9_count_99 ?_
        refine kj_bipush (pc := 100) (v := (48 : Int32)) C dX9_count_100 (by decide) ?_
        refine kj_isub (pc := 102) C dX9_count_102 ?_
        refine kj_istore_n (pc := 103) C [1, 0] (L2 := [(0, .ref (d 0)), (2, .int ((((10 : Int32) * x2) + q4) - (48 : Int32)))]) dX9_count_103 rfl (by decide) rfl ?_
        refine kj_aload_n (pc := 104) C 0 dX9_count_104 rfl rfl ?_
        refine kj_dup (pc := 105) C dX9_count_105 rfl ?_
        refine kg_X9_at (pc := 106) (v := (kb_g μ 5)) C wf_X9_107 dX9_count_106 rfl ?_
        refine kj_iconst (pc := 109) (v := (1 : Int32)) C dX9_count_109 (by decide) ?_
        refine kj_iadd (pc := 110) C dX9_count_110 ?_
        refine kp_X9_at (pc := 111) C wf_X9_107 dX9_count_111 ?_
        refine kj_iload_n (pc := 114) C 1 dX9_count_114 rfl rfl ?_
        cases hf
        exact kj_iret (pc := 115) C dX9_count_115
  have hp25 : ∀ (x1 : Int32) (μ : kb_S), fp_X9_count_25   x1 μ = some (μ9, r) → kb_J p l e ({ frames := 2, cells := 0, slots := 0, locals := 41 } : Room) s m args below meth c 3 V A 0 0 (MQ below (kb_post V A (some (.int r)) (kb_WM V d μ9 ex)) args s 0 0 A) 25 [(0, .ref (d 0)), (1, .int x1)] [] (kb_WM V d μ ex) := by
    intro x1 μ hf
    rw [fp_X9_count_25_e] at hf
    refine kj_aload_n (pc := 25) C 0 dX9_count_25 rfl rfl ?_
    refine kj_iconst (pc := 26) (v := (1 : Int32)) C dX9_count_26 (by decide) ?_
    obtain ⟨q1, hq1, hf⟩ := kb_bd hf
    refine kj_callV0 (pc := 27) (as := [.int (1 : Int32)]) (rest := []) (b := (d 0)) C (ct_X9_isDigit l V A (1 : Int32) d μ ex hq1) wd_X9_isDigit wk_X9_126 wi_X9_isDigit ws_X9_isDigit wz_X9 rfl rfl hd_X9_isDigit ⟨by decide, by decide⟩ 0 rfl rfl rfl rfl (Nat.le_of_ble_eq_true rfl) (by decide) dX9_count_27 ?_
    refine kj_if_ne (pc := 30) 40 C dX9_count_30 (by decide) (fun c2 => ?_) (fun c2 => ?_)
    · have hf := kb_ife hf c2
      refine kj_aload_n (pc := 40) C 0 dX9_count_40 rfl rfl ?_
      obtain ⟨q3, hq3, hf⟩ := kb_bd hf
      refine kj_callV0 (pc := 41) (as := []) (rest := []) (b := (d 0)) C (ct_X9_see l V A  d μ ex hq3) wd_X9_see wk_X9_110 wi_X9_see ws_X9_see wz_X9 rfl rfl hd_X9_see ⟨by decide, by decide⟩ 0 rfl rfl rfl rfl (Nat.le_of_ble_eq_true rfl) (by decide) dX9_count_41 ?_
      refine kj_bipush (pc := 44) (v := (48 : Int32)) C dX9_count_44 (by decide) ?_
      refine kj_isub (pc := 46) C dX9_count_46 ?_
      refine kj_istore_n (pc := 47) C [1, 2, 0] (L2 := [(0, .ref (d 0)), (1, .int x1), (2, .int (q3 - (48 : Int32)))]) dX9_count_47 rfl (by decide) rfl ?_
      refine kj_aload_n (pc := 48) C 0 dX9_count_48 rfl rfl ?_
      refine kj_dup (pc := 49) C dX9_count_49 rfl ?_
      refine kg_X9_at (pc := 50) (v := (kb_g μ 5)) C wf_X9_107 dX9_count_50 rfl ?_
      refine kj_iconst (pc := 53) (v := (1 : Int32)) C dX9_count_53 (by decide) ?_
      refine kj_iadd (pc := 54) C dX9_count_54 ?_
      refine kp_X9_at (pc := 55) C wf_X9_107 dX9_count_55 ?_
      refine kj_iload_n (pc := 58) C 2 dX9_count_58 rfl rfl ?_
      refine kj_iload_n (pc := 59) C 1 dX9_count_59 rfl rfl ?_
      refine kj_icmp_ge (pc := 60) 76 C dX9_count_60 (by decide) (fun c4 => ?_) (fun c4 => ?_)
      · have hf := kb_ift hf c4
        refine kj_sub [0, 2] (L2 := [(0, .ref (d 0)), (2, .int (q3 - (48 : Int32)))]) rfl ?_
        exact hp76 (q3 - (48 : Int32)) (kb_p μ 5 ((kb_g μ 5) + (1 : Int32))) hf
      · have hf := kb_ife hf c4
        refine kj_aload_n (pc := 63) C 0 dX9_count_63 rfl rfl ?_
        refine kj_iconst (pc := 64) (v := (0 : Int32)) C dX9_count_64 (by decide) ?_
        obtain ⟨q5, hq5, hf⟩ := kb_bd hf
        refine kj_callV0 (pc := 65) (as := [.int (0 : Int32)]) (rest := []) (b := (d 0)) C (ct_X9_isDigit l V A (0 : Int32) d (kb_p μ 5 ((kb_g μ 5) + (1 : Int32))) ex hq5) wd_X9_isDigit wk_X9_126 wi_X9_isDigit ws_X9_isDigit wz_X9 rfl rfl hd_X9_isDigit ⟨by decide, by decide⟩ 0 rfl rfl rfl rfl (Nat.le_of_ble_eq_true rfl) (by decide) dX9_count_65 ?_
        refine kj_if_ne (pc := 68) 76 C dX9_count_68 (by decide) (fun c6 => ?_) (fun c6 => ?_)
        · have hf := kb_ife hf c6
          refine kj_sub [0, 2] (L2 := [(0, .ref (d 0)), (2, .int (q3 - (48 : Int32)))]) rfl ?_
          exact hp76 (q3 - (48 : Int32)) (kb_p μ 5 ((kb_g μ 5) + (1 : Int32))) hf
        · have hf := kb_ift hf c6
          refine kj_aload_n (pc := 71) C 0 dX9_count_71 rfl rfl ?_
          refine kj_iconst (pc := 72) (v := (1 : Int32)) C dX9_count_72 (by decide) ?_
          obtain ⟨q7, hq7, hf⟩ := kb_bd hf
          refine kj_callV0 (pc := 73) (as := [.int (1 : Int32)]) (rest := []) (b := (d 0)) C (ct_X9_wrong l V A (1 : Int32) d (kb_p μ 5 ((kb_g μ 5) + (1 : Int32))) ex hq7) wd_X9_wrong wk_X9_120 wi_X9_wrong ws_X9_wrong wz_X9 rfl rfl hd_X9_wrong ⟨by decide, by decide⟩ 0 rfl rfl rfl rfl (Nat.le_of_ble_eq_true rfl) (by decide) dX9_count_73 ?_
          refine kj_sub [0, 2] (L2 := [(0, .ref (d 0)), (2, .int (q3 - (48 : Int32)))]) rfl ?_
          exact hp76 (q3 - (48 : Int32)) q7 hf
    · have hf := kb_ift hf c2
      refine kj_aload_n (pc := 33) C 0 dX9_count_33 rfl rfl ?_
      refine kj_iconst (pc := 34) (v := (1 : Int32)) C dX9_count_34 (by decide) ?_
      obtain ⟨q3, hq3, hf⟩ := kb_bd hf
      refine kj_callV0 (pc := 35) (as := [.int (1 : Int32)]) (rest := []) (b := (d 0)) C (ct_X9_wrong l V A (1 : Int32) d μ ex hq3) wd_X9_wrong wk_X9_120 wi_X9_wrong ws_X9_wrong wz_X9 rfl rfl hd_X9_wrong ⟨by decide, by decide⟩ 0 rfl rfl rfl rfl (Nat.le_of_ble_eq_true rfl) (by decide) dX9_count_35 ?_
      refine kj_iconst (pc := 38) (v := (0 : Int32)) C dX9_count_38 (by decide) ?_
      cases hf
      exact kj_iret (pc := 39) C dX9_count_39
  refine kj_sub [0, 1] (L2 := [(0, .ref (d 0)), (1, .int x1)]) rfl ?_
  rw [fe_X9_count] at hf
  refine kj_iload_n (pc := 0) C 1 dX9_count_0 rfl rfl ?_
  refine kj_if_ne (pc := 1) 25 C dX9_count_1 (by decide) (fun c1 => ?_) (fun c1 => ?_)
  · have hf := kb_ife hf c1
    exact hp25 x1 μ hf
  · have hf := kb_ift hf c1
    refine kj_aload_n (pc := 4) C 0 dX9_count_4 rfl rfl ?_
    obtain ⟨q2, hq2, hf⟩ := kb_bd hf
    refine kj_callV0 (pc := 5) (as := []) (rest := []) (b := (d 0)) C (ct_X9_see l V A  d μ ex hq2) wd_X9_see wk_X9_110 wi_X9_see ws_X9_see wz_X9 rfl rfl hd_X9_see ⟨by decide, by decide⟩ 0 rfl rfl rfl rfl (Nat.le_of_ble_eq_true rfl) (by decide) dX9_count_5 ?_
    refine kj_bipush (pc := 8) (v := (48 : Int32)) C dX9_count_8 (by decide) ?_
    refine kj_icmp_ne (pc := 10) 25 C dX9_count_10 (by decide) (fun c3 => ?_) (fun c3 => ?_)
    · have hf := kb_ife hf c3
      exact hp25 x1 μ hf
    · have hf := kb_ift hf c3
      refine kj_aload_n (pc := 13) C 0 dX9_count_13 rfl rfl ?_
      refine kj_dup (pc := 14) C dX9_count_14 rfl ?_
      refine kg_X9_at (pc := 15) (v := (kb_g μ 5)) C wf_X9_107 dX9_count_15 rfl ?_
      refine kj_iconst (pc := 18) (v := (1 : Int32)) C dX9_count_18 (by decide) ?_
      refine kj_iadd (pc := 19) C dX9_count_19 ?_
      refine kp_X9_at (pc := 20) C wf_X9_107 dX9_count_20 ?_
      refine kj_iconst (pc := 23) (v := (0 : Int32)) C dX9_count_23 (by decide) ?_
      cases hf
      exact kj_iret (pc := 24) C dX9_count_24
def fp_X9_plain_24   (x1 : Int32) (x2 : Int32) (y0 : Int32) (μ : kb_S) : Option (kb_S) :=
  (fn_X9_add x1 y0 x2 μ).bind fun q1 =>
  some q1
theorem fp_X9_plain_24_e   (x1 : Int32) (x2 : Int32) (y0 : Int32) (μ : kb_S) : fp_X9_plain_24  x1 x2 y0 μ =
  (fn_X9_add x1 y0 x2 μ).bind fun q1 =>
  some q1 := rfl
def fp_X9_plain_23   (x1 : Int32) (x2 : Int32) (μ : kb_S) : Option (kb_S) :=
  fp_X9_plain_24   x1 x2 (1 : Int32) μ
theorem fp_X9_plain_23_e   (x1 : Int32) (x2 : Int32) (μ : kb_S) : fp_X9_plain_23  x1 x2 μ =
  fp_X9_plain_24   x1 x2 (1 : Int32) μ := rfl
def fn_X9_plain  (x1 : Int32) (x2 : Int32) (μ : kb_S) : Option (kb_S) :=
  if (kb_g μ 6) = 0 then
    (fn_X9_isDigit (0 : Int32) μ).bind fun q2 =>
    if q2 = 0 then
      fp_X9_plain_23   x1 x2 μ
    else
      (fn_X9_count (1 : Int32) μ).bind fun q4 =>
      fp_X9_plain_24   x1 x2 q4.2 q4.1
  else
    fp_X9_plain_23   x1 x2 μ
theorem fe_X9_plain  (x1 : Int32) (x2 : Int32) (μ : kb_S) : fn_X9_plain  x1 x2 μ =
  if (kb_g μ 6) = 0 then
    (fn_X9_isDigit (0 : Int32) μ).bind fun q2 =>
    if q2 = 0 then
      fp_X9_plain_23   x1 x2 μ
    else
      (fn_X9_count (1 : Int32) μ).bind fun q4 =>
      fp_X9_plain_24   x1 x2 q4.2 q4.1
  else
    fp_X9_plain_23   x1 x2 μ := rfl
theorem hd_X9_plain : yX9_plain.cls = RX9 ∧ yX9_plain.cls ≠ "java/lang/invoke/MethodHandle" ∧ yX9_plain.cls ≠ "java/lang/invoke/VarHandle" ∧ (parseMethodDescriptor yX9_plain.desc).map (fun d => d.parameters.length) = some 2 := by decide +kernel
set_option maxRecDepth 100000 in
set_option maxHeartbeats 4000000 in
theorem ct_X9_plain (l : Launch) (V : kb_V) (A : Nat → Prop)  (x1 : Int32) (x2 : Int32) (d : Nat → Nat) (μ : kb_S) (ex : va_W) {μ9 : kb_S} (hf : fn_X9_plain  x1 x2 μ = some μ9) : kb_T l yX9_plain cX9_plain 4 none ({ frames := 3, cells := 0, slots := 0, locals := 63 } : Room) V A [.ref (d 0), .int x1, .int x2] (kb_WM V d μ ex) none (kb_WM V d μ9 ex) 0 0 := by
  refine kb_start (cc := cX9_plain) (nL := 4) (ret := none) (own := RX9) (by decide) rfl (Nat.le_of_ble_eq_true rfl) ?_
  intro p e s m args below meth c C
  have hp24 : ∀ (x1 : Int32) (x2 : Int32) (y0 : Int32) (μ : kb_S), fp_X9_plain_24   x1 x2 y0 μ = some μ9 → kb_J p l e ({ frames := 3, cells := 0, slots := 0, locals := 63 } : Room) s m args below meth c 4 V A 0 0 (MQ below (kb_post V A none (kb_WM V d μ9 ex)) args s 0 0 A) 24 [(0, .ref (d 0)), (1, .int x1), (2, .int x2)] [.int y0] (kb_WM V d μ ex) := by
    intro x1 x2 y0 μ hf
    rw [fp_X9_plain_24_e] at hf
    refine kj_istore_n (pc := 24) C [1, 2, 3, 0] (L2 := [(0, .ref (d 0)), (1, .int x1), (2, .int x2), (3, .int y0)]) dX9_plain_24 rfl (by decide) rfl ?_
    refine kj_aload_n (pc := 25) C 0 dX9_plain_25 rfl rfl ?_
    refine kj_iload_n (pc := 26) C 1 dX9_plain_26 rfl rfl ?_
    refine kj_iload_n (pc := 27) C 3 dX9_plain_27 rfl rfl ?_
    refine kj_iload_n (pc := 28) C 2 dX9_plain_28 rfl rfl ?_
    obtain ⟨q1, hq1, hf⟩ := kb_bd hf
    refine kj_callV0 (pc := 29) (as := [.int x1, .int y0, .int x2]) (rest := []) (b := (d 0)) C (ct_X9_add l V A x1 y0 x2 d μ ex hq1) wd_X9_add wk_X9_134 wi_X9_add ws_X9_add wz_X9 rfl rfl hd_X9_add ⟨by decide, by decide⟩ 0 rfl rfl rfl rfl (Nat.le_of_ble_eq_true rfl) (by decide) dX9_plain_29 ?_
    cases hf
    exact kj_vret (pc := 32) C dX9_plain_32
  have hp23 : ∀ (x1 : Int32) (x2 : Int32) (μ : kb_S), fp_X9_plain_23   x1 x2 μ = some μ9 → kb_J p l e ({ frames := 3, cells := 0, slots := 0, locals := 63 } : Room) s m args below meth c 4 V A 0 0 (MQ below (kb_post V A none (kb_WM V d μ9 ex)) args s 0 0 A) 23 [(0, .ref (d 0)), (1, .int x1), (2, .int x2)] [] (kb_WM V d μ ex) := by
    intro x1 x2 μ hf
    rw [fp_X9_plain_23_e] at hf
    refine kj_iconst (pc := 23) (v := (1 : Int32)) C dX9_plain_23 (by decide) ?_
    exact hp24 x1 x2 (1 : Int32) μ hf
  refine kj_sub [0, 1, 2] (L2 := [(0, .ref (d 0)), (1, .int x1), (2, .int x2)]) rfl ?_
  rw [fe_X9_plain] at hf
  refine kj_aload_n (pc := 0) C 0 dX9_plain_0 rfl rfl ?_
  refine kg_X9_fault (pc := 1) (v := (kb_g μ 6)) C wf_X9_114 dX9_plain_1 rfl ?_
  refine kj_if_ne (pc := 4) 23 C dX9_plain_4 (by decide) (fun c1 => ?_) (fun c1 => ?_)
  · have hf := kb_ife hf c1
    exact hp23 x1 x2 μ hf
  · have hf := kb_ift hf c1
    refine kj_aload_n (pc := 7) C 0 dX9_plain_7 rfl rfl ?_
    refine kj_iconst (pc := 8) (v := (0 : Int32)) C dX9_plain_8 (by decide) ?_
    obtain ⟨q2, hq2, hf⟩ := kb_bd hf
    refine kj_callV0 (pc := 9) (as := [.int (0 : Int32)]) (rest := []) (b := (d 0)) C (ct_X9_isDigit l V A (0 : Int32) d μ ex hq2) wd_X9_isDigit wk_X9_126 wi_X9_isDigit ws_X9_isDigit wz_X9 rfl rfl hd_X9_isDigit ⟨by decide, by decide⟩ 0 rfl rfl rfl rfl (Nat.le_of_ble_eq_true rfl) (by decide) dX9_plain_9 ?_
    refine kj_if_eq (pc := 12) 23 C dX9_plain_12 (by decide) (fun c3 => ?_) (fun c3 => ?_)
    · have hf := kb_ift hf c3
      exact hp23 x1 x2 μ hf
    · have hf := kb_ife hf c3
      refine kj_aload_n (pc := 15) C 0 dX9_plain_15 rfl rfl ?_
      refine kj_iconst (pc := 16) (v := (1 : Int32)) C dX9_plain_16 (by decide) ?_
      obtain ⟨q4, hq4, hf⟩ := kb_bd hf
      refine kj_callV0 (pc := 17) (as := [.int (1 : Int32)]) (rest := []) (b := (d 0)) C (ct_X9_count l V A (1 : Int32) d μ ex hq4) wd_X9_count wk_X9_130 wi_X9_count ws_X9_count wz_X9 rfl rfl hd_X9_count ⟨by decide, by decide⟩ 0 rfl rfl rfl rfl (Nat.le_of_ble_eq_true rfl) (by decide) dX9_plain_17 ?_
      refine kj_goto (pc := 20) 24 C dX9_plain_20 (by decide) ?_
      exact hp24 x1 x2 q4.2 q4.1 hf
def fp_X9_side_32   (μ : kb_S) : Option (kb_S × Int32) :=
  if (kb_g μ 6) ≤ 0 then
    if kb_in (((kb_g μ 5) + (1 : Int32)) - (1 : Int32)) 200 = true then
      some ((kb_p μ 5 ((kb_g μ 5) + (1 : Int32))), ((kb_a μ 0 (((kb_g μ 5) + (1 : Int32)) - (1 : Int32)).toNatClampNeg) - (48 : Int32)))
    else none
  else
    some (μ, (0 : Int32))
theorem fp_X9_side_32_e   (μ : kb_S) : fp_X9_side_32  μ =
  if (kb_g μ 6) ≤ 0 then
    if kb_in (((kb_g μ 5) + (1 : Int32)) - (1 : Int32)) 200 = true then
      some ((kb_p μ 5 ((kb_g μ 5) + (1 : Int32))), ((kb_a μ 0 (((kb_g μ 5) + (1 : Int32)) - (1 : Int32)).toNatClampNeg) - (48 : Int32)))
    else none
  else
    some (μ, (0 : Int32)) := rfl
def fp_X9_side_27   (μ : kb_S) : Option (kb_S × Int32) :=
  (fn_X9_wrong (1 : Int32) μ).bind fun q1 =>
  fp_X9_side_32   q1
theorem fp_X9_side_27_e   (μ : kb_S) : fp_X9_side_27  μ =
  (fn_X9_wrong (1 : Int32) μ).bind fun q1 =>
  fp_X9_side_32   q1 := rfl
def fn_X9_side   (μ : kb_S) : Option (kb_S × Int32) :=
  if (kb_g μ 6) ≤ 0 then
    (fn_X9_see  μ).bind fun q2 =>
    if q2 < (49 : Int32) then
      fp_X9_side_27   μ
    else
      (fn_X9_see  μ).bind fun q4 =>
      if q4 ≤ (53 : Int32) then
        fp_X9_side_32   μ
      else
        fp_X9_side_27   μ
  else
    some (μ, (0 : Int32))
theorem fe_X9_side   (μ : kb_S) : fn_X9_side   μ =
  if (kb_g μ 6) ≤ 0 then
    (fn_X9_see  μ).bind fun q2 =>
    if q2 < (49 : Int32) then
      fp_X9_side_27   μ
    else
      (fn_X9_see  μ).bind fun q4 =>
      if q4 ≤ (53 : Int32) then
        fp_X9_side_32   μ
      else
        fp_X9_side_27   μ
  else
    some (μ, (0 : Int32)) := rfl
theorem hd_X9_side : yX9_side.cls = RX9 ∧ yX9_side.cls ≠ "java/lang/invoke/MethodHandle" ∧ yX9_side.cls ≠ "java/lang/invoke/VarHandle" ∧ (parseMethodDescriptor yX9_side.desc).map (fun d => d.parameters.length) = some 0 := by decide +kernel
set_option maxRecDepth 100000 in
set_option maxHeartbeats 4000000 in
theorem ct_X9_side (l : Launch) (V : kb_V) (A : Nat → Prop)   (d : Nat → Nat) (μ : kb_S) (ex : va_W) {μ9 : kb_S} {r : Int32} (hf : fn_X9_side   μ = some (μ9, r)) : kb_T l yX9_side cX9_side 1 (some .int) ({ frames := 1, cells := 0, slots := 0, locals := 21 } : Room) V A [.ref (d 0)] (kb_WM V d μ ex) (some (.int r)) (kb_WM V d μ9 ex) 0 0 := by
  refine kb_start (cc := cX9_side) (nL := 1) (ret := (some .int)) (own := RX9) (by decide) rfl (Nat.le_of_ble_eq_true rfl) ?_
  intro p e s m args below meth c C
  have hp32 : ∀ (μ : kb_S), fp_X9_side_32   μ = some (μ9, r) → kb_J p l e ({ frames := 1, cells := 0, slots := 0, locals := 21 } : Room) s m args below meth c 1 V A 0 0 (MQ below (kb_post V A (some (.int r)) (kb_WM V d μ9 ex)) args s 0 0 A) 32 [(0, .ref (d 0))] [] (kb_WM V d μ ex) := by
    intro μ hf
    rw [fp_X9_side_32_e] at hf
    refine kj_aload_n (pc := 32) C 0 dX9_side_32 rfl rfl ?_
    refine kg_X9_fault (pc := 33) (v := (kb_g μ 6)) C wf_X9_114 dX9_side_33 rfl ?_
    refine kj_if_le (pc := 36) 41 C dX9_side_36 (by decide) (fun c1 => ?_) (fun c1 => ?_)
    · have hf := kb_ift hf c1
      refine kj_aload_n (pc := 41) C 0 dX9_side_41 rfl rfl ?_
      refine kj_dup (pc := 42) C dX9_side_42 rfl ?_
      refine kg_X9_at (pc := 43) (v := (kb_g μ 5)) C wf_X9_107 dX9_side_43 rfl ?_
      refine kj_iconst (pc := 46) (v := (1 : Int32)) C dX9_side_46 (by decide) ?_
      refine kj_iadd (pc := 47) C dX9_side_47 ?_
      refine kp_X9_at (pc := 48) C wf_X9_107 dX9_side_48 ?_
      refine kj_aload_n (pc := 51) C 0 dX9_side_51 rfl rfl ?_
      refine kg_X9_tape (pc := 52) C wf_X9_7 dX9_side_52 ?_
      refine kj_aload_n (pc := 55) C 0 dX9_side_55 rfl rfl ?_
      refine kg_X9_at (pc := 56) (v := ((kb_g μ 5) + (1 : Int32))) C wf_X9_107 dX9_side_56 rfl ?_
      refine kj_iconst (pc := 59) (v := (1 : Int32)) C dX9_side_59 (by decide) ?_
      refine kj_isub (pc := 60) C dX9_side_60 ?_
      obtain ⟨g2, hf⟩ := kb_gd hf
      refine ka_X9_tape (pc := 61) (v := (kb_a μ 0 (((kb_g μ 5) + (1 : Int32)) - (1 : Int32)).toNatClampNeg)) C g2 dX9_side_61 rfl ?_
      refine kj_bipush (pc := 62) (v := (48 : Int32)) C dX9_side_62 (by decide) ?_
      refine kj_isub (pc := 64) C dX9_side_64 ?_
      cases hf
      exact kj_iret (pc := 65) C dX9_side_65
    · have hf := kb_ife hf c1
      refine kj_iconst (pc := 39) (v := (0 : Int32)) C dX9_side_39 (by decide) ?_
      cases hf
      exact kj_iret (pc := 40) C dX9_side_40
  have hp27 : ∀ (μ : kb_S), fp_X9_side_27   μ = some (μ9, r) → kb_J p l e ({ frames := 1, cells := 0, slots := 0, locals := 21 } : Room) s m args below meth c 1 V A 0 0 (MQ below (kb_post V A (some (.int r)) (kb_WM V d μ9 ex)) args s 0 0 A) 27 [(0, .ref (d 0))] [] (kb_WM V d μ ex) := by
    intro μ hf
    rw [fp_X9_side_27_e] at hf
    refine kj_aload_n (pc := 27) C 0 dX9_side_27 rfl rfl ?_
    refine kj_iconst (pc := 28) (v := (1 : Int32)) C dX9_side_28 (by decide) ?_
    obtain ⟨q1, hq1, hf⟩ := kb_bd hf
    refine kj_callV0 (pc := 29) (as := [.int (1 : Int32)]) (rest := []) (b := (d 0)) C (ct_X9_wrong l V A (1 : Int32) d μ ex hq1) wd_X9_wrong wk_X9_120 wi_X9_wrong ws_X9_wrong wz_X9 rfl rfl hd_X9_wrong ⟨by decide, by decide⟩ 0 rfl rfl rfl rfl (Nat.le_of_ble_eq_true rfl) (by decide) dX9_side_29 ?_
    exact hp32 q1 hf
  refine kj_sub [0] (L2 := [(0, .ref (d 0))]) rfl ?_
  rw [fe_X9_side] at hf
  refine kj_aload_n (pc := 0) C 0 dX9_side_0 rfl rfl ?_
  refine kg_X9_fault (pc := 1) (v := (kb_g μ 6)) C wf_X9_114 dX9_side_1 rfl ?_
  refine kj_if_le (pc := 4) 9 C dX9_side_4 (by decide) (fun c1 => ?_) (fun c1 => ?_)
  · have hf := kb_ift hf c1
    refine kj_aload_n (pc := 9) C 0 dX9_side_9 rfl rfl ?_
    obtain ⟨q2, hq2, hf⟩ := kb_bd hf
    refine kj_callV0 (pc := 10) (as := []) (rest := []) (b := (d 0)) C (ct_X9_see l V A  d μ ex hq2) wd_X9_see wk_X9_110 wi_X9_see ws_X9_see wz_X9 rfl rfl hd_X9_see ⟨by decide, by decide⟩ 0 rfl rfl rfl rfl (Nat.le_of_ble_eq_true rfl) (by decide) dX9_side_10 ?_
    refine kj_bipush (pc := 13) (v := (49 : Int32)) C dX9_side_13 (by decide) ?_
    refine kj_icmp_lt (pc := 15) 27 C dX9_side_15 (by decide) (fun c3 => ?_) (fun c3 => ?_)
    · have hf := kb_ift hf c3
      exact hp27 μ hf
    · have hf := kb_ife hf c3
      refine kj_aload_n (pc := 18) C 0 dX9_side_18 rfl rfl ?_
      obtain ⟨q4, hq4, hf⟩ := kb_bd hf
      refine kj_callV0 (pc := 19) (as := []) (rest := []) (b := (d 0)) C (ct_X9_see l V A  d μ ex hq4) wd_X9_see wk_X9_110 wi_X9_see ws_X9_see wz_X9 rfl rfl hd_X9_see ⟨by decide, by decide⟩ 0 rfl rfl rfl rfl (Nat.le_of_ble_eq_true rfl) (by decide) dX9_side_19 ?_
      refine kj_bipush (pc := 22) (v := (53 : Int32)) C dX9_side_22 (by decide) ?_
      refine kj_icmp_le (pc := 24) 32 C dX9_side_24 (by decide) (fun c5 => ?_) (fun c5 => ?_)
      · have hf := kb_ift hf c5
        exact hp32 μ hf
      · have hf := kb_ife hf c5
        exact hp27 μ hf
  · have hf := kb_ife hf c1
    refine kj_iconst (pc := 7) (v := (0 : Int32)) C dX9_side_7 (by decide) ?_
    cases hf
    exact kj_iret (pc := 8) C dX9_side_8
def fp_X9_cable_71   (x1 : Int32) (x2 : Int32) (x3 : Int32) (y0 : Int32) (μ : kb_S) : Option (kb_S) :=
  (fn_X9_add ((y0 + ((100 : Int32) * x2)) + ((10 : Int32) * x3)) (1 : Int32) x1 μ).bind fun q1 =>
  some (kb_p q1 5 ((kb_g q1 5) + (1 : Int32)))
theorem fp_X9_cable_71_e   (x1 : Int32) (x2 : Int32) (x3 : Int32) (y0 : Int32) (μ : kb_S) : fp_X9_cable_71  x1 x2 x3 y0 μ =
  (fn_X9_add ((y0 + ((100 : Int32) * x2)) + ((10 : Int32) * x3)) (1 : Int32) x1 μ).bind fun q1 =>
  some (kb_p q1 5 ((kb_g q1 5) + (1 : Int32))) := rfl
def fp_X9_cable_46   (x1 : Int32) (x2 : Int32) (x3 : Int32) (μ : kb_S) : Option (kb_S) :=
  if (kb_g μ 6) ≤ 0 then
    (fn_X9_see  μ).bind fun q2 =>
    if q2 = (102 : Int32) then
      fp_X9_cable_71   x1 x2 x3 (10 : Int32) μ
    else
      fp_X9_cable_71   x1 x2 x3 (11 : Int32) μ
  else
    some μ
theorem fp_X9_cable_46_e   (x1 : Int32) (x2 : Int32) (x3 : Int32) (μ : kb_S) : fp_X9_cable_46  x1 x2 x3 μ =
  if (kb_g μ 6) ≤ 0 then
    (fn_X9_see  μ).bind fun q2 =>
    if q2 = (102 : Int32) then
      fp_X9_cable_71   x1 x2 x3 (10 : Int32) μ
    else
      fp_X9_cable_71   x1 x2 x3 (11 : Int32) μ
  else
    some μ := rfl
def fn_X9_cable  (x1 : Int32) (μ : kb_S) : Option (kb_S) :=
  (fn_X9_side  μ).bind fun q1 =>
  (fn_X9_need (47 : Int32) q1.1).bind fun q2 =>
  (fn_X9_side  q2).bind fun q3 =>
  if (kb_g q3.1 6) = 0 then
    (fn_X9_see  q3.1).bind fun q5 =>
    if q5 = (102 : Int32) then
      fp_X9_cable_46   x1 q1.2 q3.2 q3.1
    else
      (fn_X9_see  q3.1).bind fun q7 =>
      if q7 = (98 : Int32) then
        fp_X9_cable_46   x1 q1.2 q3.2 q3.1
      else
        (fn_X9_wrong (1 : Int32) q3.1).bind fun q9 =>
        fp_X9_cable_46   x1 q1.2 q3.2 q9
  else
    fp_X9_cable_46   x1 q1.2 q3.2 q3.1
theorem fe_X9_cable  (x1 : Int32) (μ : kb_S) : fn_X9_cable  x1 μ =
  (fn_X9_side  μ).bind fun q1 =>
  (fn_X9_need (47 : Int32) q1.1).bind fun q2 =>
  (fn_X9_side  q2).bind fun q3 =>
  if (kb_g q3.1 6) = 0 then
    (fn_X9_see  q3.1).bind fun q5 =>
    if q5 = (102 : Int32) then
      fp_X9_cable_46   x1 q1.2 q3.2 q3.1
    else
      (fn_X9_see  q3.1).bind fun q7 =>
      if q7 = (98 : Int32) then
        fp_X9_cable_46   x1 q1.2 q3.2 q3.1
      else
        (fn_X9_wrong (1 : Int32) q3.1).bind fun q9 =>
        fp_X9_cable_46   x1 q1.2 q3.2 q9
  else
    fp_X9_cable_46   x1 q1.2 q3.2 q3.1 := rfl
theorem hd_X9_cable : yX9_cable.cls = RX9 ∧ yX9_cable.cls ≠ "java/lang/invoke/MethodHandle" ∧ yX9_cable.cls ≠ "java/lang/invoke/VarHandle" ∧ (parseMethodDescriptor yX9_cable.desc).map (fun d => d.parameters.length) = some 1 := by decide +kernel
set_option maxRecDepth 100000 in
set_option maxHeartbeats 4000000 in
theorem ct_X9_cable (l : Launch) (V : kb_V) (A : Nat → Prop)  (x1 : Int32) (d : Nat → Nat) (μ : kb_S) (ex : va_W) {μ9 : kb_S} (hf : fn_X9_cable  x1 μ = some μ9) : kb_T l yX9_cable cX9_cable 4 none ({ frames := 2, cells := 0, slots := 0, locals := 42 } : Room) V A [.ref (d 0), .int x1] (kb_WM V d μ ex) none (kb_WM V d μ9 ex) 0 0 := by
  refine kb_start (cc := cX9_cable) (nL := 4) (ret := none) (own := RX9) (by decide) rfl (Nat.le_of_ble_eq_true rfl) ?_
  intro p e s m args below meth c C
  have hp71 : ∀ (x1 : Int32) (x2 : Int32) (x3 : Int32) (y0 : Int32) (μ : kb_S), fp_X9_cable_71   x1 x2 x3 y0 μ = some μ9 → kb_J p l e ({ frames := 2, cells := 0, slots := 0, locals := 42 } : Room) s m args below meth c 4 V A 0 0 (MQ below (kb_post V A none (kb_WM V d μ9 ex)) args s 0 0 A) 71 [(0, .ref (d 0)), (1, .int x1), (2, .int x2), (3, .int x3)] [.int y0, .ref (d 0)] (kb_WM V d μ ex) := by
    intro x1 x2 x3 y0 μ hf
    rw [fp_X9_cable_71_e] at hf
    refine kj_bipush (pc := 71) (v := (100 : Int32)) C dX9_cable_71 (by decide) ?_
    refine kj_iload_n (pc := 73) C 2 dX9_cable_73 rfl rfl ?_
    refine kj_imul (pc := 74) C dX9_cable_74 ?_
    refine kj_iadd (pc := 75) C dX9_cable_75 ?_
    refine kj_bipush (pc := 76) (v := (10 : Int32)) C dX9_cable_76 (by decide) ?_
    refine kj_iload_n (pc := 78) C 3 dX9_cable_78 rfl rfl ?_
    refine kj_imul (pc := 79) C dX9_cable_79 ?_
    refine kj_iadd (pc := 80) C dX9_cable_80 ?_
    refine kj_iconst (pc := 81) (v := (1 : Int32)) C dX9_cable_81 (by decide) ?_
    refine kj_iload_n (pc := 82) C 1 dX9_cable_82 rfl rfl ?_
    obtain ⟨q1, hq1, hf⟩ := kb_bd hf
    refine kj_callV0 (pc := 83) (as := [.int ((y0 + ((100 : Int32) * x2)) + ((10 : Int32) * x3)), .int (1 : Int32), .int x1]) (rest := []) (b := (d 0)) C (ct_X9_add l V A ((y0 + ((100 : Int32) * x2)) + ((10 : Int32) * x3)) (1 : Int32) x1 d μ ex hq1) wd_X9_add wk_X9_134 wi_X9_add ws_X9_add wz_X9 rfl rfl hd_X9_add ⟨by decide, by decide⟩ 0 rfl rfl rfl rfl (Nat.le_of_ble_eq_true rfl) (by decide) dX9_cable_83 ?_
    refine kj_aload_n (pc := 86) C 0 dX9_cable_86 rfl rfl ?_
    refine kj_dup (pc := 87) C dX9_cable_87 rfl ?_
    refine kg_X9_at (pc := 88) (v := (kb_g q1 5)) C wf_X9_107 dX9_cable_88 rfl ?_
    refine kj_iconst (pc := 91) (v := (1 : Int32)) C dX9_cable_91 (by decide) ?_
    refine kj_iadd (pc := 92) C dX9_cable_92 ?_
    refine kp_X9_at (pc := 93) C wf_X9_107 dX9_cable_93 ?_
    cases hf
    exact kj_vret (pc := 96) C dX9_cable_96
  have hp46 : ∀ (x1 : Int32) (x2 : Int32) (x3 : Int32) (μ : kb_S), fp_X9_cable_46   x1 x2 x3 μ = some μ9 → kb_J p l e ({ frames := 2, cells := 0, slots := 0, locals := 42 } : Room) s m args below meth c 4 V A 0 0 (MQ below (kb_post V A none (kb_WM V d μ9 ex)) args s 0 0 A) 46 [(0, .ref (d 0)), (1, .int x1), (2, .int x2), (3, .int x3)] [] (kb_WM V d μ ex) := by
    intro x1 x2 x3 μ hf
    rw [fp_X9_cable_46_e] at hf
    refine kj_aload_n (pc := 46) C 0 dX9_cable_46 rfl rfl ?_
    refine kg_X9_fault (pc := 47) (v := (kb_g μ 6)) C wf_X9_114 dX9_cable_47 rfl ?_
    refine kj_if_le (pc := 50) 54 C dX9_cable_50 (by decide) (fun c1 => ?_) (fun c1 => ?_)
    · have hf := kb_ift hf c1
      refine kj_aload_n (pc := 54) C 0 dX9_cable_54 rfl rfl ?_
      refine kj_aload_n (pc := 55) C 0 dX9_cable_55 rfl rfl ?_
      obtain ⟨q2, hq2, hf⟩ := kb_bd hf
      refine kj_callV0 (pc := 56) (as := []) (rest := [.ref (d 0)]) (b := (d 0)) C (ct_X9_see l V A  d μ ex hq2) wd_X9_see wk_X9_110 wi_X9_see ws_X9_see wz_X9 rfl rfl hd_X9_see ⟨by decide, by decide⟩ 0 rfl rfl rfl rfl (Nat.le_of_ble_eq_true rfl) (by decide) dX9_cable_56 ?_
      refine kj_bipush (pc := 59) (v := (102 : Int32)) C dX9_cable_59 (by decide) ?_
      refine kj_icmp_ne (pc := 61) 69 C dX9_cable_61 (by decide) (fun c3 => ?_) (fun c3 => ?_)
      · have hf := kb_ife hf c3
        refine kj_bipush (pc := 69) (v := (11 : Int32)) C dX9_cable_69 (by decide) ?_
        exact hp71 x1 x2 x3 (11 : Int32) μ hf
      · have hf := kb_ift hf c3
        refine kj_bipush (pc := 64) (v := (10 : Int32)) C dX9_cable_64 (by decide) ?_
        refine kj_goto (pc := 66) 71 C dX9_cable_66 (by decide) ?_
        exact hp71 x1 x2 x3 (10 : Int32) μ hf
    · have hf := kb_ife hf c1
      cases hf
      exact kj_vret (pc := 53) C dX9_cable_53
  refine kj_sub [0, 1] (L2 := [(0, .ref (d 0)), (1, .int x1)]) rfl ?_
  rw [fe_X9_cable] at hf
  refine kj_aload_n (pc := 0) C 0 dX9_cable_0 rfl rfl ?_
  obtain ⟨q1, hq1, hf⟩ := kb_bd hf
  refine kj_callV0 (pc := 1) (as := []) (rest := []) (b := (d 0)) C (ct_X9_side l V A  d μ ex hq1) wd_X9_side wk_X9_173 wi_X9_side ws_X9_side wz_X9 rfl rfl hd_X9_side ⟨by decide, by decide⟩ 0 rfl rfl rfl rfl (Nat.le_of_ble_eq_true rfl) (by decide) dX9_cable_1 ?_
  refine kj_istore_n (pc := 4) C [1, 2, 0] (L2 := [(0, .ref (d 0)), (1, .int x1), (2, .int q1.2)]) dX9_cable_4 rfl (by decide) rfl ?_
  refine kj_aload_n (pc := 5) C 0 dX9_cable_5 rfl rfl ?_
  refine kj_bipush (pc := 6) (v := (47 : Int32)) C dX9_cable_6 (by decide) ?_
  obtain ⟨q2, hq2, hf⟩ := kb_bd hf
  refine kj_callV0 (pc := 8) (as := [.int (47 : Int32)]) (rest := []) (b := (d 0)) C (ct_X9_need l V A (47 : Int32) d q1.1 ex hq2) wd_X9_need wk_X9_155 wi_X9_need ws_X9_need wz_X9 rfl rfl hd_X9_need ⟨by decide, by decide⟩ 0 rfl rfl rfl rfl (Nat.le_of_ble_eq_true rfl) (by decide) dX9_cable_8 ?_
  refine kj_aload_n (pc := 11) C 0 dX9_cable_11 rfl rfl ?_
  obtain ⟨q3, hq3, hf⟩ := kb_bd hf
  refine kj_callV0 (pc := 12) (as := []) (rest := []) (b := (d 0)) C (ct_X9_side l V A  d q2 ex hq3) wd_X9_side wk_X9_173 wi_X9_side ws_X9_side wz_X9 rfl rfl hd_X9_side ⟨by decide, by decide⟩ 0 rfl rfl rfl rfl (Nat.le_of_ble_eq_true rfl) (by decide) dX9_cable_12 ?_
  refine kj_istore_n (pc := 15) C [1, 2, 3, 0] (L2 := [(0, .ref (d 0)), (1, .int x1), (2, .int q1.2), (3, .int q3.2)]) dX9_cable_15 rfl (by decide) rfl ?_
  refine kj_aload_n (pc := 16) C 0 dX9_cable_16 rfl rfl ?_
  refine kg_X9_fault (pc := 17) (v := (kb_g q3.1 6)) C wf_X9_114 dX9_cable_17 rfl ?_
  refine kj_if_ne (pc := 20) 46 C dX9_cable_20 (by decide) (fun c4 => ?_) (fun c4 => ?_)
  · have hf := kb_ife hf c4
    exact hp46 x1 q1.2 q3.2 q3.1 hf
  · have hf := kb_ift hf c4
    refine kj_aload_n (pc := 23) C 0 dX9_cable_23 rfl rfl ?_
    obtain ⟨q5, hq5, hf⟩ := kb_bd hf
    refine kj_callV0 (pc := 24) (as := []) (rest := []) (b := (d 0)) C (ct_X9_see l V A  d q3.1 ex hq5) wd_X9_see wk_X9_110 wi_X9_see ws_X9_see wz_X9 rfl rfl hd_X9_see ⟨by decide, by decide⟩ 0 rfl rfl rfl rfl (Nat.le_of_ble_eq_true rfl) (by decide) dX9_cable_24 ?_
    refine kj_bipush (pc := 27) (v := (102 : Int32)) C dX9_cable_27 (by decide) ?_
    refine kj_icmp_eq (pc := 29) 46 C dX9_cable_29 (by decide) (fun c6 => ?_) (fun c6 => ?_)
    · have hf := kb_ift hf c6
      exact hp46 x1 q1.2 q3.2 q3.1 hf
    · have hf := kb_ife hf c6
      refine kj_aload_n (pc := 32) C 0 dX9_cable_32 rfl rfl ?_
      obtain ⟨q7, hq7, hf⟩ := kb_bd hf
      refine kj_callV0 (pc := 33) (as := []) (rest := []) (b := (d 0)) C (ct_X9_see l V A  d q3.1 ex hq7) wd_X9_see wk_X9_110 wi_X9_see ws_X9_see wz_X9 rfl rfl hd_X9_see ⟨by decide, by decide⟩ 0 rfl rfl rfl rfl (Nat.le_of_ble_eq_true rfl) (by decide) dX9_cable_33 ?_
      refine kj_bipush (pc := 36) (v := (98 : Int32)) C dX9_cable_36 (by decide) ?_
      refine kj_icmp_eq (pc := 38) 46 C dX9_cable_38 (by decide) (fun c8 => ?_) (fun c8 => ?_)
      · have hf := kb_ift hf c8
        exact hp46 x1 q1.2 q3.2 q3.1 hf
      · have hf := kb_ife hf c8
        refine kj_aload_n (pc := 41) C 0 dX9_cable_41 rfl rfl ?_
        refine kj_iconst (pc := 42) (v := (1 : Int32)) C dX9_cable_42 (by decide) ?_
        obtain ⟨q9, hq9, hf⟩ := kb_bd hf
        refine kj_callV0 (pc := 43) (as := [.int (1 : Int32)]) (rest := []) (b := (d 0)) C (ct_X9_wrong l V A (1 : Int32) d q3.1 ex hq9) wd_X9_wrong wk_X9_120 wi_X9_wrong ws_X9_wrong wz_X9 rfl rfl hd_X9_wrong ⟨by decide, by decide⟩ 0 rfl rfl rfl rfl (Nat.le_of_ble_eq_true rfl) (by decide) dX9_cable_43 ?_
        exact hp46 x1 q1.2 q3.2 q9 hf
def fp_X9_knit_119   (x2 : Int32) (y0 : Int32) (μ : kb_S) : Option (kb_S) :=
  (fn_X9_add y0 (1 : Int32) x2 μ).bind fun q1 =>
  some q1
theorem fp_X9_knit_119_e   (x2 : Int32) (y0 : Int32) (μ : kb_S) : fp_X9_knit_119  x2 y0 μ =
  (fn_X9_add y0 (1 : Int32) x2 μ).bind fun q1 =>
  some q1 := rfl
def fp_X9_knit_73   (x1 : Int32) (x2 : Int32) (y0 : Int32) (μ : kb_S) : Option (kb_S) :=
  if y0 = 0 then
    (fn_X9_plain (0 : Int32) x2 μ).bind fun q2 =>
    some q2
  else
    (fn_X9_need (111 : Int32) (kb_p μ 5 ((kb_g μ 5) + (2 : Int32)))).bind fun q2 =>
    (fn_X9_need (103 : Int32) q2).bind fun q3 =>
    if x1 = (50 : Int32) then
      fp_X9_knit_119   x2 (3 : Int32) q3
    else
      fp_X9_knit_119   x2 (5 : Int32) q3
theorem fp_X9_knit_73_e   (x1 : Int32) (x2 : Int32) (y0 : Int32) (μ : kb_S) : fp_X9_knit_73  x1 x2 y0 μ =
  if y0 = 0 then
    (fn_X9_plain (0 : Int32) x2 μ).bind fun q2 =>
    some q2
  else
    (fn_X9_need (111 : Int32) (kb_p μ 5 ((kb_g μ 5) + (2 : Int32)))).bind fun q2 =>
    (fn_X9_need (103 : Int32) q2).bind fun q3 =>
    if x1 = (50 : Int32) then
      fp_X9_knit_119   x2 (3 : Int32) q3
    else
      fp_X9_knit_119   x2 (5 : Int32) q3 := rfl
def fp_X9_knit_72   (x1 : Int32) (x2 : Int32) (μ : kb_S) : Option (kb_S) :=
  fp_X9_knit_73   x1 x2 (0 : Int32) μ
theorem fp_X9_knit_72_e   (x1 : Int32) (x2 : Int32) (μ : kb_S) : fp_X9_knit_72  x1 x2 μ =
  fp_X9_knit_73   x1 x2 (0 : Int32) μ := rfl
def fp_X9_knit_39   (x1 : Int32) (x2 : Int32) (μ : kb_S) : Option (kb_S) :=
  if (kb_g μ 1) ≤ ((kb_g μ 5) + (1 : Int32)) then
    fp_X9_knit_72   x1 x2 μ
  else
    if kb_in ((kb_g μ 5) + (1 : Int32)) 200 = true then
      if (kb_a μ 0 ((kb_g μ 5) + (1 : Int32)).toNatClampNeg) = (116 : Int32) then
        fp_X9_knit_73   x1 x2 (1 : Int32) μ
      else
        fp_X9_knit_72   x1 x2 μ
    else none
theorem fp_X9_knit_39_e   (x1 : Int32) (x2 : Int32) (μ : kb_S) : fp_X9_knit_39  x1 x2 μ =
  if (kb_g μ 1) ≤ ((kb_g μ 5) + (1 : Int32)) then
    fp_X9_knit_72   x1 x2 μ
  else
    if kb_in ((kb_g μ 5) + (1 : Int32)) 200 = true then
      if (kb_a μ 0 ((kb_g μ 5) + (1 : Int32)).toNatClampNeg) = (116 : Int32) then
        fp_X9_knit_73   x1 x2 (1 : Int32) μ
      else
        fp_X9_knit_72   x1 x2 μ
    else none := rfl
def fn_X9_knit  (x1 : Int32) (x2 : Int32) (μ : kb_S) : Option (kb_S) :=
  if x1 = (102 : Int32) then
    (fn_X9_need (102 : Int32) μ).bind fun q2 =>
    (fn_X9_need (98 : Int32) q2).bind fun q3 =>
    (fn_X9_add (6 : Int32) (1 : Int32) x2 q3).bind fun q4 =>
    some q4
  else
    if x1 = (50 : Int32) then
      fp_X9_knit_39   x1 x2 μ
    else
      if x1 = (51 : Int32) then
        fp_X9_knit_39   x1 x2 μ
      else
        fp_X9_knit_72   x1 x2 μ
theorem fe_X9_knit  (x1 : Int32) (x2 : Int32) (μ : kb_S) : fn_X9_knit  x1 x2 μ =
  if x1 = (102 : Int32) then
    (fn_X9_need (102 : Int32) μ).bind fun q2 =>
    (fn_X9_need (98 : Int32) q2).bind fun q3 =>
    (fn_X9_add (6 : Int32) (1 : Int32) x2 q3).bind fun q4 =>
    some q4
  else
    if x1 = (50 : Int32) then
      fp_X9_knit_39   x1 x2 μ
    else
      if x1 = (51 : Int32) then
        fp_X9_knit_39   x1 x2 μ
      else
        fp_X9_knit_72   x1 x2 μ := rfl
theorem hd_X9_knit : yX9_knit.cls = RX9 ∧ yX9_knit.cls ≠ "java/lang/invoke/MethodHandle" ∧ yX9_knit.cls ≠ "java/lang/invoke/VarHandle" ∧ (parseMethodDescriptor yX9_knit.desc).map (fun d => d.parameters.length) = some 2 := by decide +kernel
set_option maxRecDepth 100000 in
set_option maxHeartbeats 4000000 in
theorem ct_X9_knit (l : Launch) (V : kb_V) (A : Nat → Prop)  (x1 : Int32) (x2 : Int32) (d : Nat → Nat) (μ : kb_S) (ex : va_W) {μ9 : kb_S} (hf : fn_X9_knit  x1 x2 μ = some μ9) : kb_T l yX9_knit cX9_knit 4 none ({ frames := 4, cells := 0, slots := 0, locals := 86 } : Room) V A [.ref (d 0), .int x1, .int x2] (kb_WM V d μ ex) none (kb_WM V d μ9 ex) 0 0 := by
  refine kb_start (cc := cX9_knit) (nL := 4) (ret := none) (own := RX9) (by decide) rfl (Nat.le_of_ble_eq_true rfl) ?_
  intro p e s m args below meth c C
  have hp119 : ∀ (x2 : Int32) (y0 : Int32) (μ : kb_S), fp_X9_knit_119   x2 y0 μ = some μ9 → kb_J p l e ({ frames := 4, cells := 0, slots := 0, locals := 86 } : Room) s m args below meth c 4 V A 0 0 (MQ below (kb_post V A none (kb_WM V d μ9 ex)) args s 0 0 A) 119 [(2, .int x2)] [.int y0, .ref (d 0)] (kb_WM V d μ ex) := by
    intro x2 y0 μ hf
    rw [fp_X9_knit_119_e] at hf
    refine kj_iconst (pc := 119) (v := (1 : Int32)) C dX9_knit_119 (by decide) ?_
    refine kj_iload_n (pc := 120) C 0 dX9_knit_120 rfl rfl ?_
    obtain ⟨q1, hq1, hf⟩ := kb_bd hf
    refine kj_callV0 (pc := 121) (as := [.int y0, .int (1 : Int32), .int x2]) (rest := []) (b := (d 0)) C (ct_X9_add l V A y0 (1 : Int32) x2 d μ ex hq1) wd_X9_add wk_X9_134 wi_X9_add ws_X9_add wz_X9 rfl rfl hd_X9_add ⟨by decide, by decide⟩ 0 rfl rfl rfl rfl (Nat.le_of_ble_eq_true rfl) (by decide) dX9_knit_121 ?_
    cases hf
    exact kj_vret (pc := 124) C dX9_knit_124
  have hp73 : ∀ (x1 : Int32) (x2 : Int32) (y0 : Int32) (μ : kb_S), fp_X9_knit_73   x1 x2 y0 μ = some μ9 → kb_J p l e ({ frames := 4, cells := 0, slots := 0, locals := 86 } : Room) s m args below meth c 4 V A 0 0 (MQ below (kb_post V A none (kb_WM V d μ9 ex)) args s 0 0 A) 73 [(0, .ref (d 0)), (1, .int x1), (2, .int x2)] [.int y0] (kb_WM V d μ ex) := by
    intro x1 x2 y0 μ hf
    rw [fp_X9_knit_73_e] at hf
    refine kj_istore_n (pc := 73) C [1, 2, 3, 0] (L2 := [(0, .ref (d 0)), (1, .int x1), (2, .int x2), (3, .int y0)]) dX9_knit_73 rfl (by decide) rfl ?_
    refine kj_iload_n (pc := 74) C 3 dX9_knit_74 rfl rfl ?_
    refine kj_if_ne (pc := 75) 85 C dX9_knit_75 (by decide) (fun c1 => ?_) (fun c1 => ?_)
    · have hf := kb_ife hf c1
      refine kj_aload_n (pc := 85) C 0 dX9_knit_85 rfl rfl ?_
      refine kj_dup (pc := 86) C dX9_knit_86 rfl ?_
      refine kg_X9_at (pc := 87) (v := (kb_g μ 5)) C wf_X9_107 dX9_knit_87 rfl ?_
      refine kj_iconst (pc := 90) (v := (2 : Int32)) C dX9_knit_90 (by decide) ?_
      refine kj_iadd (pc := 91) C dX9_knit_91 ?_
      refine kp_X9_at (pc := 92) C wf_X9_107 dX9_knit_92 ?_
      refine kj_aload_n (pc := 95) C 0 dX9_knit_95 rfl rfl ?_
      refine kj_bipush (pc := 96) (v := (111 : Int32)) C dX9_knit_96 (by decide) ?_
      obtain ⟨q2, hq2, hf⟩ := kb_bd hf
      refine kj_callV0 (pc := 98) (as := [.int (111 : Int32)]) (rest := []) (b := (d 0)) C (ct_X9_need l V A (111 : Int32) d (kb_p μ 5 ((kb_g μ 5) + (2 : Int32))) ex hq2) wd_X9_need wk_X9_155 wi_X9_need ws_X9_need wz_X9 rfl rfl hd_X9_need ⟨by decide, by decide⟩ 0 rfl rfl rfl rfl (Nat.le_of_ble_eq_true rfl) (by decide) dX9_knit_98 ?_
      refine kj_aload_n (pc := 101) C 0 dX9_knit_101 rfl rfl ?_
      refine kj_bipush (pc := 102) (v := (103 : Int32)) C dX9_knit_102 (by decide) ?_
      obtain ⟨q3, hq3, hf⟩ := kb_bd hf
      refine kj_callV0 (pc := 104) (as := [.int (103 : Int32)]) (rest := []) (b := (d 0)) C (ct_X9_need l V A (103 : Int32) d q2 ex hq3) wd_X9_need wk_X9_155 wi_X9_need ws_X9_need wz_X9 rfl rfl hd_X9_need ⟨by decide, by decide⟩ 0 rfl rfl rfl rfl (Nat.le_of_ble_eq_true rfl) (by decide) dX9_knit_104 ?_
      refine kj_aload_n (pc := 107) C 0 dX9_knit_107 rfl rfl ?_
      refine kj_iload_n (pc := 108) C 1 dX9_knit_108 rfl rfl ?_
      refine kj_bipush (pc := 109) (v := (50 : Int32)) C dX9_knit_109 (by decide) ?_
      refine kj_icmp_ne (pc := 111) 118 C dX9_knit_111 (by decide) (fun c4 => ?_) (fun c4 => ?_)
      · have hf := kb_ife hf c4
        refine kj_iconst (pc := 118) (v := (5 : Int32)) C dX9_knit_118 (by decide) ?_
        refine kj_sub [2] (L2 := [(2, .int x2)]) rfl ?_
        exact hp119 x2 (5 : Int32) q3 hf
      · have hf := kb_ift hf c4
        refine kj_iconst (pc := 114) (v := (3 : Int32)) C dX9_knit_114 (by decide) ?_
        refine kj_goto (pc := 115) 119 C dX9_knit_115 (by decide) ?_
        refine kj_sub [2] (L2 := [(2, .int x2)]) rfl ?_
        exact hp119 x2 (3 : Int32) q3 hf
    · have hf := kb_ift hf c1
      refine kj_aload_n (pc := 78) C 0 dX9_knit_78 rfl rfl ?_
      refine kj_iconst (pc := 79) (v := (0 : Int32)) C dX9_knit_79 (by decide) ?_
      refine kj_iload_n (pc := 80) C 2 dX9_knit_80 rfl rfl ?_
      obtain ⟨q2, hq2, hf⟩ := kb_bd hf
      refine kj_callV0 (pc := 81) (as := [.int (0 : Int32), .int x2]) (rest := []) (b := (d 0)) C (ct_X9_plain l V A (0 : Int32) x2 d μ ex hq2) wd_X9_plain wk_X9_164 wi_X9_plain ws_X9_plain wz_X9 rfl rfl hd_X9_plain ⟨by decide, by decide⟩ 0 rfl rfl rfl rfl (Nat.le_of_ble_eq_true rfl) (by decide) dX9_knit_81 ?_
      cases hf
      exact kj_vret (pc := 84) C dX9_knit_84
  have hp72 : ∀ (x1 : Int32) (x2 : Int32) (μ : kb_S), fp_X9_knit_72   x1 x2 μ = some μ9 → kb_J p l e ({ frames := 4, cells := 0, slots := 0, locals := 86 } : Room) s m args below meth c 4 V A 0 0 (MQ below (kb_post V A none (kb_WM V d μ9 ex)) args s 0 0 A) 72 [(0, .ref (d 0)), (1, .int x1), (2, .int x2)] [] (kb_WM V d μ ex) := by
    intro x1 x2 μ hf
    rw [fp_X9_knit_72_e] at hf
    refine kj_iconst (pc := 72) (v := (0 : Int32)) C dX9_knit_72 (by decide) ?_
    exact hp73 x1 x2 (0 : Int32) μ hf
  have hp39 : ∀ (x1 : Int32) (x2 : Int32) (μ : kb_S), fp_X9_knit_39   x1 x2 μ = some μ9 → kb_J p l e ({ frames := 4, cells := 0, slots := 0, locals := 86 } : Room) s m args below meth c 4 V A 0 0 (MQ below (kb_post V A none (kb_WM V d μ9 ex)) args s 0 0 A) 39 [(0, .ref (d 0)), (1, .int x1), (2, .int x2)] [] (kb_WM V d μ ex) := by
    intro x1 x2 μ hf
    rw [fp_X9_knit_39_e] at hf
    refine kj_aload_n (pc := 39) C 0 dX9_knit_39 rfl rfl ?_
    refine kg_X9_at (pc := 40) (v := (kb_g μ 5)) C wf_X9_107 dX9_knit_40 rfl ?_
    refine kj_iconst (pc := 43) (v := (1 : Int32)) C dX9_knit_43 (by decide) ?_
    refine kj_iadd (pc := 44) C dX9_knit_44 ?_
    refine kj_aload_n (pc := 45) C 0 dX9_knit_45 rfl rfl ?_
    refine kg_X9_taped (pc := 46) (v := (kb_g μ 1)) C wf_X9_104 dX9_knit_46 rfl ?_
    refine kj_icmp_ge (pc := 49) 72 C dX9_knit_49 (by decide) (fun c1 => ?_) (fun c1 => ?_)
    · have hf := kb_ift hf c1
      exact hp72 x1 x2 μ hf
    · have hf := kb_ife hf c1
      refine kj_aload_n (pc := 52) C 0 dX9_knit_52 rfl rfl ?_
      refine kg_X9_tape (pc := 53) C wf_X9_7 dX9_knit_53 ?_
      refine kj_aload_n (pc := 56) C 0 dX9_knit_56 rfl rfl ?_
      refine kg_X9_at (pc := 57) (v := (kb_g μ 5)) C wf_X9_107 dX9_knit_57 rfl ?_
      refine kj_iconst (pc := 60) (v := (1 : Int32)) C dX9_knit_60 (by decide) ?_
      refine kj_iadd (pc := 61) C dX9_knit_61 ?_
      obtain ⟨g2, hf⟩ := kb_gd hf
      refine ka_X9_tape (pc := 62) (v := (kb_a μ 0 ((kb_g μ 5) + (1 : Int32)).toNatClampNeg)) C g2 dX9_knit_62 rfl ?_
      refine kj_bipush (pc := 63) (v := (116 : Int32)) C dX9_knit_63 (by decide) ?_
      refine kj_icmp_ne (pc := 65) 72 C dX9_knit_65 (by decide) (fun c3 => ?_) (fun c3 => ?_)
      · have hf := kb_ife hf c3
        exact hp72 x1 x2 μ hf
      · have hf := kb_ift hf c3
        refine kj_iconst (pc := 68) (v := (1 : Int32)) C dX9_knit_68 (by decide) ?_
        refine kj_goto (pc := 69) 73 C dX9_knit_69 (by decide) ?_
        exact hp73 x1 x2 (1 : Int32) μ hf
  refine kj_sub [0, 1, 2] (L2 := [(0, .ref (d 0)), (1, .int x1), (2, .int x2)]) rfl ?_
  rw [fe_X9_knit] at hf
  refine kj_iload_n (pc := 0) C 1 dX9_knit_0 rfl rfl ?_
  refine kj_bipush (pc := 1) (v := (102 : Int32)) C dX9_knit_1 (by decide) ?_
  refine kj_icmp_ne (pc := 3) 27 C dX9_knit_3 (by decide) (fun c1 => ?_) (fun c1 => ?_)
  · have hf := kb_ife hf c1
    refine kj_iload_n (pc := 27) C 1 dX9_knit_27 rfl rfl ?_
    refine kj_bipush (pc := 28) (v := (50 : Int32)) C dX9_knit_28 (by decide) ?_
    refine kj_icmp_eq (pc := 30) 39 C dX9_knit_30 (by decide) (fun c2 => ?_) (fun c2 => ?_)
    · have hf := kb_ift hf c2
      exact hp39 x1 x2 μ hf
    · have hf := kb_ife hf c2
      refine kj_iload_n (pc := 33) C 1 dX9_knit_33 rfl rfl ?_
      refine kj_bipush (pc := 34) (v := (51 : Int32)) C dX9_knit_34 (by decide) ?_
      refine kj_icmp_ne (pc := 36) 72 C dX9_knit_36 (by decide) (fun c3 => ?_) (fun c3 => ?_)
      · have hf := kb_ife hf c3
        exact hp72 x1 x2 μ hf
      · have hf := kb_ift hf c3
        exact hp39 x1 x2 μ hf
  · have hf := kb_ift hf c1
    refine kj_aload_n (pc := 6) C 0 dX9_knit_6 rfl rfl ?_
    refine kj_bipush (pc := 7) (v := (102 : Int32)) C dX9_knit_7 (by decide) ?_
    obtain ⟨q2, hq2, hf⟩ := kb_bd hf
    refine kj_callV0 (pc := 9) (as := [.int (102 : Int32)]) (rest := []) (b := (d 0)) C (ct_X9_need l V A (102 : Int32) d μ ex hq2) wd_X9_need wk_X9_155 wi_X9_need ws_X9_need wz_X9 rfl rfl hd_X9_need ⟨by decide, by decide⟩ 0 rfl rfl rfl rfl (Nat.le_of_ble_eq_true rfl) (by decide) dX9_knit_9 ?_
    refine kj_aload_n (pc := 12) C 0 dX9_knit_12 rfl rfl ?_
    refine kj_bipush (pc := 13) (v := (98 : Int32)) C dX9_knit_13 (by decide) ?_
    obtain ⟨q3, hq3, hf⟩ := kb_bd hf
    refine kj_callV0 (pc := 15) (as := [.int (98 : Int32)]) (rest := []) (b := (d 0)) C (ct_X9_need l V A (98 : Int32) d q2 ex hq3) wd_X9_need wk_X9_155 wi_X9_need ws_X9_need wz_X9 rfl rfl hd_X9_need ⟨by decide, by decide⟩ 0 rfl rfl rfl rfl (Nat.le_of_ble_eq_true rfl) (by decide) dX9_knit_15 ?_
    refine kj_aload_n (pc := 18) C 0 dX9_knit_18 rfl rfl ?_
    refine kj_bipush (pc := 19) (v := (6 : Int32)) C dX9_knit_19 (by decide) ?_
    refine kj_iconst (pc := 21) (v := (1 : Int32)) C dX9_knit_21 (by decide) ?_
    refine kj_iload_n (pc := 22) C 2 dX9_knit_22 rfl rfl ?_
    obtain ⟨q4, hq4, hf⟩ := kb_bd hf
    refine kj_callV0 (pc := 23) (as := [.int (6 : Int32), .int (1 : Int32), .int x2]) (rest := []) (b := (d 0)) C (ct_X9_add l V A (6 : Int32) (1 : Int32) x2 d q3 ex hq4) wd_X9_add wk_X9_134 wi_X9_add ws_X9_add wz_X9 rfl rfl hd_X9_add ⟨by decide, by decide⟩ 0 rfl rfl rfl rfl (Nat.le_of_ble_eq_true rfl) (by decide) dX9_knit_23 ?_
    cases hf
    exact kj_vret (pc := 26) C dX9_knit_26
def fp_X9_named_277   (x2 : Int32) (μ : kb_S) : Option (kb_S) :=
  (fn_X9_cable x2 μ).bind fun q1 =>
  some q1
theorem fp_X9_named_277_e   (x2 : Int32) (μ : kb_S) : fp_X9_named_277  x2 μ =
  (fn_X9_cable x2 μ).bind fun q1 =>
  some q1 := rfl
def fp_X9_named_267   (x2 : Int32) (μ : kb_S) : Option (kb_S) :=
  (fn_X9_plain (9 : Int32) x2 μ).bind fun q1 =>
  some q1
theorem fp_X9_named_267_e   (x2 : Int32) (μ : kb_S) : fp_X9_named_267  x2 μ =
  (fn_X9_plain (9 : Int32) x2 μ).bind fun q1 =>
  some q1 := rfl
def fp_X9_named_42   (x1 : Int32) (x2 : Int32) (x3 : Int32) (μ : kb_S) : Option (kb_S) :=
  (fn_X9_see  (kb_p μ 5 ((kb_g μ 5) + (1 : Int32)))).bind fun q1 =>
  if x1 = (112 : Int32) then
    (fn_X9_plain (1 : Int32) x2 (kb_p μ 5 ((kb_g μ 5) + (1 : Int32)))).bind fun q3 =>
    some q3
  else
    if x1 = (121 : Int32) then
      (fn_X9_need (111 : Int32) (kb_p μ 5 ((kb_g μ 5) + (1 : Int32)))).bind fun q4 =>
      (fn_X9_plain (7 : Int32) x2 q4).bind fun q5 =>
      some q5
    else
      if x1 = (98 : Int32) then
        (fn_X9_need (105 : Int32) (kb_p μ 5 ((kb_g μ 5) + (1 : Int32)))).bind fun q5 =>
        (fn_X9_need (110 : Int32) q5).bind fun q6 =>
        (fn_X9_need (100 : Int32) q6).bind fun q7 =>
        (fn_X9_plain (8 : Int32) x2 q7).bind fun q8 =>
        some q8
      else
        if x1 = (115 : Int32) then
          if q1 = (115 : Int32) then
            (fn_X9_need (107 : Int32) (kb_p (kb_p μ 5 ((kb_g μ 5) + (1 : Int32))) 5 (((kb_g μ 5) + (1 : Int32)) + (1 : Int32)))).bind fun q7 =>
            (fn_X9_add (4 : Int32) (1 : Int32) x2 q7).bind fun q8 =>
            some q8
          else
            if q1 = (108 : Int32) then
              (fn_X9_plain (2 : Int32) x2 (kb_p (kb_p μ 5 ((kb_g μ 5) + (1 : Int32))) 5 (((kb_g μ 5) + (1 : Int32)) + (1 : Int32)))).bind fun q8 =>
              some q8
            else
              (fn_X9_wrong (1 : Int32) (kb_p (kb_p (kb_p μ 5 ((kb_g μ 5) + (1 : Int32))) 5 (((kb_g μ 5) + (1 : Int32)) + (1 : Int32))) 5 ((((kb_g μ 5) + (1 : Int32)) + (1 : Int32)) - (1 : Int32)))).bind fun q8 =>
              some q8
        else
          if x1 = (107 : Int32) then
            (fn_X9_knit q1 x2 (kb_p μ 5 ((kb_g μ 5) + (1 : Int32)))).bind fun q7 =>
            some q7
          else
            if q1 = (97 : Int32) then
              if x3 = 0 then
                fp_X9_named_277   x2 (kb_p μ 5 ((kb_g μ 5) + (1 : Int32)))
              else
                (fn_X9_need (97 : Int32) (kb_p μ 5 ((kb_g μ 5) + (1 : Int32)))).bind fun q9 =>
                (fn_X9_need (115 : Int32) q9).bind fun q10 =>
                (fn_X9_need (116 : Int32) q10).bind fun q11 =>
                if (kb_g q11 6) = 0 then
                  (fn_X9_isDigit (1 : Int32) q11).bind fun q13 =>
                  if q13 = 0 then
                    (fn_X9_wrong (1 : Int32) q11).bind fun q15 =>
                    fp_X9_named_267   x2 q15
                  else
                    fp_X9_named_267   x2 q11
                else
                  fp_X9_named_267   x2 q11
            else
              fp_X9_named_277   x2 (kb_p μ 5 ((kb_g μ 5) + (1 : Int32)))
theorem fp_X9_named_42_e   (x1 : Int32) (x2 : Int32) (x3 : Int32) (μ : kb_S) : fp_X9_named_42  x1 x2 x3 μ =
  (fn_X9_see  (kb_p μ 5 ((kb_g μ 5) + (1 : Int32)))).bind fun q1 =>
  if x1 = (112 : Int32) then
    (fn_X9_plain (1 : Int32) x2 (kb_p μ 5 ((kb_g μ 5) + (1 : Int32)))).bind fun q3 =>
    some q3
  else
    if x1 = (121 : Int32) then
      (fn_X9_need (111 : Int32) (kb_p μ 5 ((kb_g μ 5) + (1 : Int32)))).bind fun q4 =>
      (fn_X9_plain (7 : Int32) x2 q4).bind fun q5 =>
      some q5
    else
      if x1 = (98 : Int32) then
        (fn_X9_need (105 : Int32) (kb_p μ 5 ((kb_g μ 5) + (1 : Int32)))).bind fun q5 =>
        (fn_X9_need (110 : Int32) q5).bind fun q6 =>
        (fn_X9_need (100 : Int32) q6).bind fun q7 =>
        (fn_X9_plain (8 : Int32) x2 q7).bind fun q8 =>
        some q8
      else
        if x1 = (115 : Int32) then
          if q1 = (115 : Int32) then
            (fn_X9_need (107 : Int32) (kb_p (kb_p μ 5 ((kb_g μ 5) + (1 : Int32))) 5 (((kb_g μ 5) + (1 : Int32)) + (1 : Int32)))).bind fun q7 =>
            (fn_X9_add (4 : Int32) (1 : Int32) x2 q7).bind fun q8 =>
            some q8
          else
            if q1 = (108 : Int32) then
              (fn_X9_plain (2 : Int32) x2 (kb_p (kb_p μ 5 ((kb_g μ 5) + (1 : Int32))) 5 (((kb_g μ 5) + (1 : Int32)) + (1 : Int32)))).bind fun q8 =>
              some q8
            else
              (fn_X9_wrong (1 : Int32) (kb_p (kb_p (kb_p μ 5 ((kb_g μ 5) + (1 : Int32))) 5 (((kb_g μ 5) + (1 : Int32)) + (1 : Int32))) 5 ((((kb_g μ 5) + (1 : Int32)) + (1 : Int32)) - (1 : Int32)))).bind fun q8 =>
              some q8
        else
          if x1 = (107 : Int32) then
            (fn_X9_knit q1 x2 (kb_p μ 5 ((kb_g μ 5) + (1 : Int32)))).bind fun q7 =>
            some q7
          else
            if q1 = (97 : Int32) then
              if x3 = 0 then
                fp_X9_named_277   x2 (kb_p μ 5 ((kb_g μ 5) + (1 : Int32)))
              else
                (fn_X9_need (97 : Int32) (kb_p μ 5 ((kb_g μ 5) + (1 : Int32)))).bind fun q9 =>
                (fn_X9_need (115 : Int32) q9).bind fun q10 =>
                (fn_X9_need (116 : Int32) q10).bind fun q11 =>
                if (kb_g q11 6) = 0 then
                  (fn_X9_isDigit (1 : Int32) q11).bind fun q13 =>
                  if q13 = 0 then
                    (fn_X9_wrong (1 : Int32) q11).bind fun q15 =>
                    fp_X9_named_267   x2 q15
                  else
                    fp_X9_named_267   x2 q11
                else
                  fp_X9_named_267   x2 q11
            else
              fp_X9_named_277   x2 (kb_p μ 5 ((kb_g μ 5) + (1 : Int32))) := rfl
def fn_X9_named  (x1 : Int32) (x2 : Int32) (x3 : Int32) (μ : kb_S) : Option (kb_S) :=
  if x1 = (107 : Int32) then
    fp_X9_named_42   x1 x2 x3 μ
  else
    if x1 = (112 : Int32) then
      fp_X9_named_42   x1 x2 x3 μ
    else
      if x1 = (115 : Int32) then
        fp_X9_named_42   x1 x2 x3 μ
      else
        if x1 = (121 : Int32) then
          fp_X9_named_42   x1 x2 x3 μ
        else
          if x1 = (98 : Int32) then
            fp_X9_named_42   x1 x2 x3 μ
          else
            if x1 = (99 : Int32) then
              fp_X9_named_42   x1 x2 x3 μ
            else
              (fn_X9_wrong (1 : Int32) μ).bind fun q7 =>
              some q7
theorem fe_X9_named  (x1 : Int32) (x2 : Int32) (x3 : Int32) (μ : kb_S) : fn_X9_named  x1 x2 x3 μ =
  if x1 = (107 : Int32) then
    fp_X9_named_42   x1 x2 x3 μ
  else
    if x1 = (112 : Int32) then
      fp_X9_named_42   x1 x2 x3 μ
    else
      if x1 = (115 : Int32) then
        fp_X9_named_42   x1 x2 x3 μ
      else
        if x1 = (121 : Int32) then
          fp_X9_named_42   x1 x2 x3 μ
        else
          if x1 = (98 : Int32) then
            fp_X9_named_42   x1 x2 x3 μ
          else
            if x1 = (99 : Int32) then
              fp_X9_named_42   x1 x2 x3 μ
            else
              (fn_X9_wrong (1 : Int32) μ).bind fun q7 =>
              some q7 := rfl
theorem hd_X9_named : yX9_named.cls = RX9 ∧ yX9_named.cls ≠ "java/lang/invoke/MethodHandle" ∧ yX9_named.cls ≠ "java/lang/invoke/VarHandle" ∧ (parseMethodDescriptor yX9_named.desc).map (fun d => d.parameters.length) = some 3 := by decide +kernel
set_option maxRecDepth 100000 in
set_option maxHeartbeats 4000000 in
theorem ct_X9_named (l : Launch) (V : kb_V) (A : Nat → Prop)  (x1 : Int32) (x2 : Int32) (x3 : Int32) (d : Nat → Nat) (μ : kb_S) (ex : va_W) {μ9 : kb_S} (hf : fn_X9_named  x1 x2 x3 μ = some μ9) : kb_T l yX9_named cX9_named 5 none ({ frames := 5, cells := 0, slots := 0, locals := 109 } : Room) V A [.ref (d 0), .int x1, .int x2, .int x3] (kb_WM V d μ ex) none (kb_WM V d μ9 ex) 0 0 := by
  refine kb_start (cc := cX9_named) (nL := 5) (ret := none) (own := RX9) (by decide) rfl (Nat.le_of_ble_eq_true rfl) ?_
  intro p e s m args below meth c C
  have hp277 : ∀ (x2 : Int32) (μ : kb_S), fp_X9_named_277   x2 μ = some μ9 → kb_J p l e ({ frames := 5, cells := 0, slots := 0, locals := 109 } : Room) s m args below meth c 5 V A 0 0 (MQ below (kb_post V A none (kb_WM V d μ9 ex)) args s 0 0 A) 277 [(0, .ref (d 0)), (2, .int x2)] [] (kb_WM V d μ ex) := by
    intro x2 μ hf
    rw [fp_X9_named_277_e] at hf
    refine kj_aload_n (pc := 277) C 0 dX9_named_277 rfl rfl ?_
    refine kj_iload_n (pc := 278) C 1 dX9_named_278 rfl rfl ?_
    obtain ⟨q1, hq1, hf⟩ := kb_bd hf
    refine kj_callV0 (pc := 279) (as := [.int x2]) (rest := []) (b := (d 0)) C (ct_X9_cable l V A x2 d μ ex hq1) wd_X9_cable wk_X9_170 wi_X9_cable ws_X9_cable wz_X9 rfl rfl hd_X9_cable ⟨by decide, by decide⟩ 0 rfl rfl rfl rfl (Nat.le_of_ble_eq_true rfl) (by decide) dX9_named_279 ?_
    cases hf
    exact kj_vret (pc := 282) C dX9_named_282
  have hp267 : ∀ (x2 : Int32) (μ : kb_S), fp_X9_named_267   x2 μ = some μ9 → kb_J p l e ({ frames := 5, cells := 0, slots := 0, locals := 109 } : Room) s m args below meth c 5 V A 0 0 (MQ below (kb_post V A none (kb_WM V d μ9 ex)) args s 0 0 A) 267 [(0, .ref (d 0)), (2, .int x2)] [] (kb_WM V d μ ex) := by
    intro x2 μ hf
    rw [fp_X9_named_267_e] at hf
    refine kj_aload_n (pc := 267) C 0 dX9_named_267 rfl rfl ?_
    refine kj_bipush (pc := 268) (v := (9 : Int32)) C dX9_named_268 (by decide) ?_
    refine kj_iload_n (pc := 270) C 1 dX9_named_270 rfl rfl ?_
    obtain ⟨q1, hq1, hf⟩ := kb_bd hf
    refine kj_callV0 (pc := 271) (as := [.int (9 : Int32), .int x2]) (rest := []) (b := (d 0)) C (ct_X9_plain l V A (9 : Int32) x2 d μ ex hq1) wd_X9_plain wk_X9_164 wi_X9_plain ws_X9_plain wz_X9 rfl rfl hd_X9_plain ⟨by decide, by decide⟩ 0 rfl rfl rfl rfl (Nat.le_of_ble_eq_true rfl) (by decide) dX9_named_271 ?_
    refine kj_goto (pc := 274) 282 C dX9_named_274 (by decide) ?_
    cases hf
    exact kj_vret (pc := 282) C dX9_named_282
  have hp42 : ∀ (x1 : Int32) (x2 : Int32) (x3 : Int32) (μ : kb_S), fp_X9_named_42   x1 x2 x3 μ = some μ9 → kb_J p l e ({ frames := 5, cells := 0, slots := 0, locals := 109 } : Room) s m args below meth c 5 V A 0 0 (MQ below (kb_post V A none (kb_WM V d μ9 ex)) args s 0 0 A) 42 [(0, .ref (d 0)), (1, .int x1), (2, .int x2), (3, .int x3)] [] (kb_WM V d μ ex) := by
    intro x1 x2 x3 μ hf
    rw [fp_X9_named_42_e] at hf
    refine kj_aload_n (pc := 42) C 0 dX9_named_42 rfl rfl ?_
    refine kj_dup (pc := 43) C dX9_named_43 rfl ?_
    refine kg_X9_at (pc := 44) (v := (kb_g μ 5)) C wf_X9_107 dX9_named_44 rfl ?_
    refine kj_iconst (pc := 47) (v := (1 : Int32)) C dX9_named_47 (by decide) ?_
    refine kj_iadd (pc := 48) C dX9_named_48 ?_
    refine kp_X9_at (pc := 49) C wf_X9_107 dX9_named_49 ?_
    refine kj_aload_n (pc := 52) C 0 dX9_named_52 rfl rfl ?_
    obtain ⟨q1, hq1, hf⟩ := kb_bd hf
    refine kj_callV0 (pc := 53) (as := []) (rest := []) (b := (d 0)) C (ct_X9_see l V A  d (kb_p μ 5 ((kb_g μ 5) + (1 : Int32))) ex hq1) wd_X9_see wk_X9_110 wi_X9_see ws_X9_see wz_X9 rfl rfl hd_X9_see ⟨by decide, by decide⟩ 0 rfl rfl rfl rfl (Nat.le_of_ble_eq_true rfl) (by decide) dX9_named_53 ?_
    refine kj_istore (pc := 56) C [1, 2, 3, 4, 0] (L2 := [(0, .ref (d 0)), (1, .int x1), (2, .int x2), (3, .int x3), (4, .int q1)]) dX9_named_56 (by decide) rfl ?_
    refine kj_iload_n (pc := 58) C 1 dX9_named_58 rfl rfl ?_
    refine kj_bipush (pc := 59) (v := (112 : Int32)) C dX9_named_59 (by decide) ?_
    refine kj_icmp_ne (pc := 61) 73 C dX9_named_61 (by decide) (fun c2 => ?_) (fun c2 => ?_)
    · have hf := kb_ife hf c2
      refine kj_iload_n (pc := 73) C 1 dX9_named_73 rfl rfl ?_
      refine kj_bipush (pc := 74) (v := (121 : Int32)) C dX9_named_74 (by decide) ?_
      refine kj_icmp_ne (pc := 76) 95 C dX9_named_76 (by decide) (fun c3 => ?_) (fun c3 => ?_)
      · have hf := kb_ife hf c3
        refine kj_iload_n (pc := 95) C 1 dX9_named_95 rfl rfl ?_
        refine kj_bipush (pc := 96) (v := (98 : Int32)) C dX9_named_96 (by decide) ?_
        refine kj_icmp_ne (pc := 98) 129 C dX9_named_98 (by decide) (fun c4 => ?_) (fun c4 => ?_)
        · have hf := kb_ife hf c4
          refine kj_iload_n (pc := 129) C 1 dX9_named_129 rfl rfl ?_
          refine kj_bipush (pc := 130) (v := (115 : Int32)) C dX9_named_130 (by decide) ?_
          refine kj_icmp_ne (pc := 132) 202 C dX9_named_132 (by decide) (fun c5 => ?_) (fun c5 => ?_)
          · have hf := kb_ife hf c5
            refine kj_iload_n (pc := 202) C 1 dX9_named_202 rfl rfl ?_
            refine kj_bipush (pc := 203) (v := (107 : Int32)) C dX9_named_203 (by decide) ?_
            refine kj_icmp_ne (pc := 205) 218 C dX9_named_205 (by decide) (fun c6 => ?_) (fun c6 => ?_)
            · have hf := kb_ife hf c6
              refine kj_iload (pc := 218) C 4 dX9_named_218 rfl ?_
              refine kj_bipush (pc := 220) (v := (97 : Int32)) C dX9_named_220 (by decide) ?_
              refine kj_icmp_ne (pc := 222) 277 C dX9_named_222 (by decide) (fun c7 => ?_) (fun c7 => ?_)
              · have hf := kb_ife hf c7
                refine kj_sub [0, 2] (L2 := [(0, .ref (d 0)), (2, .int x2)]) rfl ?_
                exact hp277 x2 (kb_p μ 5 ((kb_g μ 5) + (1 : Int32))) hf
              · have hf := kb_ift hf c7
                refine kj_iload_n (pc := 225) C 3 dX9_named_225 rfl rfl ?_
                refine kj_if_eq (pc := 226) 277 C dX9_named_226 (by decide) (fun c8 => ?_) (fun c8 => ?_)
                · have hf := kb_ift hf c8
                  refine kj_sub [0, 2] (L2 := [(0, .ref (d 0)), (2, .int x2)]) rfl ?_
                  exact hp277 x2 (kb_p μ 5 ((kb_g μ 5) + (1 : Int32))) hf
                · have hf := kb_ife hf c8
                  refine kj_aload_n (pc := 229) C 0 dX9_named_229 rfl rfl ?_
                  refine kj_bipush (pc := 230) (v := (97 : Int32)) C dX9_named_230 (by decide) ?_
                  obtain ⟨q9, hq9, hf⟩ := kb_bd hf
                  refine kj_callV0 (pc := 232) (as := [.int (97 : Int32)]) (rest := []) (b := (d 0)) C (ct_X9_need l V A (97 : Int32) d (kb_p μ 5 ((kb_g μ 5) + (1 : Int32))) ex hq9) wd_X9_need wk_X9_155 wi_X9_need ws_X9_need wz_X9 rfl rfl hd_X9_need ⟨by decide, by decide⟩ 0 rfl rfl rfl rfl (Nat.le_of_ble_eq_true rfl) (by decide) dX9_named_232 ?_
                  refine kj_aload_n (pc := 235) C 0 dX9_named_235 rfl rfl ?_
                  refine kj_bipush (pc := 236) (v := (115 : Int32)) C dX9_named_236 (by decide) ?_
                  obtain ⟨q10, hq10, hf⟩ := kb_bd hf
                  refine kj_callV0 (pc := 238) (as := [.int (115 : Int32)]) (rest := []) (b := (d 0)) C (ct_X9_need l V A (115 : Int32) d q9 ex hq10) wd_X9_need wk_X9_155 wi_X9_need ws_X9_need wz_X9 rfl rfl hd_X9_need ⟨by decide, by decide⟩ 0 rfl rfl rfl rfl (Nat.le_of_ble_eq_true rfl) (by decide) dX9_named_238 ?_
                  refine kj_aload_n (pc := 241) C 0 dX9_named_241 rfl rfl ?_
                  refine kj_bipush (pc := 242) (v := (116 : Int32)) C dX9_named_242 (by decide) ?_
                  obtain ⟨q11, hq11, hf⟩ := kb_bd hf
                  refine kj_callV0 (pc := 244) (as := [.int (116 : Int32)]) (rest := []) (b := (d 0)) C (ct_X9_need l V A (116 : Int32) d q10 ex hq11) wd_X9_need wk_X9_155 wi_X9_need ws_X9_need wz_X9 rfl rfl hd_X9_need ⟨by decide, by decide⟩ 0 rfl rfl rfl rfl (Nat.le_of_ble_eq_true rfl) (by decide) dX9_named_244 ?_
                  refine kj_aload_n (pc := 247) C 0 dX9_named_247 rfl rfl ?_
                  refine kg_X9_fault (pc := 248) (v := (kb_g q11 6)) C wf_X9_114 dX9_named_248 rfl ?_
                  refine kj_if_ne (pc := 251) 267 C dX9_named_251 (by decide) (fun c12 => ?_) (fun c12 => ?_)
                  · have hf := kb_ife hf c12
                    refine kj_sub [0, 2] (L2 := [(0, .ref (d 0)), (2, .int x2)]) rfl ?_
                    exact hp267 x2 q11 hf
                  · have hf := kb_ift hf c12
                    refine kj_aload_n (pc := 254) C 0 dX9_named_254 rfl rfl ?_
                    refine kj_iconst (pc := 255) (v := (1 : Int32)) C dX9_named_255 (by decide) ?_
                    obtain ⟨q13, hq13, hf⟩ := kb_bd hf
                    refine kj_callV0 (pc := 256) (as := [.int (1 : Int32)]) (rest := []) (b := (d 0)) C (ct_X9_isDigit l V A (1 : Int32) d q11 ex hq13) wd_X9_isDigit wk_X9_126 wi_X9_isDigit ws_X9_isDigit wz_X9 rfl rfl hd_X9_isDigit ⟨by decide, by decide⟩ 0 rfl rfl rfl rfl (Nat.le_of_ble_eq_true rfl) (by decide) dX9_named_256 ?_
                    refine kj_if_ne (pc := 259) 267 C dX9_named_259 (by decide) (fun c14 => ?_) (fun c14 => ?_)
                    · have hf := kb_ife hf c14
                      refine kj_sub [0, 2] (L2 := [(0, .ref (d 0)), (2, .int x2)]) rfl ?_
                      exact hp267 x2 q11 hf
                    · have hf := kb_ift hf c14
                      refine kj_aload_n (pc := 262) C 0 dX9_named_262 rfl rfl ?_
                      refine kj_iconst (pc := 263) (v := (1 : Int32)) C dX9_named_263 (by decide) ?_
                      obtain ⟨q15, hq15, hf⟩ := kb_bd hf
                      refine kj_callV0 (pc := 264) (as := [.int (1 : Int32)]) (rest := []) (b := (d 0)) C (ct_X9_wrong l V A (1 : Int32) d q11 ex hq15) wd_X9_wrong wk_X9_120 wi_X9_wrong ws_X9_wrong wz_X9 rfl rfl hd_X9_wrong ⟨by decide, by decide⟩ 0 rfl rfl rfl rfl (Nat.le_of_ble_eq_true rfl) (by decide) dX9_named_264 ?_
                      refine kj_sub [0, 2] (L2 := [(0, .ref (d 0)), (2, .int x2)]) rfl ?_
                      exact hp267 x2 q15 hf
            · have hf := kb_ift hf c6
              refine kj_aload_n (pc := 208) C 0 dX9_named_208 rfl rfl ?_
              refine kj_iload (pc := 209) C 4 dX9_named_209 rfl ?_
              refine kj_iload_n (pc := 211) C 2 dX9_named_211 rfl rfl ?_
              obtain ⟨q7, hq7, hf⟩ := kb_bd hf
              refine kj_callV0 (pc := 212) (as := [.int q1, .int x2]) (rest := []) (b := (d 0)) C (ct_X9_knit l V A q1 x2 d (kb_p μ 5 ((kb_g μ 5) + (1 : Int32))) ex hq7) wd_X9_knit wk_X9_167 wi_X9_knit ws_X9_knit wz_X9 rfl rfl hd_X9_knit ⟨by decide, by decide⟩ 0 rfl rfl rfl rfl (Nat.le_of_ble_eq_true rfl) (by decide) dX9_named_212 ?_
              refine kj_goto (pc := 215) 282 C dX9_named_215 (by decide) ?_
              cases hf
              exact kj_vret (pc := 282) C dX9_named_282
          · have hf := kb_ift hf c5
            refine kj_aload_n (pc := 135) C 0 dX9_named_135 rfl rfl ?_
            refine kj_dup (pc := 136) C dX9_named_136 rfl ?_
            refine kg_X9_at (pc := 137) (v := ((kb_g μ 5) + (1 : Int32))) C wf_X9_107 dX9_named_137 rfl ?_
            refine kj_iconst (pc := 140) (v := (1 : Int32)) C dX9_named_140 (by decide) ?_
            refine kj_iadd (pc := 141) C dX9_named_141 ?_
            refine kp_X9_at (pc := 142) C wf_X9_107 dX9_named_142 ?_
            refine kj_iload (pc := 145) C 4 dX9_named_145 rfl ?_
            refine kj_bipush (pc := 147) (v := (115 : Int32)) C dX9_named_147 (by decide) ?_
            refine kj_icmp_ne (pc := 149) 168 C dX9_named_149 (by decide) (fun c6 => ?_) (fun c6 => ?_)
            · have hf := kb_ife hf c6
              refine kj_iload (pc := 168) C 4 dX9_named_168 rfl ?_
              refine kj_bipush (pc := 170) (v := (108 : Int32)) C dX9_named_170 (by decide) ?_
              refine kj_icmp_ne (pc := 172) 184 C dX9_named_172 (by decide) (fun c7 => ?_) (fun c7 => ?_)
              · have hf := kb_ife hf c7
                refine kj_aload_n (pc := 184) C 0 dX9_named_184 rfl rfl ?_
                refine kj_dup (pc := 185) C dX9_named_185 rfl ?_
                refine kg_X9_at (pc := 186) (v := (((kb_g μ 5) + (1 : Int32)) + (1 : Int32))) C wf_X9_107 dX9_named_186 rfl ?_
                refine kj_iconst (pc := 189) (v := (1 : Int32)) C dX9_named_189 (by decide) ?_
                refine kj_isub (pc := 190) C dX9_named_190 ?_
                refine kp_X9_at (pc := 191) C wf_X9_107 dX9_named_191 ?_
                refine kj_aload_n (pc := 194) C 0 dX9_named_194 rfl rfl ?_
                refine kj_iconst (pc := 195) (v := (1 : Int32)) C dX9_named_195 (by decide) ?_
                obtain ⟨q8, hq8, hf⟩ := kb_bd hf
                refine kj_callV0 (pc := 196) (as := [.int (1 : Int32)]) (rest := []) (b := (d 0)) C (ct_X9_wrong l V A (1 : Int32) d (kb_p (kb_p (kb_p μ 5 ((kb_g μ 5) + (1 : Int32))) 5 (((kb_g μ 5) + (1 : Int32)) + (1 : Int32))) 5 ((((kb_g μ 5) + (1 : Int32)) + (1 : Int32)) - (1 : Int32))) ex hq8) wd_X9_wrong wk_X9_120 wi_X9_wrong ws_X9_wrong wz_X9 rfl rfl hd_X9_wrong ⟨by decide, by decide⟩ 0 rfl rfl rfl rfl (Nat.le_of_ble_eq_true rfl) (by decide) dX9_named_196 ?_
                refine kj_goto (pc := 199) 282 C dX9_named_199 (by decide) ?_
                cases hf
                exact kj_vret (pc := 282) C dX9_named_282
              · have hf := kb_ift hf c7
                refine kj_aload_n (pc := 175) C 0 dX9_named_175 rfl rfl ?_
                refine kj_iconst (pc := 176) (v := (2 : Int32)) C dX9_named_176 (by decide) ?_
                refine kj_iload_n (pc := 177) C 2 dX9_named_177 rfl rfl ?_
                obtain ⟨q8, hq8, hf⟩ := kb_bd hf
                refine kj_callV0 (pc := 178) (as := [.int (2 : Int32), .int x2]) (rest := []) (b := (d 0)) C (ct_X9_plain l V A (2 : Int32) x2 d (kb_p (kb_p μ 5 ((kb_g μ 5) + (1 : Int32))) 5 (((kb_g μ 5) + (1 : Int32)) + (1 : Int32))) ex hq8) wd_X9_plain wk_X9_164 wi_X9_plain ws_X9_plain wz_X9 rfl rfl hd_X9_plain ⟨by decide, by decide⟩ 0 rfl rfl rfl rfl (Nat.le_of_ble_eq_true rfl) (by decide) dX9_named_178 ?_
                refine kj_goto (pc := 181) 282 C dX9_named_181 (by decide) ?_
                cases hf
                exact kj_vret (pc := 282) C dX9_named_282
            · have hf := kb_ift hf c6
              refine kj_aload_n (pc := 152) C 0 dX9_named_152 rfl rfl ?_
              refine kj_bipush (pc := 153) (v := (107 : Int32)) C dX9_named_153 (by decide) ?_
              obtain ⟨q7, hq7, hf⟩ := kb_bd hf
              refine kj_callV0 (pc := 155) (as := [.int (107 : Int32)]) (rest := []) (b := (d 0)) C (ct_X9_need l V A (107 : Int32) d (kb_p (kb_p μ 5 ((kb_g μ 5) + (1 : Int32))) 5 (((kb_g μ 5) + (1 : Int32)) + (1 : Int32))) ex hq7) wd_X9_need wk_X9_155 wi_X9_need ws_X9_need wz_X9 rfl rfl hd_X9_need ⟨by decide, by decide⟩ 0 rfl rfl rfl rfl (Nat.le_of_ble_eq_true rfl) (by decide) dX9_named_155 ?_
              refine kj_aload_n (pc := 158) C 0 dX9_named_158 rfl rfl ?_
              refine kj_iconst (pc := 159) (v := (4 : Int32)) C dX9_named_159 (by decide) ?_
              refine kj_iconst (pc := 160) (v := (1 : Int32)) C dX9_named_160 (by decide) ?_
              refine kj_iload_n (pc := 161) C 2 dX9_named_161 rfl rfl ?_
              obtain ⟨q8, hq8, hf⟩ := kb_bd hf
              refine kj_callV0 (pc := 162) (as := [.int (4 : Int32), .int (1 : Int32), .int x2]) (rest := []) (b := (d 0)) C (ct_X9_add l V A (4 : Int32) (1 : Int32) x2 d q7 ex hq8) wd_X9_add wk_X9_134 wi_X9_add ws_X9_add wz_X9 rfl rfl hd_X9_add ⟨by decide, by decide⟩ 0 rfl rfl rfl rfl (Nat.le_of_ble_eq_true rfl) (by decide) dX9_named_162 ?_
              refine kj_goto (pc := 165) 282 C dX9_named_165 (by decide) ?_
              cases hf
              exact kj_vret (pc := 282) C dX9_named_282
        · have hf := kb_ift hf c4
          refine kj_aload_n (pc := 101) C 0 dX9_named_101 rfl rfl ?_
          refine kj_bipush (pc := 102) (v := (105 : Int32)) C dX9_named_102 (by decide) ?_
          obtain ⟨q5, hq5, hf⟩ := kb_bd hf
          refine kj_callV0 (pc := 104) (as := [.int (105 : Int32)]) (rest := []) (b := (d 0)) C (ct_X9_need l V A (105 : Int32) d (kb_p μ 5 ((kb_g μ 5) + (1 : Int32))) ex hq5) wd_X9_need wk_X9_155 wi_X9_need ws_X9_need wz_X9 rfl rfl hd_X9_need ⟨by decide, by decide⟩ 0 rfl rfl rfl rfl (Nat.le_of_ble_eq_true rfl) (by decide) dX9_named_104 ?_
          refine kj_aload_n (pc := 107) C 0 dX9_named_107 rfl rfl ?_
          refine kj_bipush (pc := 108) (v := (110 : Int32)) C dX9_named_108 (by decide) ?_
          obtain ⟨q6, hq6, hf⟩ := kb_bd hf
          refine kj_callV0 (pc := 110) (as := [.int (110 : Int32)]) (rest := []) (b := (d 0)) C (ct_X9_need l V A (110 : Int32) d q5 ex hq6) wd_X9_need wk_X9_155 wi_X9_need ws_X9_need wz_X9 rfl rfl hd_X9_need ⟨by decide, by decide⟩ 0 rfl rfl rfl rfl (Nat.le_of_ble_eq_true rfl) (by decide) dX9_named_110 ?_
          refine kj_aload_n (pc := 113) C 0 dX9_named_113 rfl rfl ?_
          refine kj_bipush (pc := 114) (v := (100 : Int32)) C dX9_named_114 (by decide) ?_
          obtain ⟨q7, hq7, hf⟩ := kb_bd hf
          refine kj_callV0 (pc := 116) (as := [.int (100 : Int32)]) (rest := []) (b := (d 0)) C (ct_X9_need l V A (100 : Int32) d q6 ex hq7) wd_X9_need wk_X9_155 wi_X9_need ws_X9_need wz_X9 rfl rfl hd_X9_need ⟨by decide, by decide⟩ 0 rfl rfl rfl rfl (Nat.le_of_ble_eq_true rfl) (by decide) dX9_named_116 ?_
          refine kj_aload_n (pc := 119) C 0 dX9_named_119 rfl rfl ?_
          refine kj_bipush (pc := 120) (v := (8 : Int32)) C dX9_named_120 (by decide) ?_
          refine kj_iload_n (pc := 122) C 2 dX9_named_122 rfl rfl ?_
          obtain ⟨q8, hq8, hf⟩ := kb_bd hf
          refine kj_callV0 (pc := 123) (as := [.int (8 : Int32), .int x2]) (rest := []) (b := (d 0)) C (ct_X9_plain l V A (8 : Int32) x2 d q7 ex hq8) wd_X9_plain wk_X9_164 wi_X9_plain ws_X9_plain wz_X9 rfl rfl hd_X9_plain ⟨by decide, by decide⟩ 0 rfl rfl rfl rfl (Nat.le_of_ble_eq_true rfl) (by decide) dX9_named_123 ?_
          refine kj_goto (pc := 126) 282 C dX9_named_126 (by decide) ?_
          cases hf
          exact kj_vret (pc := 282) C dX9_named_282
      · have hf := kb_ift hf c3
        refine kj_aload_n (pc := 79) C 0 dX9_named_79 rfl rfl ?_
        refine kj_bipush (pc := 80) (v := (111 : Int32)) C dX9_named_80 (by decide) ?_
        obtain ⟨q4, hq4, hf⟩ := kb_bd hf
        refine kj_callV0 (pc := 82) (as := [.int (111 : Int32)]) (rest := []) (b := (d 0)) C (ct_X9_need l V A (111 : Int32) d (kb_p μ 5 ((kb_g μ 5) + (1 : Int32))) ex hq4) wd_X9_need wk_X9_155 wi_X9_need ws_X9_need wz_X9 rfl rfl hd_X9_need ⟨by decide, by decide⟩ 0 rfl rfl rfl rfl (Nat.le_of_ble_eq_true rfl) (by decide) dX9_named_82 ?_
        refine kj_aload_n (pc := 85) C 0 dX9_named_85 rfl rfl ?_
        refine kj_bipush (pc := 86) (v := (7 : Int32)) C dX9_named_86 (by decide) ?_
        refine kj_iload_n (pc := 88) C 2 dX9_named_88 rfl rfl ?_
        obtain ⟨q5, hq5, hf⟩ := kb_bd hf
        refine kj_callV0 (pc := 89) (as := [.int (7 : Int32), .int x2]) (rest := []) (b := (d 0)) C (ct_X9_plain l V A (7 : Int32) x2 d q4 ex hq5) wd_X9_plain wk_X9_164 wi_X9_plain ws_X9_plain wz_X9 rfl rfl hd_X9_plain ⟨by decide, by decide⟩ 0 rfl rfl rfl rfl (Nat.le_of_ble_eq_true rfl) (by decide) dX9_named_89 ?_
        refine kj_goto (pc := 92) 282 C dX9_named_92 (by decide) ?_
        cases hf
        exact kj_vret (pc := 282) C dX9_named_282
    · have hf := kb_ift hf c2
      refine kj_aload_n (pc := 64) C 0 dX9_named_64 rfl rfl ?_
      refine kj_iconst (pc := 65) (v := (1 : Int32)) C dX9_named_65 (by decide) ?_
      refine kj_iload_n (pc := 66) C 2 dX9_named_66 rfl rfl ?_
      obtain ⟨q3, hq3, hf⟩ := kb_bd hf
      refine kj_callV0 (pc := 67) (as := [.int (1 : Int32), .int x2]) (rest := []) (b := (d 0)) C (ct_X9_plain l V A (1 : Int32) x2 d (kb_p μ 5 ((kb_g μ 5) + (1 : Int32))) ex hq3) wd_X9_plain wk_X9_164 wi_X9_plain ws_X9_plain wz_X9 rfl rfl hd_X9_plain ⟨by decide, by decide⟩ 0 rfl rfl rfl rfl (Nat.le_of_ble_eq_true rfl) (by decide) dX9_named_67 ?_
      refine kj_goto (pc := 70) 282 C dX9_named_70 (by decide) ?_
      cases hf
      exact kj_vret (pc := 282) C dX9_named_282
  refine kj_sub [0, 1, 2, 3] (L2 := [(0, .ref (d 0)), (1, .int x1), (2, .int x2), (3, .int x3)]) rfl ?_
  rw [fe_X9_named] at hf
  refine kj_iload_n (pc := 0) C 1 dX9_named_0 rfl rfl ?_
  refine kj_bipush (pc := 1) (v := (107 : Int32)) C dX9_named_1 (by decide) ?_
  refine kj_icmp_eq (pc := 3) 42 C dX9_named_3 (by decide) (fun c1 => ?_) (fun c1 => ?_)
  · have hf := kb_ift hf c1
    exact hp42 x1 x2 x3 μ hf
  · have hf := kb_ife hf c1
    refine kj_iload_n (pc := 6) C 1 dX9_named_6 rfl rfl ?_
    refine kj_bipush (pc := 7) (v := (112 : Int32)) C dX9_named_7 (by decide) ?_
    refine kj_icmp_eq (pc := 9) 42 C dX9_named_9 (by decide) (fun c2 => ?_) (fun c2 => ?_)
    · have hf := kb_ift hf c2
      exact hp42 x1 x2 x3 μ hf
    · have hf := kb_ife hf c2
      refine kj_iload_n (pc := 12) C 1 dX9_named_12 rfl rfl ?_
      refine kj_bipush (pc := 13) (v := (115 : Int32)) C dX9_named_13 (by decide) ?_
      refine kj_icmp_eq (pc := 15) 42 C dX9_named_15 (by decide) (fun c3 => ?_) (fun c3 => ?_)
      · have hf := kb_ift hf c3
        exact hp42 x1 x2 x3 μ hf
      · have hf := kb_ife hf c3
        refine kj_iload_n (pc := 18) C 1 dX9_named_18 rfl rfl ?_
        refine kj_bipush (pc := 19) (v := (121 : Int32)) C dX9_named_19 (by decide) ?_
        refine kj_icmp_eq (pc := 21) 42 C dX9_named_21 (by decide) (fun c4 => ?_) (fun c4 => ?_)
        · have hf := kb_ift hf c4
          exact hp42 x1 x2 x3 μ hf
        · have hf := kb_ife hf c4
          refine kj_iload_n (pc := 24) C 1 dX9_named_24 rfl rfl ?_
          refine kj_bipush (pc := 25) (v := (98 : Int32)) C dX9_named_25 (by decide) ?_
          refine kj_icmp_eq (pc := 27) 42 C dX9_named_27 (by decide) (fun c5 => ?_) (fun c5 => ?_)
          · have hf := kb_ift hf c5
            exact hp42 x1 x2 x3 μ hf
          · have hf := kb_ife hf c5
            refine kj_iload_n (pc := 30) C 1 dX9_named_30 rfl rfl ?_
            refine kj_bipush (pc := 31) (v := (99 : Int32)) C dX9_named_31 (by decide) ?_
            refine kj_icmp_eq (pc := 33) 42 C dX9_named_33 (by decide) (fun c6 => ?_) (fun c6 => ?_)
            · have hf := kb_ift hf c6
              exact hp42 x1 x2 x3 μ hf
            · have hf := kb_ife hf c6
              refine kj_aload_n (pc := 36) C 0 dX9_named_36 rfl rfl ?_
              refine kj_iconst (pc := 37) (v := (1 : Int32)) C dX9_named_37 (by decide) ?_
              obtain ⟨q7, hq7, hf⟩ := kb_bd hf
              refine kj_callV0 (pc := 38) (as := [.int (1 : Int32)]) (rest := []) (b := (d 0)) C (ct_X9_wrong l V A (1 : Int32) d μ ex hq7) wd_X9_wrong wk_X9_120 wi_X9_wrong ws_X9_wrong wz_X9 rfl rfl hd_X9_wrong ⟨by decide, by decide⟩ 0 rfl rfl rfl rfl (Nat.le_of_ble_eq_true rfl) (by decide) dX9_named_38 ?_
              cases hf
              exact kj_vret (pc := 41) C dX9_named_41
def fp_X9_opens_117   (x2 : Int32) (y0 : Int32) (μ : kb_S) : Option (kb_S) :=
  (fn_X9_add y0 (0 : Int32) x2 μ).bind fun q1 =>
  some q1
theorem fp_X9_opens_117_e   (x2 : Int32) (y0 : Int32) (μ : kb_S) : fp_X9_opens_117  x2 y0 μ =
  (fn_X9_add y0 (0 : Int32) x2 μ).bind fun q1 =>
  some q1 := rfl
def fp_X9_opens_62   (x1 : Int32) (x2 : Int32) (μ : kb_S) : Option (kb_S) :=
  if (kb_g μ 6) ≤ 0 then
    if kb_in ((kb_g μ 8) + (1 : Int32)) 5 = true then
      if x1 = (114 : Int32) then
        fp_X9_opens_117   x2 (22 : Int32) (kb_ap (kb_p (kb_p μ 8 ((kb_g μ 8) + (1 : Int32))) 5 ((kb_g μ 5) + (1 : Int32))) 17 ((kb_g μ 8) + (1 : Int32)).toNatClampNeg (kb_g μ 9))
      else
        fp_X9_opens_117   x2 (20 : Int32) (kb_ap (kb_p (kb_p μ 8 ((kb_g μ 8) + (1 : Int32))) 5 ((kb_g μ 5) + (1 : Int32))) 17 ((kb_g μ 8) + (1 : Int32)).toNatClampNeg (kb_g μ 9))
    else none
  else
    some μ
theorem fp_X9_opens_62_e   (x1 : Int32) (x2 : Int32) (μ : kb_S) : fp_X9_opens_62  x1 x2 μ =
  if (kb_g μ 6) ≤ 0 then
    if kb_in ((kb_g μ 8) + (1 : Int32)) 5 = true then
      if x1 = (114 : Int32) then
        fp_X9_opens_117   x2 (22 : Int32) (kb_ap (kb_p (kb_p μ 8 ((kb_g μ 8) + (1 : Int32))) 5 ((kb_g μ 5) + (1 : Int32))) 17 ((kb_g μ 8) + (1 : Int32)).toNatClampNeg (kb_g μ 9))
      else
        fp_X9_opens_117   x2 (20 : Int32) (kb_ap (kb_p (kb_p μ 8 ((kb_g μ 8) + (1 : Int32))) 5 ((kb_g μ 5) + (1 : Int32))) 17 ((kb_g μ 8) + (1 : Int32)).toNatClampNeg (kb_g μ 9))
    else none
  else
    some μ := rfl
def fp_X9_opens_49   (x1 : Int32) (x2 : Int32) (μ : kb_S) : Option (kb_S) :=
  if (kb_g μ 8) = (4 : Int32) then
    (fn_X9_wrong (2 : Int32) μ).bind fun q2 =>
    fp_X9_opens_62   x1 x2 q2
  else
    fp_X9_opens_62   x1 x2 μ
theorem fp_X9_opens_49_e   (x1 : Int32) (x2 : Int32) (μ : kb_S) : fp_X9_opens_49  x1 x2 μ =
  if (kb_g μ 8) = (4 : Int32) then
    (fn_X9_wrong (2 : Int32) μ).bind fun q2 =>
    fp_X9_opens_62   x1 x2 q2
  else
    fp_X9_opens_62   x1 x2 μ := rfl
def fn_X9_opens  (x1 : Int32) (x2 : Int32) (μ : kb_S) : Option (kb_S) :=
  if x1 = (114 : Int32) then
    (fn_X9_need (101 : Int32) (kb_p μ 5 ((kb_g μ 5) + (1 : Int32)))).bind fun q2 =>
    (fn_X9_need (112 : Int32) q2).bind fun q3 =>
    if (kb_g q3 6) = 0 then
      (fn_X9_seeWord  q3).bind fun q5 =>
      if q5.2 = (40 : Int32) then
        fp_X9_opens_49   x1 x2 q5.1
      else
        (fn_X9_wrong (1 : Int32) q5.1).bind fun q7 =>
        fp_X9_opens_49   x1 x2 q7
    else
      fp_X9_opens_49   x1 x2 q3
  else
    fp_X9_opens_49   x1 x2 μ
theorem fe_X9_opens  (x1 : Int32) (x2 : Int32) (μ : kb_S) : fn_X9_opens  x1 x2 μ =
  if x1 = (114 : Int32) then
    (fn_X9_need (101 : Int32) (kb_p μ 5 ((kb_g μ 5) + (1 : Int32)))).bind fun q2 =>
    (fn_X9_need (112 : Int32) q2).bind fun q3 =>
    if (kb_g q3 6) = 0 then
      (fn_X9_seeWord  q3).bind fun q5 =>
      if q5.2 = (40 : Int32) then
        fp_X9_opens_49   x1 x2 q5.1
      else
        (fn_X9_wrong (1 : Int32) q5.1).bind fun q7 =>
        fp_X9_opens_49   x1 x2 q7
    else
      fp_X9_opens_49   x1 x2 q3
  else
    fp_X9_opens_49   x1 x2 μ := rfl
theorem hd_X9_opens : yX9_opens.cls = RX9 ∧ yX9_opens.cls ≠ "java/lang/invoke/MethodHandle" ∧ yX9_opens.cls ≠ "java/lang/invoke/VarHandle" ∧ (parseMethodDescriptor yX9_opens.desc).map (fun d => d.parameters.length) = some 2 := by decide +kernel
set_option maxRecDepth 100000 in
set_option maxHeartbeats 4000000 in
theorem ct_X9_opens (l : Launch) (V : kb_V) (A : Nat → Prop)  (x1 : Int32) (x2 : Int32) (d : Nat → Nat) (μ : kb_S) (ex : va_W) {μ9 : kb_S} (hf : fn_X9_opens  x1 x2 μ = some μ9) : kb_T l yX9_opens cX9_opens 3 none ({ frames := 2, cells := 0, slots := 0, locals := 42 } : Room) V A [.ref (d 0), .int x1, .int x2] (kb_WM V d μ ex) none (kb_WM V d μ9 ex) 0 0 := by
  refine kb_start (cc := cX9_opens) (nL := 3) (ret := none) (own := RX9) (by decide) rfl (Nat.le_of_ble_eq_true rfl) ?_
  intro p e s m args below meth c C
  have hp117 : ∀ (x2 : Int32) (y0 : Int32) (μ : kb_S), fp_X9_opens_117   x2 y0 μ = some μ9 → kb_J p l e ({ frames := 2, cells := 0, slots := 0, locals := 42 } : Room) s m args below meth c 3 V A 0 0 (MQ below (kb_post V A none (kb_WM V d μ9 ex)) args s 0 0 A) 117 [(2, .int x2)] [.int y0, .ref (d 0)] (kb_WM V d μ ex) := by
    intro x2 y0 μ hf
    rw [fp_X9_opens_117_e] at hf
    refine kj_iconst (pc := 117) (v := (0 : Int32)) C dX9_opens_117 (by decide) ?_
    refine kj_iload_n (pc := 118) C 0 dX9_opens_118 rfl rfl ?_
    obtain ⟨q1, hq1, hf⟩ := kb_bd hf
    refine kj_callV0 (pc := 119) (as := [.int y0, .int (0 : Int32), .int x2]) (rest := []) (b := (d 0)) C (ct_X9_add l V A y0 (0 : Int32) x2 d μ ex hq1) wd_X9_add wk_X9_134 wi_X9_add ws_X9_add wz_X9 rfl rfl hd_X9_add ⟨by decide, by decide⟩ 0 rfl rfl rfl rfl (Nat.le_of_ble_eq_true rfl) (by decide) dX9_opens_119 ?_
    cases hf
    exact kj_vret (pc := 122) C dX9_opens_122
  have hp62 : ∀ (x1 : Int32) (x2 : Int32) (μ : kb_S), fp_X9_opens_62   x1 x2 μ = some μ9 → kb_J p l e ({ frames := 2, cells := 0, slots := 0, locals := 42 } : Room) s m args below meth c 3 V A 0 0 (MQ below (kb_post V A none (kb_WM V d μ9 ex)) args s 0 0 A) 62 [(0, .ref (d 0)), (1, .int x1), (2, .int x2)] [] (kb_WM V d μ ex) := by
    intro x1 x2 μ hf
    rw [fp_X9_opens_62_e] at hf
    refine kj_aload_n (pc := 62) C 0 dX9_opens_62 rfl rfl ?_
    refine kg_X9_fault (pc := 63) (v := (kb_g μ 6)) C wf_X9_114 dX9_opens_63 rfl ?_
    refine kj_if_le (pc := 66) 70 C dX9_opens_66 (by decide) (fun c1 => ?_) (fun c1 => ?_)
    · have hf := kb_ift hf c1
      refine kj_aload_n (pc := 70) C 0 dX9_opens_70 rfl rfl ?_
      refine kj_dup (pc := 71) C dX9_opens_71 rfl ?_
      refine kg_X9_depth (pc := 72) (v := (kb_g μ 8)) C wf_X9_141 dX9_opens_72 rfl ?_
      refine kj_iconst (pc := 75) (v := (1 : Int32)) C dX9_opens_75 (by decide) ?_
      refine kj_iadd (pc := 76) C dX9_opens_76 ?_
      refine kp_X9_depth (pc := 77) C wf_X9_141 dX9_opens_77 ?_
      refine kj_aload_n (pc := 80) C 0 dX9_opens_80 rfl rfl ?_
      refine kj_dup (pc := 81) C dX9_opens_81 rfl ?_
      refine kg_X9_at (pc := 82) (v := (kb_g μ 5)) C wf_X9_107 dX9_opens_82 rfl ?_
      refine kj_iconst (pc := 85) (v := (1 : Int32)) C dX9_opens_85 (by decide) ?_
      refine kj_iadd (pc := 86) C dX9_opens_86 ?_
      refine kp_X9_at (pc := 87) C wf_X9_107 dX9_opens_87 ?_
      refine kj_aload_n (pc := 90) C 0 dX9_opens_90 rfl rfl ?_
      refine kg_X9_open (pc := 91) C wf_X9_62 dX9_opens_91 ?_
      refine kj_aload_n (pc := 94) C 0 dX9_opens_94 rfl rfl ?_
      refine kg_X9_depth (pc := 95) (v := ((kb_g μ 8) + (1 : Int32))) C wf_X9_141 dX9_opens_95 rfl ?_
      refine kj_aload_n (pc := 98) C 0 dX9_opens_98 rfl rfl ?_
      refine kg_X9_marks (pc := 99) (v := (kb_g μ 9)) C wf_X9_123 dX9_opens_99 rfl ?_
      obtain ⟨g2, hf⟩ := kb_gd hf
      refine ks_X9_open (pc := 102) C g2 dX9_opens_102 ?_
      refine kj_aload_n (pc := 103) C 0 dX9_opens_103 rfl rfl ?_
      refine kj_iload_n (pc := 104) C 1 dX9_opens_104 rfl rfl ?_
      refine kj_bipush (pc := 105) (v := (114 : Int32)) C dX9_opens_105 (by decide) ?_
      refine kj_icmp_ne (pc := 107) 115 C dX9_opens_107 (by decide) (fun c3 => ?_) (fun c3 => ?_)
      · have hf := kb_ife hf c3
        refine kj_bipush (pc := 115) (v := (20 : Int32)) C dX9_opens_115 (by decide) ?_
        refine kj_sub [2] (L2 := [(2, .int x2)]) rfl ?_
        exact hp117 x2 (20 : Int32) (kb_ap (kb_p (kb_p μ 8 ((kb_g μ 8) + (1 : Int32))) 5 ((kb_g μ 5) + (1 : Int32))) 17 ((kb_g μ 8) + (1 : Int32)).toNatClampNeg (kb_g μ 9)) hf
      · have hf := kb_ift hf c3
        refine kj_bipush (pc := 110) (v := (22 : Int32)) C dX9_opens_110 (by decide) ?_
        refine kj_goto (pc := 112) 117 C dX9_opens_112 (by decide) ?_
        refine kj_sub [2] (L2 := [(2, .int x2)]) rfl ?_
        exact hp117 x2 (22 : Int32) (kb_ap (kb_p (kb_p μ 8 ((kb_g μ 8) + (1 : Int32))) 5 ((kb_g μ 5) + (1 : Int32))) 17 ((kb_g μ 8) + (1 : Int32)).toNatClampNeg (kb_g μ 9)) hf
    · have hf := kb_ife hf c1
      cases hf
      exact kj_vret (pc := 69) C dX9_opens_69
  have hp49 : ∀ (x1 : Int32) (x2 : Int32) (μ : kb_S), fp_X9_opens_49   x1 x2 μ = some μ9 → kb_J p l e ({ frames := 2, cells := 0, slots := 0, locals := 42 } : Room) s m args below meth c 3 V A 0 0 (MQ below (kb_post V A none (kb_WM V d μ9 ex)) args s 0 0 A) 49 [(0, .ref (d 0)), (1, .int x1), (2, .int x2)] [] (kb_WM V d μ ex) := by
    intro x1 x2 μ hf
    rw [fp_X9_opens_49_e] at hf
    refine kj_aload_n (pc := 49) C 0 dX9_opens_49 rfl rfl ?_
    refine kg_X9_depth (pc := 50) (v := (kb_g μ 8)) C wf_X9_141 dX9_opens_50 rfl ?_
    refine kj_iconst (pc := 53) (v := (4 : Int32)) C dX9_opens_53 (by decide) ?_
    refine kj_icmp_ne (pc := 54) 62 C dX9_opens_54 (by decide) (fun c1 => ?_) (fun c1 => ?_)
    · have hf := kb_ife hf c1
      exact hp62 x1 x2 μ hf
    · have hf := kb_ift hf c1
      refine kj_aload_n (pc := 57) C 0 dX9_opens_57 rfl rfl ?_
      refine kj_iconst (pc := 58) (v := (2 : Int32)) C dX9_opens_58 (by decide) ?_
      obtain ⟨q2, hq2, hf⟩ := kb_bd hf
      refine kj_callV0 (pc := 59) (as := [.int (2 : Int32)]) (rest := []) (b := (d 0)) C (ct_X9_wrong l V A (2 : Int32) d μ ex hq2) wd_X9_wrong wk_X9_120 wi_X9_wrong ws_X9_wrong wz_X9 rfl rfl hd_X9_wrong ⟨by decide, by decide⟩ 0 rfl rfl rfl rfl (Nat.le_of_ble_eq_true rfl) (by decide) dX9_opens_59 ?_
      exact hp62 x1 x2 q2 hf
  refine kj_sub [0, 1, 2] (L2 := [(0, .ref (d 0)), (1, .int x1), (2, .int x2)]) rfl ?_
  rw [fe_X9_opens] at hf
  refine kj_iload_n (pc := 0) C 1 dX9_opens_0 rfl rfl ?_
  refine kj_bipush (pc := 1) (v := (114 : Int32)) C dX9_opens_1 (by decide) ?_
  refine kj_icmp_ne (pc := 3) 49 C dX9_opens_3 (by decide) (fun c1 => ?_) (fun c1 => ?_)
  · have hf := kb_ife hf c1
    exact hp49 x1 x2 μ hf
  · have hf := kb_ift hf c1
    refine kj_aload_n (pc := 6) C 0 dX9_opens_6 rfl rfl ?_
    refine kj_dup (pc := 7) C dX9_opens_7 rfl ?_
    refine kg_X9_at (pc := 8) (v := (kb_g μ 5)) C wf_X9_107 dX9_opens_8 rfl ?_
    refine kj_iconst (pc := 11) (v := (1 : Int32)) C dX9_opens_11 (by decide) ?_
    refine kj_iadd (pc := 12) C dX9_opens_12 ?_
    refine kp_X9_at (pc := 13) C wf_X9_107 dX9_opens_13 ?_
    refine kj_aload_n (pc := 16) C 0 dX9_opens_16 rfl rfl ?_
    refine kj_bipush (pc := 17) (v := (101 : Int32)) C dX9_opens_17 (by decide) ?_
    obtain ⟨q2, hq2, hf⟩ := kb_bd hf
    refine kj_callV0 (pc := 19) (as := [.int (101 : Int32)]) (rest := []) (b := (d 0)) C (ct_X9_need l V A (101 : Int32) d (kb_p μ 5 ((kb_g μ 5) + (1 : Int32))) ex hq2) wd_X9_need wk_X9_155 wi_X9_need ws_X9_need wz_X9 rfl rfl hd_X9_need ⟨by decide, by decide⟩ 0 rfl rfl rfl rfl (Nat.le_of_ble_eq_true rfl) (by decide) dX9_opens_19 ?_
    refine kj_aload_n (pc := 22) C 0 dX9_opens_22 rfl rfl ?_
    refine kj_bipush (pc := 23) (v := (112 : Int32)) C dX9_opens_23 (by decide) ?_
    obtain ⟨q3, hq3, hf⟩ := kb_bd hf
    refine kj_callV0 (pc := 25) (as := [.int (112 : Int32)]) (rest := []) (b := (d 0)) C (ct_X9_need l V A (112 : Int32) d q2 ex hq3) wd_X9_need wk_X9_155 wi_X9_need ws_X9_need wz_X9 rfl rfl hd_X9_need ⟨by decide, by decide⟩ 0 rfl rfl rfl rfl (Nat.le_of_ble_eq_true rfl) (by decide) dX9_opens_25 ?_
    refine kj_aload_n (pc := 28) C 0 dX9_opens_28 rfl rfl ?_
    refine kg_X9_fault (pc := 29) (v := (kb_g q3 6)) C wf_X9_114 dX9_opens_29 rfl ?_
    refine kj_if_ne (pc := 32) 49 C dX9_opens_32 (by decide) (fun c4 => ?_) (fun c4 => ?_)
    · have hf := kb_ife hf c4
      exact hp49 x1 x2 q3 hf
    · have hf := kb_ift hf c4
      refine kj_aload_n (pc := 35) C 0 dX9_opens_35 rfl rfl ?_
      obtain ⟨q5, hq5, hf⟩ := kb_bd hf
      refine kj_callV0 (pc := 36) (as := []) (rest := []) (b := (d 0)) C (ct_X9_seeWord l V A  d q3 ex hq5) wd_X9_seeWord wk_X9_138 wi_X9_seeWord ws_X9_seeWord wz_X9 rfl rfl hd_X9_seeWord ⟨by decide, by decide⟩ 0 rfl rfl rfl rfl (Nat.le_of_ble_eq_true rfl) (by decide) dX9_opens_36 ?_
      refine kj_bipush (pc := 39) (v := (40 : Int32)) C dX9_opens_39 (by decide) ?_
      refine kj_icmp_eq (pc := 41) 49 C dX9_opens_41 (by decide) (fun c6 => ?_) (fun c6 => ?_)
      · have hf := kb_ift hf c6
        exact hp49 x1 x2 q5.1 hf
      · have hf := kb_ife hf c6
        refine kj_aload_n (pc := 44) C 0 dX9_opens_44 rfl rfl ?_
        refine kj_iconst (pc := 45) (v := (1 : Int32)) C dX9_opens_45 (by decide) ?_
        obtain ⟨q7, hq7, hf⟩ := kb_bd hf
        refine kj_callV0 (pc := 46) (as := [.int (1 : Int32)]) (rest := []) (b := (d 0)) C (ct_X9_wrong l V A (1 : Int32) d q5.1 ex hq7) wd_X9_wrong wk_X9_120 wi_X9_wrong ws_X9_wrong wz_X9 rfl rfl hd_X9_wrong ⟨by decide, by decide⟩ 0 rfl rfl rfl rfl (Nat.le_of_ble_eq_true rfl) (by decide) dX9_opens_46 ?_
        exact hp49 x1 x2 q7 hf
def fp_X9_last_29   (μ : kb_S) : Option (kb_S × Int32) :=
  (fn_X9_need (108 : Int32) μ).bind fun q1 =>
  (fn_X9_need (97 : Int32) q1).bind fun q2 =>
  (fn_X9_need (115 : Int32) q2).bind fun q3 =>
  (fn_X9_need (116 : Int32) q3).bind fun q4 =>
  if (kb_g q4 6) ≤ 0 then
    (fn_X9_seeWord  q4).bind fun q6 =>
    (fn_X9_count (0 : Int32) q6.1).bind fun q7 =>
    some (q7.1, q7.2)
  else
    some (q4, (0 : Int32))
theorem fp_X9_last_29_e   (μ : kb_S) : fp_X9_last_29  μ =
  (fn_X9_need (108 : Int32) μ).bind fun q1 =>
  (fn_X9_need (97 : Int32) q1).bind fun q2 =>
  (fn_X9_need (115 : Int32) q2).bind fun q3 =>
  (fn_X9_need (116 : Int32) q3).bind fun q4 =>
  if (kb_g q4 6) ≤ 0 then
    (fn_X9_seeWord  q4).bind fun q6 =>
    (fn_X9_count (0 : Int32) q6.1).bind fun q7 =>
    some (q7.1, q7.2)
  else
    some (q4, (0 : Int32)) := rfl
def fn_X9_last   (μ : kb_S) : Option (kb_S × Int32) :=
  (fn_X9_seeWord  μ).bind fun q1 =>
  (fn_X9_need (116 : Int32) q1.1).bind fun q2 =>
  (fn_X9_need (111 : Int32) q2).bind fun q3 =>
  if (kb_g q3 6) = 0 then
    (fn_X9_seeWord  q3).bind fun q5 =>
    fp_X9_last_29   q5.1
  else
    fp_X9_last_29   q3
theorem fe_X9_last   (μ : kb_S) : fn_X9_last   μ =
  (fn_X9_seeWord  μ).bind fun q1 =>
  (fn_X9_need (116 : Int32) q1.1).bind fun q2 =>
  (fn_X9_need (111 : Int32) q2).bind fun q3 =>
  if (kb_g q3 6) = 0 then
    (fn_X9_seeWord  q3).bind fun q5 =>
    fp_X9_last_29   q5.1
  else
    fp_X9_last_29   q3 := rfl
theorem hd_X9_last : yX9_last.cls = RX9 ∧ yX9_last.cls ≠ "java/lang/invoke/MethodHandle" ∧ yX9_last.cls ≠ "java/lang/invoke/VarHandle" ∧ (parseMethodDescriptor yX9_last.desc).map (fun d => d.parameters.length) = some 0 := by decide +kernel
set_option maxRecDepth 100000 in
set_option maxHeartbeats 4000000 in
theorem ct_X9_last (l : Launch) (V : kb_V) (A : Nat → Prop)   (d : Nat → Nat) (μ : kb_S) (ex : va_W) {μ9 : kb_S} {r : Int32} (hf : fn_X9_last   μ = some (μ9, r)) : kb_T l yX9_last cX9_last 2 (some .int) ({ frames := 3, cells := 0, slots := 0, locals := 63 } : Room) V A [.ref (d 0)] (kb_WM V d μ ex) (some (.int r)) (kb_WM V d μ9 ex) 0 0 := by
  refine kb_start (cc := cX9_last) (nL := 2) (ret := (some .int)) (own := RX9) (by decide) rfl (Nat.le_of_ble_eq_true rfl) ?_
  intro p e s m args below meth c C
  have hp29 : ∀ (μ : kb_S), fp_X9_last_29   μ = some (μ9, r) → kb_J p l e ({ frames := 3, cells := 0, slots := 0, locals := 63 } : Room) s m args below meth c 2 V A 0 0 (MQ below (kb_post V A (some (.int r)) (kb_WM V d μ9 ex)) args s 0 0 A) 29 [(0, .ref (d 0))] [] (kb_WM V d μ ex) := by
    intro μ hf
    rw [fp_X9_last_29_e] at hf
    refine kj_aload_n (pc := 29) C 0 dX9_last_29 rfl rfl ?_
    refine kj_bipush (pc := 30) (v := (108 : Int32)) C dX9_last_30 (by decide) ?_
    obtain ⟨q1, hq1, hf⟩ := kb_bd hf
    refine kj_callV0 (pc := 32) (as := [.int (108 : Int32)]) (rest := []) (b := (d 0)) C (ct_X9_need l V A (108 : Int32) d μ ex hq1) wd_X9_need wk_X9_155 wi_X9_need ws_X9_need wz_X9 rfl rfl hd_X9_need ⟨by decide, by decide⟩ 0 rfl rfl rfl rfl (Nat.le_of_ble_eq_true rfl) (by decide) dX9_last_32 ?_
    refine kj_aload_n (pc := 35) C 0 dX9_last_35 rfl rfl ?_
    refine kj_bipush (pc := 36) (v := (97 : Int32)) C dX9_last_36 (by decide) ?_
    obtain ⟨q2, hq2, hf⟩ := kb_bd hf
    refine kj_callV0 (pc := 38) (as := [.int (97 : Int32)]) (rest := []) (b := (d 0)) C (ct_X9_need l V A (97 : Int32) d q1 ex hq2) wd_X9_need wk_X9_155 wi_X9_need ws_X9_need wz_X9 rfl rfl hd_X9_need ⟨by decide, by decide⟩ 0 rfl rfl rfl rfl (Nat.le_of_ble_eq_true rfl) (by decide) dX9_last_38 ?_
    refine kj_aload_n (pc := 41) C 0 dX9_last_41 rfl rfl ?_
    refine kj_bipush (pc := 42) (v := (115 : Int32)) C dX9_last_42 (by decide) ?_
    obtain ⟨q3, hq3, hf⟩ := kb_bd hf
    refine kj_callV0 (pc := 44) (as := [.int (115 : Int32)]) (rest := []) (b := (d 0)) C (ct_X9_need l V A (115 : Int32) d q2 ex hq3) wd_X9_need wk_X9_155 wi_X9_need ws_X9_need wz_X9 rfl rfl hd_X9_need ⟨by decide, by decide⟩ 0 rfl rfl rfl rfl (Nat.le_of_ble_eq_true rfl) (by decide) dX9_last_44 ?_
    refine kj_aload_n (pc := 47) C 0 dX9_last_47 rfl rfl ?_
    refine kj_bipush (pc := 48) (v := (116 : Int32)) C dX9_last_48 (by decide) ?_
    obtain ⟨q4, hq4, hf⟩ := kb_bd hf
    refine kj_callV0 (pc := 50) (as := [.int (116 : Int32)]) (rest := []) (b := (d 0)) C (ct_X9_need l V A (116 : Int32) d q3 ex hq4) wd_X9_need wk_X9_155 wi_X9_need ws_X9_need wz_X9 rfl rfl hd_X9_need ⟨by decide, by decide⟩ 0 rfl rfl rfl rfl (Nat.le_of_ble_eq_true rfl) (by decide) dX9_last_50 ?_
    refine kj_aload_n (pc := 53) C 0 dX9_last_53 rfl rfl ?_
    refine kg_X9_fault (pc := 54) (v := (kb_g q4 6)) C wf_X9_114 dX9_last_54 rfl ?_
    refine kj_if_le (pc := 57) 62 C dX9_last_57 (by decide) (fun c5 => ?_) (fun c5 => ?_)
    · have hf := kb_ift hf c5
      refine kj_aload_n (pc := 62) C 0 dX9_last_62 rfl rfl ?_
      obtain ⟨q6, hq6, hf⟩ := kb_bd hf
      refine kj_callV0 (pc := 63) (as := []) (rest := []) (b := (d 0)) C (ct_X9_seeWord l V A  d q4 ex hq6) wd_X9_seeWord wk_X9_138 wi_X9_seeWord ws_X9_seeWord wz_X9 rfl rfl hd_X9_seeWord ⟨by decide, by decide⟩ 0 rfl rfl rfl rfl (Nat.le_of_ble_eq_true rfl) (by decide) dX9_last_63 ?_
      refine kj_istore_n (pc := 66) C [1, 0] (L2 := [(0, .ref (d 0)), (1, .int q6.2)]) dX9_last_66 rfl (by decide) rfl ?_
      refine kj_aload_n (pc := 67) C 0 dX9_last_67 rfl rfl ?_
      refine kj_iconst (pc := 68) (v := (0 : Int32)) C dX9_last_68 (by decide) ?_
      obtain ⟨q7, hq7, hf⟩ := kb_bd hf
      refine kj_callV0 (pc := 69) (as := [.int (0 : Int32)]) (rest := []) (b := (d 0)) C (ct_X9_count l V A (0 : Int32) d q6.1 ex hq7) wd_X9_count wk_X9_130 wi_X9_count ws_X9_count wz_X9 rfl rfl hd_X9_count ⟨by decide, by decide⟩ 0 rfl rfl rfl rfl (Nat.le_of_ble_eq_true rfl) (by decide) dX9_last_69 ?_
      cases hf
      exact kj_iret (pc := 72) C dX9_last_72
    · have hf := kb_ife hf c5
      refine kj_iconst (pc := 60) (v := (0 : Int32)) C dX9_last_60 (by decide) ?_
      cases hf
      exact kj_iret (pc := 61) C dX9_last_61
  refine kj_sub [0] (L2 := [(0, .ref (d 0))]) rfl ?_
  rw [fe_X9_last] at hf
  refine kj_aload_n (pc := 0) C 0 dX9_last_0 rfl rfl ?_
  obtain ⟨q1, hq1, hf⟩ := kb_bd hf
  refine kj_callV0 (pc := 1) (as := []) (rest := []) (b := (d 0)) C (ct_X9_seeWord l V A  d μ ex hq1) wd_X9_seeWord wk_X9_138 wi_X9_seeWord ws_X9_seeWord wz_X9 rfl rfl hd_X9_seeWord ⟨by decide, by decide⟩ 0 rfl rfl rfl rfl (Nat.le_of_ble_eq_true rfl) (by decide) dX9_last_1 ?_
  refine kj_istore_n (pc := 4) C [1, 0] (L2 := [(0, .ref (d 0)), (1, .int q1.2)]) dX9_last_4 rfl (by decide) rfl ?_
  refine kj_aload_n (pc := 5) C 0 dX9_last_5 rfl rfl ?_
  refine kj_bipush (pc := 6) (v := (116 : Int32)) C dX9_last_6 (by decide) ?_
  obtain ⟨q2, hq2, hf⟩ := kb_bd hf
  refine kj_callV0 (pc := 8) (as := [.int (116 : Int32)]) (rest := []) (b := (d 0)) C (ct_X9_need l V A (116 : Int32) d q1.1 ex hq2) wd_X9_need wk_X9_155 wi_X9_need ws_X9_need wz_X9 rfl rfl hd_X9_need ⟨by decide, by decide⟩ 0 rfl rfl rfl rfl (Nat.le_of_ble_eq_true rfl) (by decide) dX9_last_8 ?_
  refine kj_aload_n (pc := 11) C 0 dX9_last_11 rfl rfl ?_
  refine kj_bipush (pc := 12) (v := (111 : Int32)) C dX9_last_12 (by decide) ?_
  obtain ⟨q3, hq3, hf⟩ := kb_bd hf
  refine kj_callV0 (pc := 14) (as := [.int (111 : Int32)]) (rest := []) (b := (d 0)) C (ct_X9_need l V A (111 : Int32) d q2 ex hq3) wd_X9_need wk_X9_155 wi_X9_need ws_X9_need wz_X9 rfl rfl hd_X9_need ⟨by decide, by decide⟩ 0 rfl rfl rfl rfl (Nat.le_of_ble_eq_true rfl) (by decide) dX9_last_14 ?_
  refine kj_aload_n (pc := 17) C 0 dX9_last_17 rfl rfl ?_
  refine kg_X9_fault (pc := 18) (v := (kb_g q3 6)) C wf_X9_114 dX9_last_18 rfl ?_
  refine kj_if_ne (pc := 21) 29 C dX9_last_21 (by decide) (fun c4 => ?_) (fun c4 => ?_)
  · have hf := kb_ife hf c4
    refine kj_sub [0] (L2 := [(0, .ref (d 0))]) rfl ?_
    exact hp29 q3 hf
  · have hf := kb_ift hf c4
    refine kj_aload_n (pc := 24) C 0 dX9_last_24 rfl rfl ?_
    obtain ⟨q5, hq5, hf⟩ := kb_bd hf
    refine kj_callV0 (pc := 25) (as := []) (rest := []) (b := (d 0)) C (ct_X9_seeWord l V A  d q3 ex hq5) wd_X9_seeWord wk_X9_138 wi_X9_seeWord ws_X9_seeWord wz_X9 rfl rfl hd_X9_seeWord ⟨by decide, by decide⟩ 0 rfl rfl rfl rfl (Nat.le_of_ble_eq_true rfl) (by decide) dX9_last_25 ?_
    refine kj_istore_n (pc := 28) C [1, 0] (L2 := [(0, .ref (d 0)), (1, .int q5.2)]) dX9_last_28 rfl (by decide) rfl ?_
    refine kj_sub [0] (L2 := [(0, .ref (d 0))]) rfl ?_
    exact hp29 q5.1 hf
def fp_X9_times_14   (μ : kb_S) : Option (kb_S × Int32) :=
  if (kb_g μ 6) ≤ 0 then
    (fn_X9_count (2 : Int32) (kb_p μ 5 ((kb_g μ 5) + (1 : Int32)))).bind fun q2 =>
    some (q2.1, q2.2)
  else
    some (μ, (0 : Int32))
theorem fp_X9_times_14_e   (μ : kb_S) : fp_X9_times_14  μ =
  if (kb_g μ 6) ≤ 0 then
    (fn_X9_count (2 : Int32) (kb_p μ 5 ((kb_g μ 5) + (1 : Int32)))).bind fun q2 =>
    some (q2.1, q2.2)
  else
    some (μ, (0 : Int32)) := rfl
def fn_X9_times   (μ : kb_S) : Option (kb_S × Int32) :=
  (fn_X9_seeWord  μ).bind fun q1 =>
  if q1.2 = (120 : Int32) then
    fp_X9_times_14   q1.1
  else
    (fn_X9_wrong (1 : Int32) q1.1).bind fun q3 =>
    fp_X9_times_14   q3
theorem fe_X9_times   (μ : kb_S) : fn_X9_times   μ =
  (fn_X9_seeWord  μ).bind fun q1 =>
  if q1.2 = (120 : Int32) then
    fp_X9_times_14   q1.1
  else
    (fn_X9_wrong (1 : Int32) q1.1).bind fun q3 =>
    fp_X9_times_14   q3 := rfl
theorem hd_X9_times : yX9_times.cls = RX9 ∧ yX9_times.cls ≠ "java/lang/invoke/MethodHandle" ∧ yX9_times.cls ≠ "java/lang/invoke/VarHandle" ∧ (parseMethodDescriptor yX9_times.desc).map (fun d => d.parameters.length) = some 0 := by decide +kernel
set_option maxRecDepth 100000 in
set_option maxHeartbeats 4000000 in
theorem ct_X9_times (l : Launch) (V : kb_V) (A : Nat → Prop)   (d : Nat → Nat) (μ : kb_S) (ex : va_W) {μ9 : kb_S} {r : Int32} (hf : fn_X9_times   μ = some (μ9, r)) : kb_T l yX9_times cX9_times 1 (some .int) ({ frames := 3, cells := 0, slots := 0, locals := 63 } : Room) V A [.ref (d 0)] (kb_WM V d μ ex) (some (.int r)) (kb_WM V d μ9 ex) 0 0 := by
  refine kb_start (cc := cX9_times) (nL := 1) (ret := (some .int)) (own := RX9) (by decide) rfl (Nat.le_of_ble_eq_true rfl) ?_
  intro p e s m args below meth c C
  have hp14 : ∀ (μ : kb_S), fp_X9_times_14   μ = some (μ9, r) → kb_J p l e ({ frames := 3, cells := 0, slots := 0, locals := 63 } : Room) s m args below meth c 1 V A 0 0 (MQ below (kb_post V A (some (.int r)) (kb_WM V d μ9 ex)) args s 0 0 A) 14 [(0, .ref (d 0))] [] (kb_WM V d μ ex) := by
    intro μ hf
    rw [fp_X9_times_14_e] at hf
    refine kj_aload_n (pc := 14) C 0 dX9_times_14 rfl rfl ?_
    refine kg_X9_fault (pc := 15) (v := (kb_g μ 6)) C wf_X9_114 dX9_times_15 rfl ?_
    refine kj_if_le (pc := 18) 23 C dX9_times_18 (by decide) (fun c1 => ?_) (fun c1 => ?_)
    · have hf := kb_ift hf c1
      refine kj_aload_n (pc := 23) C 0 dX9_times_23 rfl rfl ?_
      refine kj_dup (pc := 24) C dX9_times_24 rfl ?_
      refine kg_X9_at (pc := 25) (v := (kb_g μ 5)) C wf_X9_107 dX9_times_25 rfl ?_
      refine kj_iconst (pc := 28) (v := (1 : Int32)) C dX9_times_28 (by decide) ?_
      refine kj_iadd (pc := 29) C dX9_times_29 ?_
      refine kp_X9_at (pc := 30) C wf_X9_107 dX9_times_30 ?_
      refine kj_aload_n (pc := 33) C 0 dX9_times_33 rfl rfl ?_
      refine kj_iconst (pc := 34) (v := (2 : Int32)) C dX9_times_34 (by decide) ?_
      obtain ⟨q2, hq2, hf⟩ := kb_bd hf
      refine kj_callV0 (pc := 35) (as := [.int (2 : Int32)]) (rest := []) (b := (d 0)) C (ct_X9_count l V A (2 : Int32) d (kb_p μ 5 ((kb_g μ 5) + (1 : Int32))) ex hq2) wd_X9_count wk_X9_130 wi_X9_count ws_X9_count wz_X9 rfl rfl hd_X9_count ⟨by decide, by decide⟩ 0 rfl rfl rfl rfl (Nat.le_of_ble_eq_true rfl) (by decide) dX9_times_35 ?_
      cases hf
      exact kj_iret (pc := 38) C dX9_times_38
    · have hf := kb_ife hf c1
      refine kj_iconst (pc := 21) (v := (0 : Int32)) C dX9_times_21 (by decide) ?_
      cases hf
      exact kj_iret (pc := 22) C dX9_times_22
  refine kj_sub [0] (L2 := [(0, .ref (d 0))]) rfl ?_
  rw [fe_X9_times] at hf
  refine kj_aload_n (pc := 0) C 0 dX9_times_0 rfl rfl ?_
  obtain ⟨q1, hq1, hf⟩ := kb_bd hf
  refine kj_callV0 (pc := 1) (as := []) (rest := []) (b := (d 0)) C (ct_X9_seeWord l V A  d μ ex hq1) wd_X9_seeWord wk_X9_138 wi_X9_seeWord ws_X9_seeWord wz_X9 rfl rfl hd_X9_seeWord ⟨by decide, by decide⟩ 0 rfl rfl rfl rfl (Nat.le_of_ble_eq_true rfl) (by decide) dX9_times_1 ?_
  refine kj_bipush (pc := 4) (v := (120 : Int32)) C dX9_times_4 (by decide) ?_
  refine kj_icmp_eq (pc := 6) 14 C dX9_times_6 (by decide) (fun c2 => ?_) (fun c2 => ?_)
  · have hf := kb_ift hf c2
    exact hp14 q1.1 hf
  · have hf := kb_ife hf c2
    refine kj_aload_n (pc := 9) C 0 dX9_times_9 rfl rfl ?_
    refine kj_iconst (pc := 10) (v := (1 : Int32)) C dX9_times_10 (by decide) ?_
    obtain ⟨q3, hq3, hf⟩ := kb_bd hf
    refine kj_callV0 (pc := 11) (as := [.int (1 : Int32)]) (rest := []) (b := (d 0)) C (ct_X9_wrong l V A (1 : Int32) d q1.1 ex hq3) wd_X9_wrong wk_X9_120 wi_X9_wrong ws_X9_wrong wz_X9 rfl rfl hd_X9_wrong ⟨by decide, by decide⟩ 0 rfl rfl rfl rfl (Nat.le_of_ble_eq_true rfl) (by decide) dX9_times_11 ?_
    exact hp14 q3 hf
def fp_X9_shuts_52   (x1 : Int32) (y0 : Int32) (μ : kb_S) : Option (kb_S) :=
  if kb_in x1 220 = true then
    if kb_in x1 220 = true then
      if kb_in (kb_g μ 9) 220 = true then
        if kb_in x1 220 = true then
          (fn_X9_add (21 : Int32) (0 : Int32) (kb_a μ 11 x1.toNatClampNeg) (kb_ap (kb_ap (kb_ap μ 12 x1.toNatClampNeg (kb_g μ 9)) 10 x1.toNatClampNeg y0) 12 (kb_g μ 9).toNatClampNeg x1)).bind fun q5 =>
          some q5
        else none
      else none
    else none
  else none
theorem fp_X9_shuts_52_e   (x1 : Int32) (y0 : Int32) (μ : kb_S) : fp_X9_shuts_52  x1 y0 μ =
  if kb_in x1 220 = true then
    if kb_in x1 220 = true then
      if kb_in (kb_g μ 9) 220 = true then
        if kb_in x1 220 = true then
          (fn_X9_add (21 : Int32) (0 : Int32) (kb_a μ 11 x1.toNatClampNeg) (kb_ap (kb_ap (kb_ap μ 12 x1.toNatClampNeg (kb_g μ 9)) 10 x1.toNatClampNeg y0) 12 (kb_g μ 9).toNatClampNeg x1)).bind fun q5 =>
          some q5
        else none
      else none
    else none
  else none := rfl
def fn_X9_shuts   (μ : kb_S) : Option (kb_S) :=
  if kb_in (kb_g μ 8) 5 = true then
    if kb_in (kb_a μ 17 (kb_g μ 8).toNatClampNeg) 220 = true then
      if (kb_a μ 9 (kb_a μ 17 (kb_g μ 8).toNatClampNeg).toNatClampNeg) = (20 : Int32) then
        (fn_X9_times  (kb_p (kb_p μ 5 ((kb_g μ 5) + (1 : Int32))) 8 ((kb_g μ 8) - (1 : Int32)))).bind fun q4 =>
        fp_X9_shuts_52   (kb_a μ 17 (kb_g μ 8).toNatClampNeg) q4.2 q4.1
      else
        (fn_X9_last  (kb_p (kb_p μ 5 ((kb_g μ 5) + (1 : Int32))) 8 ((kb_g μ 8) - (1 : Int32)))).bind fun q4 =>
        fp_X9_shuts_52   (kb_a μ 17 (kb_g μ 8).toNatClampNeg) q4.2 q4.1
    else none
  else none
theorem fe_X9_shuts   (μ : kb_S) : fn_X9_shuts   μ =
  if kb_in (kb_g μ 8) 5 = true then
    if kb_in (kb_a μ 17 (kb_g μ 8).toNatClampNeg) 220 = true then
      if (kb_a μ 9 (kb_a μ 17 (kb_g μ 8).toNatClampNeg).toNatClampNeg) = (20 : Int32) then
        (fn_X9_times  (kb_p (kb_p μ 5 ((kb_g μ 5) + (1 : Int32))) 8 ((kb_g μ 8) - (1 : Int32)))).bind fun q4 =>
        fp_X9_shuts_52   (kb_a μ 17 (kb_g μ 8).toNatClampNeg) q4.2 q4.1
      else
        (fn_X9_last  (kb_p (kb_p μ 5 ((kb_g μ 5) + (1 : Int32))) 8 ((kb_g μ 8) - (1 : Int32)))).bind fun q4 =>
        fp_X9_shuts_52   (kb_a μ 17 (kb_g μ 8).toNatClampNeg) q4.2 q4.1
    else none
  else none := rfl
theorem hd_X9_shuts : yX9_shuts.cls = RX9 ∧ yX9_shuts.cls ≠ "java/lang/invoke/MethodHandle" ∧ yX9_shuts.cls ≠ "java/lang/invoke/VarHandle" ∧ (parseMethodDescriptor yX9_shuts.desc).map (fun d => d.parameters.length) = some 0 := by decide +kernel
set_option maxRecDepth 100000 in
set_option maxHeartbeats 4000000 in
theorem ct_X9_shuts (l : Launch) (V : kb_V) (A : Nat → Prop)   (d : Nat → Nat) (μ : kb_S) (ex : va_W) {μ9 : kb_S} (hf : fn_X9_shuts   μ = some μ9) : kb_T l yX9_shuts cX9_shuts 3 none ({ frames := 4, cells := 0, slots := 0, locals := 84 } : Room) V A [.ref (d 0)] (kb_WM V d μ ex) none (kb_WM V d μ9 ex) 0 0 := by
  refine kb_start (cc := cX9_shuts) (nL := 3) (ret := none) (own := RX9) (by decide) rfl (Nat.le_of_ble_eq_true rfl) ?_
  intro p e s m args below meth c C
  have hp52 : ∀ (x1 : Int32) (y0 : Int32) (μ : kb_S), fp_X9_shuts_52   x1 y0 μ = some μ9 → kb_J p l e ({ frames := 4, cells := 0, slots := 0, locals := 84 } : Room) s m args below meth c 3 V A 0 0 (MQ below (kb_post V A none (kb_WM V d μ9 ex)) args s 0 0 A) 52 [(0, .ref (d 0)), (1, .int x1)] [.int y0] (kb_WM V d μ ex) := by
    intro x1 y0 μ hf
    rw [fp_X9_shuts_52_e] at hf
    refine kj_istore_n (pc := 52) C [1, 2, 0] (L2 := [(0, .ref (d 0)), (1, .int x1), (2, .int y0)]) dX9_shuts_52 rfl (by decide) rfl ?_
    refine kj_aload_n (pc := 53) C 0 dX9_shuts_53 rfl rfl ?_
    refine kg_X9_other (pc := 54) C wf_X9_47 dX9_shuts_54 ?_
    refine kj_iload_n (pc := 57) C 1 dX9_shuts_57 rfl rfl ?_
    refine kj_aload_n (pc := 58) C 0 dX9_shuts_58 rfl rfl ?_
    refine kg_X9_marks (pc := 59) (v := (kb_g μ 9)) C wf_X9_123 dX9_shuts_59 rfl ?_
    obtain ⟨g1, hf⟩ := kb_gd hf
    refine ks_X9_other (pc := 62) C g1 dX9_shuts_62 ?_
    refine kj_aload_n (pc := 63) C 0 dX9_shuts_63 rfl rfl ?_
    refine kg_X9_number (pc := 64) C wf_X9_41 dX9_shuts_64 ?_
    refine kj_iload_n (pc := 67) C 1 dX9_shuts_67 rfl rfl ?_
    refine kj_iload_n (pc := 68) C 2 dX9_shuts_68 rfl rfl ?_
    obtain ⟨g2, hf⟩ := kb_gd hf
    refine ks_X9_number (pc := 69) C g2 dX9_shuts_69 ?_
    refine kj_aload_n (pc := 70) C 0 dX9_shuts_70 rfl rfl ?_
    refine kg_X9_other (pc := 71) C wf_X9_47 dX9_shuts_71 ?_
    refine kj_aload_n (pc := 74) C 0 dX9_shuts_74 rfl rfl ?_
    refine kg_X9_marks (pc := 75) (v := (kb_g μ 9)) C wf_X9_123 dX9_shuts_75 rfl ?_
    refine kj_iload_n (pc := 78) C 1 dX9_shuts_78 rfl rfl ?_
    obtain ⟨g3, hf⟩ := kb_gd hf
    refine ks_X9_other (pc := 79) C g3 dX9_shuts_79 ?_
    refine kj_aload_n (pc := 80) C 0 dX9_shuts_80 rfl rfl ?_
    refine kj_bipush (pc := 81) (v := (21 : Int32)) C dX9_shuts_81 (by decide) ?_
    refine kj_iconst (pc := 83) (v := (0 : Int32)) C dX9_shuts_83 (by decide) ?_
    refine kj_aload_n (pc := 84) C 0 dX9_shuts_84 rfl rfl ?_
    refine kg_X9_where (pc := 85) C wf_X9_44 dX9_shuts_85 ?_
    refine kj_iload_n (pc := 88) C 1 dX9_shuts_88 rfl rfl ?_
    obtain ⟨g4, hf⟩ := kb_gd hf
    refine ka_X9_where (pc := 89) (v := (kb_a μ 11 x1.toNatClampNeg)) C g4 dX9_shuts_89 rfl ?_
    obtain ⟨q5, hq5, hf⟩ := kb_bd hf
    refine kj_callV0 (pc := 90) (as := [.int (21 : Int32), .int (0 : Int32), .int (kb_a μ 11 x1.toNatClampNeg)]) (rest := []) (b := (d 0)) C (ct_X9_add l V A (21 : Int32) (0 : Int32) (kb_a μ 11 x1.toNatClampNeg) d (kb_ap (kb_ap (kb_ap μ 12 x1.toNatClampNeg (kb_g μ 9)) 10 x1.toNatClampNeg y0) 12 (kb_g μ 9).toNatClampNeg x1) ex hq5) wd_X9_add wk_X9_134 wi_X9_add ws_X9_add wz_X9 rfl rfl hd_X9_add ⟨by decide, by decide⟩ 0 rfl rfl rfl rfl (Nat.le_of_ble_eq_true rfl) (by decide) dX9_shuts_90 ?_
    cases hf
    exact kj_vret (pc := 93) C dX9_shuts_93
  refine kj_sub [0] (L2 := [(0, .ref (d 0))]) rfl ?_
  rw [fe_X9_shuts] at hf
  refine kj_aload_n (pc := 0) C 0 dX9_shuts_0 rfl rfl ?_
  refine kj_dup (pc := 1) C dX9_shuts_1 rfl ?_
  refine kg_X9_at (pc := 2) (v := (kb_g μ 5)) C wf_X9_107 dX9_shuts_2 rfl ?_
  refine kj_iconst (pc := 5) (v := (1 : Int32)) C dX9_shuts_5 (by decide) ?_
  refine kj_iadd (pc := 6) C dX9_shuts_6 ?_
  refine kp_X9_at (pc := 7) C wf_X9_107 dX9_shuts_7 ?_
  refine kj_aload_n (pc := 10) C 0 dX9_shuts_10 rfl rfl ?_
  refine kg_X9_open (pc := 11) C wf_X9_62 dX9_shuts_11 ?_
  refine kj_aload_n (pc := 14) C 0 dX9_shuts_14 rfl rfl ?_
  refine kg_X9_depth (pc := 15) (v := (kb_g μ 8)) C wf_X9_141 dX9_shuts_15 rfl ?_
  obtain ⟨g1, hf⟩ := kb_gd hf
  refine ka_X9_open (pc := 18) (v := (kb_a μ 17 (kb_g μ 8).toNatClampNeg)) C g1 dX9_shuts_18 rfl ?_
  refine kj_istore_n (pc := 19) C [1, 0] (L2 := [(0, .ref (d 0)), (1, .int (kb_a μ 17 (kb_g μ 8).toNatClampNeg))]) dX9_shuts_19 rfl (by decide) rfl ?_
  refine kj_aload_n (pc := 20) C 0 dX9_shuts_20 rfl rfl ?_
  refine kj_dup (pc := 21) C dX9_shuts_21 rfl ?_
  refine kg_X9_depth (pc := 22) (v := (kb_g μ 8)) C wf_X9_141 dX9_shuts_22 rfl ?_
  refine kj_iconst (pc := 25) (v := (1 : Int32)) C dX9_shuts_25 (by decide) ?_
  refine kj_isub (pc := 26) C dX9_shuts_26 ?_
  refine kp_X9_depth (pc := 27) C wf_X9_141 dX9_shuts_27 ?_
  refine kj_aload_n (pc := 30) C 0 dX9_shuts_30 rfl rfl ?_
  refine kg_X9_mark (pc := 31) C wf_X9_38 dX9_shuts_31 ?_
  refine kj_iload_n (pc := 34) C 1 dX9_shuts_34 rfl rfl ?_
  obtain ⟨g2, hf⟩ := kb_gd hf
  refine ka_X9_mark (pc := 35) (v := (kb_a μ 9 (kb_a μ 17 (kb_g μ 8).toNatClampNeg).toNatClampNeg)) C g2 dX9_shuts_35 rfl ?_
  refine kj_bipush (pc := 36) (v := (20 : Int32)) C dX9_shuts_36 (by decide) ?_
  refine kj_icmp_ne (pc := 38) 48 C dX9_shuts_38 (by decide) (fun c3 => ?_) (fun c3 => ?_)
  · have hf := kb_ife hf c3
    refine kj_aload_n (pc := 48) C 0 dX9_shuts_48 rfl rfl ?_
    obtain ⟨q4, hq4, hf⟩ := kb_bd hf
    refine kj_callV0 (pc := 49) (as := []) (rest := []) (b := (d 0)) C (ct_X9_last l V A  d (kb_p (kb_p μ 5 ((kb_g μ 5) + (1 : Int32))) 8 ((kb_g μ 8) - (1 : Int32))) ex hq4) wd_X9_last wk_X9_161 wi_X9_last ws_X9_last wz_X9 rfl rfl hd_X9_last ⟨by decide, by decide⟩ 0 rfl rfl rfl rfl (Nat.le_of_ble_eq_true rfl) (by decide) dX9_shuts_49 ?_
    exact hp52 (kb_a μ 17 (kb_g μ 8).toNatClampNeg) q4.2 q4.1 hf
  · have hf := kb_ift hf c3
    refine kj_aload_n (pc := 41) C 0 dX9_shuts_41 rfl rfl ?_
    obtain ⟨q4, hq4, hf⟩ := kb_bd hf
    refine kj_callV0 (pc := 42) (as := []) (rest := []) (b := (d 0)) C (ct_X9_times l V A  d (kb_p (kb_p μ 5 ((kb_g μ 5) + (1 : Int32))) 8 ((kb_g μ 8) - (1 : Int32))) ex hq4) wd_X9_times wk_X9_158 wi_X9_times ws_X9_times wz_X9 rfl rfl hd_X9_times ⟨by decide, by decide⟩ 0 rfl rfl rfl rfl (Nat.le_of_ble_eq_true rfl) (by decide) dX9_shuts_42 ?_
    refine kj_goto (pc := 45) 52 C dX9_shuts_45 (by decide) ?_
    exact hp52 (kb_a μ 17 (kb_g μ 8).toNatClampNeg) q4.2 q4.1 hf
def fp_X9_line_136   (μ : kb_S) : Option (kb_S) :=
  if (kb_g μ 6) = 0 then
    if (kb_g μ 8) ≤ 0 then
      some μ
    else
      (fn_X9_wrong (1 : Int32) μ).bind fun q3 =>
      some q3
  else
    some μ
theorem fp_X9_line_136_e   (μ : kb_S) : fp_X9_line_136  μ =
  if (kb_g μ 6) = 0 then
    if (kb_g μ 8) ≤ 0 then
      some μ
    else
      (fn_X9_wrong (1 : Int32) μ).bind fun q3 =>
      some q3
  else
    some μ := rfl
def fp_X9_line_45  (kc4 : Int32 → Int32 → kb_S → Option (kb_S)) (x2 : Int32) (x3 : Int32) (x4 : Int32) (μ : kb_S) : Option (kb_S) :=
  (fn_X9_opens x3 x4 μ).bind fun q1 =>
  kc4 (0 : Int32) x2 q1
theorem fp_X9_line_45_e  (kc4 : Int32 → Int32 → kb_S → Option (kb_S)) (x2 : Int32) (x3 : Int32) (x4 : Int32) (μ : kb_S) : fp_X9_line_45 kc4 x2 x3 x4 μ =
  (fn_X9_opens x3 x4 μ).bind fun q1 =>
  kc4 (0 : Int32) x2 q1 := rfl
def fp_X9_line_133  (kc4 : Int32 → Int32 → kb_S → Option (kb_S)) (x1 : Int32) (x2 : Int32) (μ : kb_S) : Option (kb_S) :=
  kc4 x1 x2 μ
theorem fp_X9_line_133_e  (kc4 : Int32 → Int32 → kb_S → Option (kb_S)) (x1 : Int32) (x2 : Int32) (μ : kb_S) : fp_X9_line_133 kc4 x1 x2 μ =
  kc4 x1 x2 μ := rfl
def fp_X9_line_118  (kc4 : Int32 → Int32 → kb_S → Option (kb_S)) (x1 : Int32) (y0 : Int32) (μ : kb_S) : Option (kb_S) :=
  if y0 = 0 then
    fp_X9_line_133  kc4 x1 y0 μ
  else
    fp_X9_line_133  kc4 x1 y0 (kb_p μ 5 ((kb_g μ 5) + (1 : Int32)))
theorem fp_X9_line_118_e  (kc4 : Int32 → Int32 → kb_S → Option (kb_S)) (x1 : Int32) (y0 : Int32) (μ : kb_S) : fp_X9_line_118 kc4 x1 y0 μ =
  if y0 = 0 then
    fp_X9_line_133  kc4 x1 y0 μ
  else
    fp_X9_line_133  kc4 x1 y0 (kb_p μ 5 ((kb_g μ 5) + (1 : Int32))) := rfl
def fp_X9_line_117  (kc4 : Int32 → Int32 → kb_S → Option (kb_S)) (x1 : Int32) (μ : kb_S) : Option (kb_S) :=
  fp_X9_line_118  kc4 x1 (0 : Int32) μ
theorem fp_X9_line_117_e  (kc4 : Int32 → Int32 → kb_S → Option (kb_S)) (x1 : Int32) (μ : kb_S) : fp_X9_line_117 kc4 x1 μ =
  fp_X9_line_118  kc4 x1 (0 : Int32) μ := rfl
def fp_X9_line_97  (kc4 : Int32 → Int32 → kb_S → Option (kb_S)) (x1 : Int32) (μ : kb_S) : Option (kb_S) :=
  if (kb_g μ 6) = 0 then
    (fn_X9_seeWord  μ).bind fun q2 =>
    if q2.2 = (44 : Int32) then
      fp_X9_line_118  kc4 x1 (1 : Int32) q2.1
    else
      fp_X9_line_117  kc4 x1 q2.1
  else
    fp_X9_line_117  kc4 x1 μ
theorem fp_X9_line_97_e  (kc4 : Int32 → Int32 → kb_S → Option (kb_S)) (x1 : Int32) (μ : kb_S) : fp_X9_line_97 kc4 x1 μ =
  if (kb_g μ 6) = 0 then
    (fn_X9_seeWord  μ).bind fun q2 =>
    if q2.2 = (44 : Int32) then
      fp_X9_line_118  kc4 x1 (1 : Int32) q2.1
    else
      fp_X9_line_117  kc4 x1 q2.1
  else
    fp_X9_line_117  kc4 x1 μ := rfl
def fp_X9_line_67  (kc4 : Int32 → Int32 → kb_S → Option (kb_S)) : Nat → Int32 → kb_S → Option (kb_S)
  | 0 => fun _ _ => none
  | nn + 1 => fun x1 μ => 
  if (kb_g μ 6) = 0 then
    if (kb_g μ 8) ≤ 0 then
      fp_X9_line_97  kc4 x1 μ
    else
      (fn_X9_seeWord  μ).bind fun q3 =>
      if q3.2 = (41 : Int32) then
        (fn_X9_shuts  q3.1).bind fun q5 =>
        (fp_X9_line_67 kc4 nn) x1 q5
      else
        fp_X9_line_97  kc4 x1 q3.1
  else
    fp_X9_line_97  kc4 x1 μ
theorem fp_X9_line_67_s  (kc4 : Int32 → Int32 → kb_S → Option (kb_S)) (nn : Nat) (x1 : Int32) (μ : kb_S) : fp_X9_line_67 kc4 (nn + 1) x1 μ =
  if (kb_g μ 6) = 0 then
    if (kb_g μ 8) ≤ 0 then
      fp_X9_line_97  kc4 x1 μ
    else
      (fn_X9_seeWord  μ).bind fun q3 =>
      if q3.2 = (41 : Int32) then
        (fn_X9_shuts  q3.1).bind fun q5 =>
        (fp_X9_line_67 kc4 nn) x1 q5
      else
        fp_X9_line_97  kc4 x1 q3.1
  else
    fp_X9_line_97  kc4 x1 μ := rfl
def fp_X9_line_57  (kc4 : Int32 → Int32 → kb_S → Option (kb_S)) (x1 : Int32) (x3 : Int32) (x4 : Int32) (μ : kb_S) : Option (kb_S) :=
  (fn_X9_named x3 x4 x1 μ).bind fun q1 =>
  fp_X9_line_67  kc4 kb_FU (0 : Int32) q1
theorem fp_X9_line_57_e  (kc4 : Int32 → Int32 → kb_S → Option (kb_S)) (x1 : Int32) (x3 : Int32) (x4 : Int32) (μ : kb_S) : fp_X9_line_57 kc4 x1 x3 x4 μ =
  (fn_X9_named x3 x4 x1 μ).bind fun q1 =>
  fp_X9_line_67  kc4 kb_FU (0 : Int32) q1 := rfl
def fp_X9_line_4   : Nat → Int32 → Int32 → kb_S → Option (kb_S)
  | 0 => fun _ _ _ => none
  | nn + 1 => fun x1 x2 μ => 
  if x2 = 0 then
    fp_X9_line_136   μ
  else
    if (kb_g μ 6) = 0 then
      (fn_X9_seeWord  μ).bind fun q3 =>
      if q3.2 = (40 : Int32) then
        fp_X9_line_45  (fp_X9_line_4  nn) x2 q3.2 (kb_g q3.1 5) q3.1
      else
        if q3.2 = (114 : Int32) then
          if (kb_g q3.1 8) = 0 then
            fp_X9_line_45  (fp_X9_line_4  nn) x2 q3.2 (kb_g q3.1 5) q3.1
          else
            fp_X9_line_57  (fp_X9_line_4  nn) x1 q3.2 (kb_g q3.1 5) q3.1
        else
          fp_X9_line_57  (fp_X9_line_4  nn) x1 q3.2 (kb_g q3.1 5) q3.1
    else
      fp_X9_line_136   μ
theorem fp_X9_line_4_s   (nn : Nat) (x1 : Int32) (x2 : Int32) (μ : kb_S) : fp_X9_line_4  (nn + 1) x1 x2 μ =
  if x2 = 0 then
    fp_X9_line_136   μ
  else
    if (kb_g μ 6) = 0 then
      (fn_X9_seeWord  μ).bind fun q3 =>
      if q3.2 = (40 : Int32) then
        fp_X9_line_45  (fp_X9_line_4  nn) x2 q3.2 (kb_g q3.1 5) q3.1
      else
        if q3.2 = (114 : Int32) then
          if (kb_g q3.1 8) = 0 then
            fp_X9_line_45  (fp_X9_line_4  nn) x2 q3.2 (kb_g q3.1 5) q3.1
          else
            fp_X9_line_57  (fp_X9_line_4  nn) x1 q3.2 (kb_g q3.1 5) q3.1
        else
          fp_X9_line_57  (fp_X9_line_4  nn) x1 q3.2 (kb_g q3.1 5) q3.1
    else
      fp_X9_line_136   μ := rfl
def fn_X9_line   (μ : kb_S) : Option (kb_S) :=
  fp_X9_line_4   kb_FU (1 : Int32) (1 : Int32) μ
theorem fe_X9_line   (μ : kb_S) : fn_X9_line   μ =
  fp_X9_line_4   kb_FU (1 : Int32) (1 : Int32) μ := rfl
theorem hd_X9_line : yX9_line.cls = RX9 ∧ yX9_line.cls ≠ "java/lang/invoke/MethodHandle" ∧ yX9_line.cls ≠ "java/lang/invoke/VarHandle" ∧ (parseMethodDescriptor yX9_line.desc).map (fun d => d.parameters.length) = some 0 := by decide +kernel
set_option maxRecDepth 100000 in
set_option maxHeartbeats 4000000 in
theorem ct_X9_line (l : Launch) (V : kb_V) (A : Nat → Prop)   (d : Nat → Nat) (μ : kb_S) (ex : va_W) {μ9 : kb_S} (hf : fn_X9_line   μ = some μ9) : kb_T l yX9_line cX9_line 5 none ({ frames := 6, cells := 0, slots := 0, locals := 133 } : Room) V A [.ref (d 0)] (kb_WM V d μ ex) none (kb_WM V d μ9 ex) 0 0 := by
  refine kb_start (cc := cX9_line) (nL := 5) (ret := none) (own := RX9) (by decide) rfl (Nat.le_of_ble_eq_true rfl) ?_
  intro p e s m args below meth c C
  have hp136 : ∀ (μ : kb_S), fp_X9_line_136   μ = some μ9 → kb_J p l e ({ frames := 6, cells := 0, slots := 0, locals := 133 } : Room) s m args below meth c 5 V A 0 0 (MQ below (kb_post V A none (kb_WM V d μ9 ex)) args s 0 0 A) 136 [(0, .ref (d 0))] [] (kb_WM V d μ ex) := by
    intro μ hf
    rw [fp_X9_line_136_e] at hf
    refine kj_aload_n (pc := 136) C 0 dX9_line_136 rfl rfl ?_
    refine kg_X9_fault (pc := 137) (v := (kb_g μ 6)) C wf_X9_114 dX9_line_137 rfl ?_
    refine kj_if_ne (pc := 140) 155 C dX9_line_140 (by decide) (fun c1 => ?_) (fun c1 => ?_)
    · have hf := kb_ife hf c1
      cases hf
      exact kj_vret (pc := 155) C dX9_line_155
    · have hf := kb_ift hf c1
      refine kj_aload_n (pc := 143) C 0 dX9_line_143 rfl rfl ?_
      refine kg_X9_depth (pc := 144) (v := (kb_g μ 8)) C wf_X9_141 dX9_line_144 rfl ?_
      refine kj_if_le (pc := 147) 155 C dX9_line_147 (by decide) (fun c2 => ?_) (fun c2 => ?_)
      · have hf := kb_ift hf c2
        cases hf
        exact kj_vret (pc := 155) C dX9_line_155
      · have hf := kb_ife hf c2
        refine kj_aload_n (pc := 150) C 0 dX9_line_150 rfl rfl ?_
        refine kj_iconst (pc := 151) (v := (1 : Int32)) C dX9_line_151 (by decide) ?_
        obtain ⟨q3, hq3, hf⟩ := kb_bd hf
        refine kj_callV0 (pc := 152) (as := [.int (1 : Int32)]) (rest := []) (b := (d 0)) C (ct_X9_wrong l V A (1 : Int32) d μ ex hq3) wd_X9_wrong wk_X9_120 wi_X9_wrong ws_X9_wrong wz_X9 rfl rfl hd_X9_wrong ⟨by decide, by decide⟩ 0 rfl rfl rfl rfl (Nat.le_of_ble_eq_true rfl) (by decide) dX9_line_152 ?_
        cases hf
        exact kj_vret (pc := 155) C dX9_line_155
  have hp4 : ∀ (nn : Nat) (x1 : Int32) (x2 : Int32) (μ : kb_S), fp_X9_line_4   nn x1 x2 μ = some μ9 → kb_J p l e ({ frames := 6, cells := 0, slots := 0, locals := 133 } : Room) s m args below meth c 5 V A 0 0 (MQ below (kb_post V A none (kb_WM V d μ9 ex)) args s 0 0 A) 4 [(0, .ref (d 0)), (1, .int x1), (2, .int x2)] [] (kb_WM V d μ ex) := by
    intro nn4
    induction nn4 with
    | zero => intro x1 x2 μ hf; exact kb_no hf
    | succ nn4 ih4 =>
      have hp45 : ∀ (x2 : Int32) (x3 : Int32) (x4 : Int32) (μ : kb_S), fp_X9_line_45  (fp_X9_line_4   nn4) x2 x3 x4 μ = some μ9 → kb_J p l e ({ frames := 6, cells := 0, slots := 0, locals := 133 } : Room) s m args below meth c 5 V A 0 0 (MQ below (kb_post V A none (kb_WM V d μ9 ex)) args s 0 0 A) 45 [(0, .ref (d 0)), (2, .int x2), (3, .int x3), (4, .int x4)] [] (kb_WM V d μ ex) := by
        intro x2 x3 x4 μ hf
        rw [fp_X9_line_45_e] at hf
        refine kj_aload_n (pc := 45) C 0 dX9_line_45 rfl rfl ?_
        refine kj_iload_n (pc := 46) C 2 dX9_line_46 rfl rfl ?_
        refine kj_iload (pc := 47) C 3 dX9_line_47 rfl ?_
        obtain ⟨q1, hq1, hf⟩ := kb_bd hf
        refine kj_callV0 (pc := 49) (as := [.int x3, .int x4]) (rest := []) (b := (d 0)) C (ct_X9_opens l V A x3 x4 d μ ex hq1) wd_X9_opens wk_X9_144 wi_X9_opens ws_X9_opens wz_X9 rfl rfl hd_X9_opens ⟨by decide, by decide⟩ 0 rfl rfl rfl rfl (Nat.le_of_ble_eq_true rfl) (by decide) dX9_line_49 ?_
        refine kj_iconst (pc := 52) (v := (0 : Int32)) C dX9_line_52 (by decide) ?_
        refine kj_istore_n (pc := 53) C [1, 0, 2, 3, 4] (L2 := [(0, .ref (d 0)), (1, .int (0 : Int32)), (2, .int x2), (3, .int x3), (4, .int x4)]) dX9_line_53 rfl (by decide) rfl ?_
        refine kj_goto (pc := 54) 4 C dX9_line_54 (by decide) ?_
        refine kj_sub [0, 1, 2] (L2 := [(0, .ref (d 0)), (1, .int (0 : Int32)), (2, .int x2)]) rfl ?_
        exact ih4 (0 : Int32) x2 q1 hf
      have hp133 : ∀ (x1 : Int32) (x2 : Int32) (μ : kb_S), fp_X9_line_133  (fp_X9_line_4   nn4) x1 x2 μ = some μ9 → kb_J p l e ({ frames := 6, cells := 0, slots := 0, locals := 133 } : Room) s m args below meth c 5 V A 0 0 (MQ below (kb_post V A none (kb_WM V d μ9 ex)) args s 0 0 A) 133 [(0, .ref (d 0)), (1, .int x1), (2, .int x2)] [] (kb_WM V d μ ex) := by
        intro x1 x2 μ hf
        rw [fp_X9_line_133_e] at hf
        refine kj_goto (pc := 133) 4 C dX9_line_133 (by decide) ?_
        exact ih4 x1 x2 μ hf
      have hp118 : ∀ (x1 : Int32) (y0 : Int32) (μ : kb_S), fp_X9_line_118  (fp_X9_line_4   nn4) x1 y0 μ = some μ9 → kb_J p l e ({ frames := 6, cells := 0, slots := 0, locals := 133 } : Room) s m args below meth c 5 V A 0 0 (MQ below (kb_post V A none (kb_WM V d μ9 ex)) args s 0 0 A) 118 [(0, .ref (d 0)), (1, .int x1)] [.int y0] (kb_WM V d μ ex) := by
        intro x1 y0 μ hf
        rw [fp_X9_line_118_e] at hf
        refine kj_istore_n (pc := 118) C [1, 2, 0] (L2 := [(0, .ref (d 0)), (1, .int x1), (2, .int y0)]) dX9_line_118 rfl (by decide) rfl ?_
        refine kj_iload_n (pc := 119) C 2 dX9_line_119 rfl rfl ?_
        refine kj_if_eq (pc := 120) 133 C dX9_line_120 (by decide) (fun c1 => ?_) (fun c1 => ?_)
        · have hf := kb_ift hf c1
          exact hp133 x1 y0 μ hf
        · have hf := kb_ife hf c1
          refine kj_aload_n (pc := 123) C 0 dX9_line_123 rfl rfl ?_
          refine kj_dup (pc := 124) C dX9_line_124 rfl ?_
          refine kg_X9_at (pc := 125) (v := (kb_g μ 5)) C wf_X9_107 dX9_line_125 rfl ?_
          refine kj_iconst (pc := 128) (v := (1 : Int32)) C dX9_line_128 (by decide) ?_
          refine kj_iadd (pc := 129) C dX9_line_129 ?_
          refine kp_X9_at (pc := 130) C wf_X9_107 dX9_line_130 ?_
          exact hp133 x1 y0 (kb_p μ 5 ((kb_g μ 5) + (1 : Int32))) hf
      have hp117 : ∀ (x1 : Int32) (μ : kb_S), fp_X9_line_117  (fp_X9_line_4   nn4) x1 μ = some μ9 → kb_J p l e ({ frames := 6, cells := 0, slots := 0, locals := 133 } : Room) s m args below meth c 5 V A 0 0 (MQ below (kb_post V A none (kb_WM V d μ9 ex)) args s 0 0 A) 117 [(0, .ref (d 0)), (1, .int x1)] [] (kb_WM V d μ ex) := by
        intro x1 μ hf
        rw [fp_X9_line_117_e] at hf
        refine kj_iconst (pc := 117) (v := (0 : Int32)) C dX9_line_117 (by decide) ?_
        exact hp118 x1 (0 : Int32) μ hf
      have hp97 : ∀ (x1 : Int32) (μ : kb_S), fp_X9_line_97  (fp_X9_line_4   nn4) x1 μ = some μ9 → kb_J p l e ({ frames := 6, cells := 0, slots := 0, locals := 133 } : Room) s m args below meth c 5 V A 0 0 (MQ below (kb_post V A none (kb_WM V d μ9 ex)) args s 0 0 A) 97 [(0, .ref (d 0)), (1, .int x1)] [] (kb_WM V d μ ex) := by
        intro x1 μ hf
        rw [fp_X9_line_97_e] at hf
        refine kj_aload_n (pc := 97) C 0 dX9_line_97 rfl rfl ?_
        refine kg_X9_fault (pc := 98) (v := (kb_g μ 6)) C wf_X9_114 dX9_line_98 rfl ?_
        refine kj_if_ne (pc := 101) 117 C dX9_line_101 (by decide) (fun c1 => ?_) (fun c1 => ?_)
        · have hf := kb_ife hf c1
          exact hp117 x1 μ hf
        · have hf := kb_ift hf c1
          refine kj_aload_n (pc := 104) C 0 dX9_line_104 rfl rfl ?_
          obtain ⟨q2, hq2, hf⟩ := kb_bd hf
          refine kj_callV0 (pc := 105) (as := []) (rest := []) (b := (d 0)) C (ct_X9_seeWord l V A  d μ ex hq2) wd_X9_seeWord wk_X9_138 wi_X9_seeWord ws_X9_seeWord wz_X9 rfl rfl hd_X9_seeWord ⟨by decide, by decide⟩ 0 rfl rfl rfl rfl (Nat.le_of_ble_eq_true rfl) (by decide) dX9_line_105 ?_
          refine kj_bipush (pc := 108) (v := (44 : Int32)) C dX9_line_108 (by decide) ?_
          refine kj_icmp_ne (pc := 110) 117 C dX9_line_110 (by decide) (fun c3 => ?_) (fun c3 => ?_)
          · have hf := kb_ife hf c3
            exact hp117 x1 q2.1 hf
          · have hf := kb_ift hf c3
            refine kj_iconst (pc := 113) (v := (1 : Int32)) C dX9_line_113 (by decide) ?_
            refine kj_goto (pc := 114) 118 C dX9_line_114 (by decide) ?_
            exact hp118 x1 (1 : Int32) q2.1 hf
      have hp67 : ∀ (nn : Nat) (x1 : Int32) (μ : kb_S), fp_X9_line_67  (fp_X9_line_4   nn4) nn x1 μ = some μ9 → kb_J p l e ({ frames := 6, cells := 0, slots := 0, locals := 133 } : Room) s m args below meth c 5 V A 0 0 (MQ below (kb_post V A none (kb_WM V d μ9 ex)) args s 0 0 A) 67 [(0, .ref (d 0)), (1, .int x1)] [] (kb_WM V d μ ex) := by
        intro nn67
        induction nn67 with
        | zero => intro x1 μ hf; exact kb_no hf
        | succ nn67 ih67 =>
          intro x1 μ hf
          rw [fp_X9_line_67_s] at hf
          refine kj_aload_n (pc := 67) C 0 dX9_line_67 rfl rfl ?_
          refine kg_X9_fault (pc := 68) (v := (kb_g μ 6)) C wf_X9_114 dX9_line_68 rfl ?_
          refine kj_if_ne (pc := 71) 97 C dX9_line_71 (by decide) (fun c1 => ?_) (fun c1 => ?_)
          · have hf := kb_ife hf c1
            exact hp97 x1 μ hf
          · have hf := kb_ift hf c1
            refine kj_aload_n (pc := 74) C 0 dX9_line_74 rfl rfl ?_
            refine kg_X9_depth (pc := 75) (v := (kb_g μ 8)) C wf_X9_141 dX9_line_75 rfl ?_
            refine kj_if_le (pc := 78) 97 C dX9_line_78 (by decide) (fun c2 => ?_) (fun c2 => ?_)
            · have hf := kb_ift hf c2
              exact hp97 x1 μ hf
            · have hf := kb_ife hf c2
              refine kj_aload_n (pc := 81) C 0 dX9_line_81 rfl rfl ?_
              obtain ⟨q3, hq3, hf⟩ := kb_bd hf
              refine kj_callV0 (pc := 82) (as := []) (rest := []) (b := (d 0)) C (ct_X9_seeWord l V A  d μ ex hq3) wd_X9_seeWord wk_X9_138 wi_X9_seeWord ws_X9_seeWord wz_X9 rfl rfl hd_X9_seeWord ⟨by decide, by decide⟩ 0 rfl rfl rfl rfl (Nat.le_of_ble_eq_true rfl) (by decide) dX9_line_82 ?_
              refine kj_bipush (pc := 85) (v := (41 : Int32)) C dX9_line_85 (by decide) ?_
              refine kj_icmp_ne (pc := 87) 97 C dX9_line_87 (by decide) (fun c4 => ?_) (fun c4 => ?_)
              · have hf := kb_ife hf c4
                exact hp97 x1 q3.1 hf
              · have hf := kb_ift hf c4
                refine kj_aload_n (pc := 90) C 0 dX9_line_90 rfl rfl ?_
                obtain ⟨q5, hq5, hf⟩ := kb_bd hf
                refine kj_callV0 (pc := 91) (as := []) (rest := []) (b := (d 0)) C (ct_X9_shuts l V A  d q3.1 ex hq5) wd_X9_shuts wk_X9_152 wi_X9_shuts ws_X9_shuts wz_X9 rfl rfl hd_X9_shuts ⟨by decide, by decide⟩ 0 rfl rfl rfl rfl (Nat.le_of_ble_eq_true rfl) (by decide) dX9_line_91 ?_
                refine kj_goto (pc := 94) 67 C dX9_line_94 (by decide) ?_
                exact ih67 x1 q5 hf
      have hp57 : ∀ (x1 : Int32) (x3 : Int32) (x4 : Int32) (μ : kb_S), fp_X9_line_57  (fp_X9_line_4   nn4) x1 x3 x4 μ = some μ9 → kb_J p l e ({ frames := 6, cells := 0, slots := 0, locals := 133 } : Room) s m args below meth c 5 V A 0 0 (MQ below (kb_post V A none (kb_WM V d μ9 ex)) args s 0 0 A) 57 [(0, .ref (d 0)), (1, .int x1), (3, .int x3), (4, .int x4)] [] (kb_WM V d μ ex) := by
        intro x1 x3 x4 μ hf
        rw [fp_X9_line_57_e] at hf
        refine kj_aload_n (pc := 57) C 0 dX9_line_57 rfl rfl ?_
        refine kj_iload_n (pc := 58) C 2 dX9_line_58 rfl rfl ?_
        refine kj_iload (pc := 59) C 3 dX9_line_59 rfl ?_
        refine kj_iload_n (pc := 61) C 1 dX9_line_61 rfl rfl ?_
        obtain ⟨q1, hq1, hf⟩ := kb_bd hf
        refine kj_callV0 (pc := 62) (as := [.int x3, .int x4, .int x1]) (rest := []) (b := (d 0)) C (ct_X9_named l V A x3 x4 x1 d μ ex hq1) wd_X9_named wk_X9_148 wi_X9_named ws_X9_named wz_X9 rfl rfl hd_X9_named ⟨by decide, by decide⟩ 0 rfl rfl rfl rfl (Nat.le_of_ble_eq_true rfl) (by decide) dX9_line_62 ?_
        refine kj_iconst (pc := 65) (v := (0 : Int32)) C dX9_line_65 (by decide) ?_
        refine kj_istore_n (pc := 66) C [1, 0, 2, 3] (L2 := [(0, .ref (d 0)), (1, .int (0 : Int32)), (3, .int x3), (4, .int x4)]) dX9_line_66 rfl (by decide) rfl ?_
        refine kj_sub [0, 1] (L2 := [(0, .ref (d 0)), (1, .int (0 : Int32))]) rfl ?_
        exact hp67 kb_FU (0 : Int32) q1 hf
      intro x1 x2 μ hf
      rw [fp_X9_line_4_s] at hf
      refine kj_iload_n (pc := 4) C 2 dX9_line_4 rfl rfl ?_
      refine kj_if_eq (pc := 5) 136 C dX9_line_5 (by decide) (fun c1 => ?_) (fun c1 => ?_)
      · have hf := kb_ift hf c1
        refine kj_sub [0] (L2 := [(0, .ref (d 0))]) rfl ?_
        exact hp136 μ hf
      · have hf := kb_ife hf c1
        refine kj_aload_n (pc := 8) C 0 dX9_line_8 rfl rfl ?_
        refine kg_X9_fault (pc := 9) (v := (kb_g μ 6)) C wf_X9_114 dX9_line_9 rfl ?_
        refine kj_if_ne (pc := 12) 136 C dX9_line_12 (by decide) (fun c2 => ?_) (fun c2 => ?_)
        · have hf := kb_ife hf c2
          refine kj_sub [0] (L2 := [(0, .ref (d 0))]) rfl ?_
          exact hp136 μ hf
        · have hf := kb_ift hf c2
          refine kj_aload_n (pc := 15) C 0 dX9_line_15 rfl rfl ?_
          obtain ⟨q3, hq3, hf⟩ := kb_bd hf
          refine kj_callV0 (pc := 16) (as := []) (rest := []) (b := (d 0)) C (ct_X9_seeWord l V A  d μ ex hq3) wd_X9_seeWord wk_X9_138 wi_X9_seeWord ws_X9_seeWord wz_X9 rfl rfl hd_X9_seeWord ⟨by decide, by decide⟩ 0 rfl rfl rfl rfl (Nat.le_of_ble_eq_true rfl) (by decide) dX9_line_16 ?_
          refine kj_istore_n (pc := 19) C [1, 2, 3, 0] (L2 := [(0, .ref (d 0)), (1, .int x1), (2, .int x2), (3, .int q3.2)]) dX9_line_19 rfl (by decide) rfl ?_
          refine kj_aload_n (pc := 20) C 0 dX9_line_20 rfl rfl ?_
          refine kg_X9_at (pc := 21) (v := (kb_g q3.1 5)) C wf_X9_107 dX9_line_21 rfl ?_
          refine kj_istore (pc := 24) C [1, 2, 3, 4, 0] (L2 := [(0, .ref (d 0)), (1, .int x1), (2, .int x2), (3, .int q3.2), (4, .int (kb_g q3.1 5))]) dX9_line_24 (by decide) rfl ?_
          refine kj_iload_n (pc := 26) C 3 dX9_line_26 rfl rfl ?_
          refine kj_bipush (pc := 27) (v := (40 : Int32)) C dX9_line_27 (by decide) ?_
          refine kj_icmp_eq (pc := 29) 45 C dX9_line_29 (by decide) (fun c4 => ?_) (fun c4 => ?_)
          · have hf := kb_ift hf c4
            refine kj_sub [0, 2, 3, 4] (L2 := [(0, .ref (d 0)), (2, .int x2), (3, .int q3.2), (4, .int (kb_g q3.1 5))]) rfl ?_
            exact hp45 x2 q3.2 (kb_g q3.1 5) q3.1 hf
          · have hf := kb_ife hf c4
            refine kj_iload_n (pc := 32) C 3 dX9_line_32 rfl rfl ?_
            refine kj_bipush (pc := 33) (v := (114 : Int32)) C dX9_line_33 (by decide) ?_
            refine kj_icmp_ne (pc := 35) 57 C dX9_line_35 (by decide) (fun c5 => ?_) (fun c5 => ?_)
            · have hf := kb_ife hf c5
              refine kj_sub [0, 1, 3, 4] (L2 := [(0, .ref (d 0)), (1, .int x1), (3, .int q3.2), (4, .int (kb_g q3.1 5))]) rfl ?_
              exact hp57 x1 q3.2 (kb_g q3.1 5) q3.1 hf
            · have hf := kb_ift hf c5
              refine kj_aload_n (pc := 38) C 0 dX9_line_38 rfl rfl ?_
              refine kg_X9_depth (pc := 39) (v := (kb_g q3.1 8)) C wf_X9_141 dX9_line_39 rfl ?_
              refine kj_if_ne (pc := 42) 57 C dX9_line_42 (by decide) (fun c6 => ?_) (fun c6 => ?_)
              · have hf := kb_ife hf c6
                refine kj_sub [0, 1, 3, 4] (L2 := [(0, .ref (d 0)), (1, .int x1), (3, .int q3.2), (4, .int (kb_g q3.1 5))]) rfl ?_
                exact hp57 x1 q3.2 (kb_g q3.1 5) q3.1 hf
              · have hf := kb_ift hf c6
                refine kj_sub [0, 2, 3, 4] (L2 := [(0, .ref (d 0)), (2, .int x2), (3, .int q3.2), (4, .int (kb_g q3.1 5))]) rfl ?_
                exact hp45 x2 q3.2 (kb_g q3.1 5) q3.1 hf
  refine kj_sub [0] (L2 := [(0, .ref (d 0))]) rfl ?_
  rw [fe_X9_line] at hf
  refine kj_iconst (pc := 0) (v := (1 : Int32)) C dX9_line_0 (by decide) ?_
  refine kj_istore_n (pc := 1) C [1, 0] (L2 := [(0, .ref (d 0)), (1, .int (1 : Int32))]) dX9_line_1 rfl (by decide) rfl ?_
  refine kj_iconst (pc := 2) (v := (1 : Int32)) C dX9_line_2 (by decide) ?_
  refine kj_istore_n (pc := 3) C [1, 2, 0] (L2 := [(0, .ref (d 0)), (1, .int (1 : Int32)), (2, .int (1 : Int32))]) dX9_line_3 rfl (by decide) rfl ?_
  exact hp4 kb_FU (1 : Int32) (1 : Int32) μ hf
def fn_X9_a  (x0 : Int32)  : Int32 :=
  ((x0 - (10 : Int32)) / (100 : Int32))
theorem fe_X9_a  (x0 : Int32)  : fn_X9_a  x0  =
  ((x0 - (10 : Int32)) / (100 : Int32)) := rfl
theorem hd_X9_a : yX9_a.cls ≠ "java/lang/invoke/MethodHandle" ∧ yX9_a.cls ≠ "java/lang/invoke/VarHandle" ∧ (parseMethodDescriptor yX9_a.desc).map (fun d => d.parameters.length) = some 1 := by decide +kernel
set_option maxRecDepth 100000 in
set_option maxHeartbeats 4000000 in
theorem ct_X9_a (l : Launch) (V : kb_V) (A : Nat → Prop)  (x0 : Int32) (ws : va_W) {r : Int32} (hf : fn_X9_a  x0  = r) : kb_T l yX9_a cX9_a 1 (some .int) ({ frames := 0, cells := 0, slots := 0, locals := 0 } : Room) V A [.int x0] ws (some (.int r)) ws 0 0 := by
  refine kb_start (cc := cX9_a) (nL := 1) (ret := (some .int)) (own := RX9) (by decide) rfl (Nat.le_of_ble_eq_true rfl) ?_
  intro p e s m args below meth c C
  refine kj_sub [0] (L2 := [(0, .int x0)]) rfl ?_
  rw [fe_X9_a] at hf
  refine kj_iload_n (pc := 0) C 0 dX9_a_0 rfl rfl ?_
  refine kj_bipush (pc := 1) (v := (10 : Int32)) C dX9_a_1 (by decide) ?_
  refine kj_isub (pc := 3) C dX9_a_3 ?_
  refine kj_bipush (pc := 4) (v := (100 : Int32)) C dX9_a_4 (by decide) ?_
  refine kj_idiv (pc := 6) C dX9_a_6 (by decide) ?_
  subst hf
  exact kj_iret (pc := 7) C dX9_a_7
def fn_X9_b  (x0 : Int32)  : Int32 :=
  (((x0 - (10 : Int32)) / (10 : Int32)) - ((x0 - (10 : Int32)) / (10 : Int32)) / (10 : Int32) * (10 : Int32))
theorem fe_X9_b  (x0 : Int32)  : fn_X9_b  x0  =
  (((x0 - (10 : Int32)) / (10 : Int32)) - ((x0 - (10 : Int32)) / (10 : Int32)) / (10 : Int32) * (10 : Int32)) := rfl
theorem hd_X9_b : yX9_b.cls ≠ "java/lang/invoke/MethodHandle" ∧ yX9_b.cls ≠ "java/lang/invoke/VarHandle" ∧ (parseMethodDescriptor yX9_b.desc).map (fun d => d.parameters.length) = some 1 := by decide +kernel
set_option maxRecDepth 100000 in
set_option maxHeartbeats 4000000 in
theorem ct_X9_b (l : Launch) (V : kb_V) (A : Nat → Prop)  (x0 : Int32) (ws : va_W) {r : Int32} (hf : fn_X9_b  x0  = r) : kb_T l yX9_b cX9_b 1 (some .int) ({ frames := 0, cells := 0, slots := 0, locals := 0 } : Room) V A [.int x0] ws (some (.int r)) ws 0 0 := by
  refine kb_start (cc := cX9_b) (nL := 1) (ret := (some .int)) (own := RX9) (by decide) rfl (Nat.le_of_ble_eq_true rfl) ?_
  intro p e s m args below meth c C
  refine kj_sub [0] (L2 := [(0, .int x0)]) rfl ?_
  rw [fe_X9_b] at hf
  refine kj_iload_n (pc := 0) C 0 dX9_b_0 rfl rfl ?_
  refine kj_bipush (pc := 1) (v := (10 : Int32)) C dX9_b_1 (by decide) ?_
  refine kj_isub (pc := 3) C dX9_b_3 ?_
  refine kj_bipush (pc := 4) (v := (10 : Int32)) C dX9_b_4 (by decide) ?_
  refine kj_idiv (pc := 6) C dX9_b_6 (by decide) ?_
  refine kj_bipush (pc := 7) (v := (10 : Int32)) C dX9_b_7 (by decide) ?_
  refine kj_irem (pc := 9) C dX9_b_9 (by decide) ?_
  subst hf
  exact kj_iret (pc := 10) C dX9_b_10
def fp_X9_takes_28   (u0 : Unit) : Int32 :=
  (0 : Int32)
theorem fp_X9_takes_28_e   (u0 : Unit) : fp_X9_takes_28  u0 =
  (0 : Int32) := rfl
def fp_X9_takes_42   (u0 : Unit) : Int32 :=
  (2 : Int32)
theorem fp_X9_takes_42_e   (u0 : Unit) : fp_X9_takes_42  u0 =
  (2 : Int32) := rfl
def fn_X9_takes  (x0 : Int32)  : Int32 :=
  if x0 < (100 : Int32) then
    if x0 = (7 : Int32) then
      fp_X9_takes_28   ()
    else
      if x0 = (9 : Int32) then
        fp_X9_takes_28   ()
      else
        if x0 = (3 : Int32) then
          fp_X9_takes_42   ()
        else
          if x0 = (4 : Int32) then
            fp_X9_takes_42   ()
          else
            if x0 = (5 : Int32) then
              (3 : Int32)
            else
              (1 : Int32)
  else
    ((fn_X9_a x0) + (fn_X9_b x0))
theorem fe_X9_takes  (x0 : Int32)  : fn_X9_takes  x0  =
  if x0 < (100 : Int32) then
    if x0 = (7 : Int32) then
      fp_X9_takes_28   ()
    else
      if x0 = (9 : Int32) then
        fp_X9_takes_28   ()
      else
        if x0 = (3 : Int32) then
          fp_X9_takes_42   ()
        else
          if x0 = (4 : Int32) then
            fp_X9_takes_42   ()
          else
            if x0 = (5 : Int32) then
              (3 : Int32)
            else
              (1 : Int32)
  else
    ((fn_X9_a x0) + (fn_X9_b x0)) := rfl
theorem hd_X9_takes : yX9_takes.cls ≠ "java/lang/invoke/MethodHandle" ∧ yX9_takes.cls ≠ "java/lang/invoke/VarHandle" ∧ (parseMethodDescriptor yX9_takes.desc).map (fun d => d.parameters.length) = some 1 := by decide +kernel
set_option maxRecDepth 100000 in
set_option maxHeartbeats 4000000 in
theorem ct_X9_takes (l : Launch) (V : kb_V) (A : Nat → Prop)  (x0 : Int32) (ws : va_W) {r : Int32} (hf : fn_X9_takes  x0  = r) : kb_T l yX9_takes cX9_takes 1 (some .int) ({ frames := 1, cells := 0, slots := 0, locals := 20 } : Room) V A [.int x0] ws (some (.int r)) ws 0 0 := by
  refine kb_start (cc := cX9_takes) (nL := 1) (ret := (some .int)) (own := RX9) (by decide) rfl (Nat.le_of_ble_eq_true rfl) ?_
  intro p e s m args below meth c C
  have hp28 : ∀ (u0 : Unit), fp_X9_takes_28   u0 = r → kb_J p l e ({ frames := 1, cells := 0, slots := 0, locals := 20 } : Room) s m args below meth c 1 V A 0 0 (MQ below (kb_post V A (some (.int r)) ws) args s 0 0 A) 28 [] [] ws := by
    intro u0 hf
    rw [fp_X9_takes_28_e] at hf
    refine kj_iconst (pc := 28) (v := (0 : Int32)) C dX9_takes_28 (by decide) ?_
    refine kj_goto (pc := 29) 56 C dX9_takes_29 (by decide) ?_
    subst hf
    exact kj_iret (pc := 56) C dX9_takes_56
  have hp42 : ∀ (u0 : Unit), fp_X9_takes_42   u0 = r → kb_J p l e ({ frames := 1, cells := 0, slots := 0, locals := 20 } : Room) s m args below meth c 1 V A 0 0 (MQ below (kb_post V A (some (.int r)) ws) args s 0 0 A) 42 [] [] ws := by
    intro u0 hf
    rw [fp_X9_takes_42_e] at hf
    refine kj_iconst (pc := 42) (v := (2 : Int32)) C dX9_takes_42 (by decide) ?_
    refine kj_goto (pc := 43) 56 C dX9_takes_43 (by decide) ?_
    subst hf
    exact kj_iret (pc := 56) C dX9_takes_56
  refine kj_sub [0] (L2 := [(0, .int x0)]) rfl ?_
  rw [fe_X9_takes] at hf
  refine kj_iload_n (pc := 0) C 0 dX9_takes_0 rfl rfl ?_
  refine kj_bipush (pc := 1) (v := (100 : Int32)) C dX9_takes_1 (by decide) ?_
  refine kj_icmp_lt (pc := 3) 16 C dX9_takes_3 (by decide) (fun c1 => ?_) (fun c1 => ?_)
  · have hf := kb_ift hf c1
    refine kj_iload_n (pc := 16) C 0 dX9_takes_16 rfl rfl ?_
    refine kj_bipush (pc := 17) (v := (7 : Int32)) C dX9_takes_17 (by decide) ?_
    refine kj_icmp_eq (pc := 19) 28 C dX9_takes_19 (by decide) (fun c2 => ?_) (fun c2 => ?_)
    · have hf := kb_ift hf c2
      refine kj_sub [] (L2 := []) rfl ?_
      exact hp28 () hf
    · have hf := kb_ife hf c2
      refine kj_iload_n (pc := 22) C 0 dX9_takes_22 rfl rfl ?_
      refine kj_bipush (pc := 23) (v := (9 : Int32)) C dX9_takes_23 (by decide) ?_
      refine kj_icmp_ne (pc := 25) 32 C dX9_takes_25 (by decide) (fun c3 => ?_) (fun c3 => ?_)
      · have hf := kb_ife hf c3
        refine kj_iload_n (pc := 32) C 0 dX9_takes_32 rfl rfl ?_
        refine kj_iconst (pc := 33) (v := (3 : Int32)) C dX9_takes_33 (by decide) ?_
        refine kj_icmp_eq (pc := 34) 42 C dX9_takes_34 (by decide) (fun c4 => ?_) (fun c4 => ?_)
        · have hf := kb_ift hf c4
          refine kj_sub [] (L2 := []) rfl ?_
          exact hp42 () hf
        · have hf := kb_ife hf c4
          refine kj_iload_n (pc := 37) C 0 dX9_takes_37 rfl rfl ?_
          refine kj_iconst (pc := 38) (v := (4 : Int32)) C dX9_takes_38 (by decide) ?_
          refine kj_icmp_ne (pc := 39) 46 C dX9_takes_39 (by decide) (fun c5 => ?_) (fun c5 => ?_)
          · have hf := kb_ife hf c5
            refine kj_iload_n (pc := 46) C 0 dX9_takes_46 rfl rfl ?_
            refine kj_iconst (pc := 47) (v := (5 : Int32)) C dX9_takes_47 (by decide) ?_
            refine kj_icmp_ne (pc := 48) 55 C dX9_takes_48 (by decide) (fun c6 => ?_) (fun c6 => ?_)
            · have hf := kb_ife hf c6
              refine kj_iconst (pc := 55) (v := (1 : Int32)) C dX9_takes_55 (by decide) ?_
              subst hf
              exact kj_iret (pc := 56) C dX9_takes_56
            · have hf := kb_ift hf c6
              refine kj_iconst (pc := 51) (v := (3 : Int32)) C dX9_takes_51 (by decide) ?_
              refine kj_goto (pc := 52) 56 C dX9_takes_52 (by decide) ?_
              subst hf
              exact kj_iret (pc := 56) C dX9_takes_56
          · have hf := kb_ift hf c5
            refine kj_sub [] (L2 := []) rfl ?_
            exact hp42 () hf
      · have hf := kb_ift hf c3
        refine kj_sub [] (L2 := []) rfl ?_
        exact hp28 () hf
  · have hf := kb_ife hf c1
    refine kj_iload_n (pc := 6) C 0 dX9_takes_6 rfl rfl ?_
    refine kj_callS0 (pc := 7) (as := [.int x0]) (rest := []) C (ct_X9_a l V A x0 ws rfl) wd_X9_a wk_X9_176 wi_X9_a wz_X9 rfl rfl hd_X9_a ⟨by decide, by decide⟩ rfl (Nat.le_of_ble_eq_true rfl) (by decide) dX9_takes_7 ?_
    refine kj_iload_n (pc := 10) C 0 dX9_takes_10 rfl rfl ?_
    refine kj_callS0 (pc := 11) (as := [.int x0]) (rest := [.int (fn_X9_a x0)]) C (ct_X9_b l V A x0 ws rfl) wd_X9_b wk_X9_179 wi_X9_b wz_X9 rfl rfl hd_X9_b ⟨by decide, by decide⟩ rfl (Nat.le_of_ble_eq_true rfl) (by decide) dX9_takes_11 ?_
    refine kj_iadd (pc := 14) C dX9_takes_14 ?_
    subst hf
    exact kj_iret (pc := 15) C dX9_takes_15
def fn_X9_makes  (x0 : Int32)  : Int32 :=
  if x0 < (100 : Int32) then
    if x0 = (6 : Int32) then
      (2 : Int32)
    else
      if x0 = (8 : Int32) then
        (0 : Int32)
      else
        (1 : Int32)
  else
    ((fn_X9_a x0) + (fn_X9_b x0))
theorem fe_X9_makes  (x0 : Int32)  : fn_X9_makes  x0  =
  if x0 < (100 : Int32) then
    if x0 = (6 : Int32) then
      (2 : Int32)
    else
      if x0 = (8 : Int32) then
        (0 : Int32)
      else
        (1 : Int32)
  else
    ((fn_X9_a x0) + (fn_X9_b x0)) := rfl
theorem hd_X9_makes : yX9_makes.cls ≠ "java/lang/invoke/MethodHandle" ∧ yX9_makes.cls ≠ "java/lang/invoke/VarHandle" ∧ (parseMethodDescriptor yX9_makes.desc).map (fun d => d.parameters.length) = some 1 := by decide +kernel
set_option maxRecDepth 100000 in
set_option maxHeartbeats 4000000 in
theorem ct_X9_makes (l : Launch) (V : kb_V) (A : Nat → Prop)  (x0 : Int32) (ws : va_W) {r : Int32} (hf : fn_X9_makes  x0  = r) : kb_T l yX9_makes cX9_makes 1 (some .int) ({ frames := 1, cells := 0, slots := 0, locals := 20 } : Room) V A [.int x0] ws (some (.int r)) ws 0 0 := by
  refine kb_start (cc := cX9_makes) (nL := 1) (ret := (some .int)) (own := RX9) (by decide) rfl (Nat.le_of_ble_eq_true rfl) ?_
  intro p e s m args below meth c C
  refine kj_sub [0] (L2 := [(0, .int x0)]) rfl ?_
  rw [fe_X9_makes] at hf
  refine kj_iload_n (pc := 0) C 0 dX9_makes_0 rfl rfl ?_
  refine kj_bipush (pc := 1) (v := (100 : Int32)) C dX9_makes_1 (by decide) ?_
  refine kj_icmp_lt (pc := 3) 16 C dX9_makes_3 (by decide) (fun c1 => ?_) (fun c1 => ?_)
  · have hf := kb_ift hf c1
    refine kj_iload_n (pc := 16) C 0 dX9_makes_16 rfl rfl ?_
    refine kj_bipush (pc := 17) (v := (6 : Int32)) C dX9_makes_17 (by decide) ?_
    refine kj_icmp_ne (pc := 19) 26 C dX9_makes_19 (by decide) (fun c2 => ?_) (fun c2 => ?_)
    · have hf := kb_ife hf c2
      refine kj_iload_n (pc := 26) C 0 dX9_makes_26 rfl rfl ?_
      refine kj_bipush (pc := 27) (v := (8 : Int32)) C dX9_makes_27 (by decide) ?_
      refine kj_icmp_ne (pc := 29) 36 C dX9_makes_29 (by decide) (fun c3 => ?_) (fun c3 => ?_)
      · have hf := kb_ife hf c3
        refine kj_iconst (pc := 36) (v := (1 : Int32)) C dX9_makes_36 (by decide) ?_
        subst hf
        exact kj_iret (pc := 37) C dX9_makes_37
      · have hf := kb_ift hf c3
        refine kj_iconst (pc := 32) (v := (0 : Int32)) C dX9_makes_32 (by decide) ?_
        refine kj_goto (pc := 33) 37 C dX9_makes_33 (by decide) ?_
        subst hf
        exact kj_iret (pc := 37) C dX9_makes_37
    · have hf := kb_ift hf c2
      refine kj_iconst (pc := 22) (v := (2 : Int32)) C dX9_makes_22 (by decide) ?_
      refine kj_goto (pc := 23) 37 C dX9_makes_23 (by decide) ?_
      subst hf
      exact kj_iret (pc := 37) C dX9_makes_37
  · have hf := kb_ife hf c1
    refine kj_iload_n (pc := 6) C 0 dX9_makes_6 rfl rfl ?_
    refine kj_callS0 (pc := 7) (as := [.int x0]) (rest := []) C (ct_X9_a l V A x0 ws rfl) wd_X9_a wk_X9_176 wi_X9_a wz_X9 rfl rfl hd_X9_a ⟨by decide, by decide⟩ rfl (Nat.le_of_ble_eq_true rfl) (by decide) dX9_makes_7 ?_
    refine kj_iload_n (pc := 10) C 0 dX9_makes_10 rfl rfl ?_
    refine kj_callS0 (pc := 11) (as := [.int x0]) (rest := [.int (fn_X9_a x0)]) C (ct_X9_b l V A x0 ws rfl) wd_X9_b wk_X9_179 wi_X9_b wz_X9 rfl rfl hd_X9_b ⟨by decide, by decide⟩ rfl (Nat.le_of_ble_eq_true rfl) (by decide) dX9_makes_11 ?_
    refine kj_iadd (pc := 14) C dX9_makes_14 ?_
    subst hf
    exact kj_iret (pc := 15) C dX9_makes_15
def fp_X9_taken_97  (kc8 : Int32 → Int32 → Int32 → Int32 → kb_S → Option (Int32)) (x2 : Int32) (x3 : Int32) (x4 : Int32) (x5 : Int32) (μ : kb_S) : Option (Int32) :=
  kc8 x2 x3 x4 (x5 + (1 : Int32)) μ
theorem fp_X9_taken_97_e  (kc8 : Int32 → Int32 → Int32 → Int32 → kb_S → Option (Int32)) (x2 : Int32) (x3 : Int32) (x4 : Int32) (x5 : Int32) (μ : kb_S) : fp_X9_taken_97 kc8 x2 x3 x4 x5 μ =
  kc8 x2 x3 x4 (x5 + (1 : Int32)) μ := rfl
def fp_X9_taken_8   : Nat → Int32 → Int32 → Int32 → Int32 → kb_S → Option (Int32)
  | 0 => fun _ _ _ _ _ => none
  | nn + 1 => fun x2 x3 x4 x5 μ => 
  if x2 ≤ x5 then
    some x3
  else
    if kb_in x5 220 = true then
      if (kb_a μ 9 x5.toNatClampNeg) = (20 : Int32) then
        if kb_in x5 220 = true then
          fp_X9_taken_97  (fp_X9_taken_8  nn) x2 x3 (x4 * (kb_a μ 10 x5.toNatClampNeg)) x5 μ
        else none
      else
        if kb_in x5 220 = true then
          if (kb_a μ 9 x5.toNatClampNeg) = (21 : Int32) then
            if kb_in x5 220 = true then
              if kb_in (kb_a μ 12 x5.toNatClampNeg) 220 = true then
                if ¬ (kb_a μ 10 (kb_a μ 12 x5.toNatClampNeg).toNatClampNeg) = 0 then
                  fp_X9_taken_97  (fp_X9_taken_8  nn) x2 x3 (x4 / (kb_a μ 10 (kb_a μ 12 x5.toNatClampNeg).toNatClampNeg)) x5 μ
                else none
              else none
            else none
          else
            if kb_in x5 220 = true then
              if kb_in x5 220 = true then
                fp_X9_taken_97  (fp_X9_taken_8  nn) x2 (x3 + ((x4 * (kb_a μ 10 x5.toNatClampNeg)) * (fn_X9_takes (kb_a μ 9 x5.toNatClampNeg)))) x4 x5 μ
              else none
            else none
        else none
    else none
theorem fp_X9_taken_8_s   (nn : Nat) (x2 : Int32) (x3 : Int32) (x4 : Int32) (x5 : Int32) (μ : kb_S) : fp_X9_taken_8  (nn + 1) x2 x3 x4 x5 μ =
  if x2 ≤ x5 then
    some x3
  else
    if kb_in x5 220 = true then
      if (kb_a μ 9 x5.toNatClampNeg) = (20 : Int32) then
        if kb_in x5 220 = true then
          fp_X9_taken_97  (fp_X9_taken_8  nn) x2 x3 (x4 * (kb_a μ 10 x5.toNatClampNeg)) x5 μ
        else none
      else
        if kb_in x5 220 = true then
          if (kb_a μ 9 x5.toNatClampNeg) = (21 : Int32) then
            if kb_in x5 220 = true then
              if kb_in (kb_a μ 12 x5.toNatClampNeg) 220 = true then
                if ¬ (kb_a μ 10 (kb_a μ 12 x5.toNatClampNeg).toNatClampNeg) = 0 then
                  fp_X9_taken_97  (fp_X9_taken_8  nn) x2 x3 (x4 / (kb_a μ 10 (kb_a μ 12 x5.toNatClampNeg).toNatClampNeg)) x5 μ
                else none
              else none
            else none
          else
            if kb_in x5 220 = true then
              if kb_in x5 220 = true then
                fp_X9_taken_97  (fp_X9_taken_8  nn) x2 (x3 + ((x4 * (kb_a μ 10 x5.toNatClampNeg)) * (fn_X9_takes (kb_a μ 9 x5.toNatClampNeg)))) x4 x5 μ
              else none
            else none
        else none
    else none := rfl
def fn_X9_taken  (x1 : Int32) (x2 : Int32) (μ : kb_S) : Option (Int32) :=
  fp_X9_taken_8   kb_FU x2 (0 : Int32) (1 : Int32) x1 μ
theorem fe_X9_taken  (x1 : Int32) (x2 : Int32) (μ : kb_S) : fn_X9_taken  x1 x2 μ =
  fp_X9_taken_8   kb_FU x2 (0 : Int32) (1 : Int32) x1 μ := rfl
theorem hd_X9_taken : yX9_taken.cls = RX9 ∧ yX9_taken.cls ≠ "java/lang/invoke/MethodHandle" ∧ yX9_taken.cls ≠ "java/lang/invoke/VarHandle" ∧ (parseMethodDescriptor yX9_taken.desc).map (fun d => d.parameters.length) = some 2 := by decide +kernel
set_option maxRecDepth 100000 in
set_option maxHeartbeats 4000000 in
theorem ct_X9_taken (l : Launch) (V : kb_V) (A : Nat → Prop)  (x1 : Int32) (x2 : Int32) (d : Nat → Nat) (μ : kb_S) (ex : va_W) {r : Int32} (hf : fn_X9_taken  x1 x2 μ = some r) : kb_T l yX9_taken cX9_taken 6 (some .int) ({ frames := 2, cells := 0, slots := 0, locals := 40 } : Room) V A [.ref (d 0), .int x1, .int x2] (kb_WM V d μ ex) (some (.int r)) (kb_WM V d μ ex) 0 0 := by
  refine kb_start (cc := cX9_taken) (nL := 6) (ret := (some .int)) (own := RX9) (by decide) rfl (Nat.le_of_ble_eq_true rfl) ?_
  intro p e s m args below meth c C
  have hp8 : ∀ (nn : Nat) (x2 : Int32) (x3 : Int32) (x4 : Int32) (x5 : Int32) (μ : kb_S), fp_X9_taken_8   nn x2 x3 x4 x5 μ = some r → kb_J p l e ({ frames := 2, cells := 0, slots := 0, locals := 40 } : Room) s m args below meth c 6 V A 0 0 (MQ below (kb_post V A (some (.int r)) (kb_WM V d μ ex)) args s 0 0 A) 8 [(0, .ref (d 0)), (2, .int x2), (3, .int x3), (4, .int x4), (5, .int x5)] [] (kb_WM V d μ ex) := by
    intro nn8
    induction nn8 with
    | zero => intro x2 x3 x4 x5 μ hf; exact kb_no hf
    | succ nn8 ih8 =>
      have hp97 : ∀ (x2 : Int32) (x3 : Int32) (x4 : Int32) (x5 : Int32) (μ : kb_S), fp_X9_taken_97  (fp_X9_taken_8   nn8) x2 x3 x4 x5 μ = some r → kb_J p l e ({ frames := 2, cells := 0, slots := 0, locals := 40 } : Room) s m args below meth c 6 V A 0 0 (MQ below (kb_post V A (some (.int r)) (kb_WM V d μ ex)) args s 0 0 A) 97 [(0, .ref (d 0)), (2, .int x2), (3, .int x3), (4, .int x4), (5, .int x5)] [] (kb_WM V d μ ex) := by
        intro x2 x3 x4 x5 μ hf
        rw [fp_X9_taken_97_e] at hf
        refine kj_iinc (pc := 97) C 4 [1, 2, 3, 4, 0] (L2 := [(0, .ref (d 0)), (2, .int x2), (3, .int x3), (4, .int x4), (5, .int (x5 + (1 : Int32)))]) dX9_taken_97 rfl rfl (by decide) rfl ?_
        refine kj_goto (pc := 100) 8 C dX9_taken_100 (by decide) ?_
        exact ih8 x2 x3 x4 (x5 + (1 : Int32)) μ hf
      intro x2 x3 x4 x5 μ hf
      rw [fp_X9_taken_8_s] at hf
      refine kj_iload (pc := 8) C 4 dX9_taken_8 rfl ?_
      refine kj_iload_n (pc := 10) C 1 dX9_taken_10 rfl rfl ?_
      refine kj_icmp_ge (pc := 11) 103 C dX9_taken_11 (by decide) (fun c1 => ?_) (fun c1 => ?_)
      · have hf := kb_ift hf c1
        refine kj_iload_n (pc := 103) C 2 dX9_taken_103 rfl rfl ?_
        cases hf
        exact kj_iret (pc := 104) C dX9_taken_104
      · have hf := kb_ife hf c1
        refine kj_aload_n (pc := 14) C 0 dX9_taken_14 rfl rfl ?_
        refine kg_X9_mark (pc := 15) C wf_X9_38 dX9_taken_15 ?_
        refine kj_iload (pc := 18) C 4 dX9_taken_18 rfl ?_
        obtain ⟨g2, hf⟩ := kb_gd hf
        refine ka_X9_mark (pc := 20) (v := (kb_a μ 9 x5.toNatClampNeg)) C g2 dX9_taken_20 rfl ?_
        refine kj_bipush (pc := 21) (v := (20 : Int32)) C dX9_taken_21 (by decide) ?_
        refine kj_icmp_ne (pc := 23) 41 C dX9_taken_23 (by decide) (fun c3 => ?_) (fun c3 => ?_)
        · have hf := kb_ife hf c3
          refine kj_aload_n (pc := 41) C 0 dX9_taken_41 rfl rfl ?_
          refine kg_X9_mark (pc := 42) C wf_X9_38 dX9_taken_42 ?_
          refine kj_iload (pc := 45) C 4 dX9_taken_45 rfl ?_
          obtain ⟨g4, hf⟩ := kb_gd hf
          refine ka_X9_mark (pc := 47) (v := (kb_a μ 9 x5.toNatClampNeg)) C g4 dX9_taken_47 rfl ?_
          refine kj_bipush (pc := 48) (v := (21 : Int32)) C dX9_taken_48 (by decide) ?_
          refine kj_icmp_ne (pc := 50) 73 C dX9_taken_50 (by decide) (fun c5 => ?_) (fun c5 => ?_)
          · have hf := kb_ife hf c5
            refine kj_iload_n (pc := 73) C 2 dX9_taken_73 rfl rfl ?_
            refine kj_iload (pc := 74) C 3 dX9_taken_74 rfl ?_
            refine kj_aload_n (pc := 76) C 0 dX9_taken_76 rfl rfl ?_
            refine kg_X9_number (pc := 77) C wf_X9_41 dX9_taken_77 ?_
            refine kj_iload (pc := 80) C 4 dX9_taken_80 rfl ?_
            obtain ⟨g6, hf⟩ := kb_gd hf
            refine ka_X9_number (pc := 82) (v := (kb_a μ 10 x5.toNatClampNeg)) C g6 dX9_taken_82 rfl ?_
            refine kj_imul (pc := 83) C dX9_taken_83 ?_
            refine kj_aload_n (pc := 84) C 0 dX9_taken_84 rfl rfl ?_
            refine kg_X9_mark (pc := 85) C wf_X9_38 dX9_taken_85 ?_
            refine kj_iload (pc := 88) C 4 dX9_taken_88 rfl ?_
            obtain ⟨g7, hf⟩ := kb_gd hf
            refine ka_X9_mark (pc := 90) (v := (kb_a μ 9 x5.toNatClampNeg)) C g7 dX9_taken_90 rfl ?_
            refine kj_callS0 (pc := 91) (as := [.int (kb_a μ 9 x5.toNatClampNeg)]) (rest := [.int (x4 * (kb_a μ 10 x5.toNatClampNeg)), .int x3]) C (ct_X9_takes l V A (kb_a μ 9 x5.toNatClampNeg) (kb_WM V d μ ex) rfl) wd_X9_takes wk_X9_182 wi_X9_takes wz_X9 rfl rfl hd_X9_takes ⟨by decide, by decide⟩ rfl (Nat.le_of_ble_eq_true rfl) (by decide) dX9_taken_91 ?_
            refine kj_imul (pc := 94) C dX9_taken_94 ?_
            refine kj_iadd (pc := 95) C dX9_taken_95 ?_
            refine kj_istore_n (pc := 96) C [1, 2, 0, 3, 4] (L2 := [(0, .ref (d 0)), (2, .int x2), (3, .int (x3 + ((x4 * (kb_a μ 10 x5.toNatClampNeg)) * (fn_X9_takes (kb_a μ 9 x5.toNatClampNeg))))), (4, .int x4), (5, .int x5)]) dX9_taken_96 rfl (by decide) rfl ?_
            exact hp97 x2 (x3 + ((x4 * (kb_a μ 10 x5.toNatClampNeg)) * (fn_X9_takes (kb_a μ 9 x5.toNatClampNeg)))) x4 x5 μ hf
          · have hf := kb_ift hf c5
            refine kj_iload (pc := 53) C 3 dX9_taken_53 rfl ?_
            refine kj_aload_n (pc := 55) C 0 dX9_taken_55 rfl rfl ?_
            refine kg_X9_number (pc := 56) C wf_X9_41 dX9_taken_56 ?_
            refine kj_aload_n (pc := 59) C 0 dX9_taken_59 rfl rfl ?_
            refine kg_X9_other (pc := 60) C wf_X9_47 dX9_taken_60 ?_
            refine kj_iload (pc := 63) C 4 dX9_taken_63 rfl ?_
            obtain ⟨g6, hf⟩ := kb_gd hf
            refine ka_X9_other (pc := 65) (v := (kb_a μ 12 x5.toNatClampNeg)) C g6 dX9_taken_65 rfl ?_
            obtain ⟨g7, hf⟩ := kb_gd hf
            refine ka_X9_number (pc := 66) (v := (kb_a μ 10 (kb_a μ 12 x5.toNatClampNeg).toNatClampNeg)) C g7 dX9_taken_66 rfl ?_
            obtain ⟨g8, hf⟩ := kb_gd hf
            refine kj_idiv (pc := 67) C dX9_taken_67 g8 ?_
            refine kj_istore (pc := 68) C [1, 2, 3, 0, 4] (L2 := [(0, .ref (d 0)), (2, .int x2), (3, .int x3), (4, .int (x4 / (kb_a μ 10 (kb_a μ 12 x5.toNatClampNeg).toNatClampNeg))), (5, .int x5)]) dX9_taken_68 (by decide) rfl ?_
            refine kj_goto (pc := 70) 97 C dX9_taken_70 (by decide) ?_
            exact hp97 x2 x3 (x4 / (kb_a μ 10 (kb_a μ 12 x5.toNatClampNeg).toNatClampNeg)) x5 μ hf
        · have hf := kb_ift hf c3
          refine kj_iload (pc := 26) C 3 dX9_taken_26 rfl ?_
          refine kj_aload_n (pc := 28) C 0 dX9_taken_28 rfl rfl ?_
          refine kg_X9_number (pc := 29) C wf_X9_41 dX9_taken_29 ?_
          refine kj_iload (pc := 32) C 4 dX9_taken_32 rfl ?_
          obtain ⟨g4, hf⟩ := kb_gd hf
          refine ka_X9_number (pc := 34) (v := (kb_a μ 10 x5.toNatClampNeg)) C g4 dX9_taken_34 rfl ?_
          refine kj_imul (pc := 35) C dX9_taken_35 ?_
          refine kj_istore (pc := 36) C [1, 2, 3, 0, 4] (L2 := [(0, .ref (d 0)), (2, .int x2), (3, .int x3), (4, .int (x4 * (kb_a μ 10 x5.toNatClampNeg))), (5, .int x5)]) dX9_taken_36 (by decide) rfl ?_
          refine kj_goto (pc := 38) 97 C dX9_taken_38 (by decide) ?_
          exact hp97 x2 x3 (x4 * (kb_a μ 10 x5.toNatClampNeg)) x5 μ hf
  refine kj_sub [0, 1, 2] (L2 := [(0, .ref (d 0)), (1, .int x1), (2, .int x2)]) rfl ?_
  rw [fe_X9_taken] at hf
  refine kj_iconst (pc := 0) (v := (0 : Int32)) C dX9_taken_0 (by decide) ?_
  refine kj_istore_n (pc := 1) C [1, 2, 3, 0] (L2 := [(0, .ref (d 0)), (1, .int x1), (2, .int x2), (3, .int (0 : Int32))]) dX9_taken_1 rfl (by decide) rfl ?_
  refine kj_iconst (pc := 2) (v := (1 : Int32)) C dX9_taken_2 (by decide) ?_
  refine kj_istore (pc := 3) C [1, 2, 3, 4, 0] (L2 := [(0, .ref (d 0)), (1, .int x1), (2, .int x2), (3, .int (0 : Int32)), (4, .int (1 : Int32))]) dX9_taken_3 (by decide) rfl ?_
  refine kj_iload_n (pc := 5) C 1 dX9_taken_5 rfl rfl ?_
  refine kj_istore (pc := 6) C [1, 2, 3, 4, 5, 0] (L2 := [(0, .ref (d 0)), (1, .int x1), (2, .int x2), (3, .int (0 : Int32)), (4, .int (1 : Int32)), (5, .int x1)]) dX9_taken_6 (by decide) rfl ?_
  refine kj_sub [0, 2, 3, 4, 5] (L2 := [(0, .ref (d 0)), (2, .int x2), (3, .int (0 : Int32)), (4, .int (1 : Int32)), (5, .int x1)]) rfl ?_
  exact hp8 kb_FU x2 (0 : Int32) (1 : Int32) x1 μ hf
def fn_X9_stops  (x1 : Int32) (x2 : Int32) (μ : kb_S) : Option (kb_S) :=
  if (kb_g μ 6) ≤ 0 then
    some (kb_p (kb_p μ 6 x1) 7 x2)
  else
    some μ
theorem fe_X9_stops  (x1 : Int32) (x2 : Int32) (μ : kb_S) : fn_X9_stops  x1 x2 μ =
  if (kb_g μ 6) ≤ 0 then
    some (kb_p (kb_p μ 6 x1) 7 x2)
  else
    some μ := rfl
theorem hd_X9_stops : yX9_stops.cls = RX9 ∧ yX9_stops.cls ≠ "java/lang/invoke/MethodHandle" ∧ yX9_stops.cls ≠ "java/lang/invoke/VarHandle" ∧ (parseMethodDescriptor yX9_stops.desc).map (fun d => d.parameters.length) = some 2 := by decide +kernel
set_option maxRecDepth 100000 in
set_option maxHeartbeats 4000000 in
theorem ct_X9_stops (l : Launch) (V : kb_V) (A : Nat → Prop)  (x1 : Int32) (x2 : Int32) (d : Nat → Nat) (μ : kb_S) (ex : va_W) {μ9 : kb_S} (hf : fn_X9_stops  x1 x2 μ = some μ9) : kb_T l yX9_stops cX9_stops 3 none ({ frames := 0, cells := 0, slots := 0, locals := 0 } : Room) V A [.ref (d 0), .int x1, .int x2] (kb_WM V d μ ex) none (kb_WM V d μ9 ex) 0 0 := by
  refine kb_start (cc := cX9_stops) (nL := 3) (ret := none) (own := RX9) (by decide) rfl (Nat.le_of_ble_eq_true rfl) ?_
  intro p e s m args below meth c C
  refine kj_sub [0, 1, 2] (L2 := [(0, .ref (d 0)), (1, .int x1), (2, .int x2)]) rfl ?_
  rw [fe_X9_stops] at hf
  refine kj_aload_n (pc := 0) C 0 dX9_stops_0 rfl rfl ?_
  refine kg_X9_fault (pc := 1) (v := (kb_g μ 6)) C wf_X9_114 dX9_stops_1 rfl ?_
  refine kj_if_le (pc := 4) 8 C dX9_stops_4 (by decide) (fun c1 => ?_) (fun c1 => ?_)
  · have hf := kb_ift hf c1
    refine kj_aload_n (pc := 8) C 0 dX9_stops_8 rfl rfl ?_
    refine kj_iload_n (pc := 9) C 1 dX9_stops_9 rfl rfl ?_
    refine kp_X9_fault (pc := 10) C wf_X9_114 dX9_stops_10 ?_
    refine kj_aload_n (pc := 13) C 0 dX9_stops_13 rfl rfl ?_
    refine kj_iload_n (pc := 14) C 2 dX9_stops_14 rfl rfl ?_
    refine kp_X9_place (pc := 15) C wf_X9_117 dX9_stops_15 ?_
    cases hf
    exact kj_vret (pc := 18) C dX9_stops_18
  · have hf := kb_ife hf c1
    cases hf
    exact kj_vret (pc := 7) C dX9_stops_7
def fp_X9_flatten_436   (μ : kb_S) : Option (kb_S) :=
  if (kb_g μ 4) = (30 : Int32) then
    (fn_X9_stops (9 : Int32) (kb_g μ 1) μ).bind fun q2 =>
    some q2
  else
    some μ
theorem fp_X9_flatten_436_e   (μ : kb_S) : fp_X9_flatten_436  μ =
  if (kb_g μ 4) = (30 : Int32) then
    (fn_X9_stops (9 : Int32) (kb_g μ 1) μ).bind fun q2 =>
    some q2
  else
    some μ := rfl
def fp_X9_flatten_420   (x3 : Int32) (μ : kb_S) : Option (kb_S) :=
  if x3 ≤ (40 : Int32) then
    fp_X9_flatten_436   μ
  else
    (fn_X9_stops (8 : Int32) (kb_g μ 1) μ).bind fun q2 =>
    fp_X9_flatten_436   q2
theorem fp_X9_flatten_420_e   (x3 : Int32) (μ : kb_S) : fp_X9_flatten_420  x3 μ =
  if x3 ≤ (40 : Int32) then
    fp_X9_flatten_436   μ
  else
    (fn_X9_stops (8 : Int32) (kb_g μ 1) μ).bind fun q2 =>
    fp_X9_flatten_436   q2 := rfl
def fp_X9_flatten_406   (x2 : Int32) (x3 : Int32) (μ : kb_S) : Option (kb_S) :=
  if x2 ≤ 0 then
    fp_X9_flatten_420   x3 μ
  else
    (fn_X9_stops (7 : Int32) (kb_g μ 1) μ).bind fun q2 =>
    fp_X9_flatten_420   x3 q2
theorem fp_X9_flatten_406_e   (x2 : Int32) (x3 : Int32) (μ : kb_S) : fp_X9_flatten_406  x2 x3 μ =
  if x2 ≤ 0 then
    fp_X9_flatten_420   x3 μ
  else
    (fn_X9_stops (7 : Int32) (kb_g μ 1) μ).bind fun q2 =>
    fp_X9_flatten_420   x3 q2 := rfl
def fp_X9_flatten_403  (kc12 : Int32 → Int32 → Int32 → kb_S → Option (kb_S)) (x2 : Int32) (x3 : Int32) (x4 : Int32) (μ : kb_S) : Option (kb_S) :=
  kc12 x2 x3 x4 μ
theorem fp_X9_flatten_403_e  (kc12 : Int32 → Int32 → Int32 → kb_S → Option (kb_S)) (x2 : Int32) (x3 : Int32) (x4 : Int32) (μ : kb_S) : fp_X9_flatten_403 kc12 x2 x3 x4 μ =
  kc12 x2 x3 x4 μ := rfl
def fp_X9_flatten_400  (kc12 : Int32 → Int32 → Int32 → kb_S → Option (kb_S)) (x2 : Int32) (x3 : Int32) (x4 : Int32) (μ : kb_S) : Option (kb_S) :=
  fp_X9_flatten_403  kc12 x2 x3 (x4 + (1 : Int32)) μ
theorem fp_X9_flatten_400_e  (kc12 : Int32 → Int32 → Int32 → kb_S → Option (kb_S)) (x2 : Int32) (x3 : Int32) (x4 : Int32) (μ : kb_S) : fp_X9_flatten_400 kc12 x2 x3 x4 μ =
  fp_X9_flatten_403  kc12 x2 x3 (x4 + (1 : Int32)) μ := rfl
def fp_X9_flatten_357  (kc12 : Int32 → Int32 → Int32 → kb_S → Option (kb_S)) (kc254 : Int32 → Int32 → Int32 → Int32 → Int32 → kb_S → Option (kb_S)) (x2 : Int32) (x3 : Int32) (x4 : Int32) (x5 : Int32) (x6 : Int32) (μ : kb_S) : Option (kb_S) :=
  if kb_in (kb_g μ 10) 700 = true then
    kc254 (x2 - (fn_X9_takes x5)) (x3 + (fn_X9_makes x5)) x4 x5 (x6 + (1 : Int32)) (kb_p (kb_ap μ 13 (kb_g μ 10).toNatClampNeg x5) 10 ((kb_g μ 10) + (1 : Int32)))
  else none
theorem fp_X9_flatten_357_e  (kc12 : Int32 → Int32 → Int32 → kb_S → Option (kb_S)) (kc254 : Int32 → Int32 → Int32 → Int32 → Int32 → kb_S → Option (kb_S)) (x2 : Int32) (x3 : Int32) (x4 : Int32) (x5 : Int32) (x6 : Int32) (μ : kb_S) : fp_X9_flatten_357 kc12 kc254 x2 x3 x4 x5 x6 μ =
  if kb_in (kb_g μ 10) 700 = true then
    kc254 (x2 - (fn_X9_takes x5)) (x3 + (fn_X9_makes x5)) x4 x5 (x6 + (1 : Int32)) (kb_p (kb_ap μ 13 (kb_g μ 10).toNatClampNeg x5) 10 ((kb_g μ 10) + (1 : Int32)))
  else none := rfl
def fp_X9_flatten_326  (kc12 : Int32 → Int32 → Int32 → kb_S → Option (kb_S)) (kc254 : Int32 → Int32 → Int32 → Int32 → Int32 → kb_S → Option (kb_S)) (x2 : Int32) (x3 : Int32) (x4 : Int32) (x5 : Int32) (x6 : Int32) (μ : kb_S) : Option (kb_S) :=
  if (((kb_g μ 3) + x3) + (fn_X9_makes x5)) ≤ (600 : Int32) then
    fp_X9_flatten_357  kc12 kc254 x2 x3 x4 x5 x6 μ
  else
    if kb_in x4 220 = true then
      (fn_X9_stops (6 : Int32) (kb_a μ 11 x4.toNatClampNeg) μ).bind fun q3 =>
      fp_X9_flatten_357  kc12 kc254 x2 x3 x4 x5 x6 q3
    else none
theorem fp_X9_flatten_326_e  (kc12 : Int32 → Int32 → Int32 → kb_S → Option (kb_S)) (kc254 : Int32 → Int32 → Int32 → Int32 → Int32 → kb_S → Option (kb_S)) (x2 : Int32) (x3 : Int32) (x4 : Int32) (x5 : Int32) (x6 : Int32) (μ : kb_S) : fp_X9_flatten_326 kc12 kc254 x2 x3 x4 x5 x6 μ =
  if (((kb_g μ 3) + x3) + (fn_X9_makes x5)) ≤ (600 : Int32) then
    fp_X9_flatten_357  kc12 kc254 x2 x3 x4 x5 x6 μ
  else
    if kb_in x4 220 = true then
      (fn_X9_stops (6 : Int32) (kb_a μ 11 x4.toNatClampNeg) μ).bind fun q3 =>
      fp_X9_flatten_357  kc12 kc254 x2 x3 x4 x5 x6 q3
    else none := rfl
def fp_X9_flatten_254  (kc12 : Int32 → Int32 → Int32 → kb_S → Option (kb_S)) : Nat → Int32 → Int32 → Int32 → Int32 → Int32 → kb_S → Option (kb_S)
  | 0 => fun _ _ _ _ _ _ => none
  | nn + 1 => fun x2 x3 x4 x5 x6 μ => 
  if kb_in x4 220 = true then
    if (kb_a μ 10 x4.toNatClampNeg) ≤ x6 then
      fp_X9_flatten_400  kc12 x2 x3 x4 μ
    else
      if (kb_g μ 6) = 0 then
        if (fn_X9_takes x5) ≤ x2 then
          if x5 = (8 : Int32) then
            if (x2 + x3) = (1 : Int32) then
              if kb_in x4 220 = true then
                (fn_X9_stops (5 : Int32) (kb_a μ 11 x4.toNatClampNeg) μ).bind fun q8 =>
                fp_X9_flatten_357  kc12 (fp_X9_flatten_254 kc12 nn) x2 x3 x4 x5 x6 q8
              else none
            else
              fp_X9_flatten_326  kc12 (fp_X9_flatten_254 kc12 nn) x2 x3 x4 x5 x6 μ
          else
            fp_X9_flatten_326  kc12 (fp_X9_flatten_254 kc12 nn) x2 x3 x4 x5 x6 μ
        else
          if kb_in x4 220 = true then
            (fn_X9_stops (4 : Int32) (kb_a μ 11 x4.toNatClampNeg) μ).bind fun q6 =>
            fp_X9_flatten_357  kc12 (fp_X9_flatten_254 kc12 nn) x2 x3 x4 x5 x6 q6
          else none
      else
        fp_X9_flatten_400  kc12 x2 x3 x4 μ
  else none
theorem fp_X9_flatten_254_s  (kc12 : Int32 → Int32 → Int32 → kb_S → Option (kb_S)) (nn : Nat) (x2 : Int32) (x3 : Int32) (x4 : Int32) (x5 : Int32) (x6 : Int32) (μ : kb_S) : fp_X9_flatten_254 kc12 (nn + 1) x2 x3 x4 x5 x6 μ =
  if kb_in x4 220 = true then
    if (kb_a μ 10 x4.toNatClampNeg) ≤ x6 then
      fp_X9_flatten_400  kc12 x2 x3 x4 μ
    else
      if (kb_g μ 6) = 0 then
        if (fn_X9_takes x5) ≤ x2 then
          if x5 = (8 : Int32) then
            if (x2 + x3) = (1 : Int32) then
              if kb_in x4 220 = true then
                (fn_X9_stops (5 : Int32) (kb_a μ 11 x4.toNatClampNeg) μ).bind fun q8 =>
                fp_X9_flatten_357  kc12 (fp_X9_flatten_254 kc12 nn) x2 x3 x4 x5 x6 q8
              else none
            else
              fp_X9_flatten_326  kc12 (fp_X9_flatten_254 kc12 nn) x2 x3 x4 x5 x6 μ
          else
            fp_X9_flatten_326  kc12 (fp_X9_flatten_254 kc12 nn) x2 x3 x4 x5 x6 μ
        else
          if kb_in x4 220 = true then
            (fn_X9_stops (4 : Int32) (kb_a μ 11 x4.toNatClampNeg) μ).bind fun q6 =>
            fp_X9_flatten_357  kc12 (fp_X9_flatten_254 kc12 nn) x2 x3 x4 x5 x6 q6
          else none
      else
        fp_X9_flatten_400  kc12 x2 x3 x4 μ
  else none := rfl
def fp_X9_flatten_246  (kc12 : Int32 → Int32 → Int32 → kb_S → Option (kb_S)) (x2 : Int32) (x3 : Int32) (y0 : Int32) (μ : kb_S) : Option (kb_S) :=
  fp_X9_flatten_403  kc12 x2 x3 y0 μ
theorem fp_X9_flatten_246_e  (kc12 : Int32 → Int32 → Int32 → kb_S → Option (kb_S)) (x2 : Int32) (x3 : Int32) (y0 : Int32) (μ : kb_S) : fp_X9_flatten_246 kc12 x2 x3 y0 μ =
  fp_X9_flatten_403  kc12 x2 x3 y0 μ := rfl
def fp_X9_flatten_160  (kc12 : Int32 → Int32 → Int32 → kb_S → Option (kb_S)) (x2 : Int32) (x3 : Int32) (y0 : Int32) (μ : kb_S) : Option (kb_S) :=
  fp_X9_flatten_403  kc12 x2 x3 y0 μ
theorem fp_X9_flatten_160_e  (kc12 : Int32 → Int32 → Int32 → kb_S → Option (kb_S)) (x2 : Int32) (x3 : Int32) (y0 : Int32) (μ : kb_S) : fp_X9_flatten_160 kc12 x2 x3 y0 μ =
  fp_X9_flatten_403  kc12 x2 x3 y0 μ := rfl
def fp_X9_flatten_133  (kc12 : Int32 → Int32 → Int32 → kb_S → Option (kb_S)) (x2 : Int32) (x3 : Int32) (x4 : Int32) (y0 : Int32) (y1 : Int32) (μ : kb_S) : Option (kb_S) :=
  if kb_in y1 220 = true then
    if kb_in x4 220 = true then
      if (kb_a (kb_ap μ 18 y1.toNatClampNeg y0) 18 x4.toNatClampNeg) = 0 then
        if kb_in x4 220 = true then
          fp_X9_flatten_160  kc12 x2 x3 ((kb_a μ 12 x4.toNatClampNeg) + (1 : Int32)) (kb_ap μ 18 y1.toNatClampNeg y0)
        else none
      else
        fp_X9_flatten_160  kc12 x2 x3 (x4 + (1 : Int32)) (kb_ap μ 18 y1.toNatClampNeg y0)
    else none
  else none
theorem fp_X9_flatten_133_e  (kc12 : Int32 → Int32 → Int32 → kb_S → Option (kb_S)) (x2 : Int32) (x3 : Int32) (x4 : Int32) (y0 : Int32) (y1 : Int32) (μ : kb_S) : fp_X9_flatten_133 kc12 x2 x3 x4 y0 y1 μ =
  if kb_in y1 220 = true then
    if kb_in x4 220 = true then
      if (kb_a (kb_ap μ 18 y1.toNatClampNeg y0) 18 x4.toNatClampNeg) = 0 then
        if kb_in x4 220 = true then
          fp_X9_flatten_160  kc12 x2 x3 ((kb_a μ 12 x4.toNatClampNeg) + (1 : Int32)) (kb_ap μ 18 y1.toNatClampNeg y0)
        else none
      else
        fp_X9_flatten_160  kc12 x2 x3 (x4 + (1 : Int32)) (kb_ap μ 18 y1.toNatClampNeg y0)
    else none
  else none := rfl
def fp_X9_flatten_104  (kc12 : Int32 → Int32 → Int32 → kb_S → Option (kb_S)) (x2 : Int32) (x3 : Int32) (x4 : Int32) (x6 : Int32) (μ : kb_S) : Option (kb_S) :=
  if (kb_g μ 6) ≤ 0 then
    if kb_in x4 220 = true then
      if ¬ x6 = 0 then
        fp_X9_flatten_133  kc12 x2 x3 x4 ((x2 - (kb_a μ 10 x4.toNatClampNeg)) / x6) x4 μ
      else none
    else none
  else
    fp_X9_flatten_133  kc12 x2 x3 x4 (0 : Int32) x4 μ
theorem fp_X9_flatten_104_e  (kc12 : Int32 → Int32 → Int32 → kb_S → Option (kb_S)) (x2 : Int32) (x3 : Int32) (x4 : Int32) (x6 : Int32) (μ : kb_S) : fp_X9_flatten_104 kc12 x2 x3 x4 x6 μ =
  if (kb_g μ 6) ≤ 0 then
    if kb_in x4 220 = true then
      if ¬ x6 = 0 then
        fp_X9_flatten_133  kc12 x2 x3 x4 ((x2 - (kb_a μ 10 x4.toNatClampNeg)) / x6) x4 μ
      else none
    else none
  else
    fp_X9_flatten_133  kc12 x2 x3 x4 (0 : Int32) x4 μ := rfl
def fp_X9_flatten_92  (kc12 : Int32 → Int32 → Int32 → kb_S → Option (kb_S)) (x2 : Int32) (x3 : Int32) (x4 : Int32) (x6 : Int32) (μ : kb_S) : Option (kb_S) :=
  if kb_in x4 220 = true then
    (fn_X9_stops (3 : Int32) (kb_a μ 11 x4.toNatClampNeg) μ).bind fun q2 =>
    fp_X9_flatten_104  kc12 x2 x3 x4 x6 q2
  else none
theorem fp_X9_flatten_92_e  (kc12 : Int32 → Int32 → Int32 → kb_S → Option (kb_S)) (x2 : Int32) (x3 : Int32) (x4 : Int32) (x6 : Int32) (μ : kb_S) : fp_X9_flatten_92 kc12 x2 x3 x4 x6 μ =
  if kb_in x4 220 = true then
    (fn_X9_stops (3 : Int32) (kb_a μ 11 x4.toNatClampNeg) μ).bind fun q2 =>
    fp_X9_flatten_104  kc12 x2 x3 x4 x6 q2
  else none := rfl
def fp_X9_flatten_12   : Nat → Int32 → Int32 → Int32 → kb_S → Option (kb_S)
  | 0 => fun _ _ _ _ => none
  | nn + 1 => fun x2 x3 x4 μ => 
  if (kb_g μ 9) ≤ x4 then
    fp_X9_flatten_406   x2 x3 μ
  else
    if (kb_g μ 6) = 0 then
      if kb_in x4 220 = true then
        if (kb_a μ 9 x4.toNatClampNeg) = (22 : Int32) then
          if kb_in x4 220 = true then
            (fn_X9_taken (x4 + (1 : Int32)) (kb_a μ 12 x4.toNatClampNeg) μ).bind fun q6 =>
            if q6 = 0 then
              fp_X9_flatten_92  (fp_X9_flatten_12  nn) x2 x3 x4 q6 μ
            else
              if kb_in x4 220 = true then
                if x2 < (kb_a μ 10 x4.toNatClampNeg) then
                  fp_X9_flatten_92  (fp_X9_flatten_12  nn) x2 x3 x4 q6 μ
                else
                  if kb_in x4 220 = true then
                    if ¬ q6 = 0 then
                      if ((x2 - (kb_a μ 10 x4.toNatClampNeg)) - (x2 - (kb_a μ 10 x4.toNatClampNeg)) / q6 * q6) = 0 then
                        fp_X9_flatten_104  (fp_X9_flatten_12  nn) x2 x3 x4 q6 μ
                      else
                        fp_X9_flatten_92  (fp_X9_flatten_12  nn) x2 x3 x4 q6 μ
                    else none
                  else none
              else none
          else none
        else
          if (kb_a μ 9 x4.toNatClampNeg) = (20 : Int32) then
            if kb_in x4 220 = true then
              if kb_in x4 220 = true then
                fp_X9_flatten_403  (fp_X9_flatten_12  nn) x2 x3 (x4 + (1 : Int32)) (kb_ap μ 18 x4.toNatClampNeg (kb_a μ 10 x4.toNatClampNeg))
              else none
            else none
          else
            if (kb_a μ 9 x4.toNatClampNeg) = (21 : Int32) then
              if kb_in x4 220 = true then
                if kb_in (kb_a μ 12 x4.toNatClampNeg) 220 = true then
                  if kb_in (kb_a μ 12 x4.toNatClampNeg) 220 = true then
                    if kb_in x4 220 = true then
                      if kb_in (kb_a μ 12 x4.toNatClampNeg) 220 = true then
                        if (kb_a (kb_ap μ 18 (kb_a μ 12 x4.toNatClampNeg).toNatClampNeg ((kb_a μ 18 (kb_a μ 12 x4.toNatClampNeg).toNatClampNeg) - (1 : Int32))) 18 (kb_a μ 12 x4.toNatClampNeg).toNatClampNeg) ≤ 0 then
                          fp_X9_flatten_246  (fp_X9_flatten_12  nn) x2 x3 (x4 + (1 : Int32)) (kb_ap μ 18 (kb_a μ 12 x4.toNatClampNeg).toNatClampNeg ((kb_a μ 18 (kb_a μ 12 x4.toNatClampNeg).toNatClampNeg) - (1 : Int32)))
                        else
                          if kb_in x4 220 = true then
                            fp_X9_flatten_246  (fp_X9_flatten_12  nn) x2 x3 ((kb_a μ 12 x4.toNatClampNeg) + (1 : Int32)) (kb_ap μ 18 (kb_a μ 12 x4.toNatClampNeg).toNatClampNeg ((kb_a μ 18 (kb_a μ 12 x4.toNatClampNeg).toNatClampNeg) - (1 : Int32)))
                          else none
                      else none
                    else none
                  else none
                else none
              else none
            else
              fp_X9_flatten_254  (fp_X9_flatten_12  nn) kb_FU x2 x3 x4 (kb_a μ 9 x4.toNatClampNeg) (0 : Int32) μ
      else none
    else
      fp_X9_flatten_406   x2 x3 μ
theorem fp_X9_flatten_12_s   (nn : Nat) (x2 : Int32) (x3 : Int32) (x4 : Int32) (μ : kb_S) : fp_X9_flatten_12  (nn + 1) x2 x3 x4 μ =
  if (kb_g μ 9) ≤ x4 then
    fp_X9_flatten_406   x2 x3 μ
  else
    if (kb_g μ 6) = 0 then
      if kb_in x4 220 = true then
        if (kb_a μ 9 x4.toNatClampNeg) = (22 : Int32) then
          if kb_in x4 220 = true then
            (fn_X9_taken (x4 + (1 : Int32)) (kb_a μ 12 x4.toNatClampNeg) μ).bind fun q6 =>
            if q6 = 0 then
              fp_X9_flatten_92  (fp_X9_flatten_12  nn) x2 x3 x4 q6 μ
            else
              if kb_in x4 220 = true then
                if x2 < (kb_a μ 10 x4.toNatClampNeg) then
                  fp_X9_flatten_92  (fp_X9_flatten_12  nn) x2 x3 x4 q6 μ
                else
                  if kb_in x4 220 = true then
                    if ¬ q6 = 0 then
                      if ((x2 - (kb_a μ 10 x4.toNatClampNeg)) - (x2 - (kb_a μ 10 x4.toNatClampNeg)) / q6 * q6) = 0 then
                        fp_X9_flatten_104  (fp_X9_flatten_12  nn) x2 x3 x4 q6 μ
                      else
                        fp_X9_flatten_92  (fp_X9_flatten_12  nn) x2 x3 x4 q6 μ
                    else none
                  else none
              else none
          else none
        else
          if (kb_a μ 9 x4.toNatClampNeg) = (20 : Int32) then
            if kb_in x4 220 = true then
              if kb_in x4 220 = true then
                fp_X9_flatten_403  (fp_X9_flatten_12  nn) x2 x3 (x4 + (1 : Int32)) (kb_ap μ 18 x4.toNatClampNeg (kb_a μ 10 x4.toNatClampNeg))
              else none
            else none
          else
            if (kb_a μ 9 x4.toNatClampNeg) = (21 : Int32) then
              if kb_in x4 220 = true then
                if kb_in (kb_a μ 12 x4.toNatClampNeg) 220 = true then
                  if kb_in (kb_a μ 12 x4.toNatClampNeg) 220 = true then
                    if kb_in x4 220 = true then
                      if kb_in (kb_a μ 12 x4.toNatClampNeg) 220 = true then
                        if (kb_a (kb_ap μ 18 (kb_a μ 12 x4.toNatClampNeg).toNatClampNeg ((kb_a μ 18 (kb_a μ 12 x4.toNatClampNeg).toNatClampNeg) - (1 : Int32))) 18 (kb_a μ 12 x4.toNatClampNeg).toNatClampNeg) ≤ 0 then
                          fp_X9_flatten_246  (fp_X9_flatten_12  nn) x2 x3 (x4 + (1 : Int32)) (kb_ap μ 18 (kb_a μ 12 x4.toNatClampNeg).toNatClampNeg ((kb_a μ 18 (kb_a μ 12 x4.toNatClampNeg).toNatClampNeg) - (1 : Int32)))
                        else
                          if kb_in x4 220 = true then
                            fp_X9_flatten_246  (fp_X9_flatten_12  nn) x2 x3 ((kb_a μ 12 x4.toNatClampNeg) + (1 : Int32)) (kb_ap μ 18 (kb_a μ 12 x4.toNatClampNeg).toNatClampNeg ((kb_a μ 18 (kb_a μ 12 x4.toNatClampNeg).toNatClampNeg) - (1 : Int32)))
                          else none
                      else none
                    else none
                  else none
                else none
              else none
            else
              fp_X9_flatten_254  (fp_X9_flatten_12  nn) kb_FU x2 x3 x4 (kb_a μ 9 x4.toNatClampNeg) (0 : Int32) μ
      else none
    else
      fp_X9_flatten_406   x2 x3 μ := rfl
def fn_X9_flatten  (x1 : Int32) (μ : kb_S) : Option (kb_S) :=
  fp_X9_flatten_12   kb_FU x1 (0 : Int32) (0 : Int32) (kb_p μ 10 (0 : Int32))
theorem fe_X9_flatten  (x1 : Int32) (μ : kb_S) : fn_X9_flatten  x1 μ =
  fp_X9_flatten_12   kb_FU x1 (0 : Int32) (0 : Int32) (kb_p μ 10 (0 : Int32)) := rfl
theorem hd_X9_flatten : yX9_flatten.cls = RX9 ∧ yX9_flatten.cls ≠ "java/lang/invoke/MethodHandle" ∧ yX9_flatten.cls ≠ "java/lang/invoke/VarHandle" ∧ (parseMethodDescriptor yX9_flatten.desc).map (fun d => d.parameters.length) = some 1 := by decide +kernel
set_option maxRecDepth 100000 in
set_option maxHeartbeats 4000000 in
theorem ct_X9_flatten (l : Launch) (V : kb_V) (A : Nat → Prop)  (x1 : Int32) (d : Nat → Nat) (μ : kb_S) (ex : va_W) {μ9 : kb_S} (hf : fn_X9_flatten  x1 μ = some μ9) : kb_T l yX9_flatten cX9_flatten 7 none ({ frames := 3, cells := 0, slots := 0, locals := 65 } : Room) V A [.ref (d 0), .int x1] (kb_WM V d μ ex) none (kb_WM V d μ9 ex) 0 0 := by
  refine kb_start (cc := cX9_flatten) (nL := 7) (ret := none) (own := RX9) (by decide) rfl (Nat.le_of_ble_eq_true rfl) ?_
  intro p e s m args below meth c C
  have hp436 : ∀ (μ : kb_S), fp_X9_flatten_436   μ = some μ9 → kb_J p l e ({ frames := 3, cells := 0, slots := 0, locals := 65 } : Room) s m args below meth c 7 V A 0 0 (MQ below (kb_post V A none (kb_WM V d μ9 ex)) args s 0 0 A) 436 [(0, .ref (d 0))] [] (kb_WM V d μ ex) := by
    intro μ hf
    rw [fp_X9_flatten_436_e] at hf
    refine kj_aload_n (pc := 436) C 0 dX9_flatten_436 rfl rfl ?_
    refine kg_X9_rows (pc := 437) (v := (kb_g μ 4)) C wf_X9_86 dX9_flatten_437 rfl ?_
    refine kj_bipush (pc := 440) (v := (30 : Int32)) C dX9_flatten_440 (by decide) ?_
    refine kj_icmp_ne (pc := 442) 455 C dX9_flatten_442 (by decide) (fun c1 => ?_) (fun c1 => ?_)
    · have hf := kb_ife hf c1
      cases hf
      exact kj_vret (pc := 455) C dX9_flatten_455
    · have hf := kb_ift hf c1
      refine kj_aload_n (pc := 445) C 0 dX9_flatten_445 rfl rfl ?_
      refine kj_bipush (pc := 446) (v := (9 : Int32)) C dX9_flatten_446 (by decide) ?_
      refine kj_aload_n (pc := 448) C 0 dX9_flatten_448 rfl rfl ?_
      refine kg_X9_taped (pc := 449) (v := (kb_g μ 1)) C wf_X9_104 dX9_flatten_449 rfl ?_
      obtain ⟨q2, hq2, hf⟩ := kb_bd hf
      refine kj_callV0 (pc := 452) (as := [.int (9 : Int32), .int (kb_g μ 1)]) (rest := []) (b := (d 0)) C (ct_X9_stops l V A (9 : Int32) (kb_g μ 1) d μ ex hq2) wd_X9_stops wk_X9_192 wi_X9_stops ws_X9_stops wz_X9 rfl rfl hd_X9_stops ⟨by decide, by decide⟩ 0 rfl rfl rfl rfl (Nat.le_of_ble_eq_true rfl) (by decide) dX9_flatten_452 ?_
      cases hf
      exact kj_vret (pc := 455) C dX9_flatten_455
  have hp420 : ∀ (x3 : Int32) (μ : kb_S), fp_X9_flatten_420   x3 μ = some μ9 → kb_J p l e ({ frames := 3, cells := 0, slots := 0, locals := 65 } : Room) s m args below meth c 7 V A 0 0 (MQ below (kb_post V A none (kb_WM V d μ9 ex)) args s 0 0 A) 420 [(0, .ref (d 0)), (3, .int x3)] [] (kb_WM V d μ ex) := by
    intro x3 μ hf
    rw [fp_X9_flatten_420_e] at hf
    refine kj_iload_n (pc := 420) C 1 dX9_flatten_420 rfl rfl ?_
    refine kj_bipush (pc := 421) (v := (40 : Int32)) C dX9_flatten_421 (by decide) ?_
    refine kj_icmp_le (pc := 423) 436 C dX9_flatten_423 (by decide) (fun c1 => ?_) (fun c1 => ?_)
    · have hf := kb_ift hf c1
      refine kj_sub [0] (L2 := [(0, .ref (d 0))]) rfl ?_
      exact hp436 μ hf
    · have hf := kb_ife hf c1
      refine kj_aload_n (pc := 426) C 0 dX9_flatten_426 rfl rfl ?_
      refine kj_bipush (pc := 427) (v := (8 : Int32)) C dX9_flatten_427 (by decide) ?_
      refine kj_aload_n (pc := 429) C 0 dX9_flatten_429 rfl rfl ?_
      refine kg_X9_taped (pc := 430) (v := (kb_g μ 1)) C wf_X9_104 dX9_flatten_430 rfl ?_
      obtain ⟨q2, hq2, hf⟩ := kb_bd hf
      refine kj_callV0 (pc := 433) (as := [.int (8 : Int32), .int (kb_g μ 1)]) (rest := []) (b := (d 0)) C (ct_X9_stops l V A (8 : Int32) (kb_g μ 1) d μ ex hq2) wd_X9_stops wk_X9_192 wi_X9_stops ws_X9_stops wz_X9 rfl rfl hd_X9_stops ⟨by decide, by decide⟩ 0 rfl rfl rfl rfl (Nat.le_of_ble_eq_true rfl) (by decide) dX9_flatten_433 ?_
      refine kj_sub [0] (L2 := [(0, .ref (d 0))]) rfl ?_
      exact hp436 q2 hf
  have hp406 : ∀ (x2 : Int32) (x3 : Int32) (μ : kb_S), fp_X9_flatten_406   x2 x3 μ = some μ9 → kb_J p l e ({ frames := 3, cells := 0, slots := 0, locals := 65 } : Room) s m args below meth c 7 V A 0 0 (MQ below (kb_post V A none (kb_WM V d μ9 ex)) args s 0 0 A) 406 [(0, .ref (d 0)), (2, .int x2), (3, .int x3)] [] (kb_WM V d μ ex) := by
    intro x2 x3 μ hf
    rw [fp_X9_flatten_406_e] at hf
    refine kj_iload_n (pc := 406) C 1 dX9_flatten_406 rfl rfl ?_
    refine kj_if_le (pc := 407) 420 C dX9_flatten_407 (by decide) (fun c1 => ?_) (fun c1 => ?_)
    · have hf := kb_ift hf c1
      refine kj_sub [0, 2] (L2 := [(0, .ref (d 0)), (3, .int x3)]) rfl ?_
      exact hp420 x3 μ hf
    · have hf := kb_ife hf c1
      refine kj_aload_n (pc := 410) C 0 dX9_flatten_410 rfl rfl ?_
      refine kj_bipush (pc := 411) (v := (7 : Int32)) C dX9_flatten_411 (by decide) ?_
      refine kj_aload_n (pc := 413) C 0 dX9_flatten_413 rfl rfl ?_
      refine kg_X9_taped (pc := 414) (v := (kb_g μ 1)) C wf_X9_104 dX9_flatten_414 rfl ?_
      obtain ⟨q2, hq2, hf⟩ := kb_bd hf
      refine kj_callV0 (pc := 417) (as := [.int (7 : Int32), .int (kb_g μ 1)]) (rest := []) (b := (d 0)) C (ct_X9_stops l V A (7 : Int32) (kb_g μ 1) d μ ex hq2) wd_X9_stops wk_X9_192 wi_X9_stops ws_X9_stops wz_X9 rfl rfl hd_X9_stops ⟨by decide, by decide⟩ 0 rfl rfl rfl rfl (Nat.le_of_ble_eq_true rfl) (by decide) dX9_flatten_417 ?_
      refine kj_sub [0, 2] (L2 := [(0, .ref (d 0)), (3, .int x3)]) rfl ?_
      exact hp420 x3 q2 hf
  have hp12 : ∀ (nn : Nat) (x2 : Int32) (x3 : Int32) (x4 : Int32) (μ : kb_S), fp_X9_flatten_12   nn x2 x3 x4 μ = some μ9 → kb_J p l e ({ frames := 3, cells := 0, slots := 0, locals := 65 } : Room) s m args below meth c 7 V A 0 0 (MQ below (kb_post V A none (kb_WM V d μ9 ex)) args s 0 0 A) 12 [(0, .ref (d 0)), (2, .int x2), (3, .int x3), (4, .int x4)] [] (kb_WM V d μ ex) := by
    intro nn12
    induction nn12 with
    | zero => intro x2 x3 x4 μ hf; exact kb_no hf
    | succ nn12 ih12 =>
      have hp403 : ∀ (x2 : Int32) (x3 : Int32) (x4 : Int32) (μ : kb_S), fp_X9_flatten_403  (fp_X9_flatten_12   nn12) x2 x3 x4 μ = some μ9 → kb_J p l e ({ frames := 3, cells := 0, slots := 0, locals := 65 } : Room) s m args below meth c 7 V A 0 0 (MQ below (kb_post V A none (kb_WM V d μ9 ex)) args s 0 0 A) 403 [(0, .ref (d 0)), (2, .int x2), (3, .int x3), (4, .int x4)] [] (kb_WM V d μ ex) := by
        intro x2 x3 x4 μ hf
        rw [fp_X9_flatten_403_e] at hf
        refine kj_goto (pc := 403) 12 C dX9_flatten_403 (by decide) ?_
        exact ih12 x2 x3 x4 μ hf
      have hp400 : ∀ (x2 : Int32) (x3 : Int32) (x4 : Int32) (μ : kb_S), fp_X9_flatten_400  (fp_X9_flatten_12   nn12) x2 x3 x4 μ = some μ9 → kb_J p l e ({ frames := 3, cells := 0, slots := 0, locals := 65 } : Room) s m args below meth c 7 V A 0 0 (MQ below (kb_post V A none (kb_WM V d μ9 ex)) args s 0 0 A) 400 [(0, .ref (d 0)), (2, .int x2), (3, .int x3), (4, .int x4)] [] (kb_WM V d μ ex) := by
        intro x2 x3 x4 μ hf
        rw [fp_X9_flatten_400_e] at hf
        refine kj_iinc (pc := 400) C 3 [1, 2, 3, 0] (L2 := [(0, .ref (d 0)), (2, .int x2), (3, .int x3), (4, .int (x4 + (1 : Int32)))]) dX9_flatten_400 rfl rfl (by decide) rfl ?_
        exact hp403 x2 x3 (x4 + (1 : Int32)) μ hf
      have hp254 : ∀ (nn : Nat) (x2 : Int32) (x3 : Int32) (x4 : Int32) (x5 : Int32) (x6 : Int32) (μ : kb_S), fp_X9_flatten_254  (fp_X9_flatten_12   nn12) nn x2 x3 x4 x5 x6 μ = some μ9 → kb_J p l e ({ frames := 3, cells := 0, slots := 0, locals := 65 } : Room) s m args below meth c 7 V A 0 0 (MQ below (kb_post V A none (kb_WM V d μ9 ex)) args s 0 0 A) 254 [(0, .ref (d 0)), (2, .int x2), (3, .int x3), (4, .int x4), (5, .int x5), (6, .int x6)] [] (kb_WM V d μ ex) := by
        intro nn254
        induction nn254 with
        | zero => intro x2 x3 x4 x5 x6 μ hf; exact kb_no hf
        | succ nn254 ih254 =>
          have hp357 : ∀ (x2 : Int32) (x3 : Int32) (x4 : Int32) (x5 : Int32) (x6 : Int32) (μ : kb_S), fp_X9_flatten_357  (fp_X9_flatten_12   nn12) (fp_X9_flatten_254  (fp_X9_flatten_12   nn12) nn254) x2 x3 x4 x5 x6 μ = some μ9 → kb_J p l e ({ frames := 3, cells := 0, slots := 0, locals := 65 } : Room) s m args below meth c 7 V A 0 0 (MQ below (kb_post V A none (kb_WM V d μ9 ex)) args s 0 0 A) 357 [(0, .ref (d 0)), (2, .int x2), (3, .int x3), (4, .int x4), (5, .int x5), (6, .int x6)] [] (kb_WM V d μ ex) := by
            intro x2 x3 x4 x5 x6 μ hf
            rw [fp_X9_flatten_357_e] at hf
            refine kj_iload_n (pc := 357) C 1 dX9_flatten_357 rfl rfl ?_
            refine kj_iload (pc := 358) C 4 dX9_flatten_358 rfl ?_
            refine kj_callS0 (pc := 360) (as := [.int x5]) (rest := [.int x2]) C (ct_X9_takes l V A x5 (kb_WM V d μ ex) rfl) wd_X9_takes wk_X9_182 wi_X9_takes wz_X9 rfl rfl hd_X9_takes ⟨by decide, by decide⟩ rfl (Nat.le_of_ble_eq_true rfl) (by decide) dX9_flatten_360 ?_
            refine kj_isub (pc := 363) C dX9_flatten_363 ?_
            refine kj_istore_n (pc := 364) C [1, 0, 2, 3, 4, 5] (L2 := [(0, .ref (d 0)), (2, .int (x2 - (fn_X9_takes x5))), (3, .int x3), (4, .int x4), (5, .int x5), (6, .int x6)]) dX9_flatten_364 rfl (by decide) rfl ?_
            refine kj_iload_n (pc := 365) C 2 dX9_flatten_365 rfl rfl ?_
            refine kj_iload (pc := 366) C 4 dX9_flatten_366 rfl ?_
            refine kj_callS0 (pc := 368) (as := [.int x5]) (rest := [.int x3]) C (ct_X9_makes l V A x5 (kb_WM V d μ ex) rfl) wd_X9_makes wk_X9_195 wi_X9_makes wz_X9 rfl rfl hd_X9_makes ⟨by decide, by decide⟩ rfl (Nat.le_of_ble_eq_true rfl) (by decide) dX9_flatten_368 ?_
            refine kj_iadd (pc := 371) C dX9_flatten_371 ?_
            refine kj_istore_n (pc := 372) C [1, 2, 0, 3, 4, 5] (L2 := [(0, .ref (d 0)), (2, .int (x2 - (fn_X9_takes x5))), (3, .int (x3 + (fn_X9_makes x5))), (4, .int x4), (5, .int x5), (6, .int x6)]) dX9_flatten_372 rfl (by decide) rfl ?_
            refine kj_aload_n (pc := 373) C 0 dX9_flatten_373 rfl rfl ?_
            refine kg_X9_made (pc := 374) C wf_X9_50 dX9_flatten_374 ?_
            refine kj_aload_n (pc := 377) C 0 dX9_flatten_377 rfl rfl ?_
            refine kg_X9_size (pc := 378) (v := (kb_g μ 10)) C wf_X9_185 dX9_flatten_378 rfl ?_
            refine kj_iload (pc := 381) C 4 dX9_flatten_381 rfl ?_
            obtain ⟨g1, hf⟩ := kb_gd hf
            refine ks_X9_made (pc := 383) C g1 dX9_flatten_383 ?_
            refine kj_aload_n (pc := 384) C 0 dX9_flatten_384 rfl rfl ?_
            refine kj_dup (pc := 385) C dX9_flatten_385 rfl ?_
            refine kg_X9_size (pc := 386) (v := (kb_g μ 10)) C wf_X9_185 dX9_flatten_386 rfl ?_
            refine kj_iconst (pc := 389) (v := (1 : Int32)) C dX9_flatten_389 (by decide) ?_
            refine kj_iadd (pc := 390) C dX9_flatten_390 ?_
            refine kp_X9_size (pc := 391) C wf_X9_185 dX9_flatten_391 ?_
            refine kj_iinc (pc := 394) C 5 [1, 2, 3, 4, 5, 0] (L2 := [(0, .ref (d 0)), (2, .int (x2 - (fn_X9_takes x5))), (3, .int (x3 + (fn_X9_makes x5))), (4, .int x4), (5, .int x5), (6, .int (x6 + (1 : Int32)))]) dX9_flatten_394 rfl rfl (by decide) rfl ?_
            refine kj_goto (pc := 397) 254 C dX9_flatten_397 (by decide) ?_
            exact ih254 (x2 - (fn_X9_takes x5)) (x3 + (fn_X9_makes x5)) x4 x5 (x6 + (1 : Int32)) (kb_p (kb_ap μ 13 (kb_g μ 10).toNatClampNeg x5) 10 ((kb_g μ 10) + (1 : Int32))) hf
          have hp326 : ∀ (x2 : Int32) (x3 : Int32) (x4 : Int32) (x5 : Int32) (x6 : Int32) (μ : kb_S), fp_X9_flatten_326  (fp_X9_flatten_12   nn12) (fp_X9_flatten_254  (fp_X9_flatten_12   nn12) nn254) x2 x3 x4 x5 x6 μ = some μ9 → kb_J p l e ({ frames := 3, cells := 0, slots := 0, locals := 65 } : Room) s m args below meth c 7 V A 0 0 (MQ below (kb_post V A none (kb_WM V d μ9 ex)) args s 0 0 A) 326 [(0, .ref (d 0)), (2, .int x2), (3, .int x3), (4, .int x4), (5, .int x5), (6, .int x6)] [] (kb_WM V d μ ex) := by
            intro x2 x3 x4 x5 x6 μ hf
            rw [fp_X9_flatten_326_e] at hf
            refine kj_aload_n (pc := 326) C 0 dX9_flatten_326 rfl rfl ?_
            refine kg_X9_loops (pc := 327) (v := (kb_g μ 3)) C wf_X9_83 dX9_flatten_327 rfl ?_
            refine kj_iload_n (pc := 330) C 2 dX9_flatten_330 rfl rfl ?_
            refine kj_iadd (pc := 331) C dX9_flatten_331 ?_
            refine kj_iload (pc := 332) C 4 dX9_flatten_332 rfl ?_
            refine kj_callS0 (pc := 334) (as := [.int x5]) (rest := [.int ((kb_g μ 3) + x3)]) C (ct_X9_makes l V A x5 (kb_WM V d μ ex) rfl) wd_X9_makes wk_X9_195 wi_X9_makes wz_X9 rfl rfl hd_X9_makes ⟨by decide, by decide⟩ rfl (Nat.le_of_ble_eq_true rfl) (by decide) dX9_flatten_334 ?_
            refine kj_iadd (pc := 337) C dX9_flatten_337 ?_
            refine kj_sipush (pc := 338) (v := (600 : Int32)) C dX9_flatten_338 (by decide) ?_
            refine kj_icmp_le (pc := 341) 357 C dX9_flatten_341 (by decide) (fun c1 => ?_) (fun c1 => ?_)
            · have hf := kb_ift hf c1
              exact hp357 x2 x3 x4 x5 x6 μ hf
            · have hf := kb_ife hf c1
              refine kj_aload_n (pc := 344) C 0 dX9_flatten_344 rfl rfl ?_
              refine kj_bipush (pc := 345) (v := (6 : Int32)) C dX9_flatten_345 (by decide) ?_
              refine kj_aload_n (pc := 347) C 0 dX9_flatten_347 rfl rfl ?_
              refine kg_X9_where (pc := 348) C wf_X9_44 dX9_flatten_348 ?_
              refine kj_iload (pc := 351) C 3 dX9_flatten_351 rfl ?_
              obtain ⟨g2, hf⟩ := kb_gd hf
              refine ka_X9_where (pc := 353) (v := (kb_a μ 11 x4.toNatClampNeg)) C g2 dX9_flatten_353 rfl ?_
              obtain ⟨q3, hq3, hf⟩ := kb_bd hf
              refine kj_callV0 (pc := 354) (as := [.int (6 : Int32), .int (kb_a μ 11 x4.toNatClampNeg)]) (rest := []) (b := (d 0)) C (ct_X9_stops l V A (6 : Int32) (kb_a μ 11 x4.toNatClampNeg) d μ ex hq3) wd_X9_stops wk_X9_192 wi_X9_stops ws_X9_stops wz_X9 rfl rfl hd_X9_stops ⟨by decide, by decide⟩ 0 rfl rfl rfl rfl (Nat.le_of_ble_eq_true rfl) (by decide) dX9_flatten_354 ?_
              exact hp357 x2 x3 x4 x5 x6 q3 hf
          intro x2 x3 x4 x5 x6 μ hf
          rw [fp_X9_flatten_254_s] at hf
          refine kj_iload (pc := 254) C 5 dX9_flatten_254 rfl ?_
          refine kj_aload_n (pc := 256) C 0 dX9_flatten_256 rfl rfl ?_
          refine kg_X9_number (pc := 257) C wf_X9_41 dX9_flatten_257 ?_
          refine kj_iload (pc := 260) C 3 dX9_flatten_260 rfl ?_
          obtain ⟨g1, hf⟩ := kb_gd hf
          refine ka_X9_number (pc := 262) (v := (kb_a μ 10 x4.toNatClampNeg)) C g1 dX9_flatten_262 rfl ?_
          refine kj_icmp_ge (pc := 263) 400 C dX9_flatten_263 (by decide) (fun c2 => ?_) (fun c2 => ?_)
          · have hf := kb_ift hf c2
            refine kj_sub [0, 1, 2, 3] (L2 := [(0, .ref (d 0)), (2, .int x2), (3, .int x3), (4, .int x4)]) rfl ?_
            exact hp400 x2 x3 x4 μ hf
          · have hf := kb_ife hf c2
            refine kj_aload_n (pc := 266) C 0 dX9_flatten_266 rfl rfl ?_
            refine kg_X9_fault (pc := 267) (v := (kb_g μ 6)) C wf_X9_114 dX9_flatten_267 rfl ?_
            refine kj_if_ne (pc := 270) 400 C dX9_flatten_270 (by decide) (fun c3 => ?_) (fun c3 => ?_)
            · have hf := kb_ife hf c3
              refine kj_sub [0, 1, 2, 3] (L2 := [(0, .ref (d 0)), (2, .int x2), (3, .int x3), (4, .int x4)]) rfl ?_
              exact hp400 x2 x3 x4 μ hf
            · have hf := kb_ift hf c3
              refine kj_iload (pc := 273) C 4 dX9_flatten_273 rfl ?_
              refine kj_callS0 (pc := 275) (as := [.int x5]) (rest := []) C (ct_X9_takes l V A x5 (kb_WM V d μ ex) rfl) wd_X9_takes wk_X9_182 wi_X9_takes wz_X9 rfl rfl hd_X9_takes ⟨by decide, by decide⟩ rfl (Nat.le_of_ble_eq_true rfl) (by decide) dX9_flatten_275 ?_
              refine kj_iload_n (pc := 278) C 1 dX9_flatten_278 rfl rfl ?_
              refine kj_icmp_le (pc := 279) 297 C dX9_flatten_279 (by decide) (fun c4 => ?_) (fun c4 => ?_)
              · have hf := kb_ift hf c4
                refine kj_iload (pc := 297) C 4 dX9_flatten_297 rfl ?_
                refine kj_bipush (pc := 299) (v := (8 : Int32)) C dX9_flatten_299 (by decide) ?_
                refine kj_icmp_ne (pc := 301) 326 C dX9_flatten_301 (by decide) (fun c5 => ?_) (fun c5 => ?_)
                · have hf := kb_ife hf c5
                  exact hp326 x2 x3 x4 x5 x6 μ hf
                · have hf := kb_ift hf c5
                  refine kj_iload_n (pc := 304) C 1 dX9_flatten_304 rfl rfl ?_
                  refine kj_iload_n (pc := 305) C 2 dX9_flatten_305 rfl rfl ?_
                  refine kj_iadd (pc := 306) C dX9_flatten_306 ?_
                  refine kj_iconst (pc := 307) (v := (1 : Int32)) C dX9_flatten_307 (by decide) ?_
                  refine kj_icmp_ne (pc := 308) 326 C dX9_flatten_308 (by decide) (fun c6 => ?_) (fun c6 => ?_)
                  · have hf := kb_ife hf c6
                    exact hp326 x2 x3 x4 x5 x6 μ hf
                  · have hf := kb_ift hf c6
                    refine kj_aload_n (pc := 311) C 0 dX9_flatten_311 rfl rfl ?_
                    refine kj_iconst (pc := 312) (v := (5 : Int32)) C dX9_flatten_312 (by decide) ?_
                    refine kj_aload_n (pc := 313) C 0 dX9_flatten_313 rfl rfl ?_
                    refine kg_X9_where (pc := 314) C wf_X9_44 dX9_flatten_314 ?_
                    refine kj_iload (pc := 317) C 3 dX9_flatten_317 rfl ?_
                    obtain ⟨g7, hf⟩ := kb_gd hf
                    refine ka_X9_where (pc := 319) (v := (kb_a μ 11 x4.toNatClampNeg)) C g7 dX9_flatten_319 rfl ?_
                    obtain ⟨q8, hq8, hf⟩ := kb_bd hf
                    refine kj_callV0 (pc := 320) (as := [.int (5 : Int32), .int (kb_a μ 11 x4.toNatClampNeg)]) (rest := []) (b := (d 0)) C (ct_X9_stops l V A (5 : Int32) (kb_a μ 11 x4.toNatClampNeg) d μ ex hq8) wd_X9_stops wk_X9_192 wi_X9_stops ws_X9_stops wz_X9 rfl rfl hd_X9_stops ⟨by decide, by decide⟩ 0 rfl rfl rfl rfl (Nat.le_of_ble_eq_true rfl) (by decide) dX9_flatten_320 ?_
                    refine kj_goto (pc := 323) 357 C dX9_flatten_323 (by decide) ?_
                    exact hp357 x2 x3 x4 x5 x6 q8 hf
              · have hf := kb_ife hf c4
                refine kj_aload_n (pc := 282) C 0 dX9_flatten_282 rfl rfl ?_
                refine kj_iconst (pc := 283) (v := (4 : Int32)) C dX9_flatten_283 (by decide) ?_
                refine kj_aload_n (pc := 284) C 0 dX9_flatten_284 rfl rfl ?_
                refine kg_X9_where (pc := 285) C wf_X9_44 dX9_flatten_285 ?_
                refine kj_iload (pc := 288) C 3 dX9_flatten_288 rfl ?_
                obtain ⟨g5, hf⟩ := kb_gd hf
                refine ka_X9_where (pc := 290) (v := (kb_a μ 11 x4.toNatClampNeg)) C g5 dX9_flatten_290 rfl ?_
                obtain ⟨q6, hq6, hf⟩ := kb_bd hf
                refine kj_callV0 (pc := 291) (as := [.int (4 : Int32), .int (kb_a μ 11 x4.toNatClampNeg)]) (rest := []) (b := (d 0)) C (ct_X9_stops l V A (4 : Int32) (kb_a μ 11 x4.toNatClampNeg) d μ ex hq6) wd_X9_stops wk_X9_192 wi_X9_stops ws_X9_stops wz_X9 rfl rfl hd_X9_stops ⟨by decide, by decide⟩ 0 rfl rfl rfl rfl (Nat.le_of_ble_eq_true rfl) (by decide) dX9_flatten_291 ?_
                refine kj_goto (pc := 294) 357 C dX9_flatten_294 (by decide) ?_
                exact hp357 x2 x3 x4 x5 x6 q6 hf
      have hp246 : ∀ (x2 : Int32) (x3 : Int32) (y0 : Int32) (μ : kb_S), fp_X9_flatten_246  (fp_X9_flatten_12   nn12) x2 x3 y0 μ = some μ9 → kb_J p l e ({ frames := 3, cells := 0, slots := 0, locals := 65 } : Room) s m args below meth c 7 V A 0 0 (MQ below (kb_post V A none (kb_WM V d μ9 ex)) args s 0 0 A) 246 [(0, .ref (d 0)), (2, .int x2), (3, .int x3)] [.int y0] (kb_WM V d μ ex) := by
        intro x2 x3 y0 μ hf
        rw [fp_X9_flatten_246_e] at hf
        refine kj_istore (pc := 246) C [1, 2, 3, 0] (L2 := [(0, .ref (d 0)), (2, .int x2), (3, .int x3), (4, .int y0)]) dX9_flatten_246 (by decide) rfl ?_
        refine kj_goto (pc := 248) 403 C dX9_flatten_248 (by decide) ?_
        exact hp403 x2 x3 y0 μ hf
      have hp160 : ∀ (x2 : Int32) (x3 : Int32) (y0 : Int32) (μ : kb_S), fp_X9_flatten_160  (fp_X9_flatten_12   nn12) x2 x3 y0 μ = some μ9 → kb_J p l e ({ frames := 3, cells := 0, slots := 0, locals := 65 } : Room) s m args below meth c 7 V A 0 0 (MQ below (kb_post V A none (kb_WM V d μ9 ex)) args s 0 0 A) 160 [(0, .ref (d 0)), (2, .int x2), (3, .int x3)] [.int y0] (kb_WM V d μ ex) := by
        intro x2 x3 y0 μ hf
        rw [fp_X9_flatten_160_e] at hf
        refine kj_istore (pc := 160) C [1, 2, 3, 0] (L2 := [(0, .ref (d 0)), (2, .int x2), (3, .int x3), (4, .int y0)]) dX9_flatten_160 (by decide) rfl ?_
        refine kj_goto (pc := 162) 403 C dX9_flatten_162 (by decide) ?_
        exact hp403 x2 x3 y0 μ hf
      have hp133 : ∀ (x2 : Int32) (x3 : Int32) (x4 : Int32) (y0 : Int32) (y1 : Int32) (μ : kb_S), fp_X9_flatten_133  (fp_X9_flatten_12   nn12) x2 x3 x4 y0 y1 μ = some μ9 → kb_J p l e ({ frames := 3, cells := 0, slots := 0, locals := 65 } : Room) s m args below meth c 7 V A 0 0 (MQ below (kb_post V A none (kb_WM V d μ9 ex)) args s 0 0 A) 133 [(0, .ref (d 0)), (2, .int x2), (3, .int x3), (4, .int x4)] [.int y0, .int y1, .ref (d 19)] (kb_WM V d μ ex) := by
        intro x2 x3 x4 y0 y1 μ hf
        rw [fp_X9_flatten_133_e] at hf
        obtain ⟨g1, hf⟩ := kb_gd hf
        refine ks_X9_turns (pc := 133) C g1 dX9_flatten_133 ?_
        refine kj_aload_n (pc := 134) C 0 dX9_flatten_134 rfl rfl ?_
        refine kg_X9_turns (pc := 135) C wf_X9_65 dX9_flatten_135 ?_
        refine kj_iload (pc := 138) C 3 dX9_flatten_138 rfl ?_
        obtain ⟨g2, hf⟩ := kb_gd hf
        refine ka_X9_turns (pc := 140) (v := (kb_a (kb_ap μ 18 y1.toNatClampNeg y0) 18 x4.toNatClampNeg)) C g2 dX9_flatten_140 rfl ?_
        refine kj_if_ne (pc := 141) 156 C dX9_flatten_141 (by decide) (fun c3 => ?_) (fun c3 => ?_)
        · have hf := kb_ife hf c3
          refine kj_iload (pc := 156) C 3 dX9_flatten_156 rfl ?_
          refine kj_iconst (pc := 158) (v := (1 : Int32)) C dX9_flatten_158 (by decide) ?_
          refine kj_iadd (pc := 159) C dX9_flatten_159 ?_
          refine kj_sub [0, 1, 2] (L2 := [(0, .ref (d 0)), (2, .int x2), (3, .int x3)]) rfl ?_
          exact hp160 x2 x3 (x4 + (1 : Int32)) (kb_ap μ 18 y1.toNatClampNeg y0) hf
        · have hf := kb_ift hf c3
          refine kj_aload_n (pc := 144) C 0 dX9_flatten_144 rfl rfl ?_
          refine kg_X9_other (pc := 145) C wf_X9_47 dX9_flatten_145 ?_
          refine kj_iload (pc := 148) C 3 dX9_flatten_148 rfl ?_
          obtain ⟨g4, hf⟩ := kb_gd hf
          refine ka_X9_other (pc := 150) (v := (kb_a μ 12 x4.toNatClampNeg)) C g4 dX9_flatten_150 rfl ?_
          refine kj_iconst (pc := 151) (v := (1 : Int32)) C dX9_flatten_151 (by decide) ?_
          refine kj_iadd (pc := 152) C dX9_flatten_152 ?_
          refine kj_goto (pc := 153) 160 C dX9_flatten_153 (by decide) ?_
          refine kj_sub [0, 1, 2] (L2 := [(0, .ref (d 0)), (2, .int x2), (3, .int x3)]) rfl ?_
          exact hp160 x2 x3 ((kb_a μ 12 x4.toNatClampNeg) + (1 : Int32)) (kb_ap μ 18 y1.toNatClampNeg y0) hf
      have hp104 : ∀ (x2 : Int32) (x3 : Int32) (x4 : Int32) (x6 : Int32) (μ : kb_S), fp_X9_flatten_104  (fp_X9_flatten_12   nn12) x2 x3 x4 x6 μ = some μ9 → kb_J p l e ({ frames := 3, cells := 0, slots := 0, locals := 65 } : Room) s m args below meth c 7 V A 0 0 (MQ below (kb_post V A none (kb_WM V d μ9 ex)) args s 0 0 A) 104 [(0, .ref (d 0)), (2, .int x2), (3, .int x3), (4, .int x4), (6, .int x6)] [] (kb_WM V d μ ex) := by
        intro x2 x3 x4 x6 μ hf
        rw [fp_X9_flatten_104_e] at hf
        refine kj_aload_n (pc := 104) C 0 dX9_flatten_104 rfl rfl ?_
        refine kg_X9_turns (pc := 105) C wf_X9_65 dX9_flatten_105 ?_
        refine kj_iload (pc := 108) C 3 dX9_flatten_108 rfl ?_
        refine kj_aload_n (pc := 110) C 0 dX9_flatten_110 rfl rfl ?_
        refine kg_X9_fault (pc := 111) (v := (kb_g μ 6)) C wf_X9_114 dX9_flatten_111 rfl ?_
        refine kj_if_le (pc := 114) 121 C dX9_flatten_114 (by decide) (fun c1 => ?_) (fun c1 => ?_)
        · have hf := kb_ift hf c1
          refine kj_iload_n (pc := 121) C 1 dX9_flatten_121 rfl rfl ?_
          refine kj_aload_n (pc := 122) C 0 dX9_flatten_122 rfl rfl ?_
          refine kg_X9_number (pc := 123) C wf_X9_41 dX9_flatten_123 ?_
          refine kj_iload (pc := 126) C 3 dX9_flatten_126 rfl ?_
          obtain ⟨g2, hf⟩ := kb_gd hf
          refine ka_X9_number (pc := 128) (v := (kb_a μ 10 x4.toNatClampNeg)) C g2 dX9_flatten_128 rfl ?_
          refine kj_isub (pc := 129) C dX9_flatten_129 ?_
          refine kj_iload (pc := 130) C 4 dX9_flatten_130 rfl ?_
          obtain ⟨g3, hf⟩ := kb_gd hf
          refine kj_idiv (pc := 132) C dX9_flatten_132 g3 ?_
          refine kj_sub [0, 1, 2, 3] (L2 := [(0, .ref (d 0)), (2, .int x2), (3, .int x3), (4, .int x4)]) rfl ?_
          exact hp133 x2 x3 x4 ((x2 - (kb_a μ 10 x4.toNatClampNeg)) / x6) x4 μ hf
        · have hf := kb_ife hf c1
          refine kj_iconst (pc := 117) (v := (0 : Int32)) C dX9_flatten_117 (by decide) ?_
          refine kj_goto (pc := 118) 133 C dX9_flatten_118 (by decide) ?_
          refine kj_sub [0, 1, 2, 3] (L2 := [(0, .ref (d 0)), (2, .int x2), (3, .int x3), (4, .int x4)]) rfl ?_
          exact hp133 x2 x3 x4 (0 : Int32) x4 μ hf
      have hp92 : ∀ (x2 : Int32) (x3 : Int32) (x4 : Int32) (x6 : Int32) (μ : kb_S), fp_X9_flatten_92  (fp_X9_flatten_12   nn12) x2 x3 x4 x6 μ = some μ9 → kb_J p l e ({ frames := 3, cells := 0, slots := 0, locals := 65 } : Room) s m args below meth c 7 V A 0 0 (MQ below (kb_post V A none (kb_WM V d μ9 ex)) args s 0 0 A) 92 [(0, .ref (d 0)), (2, .int x2), (3, .int x3), (4, .int x4), (6, .int x6)] [] (kb_WM V d μ ex) := by
        intro x2 x3 x4 x6 μ hf
        rw [fp_X9_flatten_92_e] at hf
        refine kj_aload_n (pc := 92) C 0 dX9_flatten_92 rfl rfl ?_
        refine kj_iconst (pc := 93) (v := (3 : Int32)) C dX9_flatten_93 (by decide) ?_
        refine kj_aload_n (pc := 94) C 0 dX9_flatten_94 rfl rfl ?_
        refine kg_X9_where (pc := 95) C wf_X9_44 dX9_flatten_95 ?_
        refine kj_iload (pc := 98) C 3 dX9_flatten_98 rfl ?_
        obtain ⟨g1, hf⟩ := kb_gd hf
        refine ka_X9_where (pc := 100) (v := (kb_a μ 11 x4.toNatClampNeg)) C g1 dX9_flatten_100 rfl ?_
        obtain ⟨q2, hq2, hf⟩ := kb_bd hf
        refine kj_callV0 (pc := 101) (as := [.int (3 : Int32), .int (kb_a μ 11 x4.toNatClampNeg)]) (rest := []) (b := (d 0)) C (ct_X9_stops l V A (3 : Int32) (kb_a μ 11 x4.toNatClampNeg) d μ ex hq2) wd_X9_stops wk_X9_192 wi_X9_stops ws_X9_stops wz_X9 rfl rfl hd_X9_stops ⟨by decide, by decide⟩ 0 rfl rfl rfl rfl (Nat.le_of_ble_eq_true rfl) (by decide) dX9_flatten_101 ?_
        exact hp104 x2 x3 x4 x6 q2 hf
      intro x2 x3 x4 μ hf
      rw [fp_X9_flatten_12_s] at hf
      refine kj_iload (pc := 12) C 3 dX9_flatten_12 rfl ?_
      refine kj_aload_n (pc := 14) C 0 dX9_flatten_14 rfl rfl ?_
      refine kg_X9_marks (pc := 15) (v := (kb_g μ 9)) C wf_X9_123 dX9_flatten_15 rfl ?_
      refine kj_icmp_ge (pc := 18) 406 C dX9_flatten_18 (by decide) (fun c1 => ?_) (fun c1 => ?_)
      · have hf := kb_ift hf c1
        refine kj_sub [0, 1, 2] (L2 := [(0, .ref (d 0)), (2, .int x2), (3, .int x3)]) rfl ?_
        exact hp406 x2 x3 μ hf
      · have hf := kb_ife hf c1
        refine kj_aload_n (pc := 21) C 0 dX9_flatten_21 rfl rfl ?_
        refine kg_X9_fault (pc := 22) (v := (kb_g μ 6)) C wf_X9_114 dX9_flatten_22 rfl ?_
        refine kj_if_ne (pc := 25) 406 C dX9_flatten_25 (by decide) (fun c2 => ?_) (fun c2 => ?_)
        · have hf := kb_ife hf c2
          refine kj_sub [0, 1, 2] (L2 := [(0, .ref (d 0)), (2, .int x2), (3, .int x3)]) rfl ?_
          exact hp406 x2 x3 μ hf
        · have hf := kb_ift hf c2
          refine kj_aload_n (pc := 28) C 0 dX9_flatten_28 rfl rfl ?_
          refine kg_X9_mark (pc := 29) C wf_X9_38 dX9_flatten_29 ?_
          refine kj_iload (pc := 32) C 3 dX9_flatten_32 rfl ?_
          obtain ⟨g3, hf⟩ := kb_gd hf
          refine ka_X9_mark (pc := 34) (v := (kb_a μ 9 x4.toNatClampNeg)) C g3 dX9_flatten_34 rfl ?_
          refine kj_istore (pc := 35) C [1, 2, 3, 4, 0] (L2 := [(0, .ref (d 0)), (2, .int x2), (3, .int x3), (4, .int x4), (5, .int (kb_a μ 9 x4.toNatClampNeg))]) dX9_flatten_35 (by decide) rfl ?_
          refine kj_iload (pc := 37) C 4 dX9_flatten_37 rfl ?_
          refine kj_bipush (pc := 39) (v := (22 : Int32)) C dX9_flatten_39 (by decide) ?_
          refine kj_icmp_ne (pc := 41) 165 C dX9_flatten_41 (by decide) (fun c4 => ?_) (fun c4 => ?_)
          · have hf := kb_ife hf c4
            refine kj_iload (pc := 165) C 4 dX9_flatten_165 rfl ?_
            refine kj_bipush (pc := 167) (v := (20 : Int32)) C dX9_flatten_167 (by decide) ?_
            refine kj_icmp_ne (pc := 169) 192 C dX9_flatten_169 (by decide) (fun c5 => ?_) (fun c5 => ?_)
            · have hf := kb_ife hf c5
              refine kj_iload (pc := 192) C 4 dX9_flatten_192 rfl ?_
              refine kj_bipush (pc := 194) (v := (21 : Int32)) C dX9_flatten_194 (by decide) ?_
              refine kj_icmp_ne (pc := 196) 251 C dX9_flatten_196 (by decide) (fun c6 => ?_) (fun c6 => ?_)
              · have hf := kb_ife hf c6
                refine kj_iconst (pc := 251) (v := (0 : Int32)) C dX9_flatten_251 (by decide) ?_
                refine kj_istore (pc := 252) C [1, 2, 3, 4, 5, 0] (L2 := [(0, .ref (d 0)), (2, .int x2), (3, .int x3), (4, .int x4), (5, .int (kb_a μ 9 x4.toNatClampNeg)), (6, .int (0 : Int32))]) dX9_flatten_252 (by decide) rfl ?_
                exact hp254 kb_FU x2 x3 x4 (kb_a μ 9 x4.toNatClampNeg) (0 : Int32) μ hf
              · have hf := kb_ift hf c6
                refine kj_aload_n (pc := 199) C 0 dX9_flatten_199 rfl rfl ?_
                refine kg_X9_turns (pc := 200) C wf_X9_65 dX9_flatten_200 ?_
                refine kj_aload_n (pc := 203) C 0 dX9_flatten_203 rfl rfl ?_
                refine kg_X9_other (pc := 204) C wf_X9_47 dX9_flatten_204 ?_
                refine kj_iload (pc := 207) C 3 dX9_flatten_207 rfl ?_
                obtain ⟨g7, hf⟩ := kb_gd hf
                refine ka_X9_other (pc := 209) (v := (kb_a μ 12 x4.toNatClampNeg)) C g7 dX9_flatten_209 rfl ?_
                refine kj_dup2 (pc := 210) C dX9_flatten_210 rfl rfl ?_
                obtain ⟨g8, hf⟩ := kb_gd hf
                refine ka_X9_turns (pc := 211) (v := (kb_a μ 18 (kb_a μ 12 x4.toNatClampNeg).toNatClampNeg)) C g8 dX9_flatten_211 rfl ?_
                refine kj_iconst (pc := 212) (v := (1 : Int32)) C dX9_flatten_212 (by decide) ?_
                refine kj_isub (pc := 213) C dX9_flatten_213 ?_
                obtain ⟨g9, hf⟩ := kb_gd hf
                refine ks_X9_turns (pc := 214) C g9 dX9_flatten_214 ?_
                refine kj_aload_n (pc := 215) C 0 dX9_flatten_215 rfl rfl ?_
                refine kg_X9_turns (pc := 216) C wf_X9_65 dX9_flatten_216 ?_
                refine kj_aload_n (pc := 219) C 0 dX9_flatten_219 rfl rfl ?_
                refine kg_X9_other (pc := 220) C wf_X9_47 dX9_flatten_220 ?_
                refine kj_iload (pc := 223) C 3 dX9_flatten_223 rfl ?_
                obtain ⟨g10, hf⟩ := kb_gd hf
                refine ka_X9_other (pc := 225) (v := (kb_a μ 12 x4.toNatClampNeg)) C g10 dX9_flatten_225 rfl ?_
                obtain ⟨g11, hf⟩ := kb_gd hf
                refine ka_X9_turns (pc := 226) (v := (kb_a (kb_ap μ 18 (kb_a μ 12 x4.toNatClampNeg).toNatClampNeg ((kb_a μ 18 (kb_a μ 12 x4.toNatClampNeg).toNatClampNeg) - (1 : Int32))) 18 (kb_a μ 12 x4.toNatClampNeg).toNatClampNeg)) C g11 dX9_flatten_226 rfl ?_
                refine kj_if_le (pc := 227) 242 C dX9_flatten_227 (by decide) (fun c12 => ?_) (fun c12 => ?_)
                · have hf := kb_ift hf c12
                  refine kj_iload (pc := 242) C 3 dX9_flatten_242 rfl ?_
                  refine kj_iconst (pc := 244) (v := (1 : Int32)) C dX9_flatten_244 (by decide) ?_
                  refine kj_iadd (pc := 245) C dX9_flatten_245 ?_
                  refine kj_sub [0, 1, 2] (L2 := [(0, .ref (d 0)), (2, .int x2), (3, .int x3)]) rfl ?_
                  exact hp246 x2 x3 (x4 + (1 : Int32)) (kb_ap μ 18 (kb_a μ 12 x4.toNatClampNeg).toNatClampNeg ((kb_a μ 18 (kb_a μ 12 x4.toNatClampNeg).toNatClampNeg) - (1 : Int32))) hf
                · have hf := kb_ife hf c12
                  refine kj_aload_n (pc := 230) C 0 dX9_flatten_230 rfl rfl ?_
                  refine kg_X9_other (pc := 231) C wf_X9_47 dX9_flatten_231 ?_
                  refine kj_iload (pc := 234) C 3 dX9_flatten_234 rfl ?_
                  obtain ⟨g13, hf⟩ := kb_gd hf
                  refine ka_X9_other (pc := 236) (v := (kb_a μ 12 x4.toNatClampNeg)) C g13 dX9_flatten_236 rfl ?_
                  refine kj_iconst (pc := 237) (v := (1 : Int32)) C dX9_flatten_237 (by decide) ?_
                  refine kj_iadd (pc := 238) C dX9_flatten_238 ?_
                  refine kj_goto (pc := 239) 246 C dX9_flatten_239 (by decide) ?_
                  refine kj_sub [0, 1, 2] (L2 := [(0, .ref (d 0)), (2, .int x2), (3, .int x3)]) rfl ?_
                  exact hp246 x2 x3 ((kb_a μ 12 x4.toNatClampNeg) + (1 : Int32)) (kb_ap μ 18 (kb_a μ 12 x4.toNatClampNeg).toNatClampNeg ((kb_a μ 18 (kb_a μ 12 x4.toNatClampNeg).toNatClampNeg) - (1 : Int32))) hf
            · have hf := kb_ift hf c5
              refine kj_aload_n (pc := 172) C 0 dX9_flatten_172 rfl rfl ?_
              refine kg_X9_turns (pc := 173) C wf_X9_65 dX9_flatten_173 ?_
              refine kj_iload (pc := 176) C 3 dX9_flatten_176 rfl ?_
              refine kj_aload_n (pc := 178) C 0 dX9_flatten_178 rfl rfl ?_
              refine kg_X9_number (pc := 179) C wf_X9_41 dX9_flatten_179 ?_
              refine kj_iload (pc := 182) C 3 dX9_flatten_182 rfl ?_
              obtain ⟨g6, hf⟩ := kb_gd hf
              refine ka_X9_number (pc := 184) (v := (kb_a μ 10 x4.toNatClampNeg)) C g6 dX9_flatten_184 rfl ?_
              obtain ⟨g7, hf⟩ := kb_gd hf
              refine ks_X9_turns (pc := 185) C g7 dX9_flatten_185 ?_
              refine kj_iinc (pc := 186) C 3 [1, 2, 3, 0, 4] (L2 := [(0, .ref (d 0)), (2, .int x2), (3, .int x3), (4, .int (x4 + (1 : Int32))), (5, .int (kb_a μ 9 x4.toNatClampNeg))]) dX9_flatten_186 rfl rfl (by decide) rfl ?_
              refine kj_goto (pc := 189) 403 C dX9_flatten_189 (by decide) ?_
              refine kj_sub [0, 1, 2, 3] (L2 := [(0, .ref (d 0)), (2, .int x2), (3, .int x3), (4, .int (x4 + (1 : Int32)))]) rfl ?_
              exact hp403 x2 x3 (x4 + (1 : Int32)) (kb_ap μ 18 x4.toNatClampNeg (kb_a μ 10 x4.toNatClampNeg)) hf
          · have hf := kb_ift hf c4
            refine kj_aload_n (pc := 44) C 0 dX9_flatten_44 rfl rfl ?_
            refine kj_iload (pc := 45) C 3 dX9_flatten_45 rfl ?_
            refine kj_iconst (pc := 47) (v := (1 : Int32)) C dX9_flatten_47 (by decide) ?_
            refine kj_iadd (pc := 48) C dX9_flatten_48 ?_
            refine kj_aload_n (pc := 49) C 0 dX9_flatten_49 rfl rfl ?_
            refine kg_X9_other (pc := 50) C wf_X9_47 dX9_flatten_50 ?_
            refine kj_iload (pc := 53) C 3 dX9_flatten_53 rfl ?_
            obtain ⟨g5, hf⟩ := kb_gd hf
            refine ka_X9_other (pc := 55) (v := (kb_a μ 12 x4.toNatClampNeg)) C g5 dX9_flatten_55 rfl ?_
            obtain ⟨q6, hq6, hf⟩ := kb_bd hf
            refine kj_callV0 (pc := 56) (as := [.int (x4 + (1 : Int32)), .int (kb_a μ 12 x4.toNatClampNeg)]) (rest := []) (b := (d 0)) C (ct_X9_taken l V A (x4 + (1 : Int32)) (kb_a μ 12 x4.toNatClampNeg) d μ ex hq6) wd_X9_taken wk_X9_188 wi_X9_taken ws_X9_taken wz_X9 rfl rfl hd_X9_taken ⟨by decide, by decide⟩ 0 rfl rfl rfl rfl (Nat.le_of_ble_eq_true rfl) (by decide) dX9_flatten_56 ?_
            refine kj_istore (pc := 59) C [1, 2, 3, 4, 5, 0] (L2 := [(0, .ref (d 0)), (2, .int x2), (3, .int x3), (4, .int x4), (5, .int (kb_a μ 9 x4.toNatClampNeg)), (6, .int q6)]) dX9_flatten_59 (by decide) rfl ?_
            refine kj_iload (pc := 61) C 5 dX9_flatten_61 rfl ?_
            refine kj_if_eq (pc := 63) 92 C dX9_flatten_63 (by decide) (fun c7 => ?_) (fun c7 => ?_)
            · have hf := kb_ift hf c7
              refine kj_sub [0, 1, 2, 3, 5] (L2 := [(0, .ref (d 0)), (2, .int x2), (3, .int x3), (4, .int x4), (6, .int q6)]) rfl ?_
              exact hp92 x2 x3 x4 q6 μ hf
            · have hf := kb_ife hf c7
              refine kj_iload_n (pc := 66) C 1 dX9_flatten_66 rfl rfl ?_
              refine kj_aload_n (pc := 67) C 0 dX9_flatten_67 rfl rfl ?_
              refine kg_X9_number (pc := 68) C wf_X9_41 dX9_flatten_68 ?_
              refine kj_iload (pc := 71) C 3 dX9_flatten_71 rfl ?_
              obtain ⟨g8, hf⟩ := kb_gd hf
              refine ka_X9_number (pc := 73) (v := (kb_a μ 10 x4.toNatClampNeg)) C g8 dX9_flatten_73 rfl ?_
              refine kj_icmp_lt (pc := 74) 92 C dX9_flatten_74 (by decide) (fun c9 => ?_) (fun c9 => ?_)
              · have hf := kb_ift hf c9
                refine kj_sub [0, 1, 2, 3, 5] (L2 := [(0, .ref (d 0)), (2, .int x2), (3, .int x3), (4, .int x4), (6, .int q6)]) rfl ?_
                exact hp92 x2 x3 x4 q6 μ hf
              · have hf := kb_ife hf c9
                refine kj_iload_n (pc := 77) C 1 dX9_flatten_77 rfl rfl ?_
                refine kj_aload_n (pc := 78) C 0 dX9_flatten_78 rfl rfl ?_
                refine kg_X9_number (pc := 79) C wf_X9_41 dX9_flatten_79 ?_
                refine kj_iload (pc := 82) C 3 dX9_flatten_82 rfl ?_
                obtain ⟨g10, hf⟩ := kb_gd hf
                refine ka_X9_number (pc := 84) (v := (kb_a μ 10 x4.toNatClampNeg)) C g10 dX9_flatten_84 rfl ?_
                refine kj_isub (pc := 85) C dX9_flatten_85 ?_
                refine kj_iload (pc := 86) C 5 dX9_flatten_86 rfl ?_
                obtain ⟨g11, hf⟩ := kb_gd hf
                refine kj_irem (pc := 88) C dX9_flatten_88 g11 ?_
                refine kj_if_eq (pc := 89) 104 C dX9_flatten_89 (by decide) (fun c12 => ?_) (fun c12 => ?_)
                · have hf := kb_ift hf c12
                  refine kj_sub [0, 1, 2, 3, 5] (L2 := [(0, .ref (d 0)), (2, .int x2), (3, .int x3), (4, .int x4), (6, .int q6)]) rfl ?_
                  exact hp104 x2 x3 x4 q6 μ hf
                · have hf := kb_ife hf c12
                  refine kj_sub [0, 1, 2, 3, 5] (L2 := [(0, .ref (d 0)), (2, .int x2), (3, .int x3), (4, .int x4), (6, .int q6)]) rfl ?_
                  exact hp92 x2 x3 x4 q6 μ hf
  refine kj_sub [0, 1] (L2 := [(0, .ref (d 0)), (1, .int x1)]) rfl ?_
  rw [fe_X9_flatten] at hf
  refine kj_aload_n (pc := 0) C 0 dX9_flatten_0 rfl rfl ?_
  refine kj_iconst (pc := 1) (v := (0 : Int32)) C dX9_flatten_1 (by decide) ?_
  refine kp_X9_size (pc := 2) C wf_X9_185 dX9_flatten_2 ?_
  refine kj_iload_n (pc := 5) C 1 dX9_flatten_5 rfl rfl ?_
  refine kj_istore_n (pc := 6) C [1, 2, 0] (L2 := [(0, .ref (d 0)), (1, .int x1), (2, .int x1)]) dX9_flatten_6 rfl (by decide) rfl ?_
  refine kj_iconst (pc := 7) (v := (0 : Int32)) C dX9_flatten_7 (by decide) ?_
  refine kj_istore_n (pc := 8) C [1, 2, 3, 0] (L2 := [(0, .ref (d 0)), (1, .int x1), (2, .int x1), (3, .int (0 : Int32))]) dX9_flatten_8 rfl (by decide) rfl ?_
  refine kj_iconst (pc := 9) (v := (0 : Int32)) C dX9_flatten_9 (by decide) ?_
  refine kj_istore (pc := 10) C [1, 2, 3, 4, 0] (L2 := [(0, .ref (d 0)), (1, .int x1), (2, .int x1), (3, .int (0 : Int32)), (4, .int (0 : Int32))]) dX9_flatten_10 (by decide) rfl ?_
  refine kj_sub [0, 2, 3, 4] (L2 := [(0, .ref (d 0)), (2, .int x1), (3, .int (0 : Int32)), (4, .int (0 : Int32))]) rfl ?_
  exact hp12 kb_FU x1 (0 : Int32) (0 : Int32) (kb_p μ 10 (0 : Int32)) hf
def fn_X9_liveLoops   (μ : kb_S) : Option (Int32) :=
  if kb_in (kb_g μ 4) 32 = true then
    some ((kb_g μ 3) - (kb_a μ 6 (kb_g μ 4).toNatClampNeg))
  else none
theorem fe_X9_liveLoops   (μ : kb_S) : fn_X9_liveLoops   μ =
  if kb_in (kb_g μ 4) 32 = true then
    some ((kb_g μ 3) - (kb_a μ 6 (kb_g μ 4).toNatClampNeg))
  else none := rfl
theorem hd_X9_liveLoops : yX9_liveLoops.cls = RX9 ∧ yX9_liveLoops.cls ≠ "java/lang/invoke/MethodHandle" ∧ yX9_liveLoops.cls ≠ "java/lang/invoke/VarHandle" ∧ (parseMethodDescriptor yX9_liveLoops.desc).map (fun d => d.parameters.length) = some 0 := by decide +kernel
set_option maxRecDepth 100000 in
set_option maxHeartbeats 4000000 in
theorem ct_X9_liveLoops (l : Launch) (V : kb_V) (A : Nat → Prop)   (d : Nat → Nat) (μ : kb_S) (ex : va_W) {r : Int32} (hf : fn_X9_liveLoops   μ = some r) : kb_T l yX9_liveLoops cX9_liveLoops 1 (some .int) ({ frames := 0, cells := 0, slots := 0, locals := 0 } : Room) V A [.ref (d 0)] (kb_WM V d μ ex) (some (.int r)) (kb_WM V d μ ex) 0 0 := by
  refine kb_start (cc := cX9_liveLoops) (nL := 1) (ret := (some .int)) (own := RX9) (by decide) rfl (Nat.le_of_ble_eq_true rfl) ?_
  intro p e s m args below meth c C
  refine kj_sub [0] (L2 := [(0, .ref (d 0))]) rfl ?_
  rw [fe_X9_liveLoops] at hf
  refine kj_aload_n (pc := 0) C 0 dX9_liveLoops_0 rfl rfl ?_
  refine kg_X9_loops (pc := 1) (v := (kb_g μ 3)) C wf_X9_83 dX9_liveLoops_1 rfl ?_
  refine kj_aload_n (pc := 4) C 0 dX9_liveLoops_4 rfl rfl ?_
  refine kg_X9_begin (pc := 5) C wf_X9_29 dX9_liveLoops_5 ?_
  refine kj_aload_n (pc := 8) C 0 dX9_liveLoops_8 rfl rfl ?_
  refine kg_X9_rows (pc := 9) (v := (kb_g μ 4)) C wf_X9_86 dX9_liveLoops_9 rfl ?_
  obtain ⟨g1, hf⟩ := kb_gd hf
  refine ka_X9_begin (pc := 12) (v := (kb_a μ 6 (kb_g μ 4).toNatClampNeg)) C g1 dX9_liveLoops_12 rfl ?_
  refine kj_isub (pc := 13) C dX9_liveLoops_13 ?_
  cases hf
  exact kj_iret (pc := 14) C dX9_liveLoops_14
def fn_X9_needle  (x1 : Int32) (μ : kb_S) : Option (Int32) :=
  if (kb_g μ 2) = 0 then
    some (((kb_g μ 3) - (1 : Int32)) - x1)
  else
    if kb_in (kb_g μ 4) 32 = true then
      some ((kb_a μ 6 (kb_g μ 4).toNatClampNeg) + x1)
    else none
theorem fe_X9_needle  (x1 : Int32) (μ : kb_S) : fn_X9_needle  x1 μ =
  if (kb_g μ 2) = 0 then
    some (((kb_g μ 3) - (1 : Int32)) - x1)
  else
    if kb_in (kb_g μ 4) 32 = true then
      some ((kb_a μ 6 (kb_g μ 4).toNatClampNeg) + x1)
    else none := rfl
theorem hd_X9_needle : yX9_needle.cls = RX9 ∧ yX9_needle.cls ≠ "java/lang/invoke/MethodHandle" ∧ yX9_needle.cls ≠ "java/lang/invoke/VarHandle" ∧ (parseMethodDescriptor yX9_needle.desc).map (fun d => d.parameters.length) = some 1 := by decide +kernel
set_option maxRecDepth 100000 in
set_option maxHeartbeats 4000000 in
theorem ct_X9_needle (l : Launch) (V : kb_V) (A : Nat → Prop)  (x1 : Int32) (d : Nat → Nat) (μ : kb_S) (ex : va_W) {r : Int32} (hf : fn_X9_needle  x1 μ = some r) : kb_T l yX9_needle cX9_needle 2 (some .int) ({ frames := 0, cells := 0, slots := 0, locals := 0 } : Room) V A [.ref (d 0), .int x1] (kb_WM V d μ ex) (some (.int r)) (kb_WM V d μ ex) 0 0 := by
  refine kb_start (cc := cX9_needle) (nL := 2) (ret := (some .int)) (own := RX9) (by decide) rfl (Nat.le_of_ble_eq_true rfl) ?_
  intro p e s m args below meth c C
  refine kj_sub [0, 1] (L2 := [(0, .ref (d 0)), (1, .int x1)]) rfl ?_
  rw [fe_X9_needle] at hf
  refine kj_aload_n (pc := 0) C 0 dX9_needle_0 rfl rfl ?_
  refine kg_X9_round (pc := 1) (v := (kb_g μ 2)) C wf_X9_79 dX9_needle_1 rfl ?_
  refine kj_if_eq (pc := 4) 21 C dX9_needle_4 (by decide) (fun c1 => ?_) (fun c1 => ?_)
  · have hf := kb_ift hf c1
    refine kj_aload_n (pc := 21) C 0 dX9_needle_21 rfl rfl ?_
    refine kg_X9_loops (pc := 22) (v := (kb_g μ 3)) C wf_X9_83 dX9_needle_22 rfl ?_
    refine kj_iconst (pc := 25) (v := (1 : Int32)) C dX9_needle_25 (by decide) ?_
    refine kj_isub (pc := 26) C dX9_needle_26 ?_
    refine kj_iload_n (pc := 27) C 1 dX9_needle_27 rfl rfl ?_
    refine kj_isub (pc := 28) C dX9_needle_28 ?_
    cases hf
    exact kj_iret (pc := 29) C dX9_needle_29
  · have hf := kb_ife hf c1
    refine kj_aload_n (pc := 7) C 0 dX9_needle_7 rfl rfl ?_
    refine kg_X9_begin (pc := 8) C wf_X9_29 dX9_needle_8 ?_
    refine kj_aload_n (pc := 11) C 0 dX9_needle_11 rfl rfl ?_
    refine kg_X9_rows (pc := 12) (v := (kb_g μ 4)) C wf_X9_86 dX9_needle_12 rfl ?_
    obtain ⟨g2, hf⟩ := kb_gd hf
    refine ka_X9_begin (pc := 15) (v := (kb_a μ 6 (kb_g μ 4).toNatClampNeg)) C g2 dX9_needle_15 rfl ?_
    refine kj_iload_n (pc := 16) C 1 dX9_needle_16 rfl rfl ?_
    refine kj_iadd (pc := 17) C dX9_needle_17 ?_
    refine kj_goto (pc := 18) 29 C dX9_needle_18 (by decide) ?_
    cases hf
    exact kj_iret (pc := 29) C dX9_needle_29
def fn_X9_take  (x1 : Int32) (x2 : Int32) (x3 : Int32) (μ : kb_S) : Int32 :=
  if (kb_g μ 2) = 0 then
    ((x2 - (1 : Int32)) - x3)
  else
    (x1 + x3)
theorem fe_X9_take  (x1 : Int32) (x2 : Int32) (x3 : Int32) (μ : kb_S) : fn_X9_take  x1 x2 x3 μ =
  if (kb_g μ 2) = 0 then
    ((x2 - (1 : Int32)) - x3)
  else
    (x1 + x3) := rfl
theorem hd_X9_take : yX9_take.cls = RX9 ∧ yX9_take.cls ≠ "java/lang/invoke/MethodHandle" ∧ yX9_take.cls ≠ "java/lang/invoke/VarHandle" ∧ (parseMethodDescriptor yX9_take.desc).map (fun d => d.parameters.length) = some 3 := by decide +kernel
set_option maxRecDepth 100000 in
set_option maxHeartbeats 4000000 in
theorem ct_X9_take (l : Launch) (V : kb_V) (A : Nat → Prop)  (x1 : Int32) (x2 : Int32) (x3 : Int32) (d : Nat → Nat) (μ : kb_S) (ex : va_W) {r : Int32} (hf : fn_X9_take  x1 x2 x3 μ = r) : kb_T l yX9_take cX9_take 4 (some .int) ({ frames := 0, cells := 0, slots := 0, locals := 0 } : Room) V A [.ref (d 0), .int x1, .int x2, .int x3] (kb_WM V d μ ex) (some (.int r)) (kb_WM V d μ ex) 0 0 := by
  refine kb_start (cc := cX9_take) (nL := 4) (ret := (some .int)) (own := RX9) (by decide) rfl (Nat.le_of_ble_eq_true rfl) ?_
  intro p e s m args below meth c C
  refine kj_sub [0, 1, 2, 3] (L2 := [(0, .ref (d 0)), (1, .int x1), (2, .int x2), (3, .int x3)]) rfl ?_
  rw [fe_X9_take] at hf
  refine kj_aload_n (pc := 0) C 0 dX9_take_0 rfl rfl ?_
  refine kg_X9_round (pc := 1) (v := (kb_g μ 2)) C wf_X9_79 dX9_take_1 rfl ?_
  refine kj_if_eq (pc := 4) 13 C dX9_take_4 (by decide) (fun c1 => ?_) (fun c1 => ?_)
  · have hf := kb_ift hf c1
    refine kj_iload_n (pc := 13) C 2 dX9_take_13 rfl rfl ?_
    refine kj_iconst (pc := 14) (v := (1 : Int32)) C dX9_take_14 (by decide) ?_
    refine kj_isub (pc := 15) C dX9_take_15 ?_
    refine kj_iload_n (pc := 16) C 3 dX9_take_16 rfl rfl ?_
    refine kj_isub (pc := 17) C dX9_take_17 ?_
    subst hf
    exact kj_iret (pc := 18) C dX9_take_18
  · have hf := kb_ife hf c1
    refine kj_iload_n (pc := 7) C 1 dX9_take_7 rfl rfl ?_
    refine kj_iload_n (pc := 8) C 3 dX9_take_8 rfl rfl ?_
    refine kj_iadd (pc := 9) C dX9_take_9 ?_
    refine kj_goto (pc := 10) 18 C dX9_take_10 (by decide) ?_
    subst hf
    exact kj_iret (pc := 18) C dX9_take_18
def fp_X9_lay_222  (kc28 : Int32 → Int32 → Int32 → Int32 → Int32 → kb_S → Option (kb_S)) (kc172 : Int32 → Int32 → Int32 → Int32 → Int32 → Int32 → Int32 → Int32 → kb_S → Option (kb_S)) (x1 : Int32) (x2 : Int32) (x3 : Int32) (x4 : Int32) (x5 : Int32) (x6 : Int32) (x7 : Int32) (x8 : Int32) (y0 : Int32) (y1 : Int32) (μ : kb_S) : Option (kb_S) :=
  if kb_in y1 600 = true then
    kc172 x1 x2 x3 x4 x5 x6 x7 (x8 + (1 : Int32)) (kb_ap μ 3 y1.toNatClampNeg (vp_nar .boolean y0))
  else none
theorem fp_X9_lay_222_e  (kc28 : Int32 → Int32 → Int32 → Int32 → Int32 → kb_S → Option (kb_S)) (kc172 : Int32 → Int32 → Int32 → Int32 → Int32 → Int32 → Int32 → Int32 → kb_S → Option (kb_S)) (x1 : Int32) (x2 : Int32) (x3 : Int32) (x4 : Int32) (x5 : Int32) (x6 : Int32) (x7 : Int32) (x8 : Int32) (y0 : Int32) (y1 : Int32) (μ : kb_S) : fp_X9_lay_222 kc28 kc172 x1 x2 x3 x4 x5 x6 x7 x8 y0 y1 μ =
  if kb_in y1 600 = true then
    kc172 x1 x2 x3 x4 x5 x6 x7 (x8 + (1 : Int32)) (kb_ap μ 3 y1.toNatClampNeg (vp_nar .boolean y0))
  else none := rfl
def fp_X9_lay_172  (kc28 : Int32 → Int32 → Int32 → Int32 → Int32 → kb_S → Option (kb_S)) : Nat → Int32 → Int32 → Int32 → Int32 → Int32 → Int32 → Int32 → Int32 → kb_S → Option (kb_S)
  | 0 => fun _ _ _ _ _ _ _ _ _ => none
  | nn + 1 => fun x1 x2 x3 x4 x5 x6 x7 x8 μ => 
  if x7 ≤ x8 then
    if kb_in ((x4 * (80 : Int32)) + x5) 2480 = true then
      kc28 x1 x2 (x3 + x7) x4 (x5 + (1 : Int32)) (kb_ap μ 8 ((x4 * (80 : Int32)) + x5).toNatClampNeg x6)
    else none
  else
    if kb_in (fn_X9_take x1 x2 (x3 + x8) μ) 600 = true then
      if x6 = (8 : Int32) then
        fp_X9_lay_222  kc28 (fp_X9_lay_172 kc28 nn) x1 x2 x3 x4 x5 x6 x7 x8 (1 : Int32) (fn_X9_take x1 x2 (x3 + x8) (kb_ap μ 2 (fn_X9_take x1 x2 (x3 + x8) μ).toNatClampNeg x4)) (kb_ap μ 2 (fn_X9_take x1 x2 (x3 + x8) μ).toNatClampNeg x4)
      else
        fp_X9_lay_222  kc28 (fp_X9_lay_172 kc28 nn) x1 x2 x3 x4 x5 x6 x7 x8 (0 : Int32) (fn_X9_take x1 x2 (x3 + x8) (kb_ap μ 2 (fn_X9_take x1 x2 (x3 + x8) μ).toNatClampNeg x4)) (kb_ap μ 2 (fn_X9_take x1 x2 (x3 + x8) μ).toNatClampNeg x4)
    else none
theorem fp_X9_lay_172_s  (kc28 : Int32 → Int32 → Int32 → Int32 → Int32 → kb_S → Option (kb_S)) (nn : Nat) (x1 : Int32) (x2 : Int32) (x3 : Int32) (x4 : Int32) (x5 : Int32) (x6 : Int32) (x7 : Int32) (x8 : Int32) (μ : kb_S) : fp_X9_lay_172 kc28 (nn + 1) x1 x2 x3 x4 x5 x6 x7 x8 μ =
  if x7 ≤ x8 then
    if kb_in ((x4 * (80 : Int32)) + x5) 2480 = true then
      kc28 x1 x2 (x3 + x7) x4 (x5 + (1 : Int32)) (kb_ap μ 8 ((x4 * (80 : Int32)) + x5).toNatClampNeg x6)
    else none
  else
    if kb_in (fn_X9_take x1 x2 (x3 + x8) μ) 600 = true then
      if x6 = (8 : Int32) then
        fp_X9_lay_222  kc28 (fp_X9_lay_172 kc28 nn) x1 x2 x3 x4 x5 x6 x7 x8 (1 : Int32) (fn_X9_take x1 x2 (x3 + x8) (kb_ap μ 2 (fn_X9_take x1 x2 (x3 + x8) μ).toNatClampNeg x4)) (kb_ap μ 2 (fn_X9_take x1 x2 (x3 + x8) μ).toNatClampNeg x4)
      else
        fp_X9_lay_222  kc28 (fp_X9_lay_172 kc28 nn) x1 x2 x3 x4 x5 x6 x7 x8 (0 : Int32) (fn_X9_take x1 x2 (x3 + x8) (kb_ap μ 2 (fn_X9_take x1 x2 (x3 + x8) μ).toNatClampNeg x4)) (kb_ap μ 2 (fn_X9_take x1 x2 (x3 + x8) μ).toNatClampNeg x4)
    else none := rfl
def fp_X9_lay_163  (kc28 : Int32 → Int32 → Int32 → Int32 → Int32 → kb_S → Option (kb_S)) (kc56 : Int32 → Int32 → Int32 → Int32 → Int32 → Int32 → Int32 → Int32 → kb_S → Option (kb_S)) (x1 : Int32) (x2 : Int32) (x3 : Int32) (x4 : Int32) (x5 : Int32) (x6 : Int32) (x7 : Int32) (x8 : Int32) (μ : kb_S) : Option (kb_S) :=
  kc56 x1 x2 x3 x4 x5 x6 x7 (x8 + (1 : Int32)) μ
theorem fp_X9_lay_163_e  (kc28 : Int32 → Int32 → Int32 → Int32 → Int32 → kb_S → Option (kb_S)) (kc56 : Int32 → Int32 → Int32 → Int32 → Int32 → Int32 → Int32 → Int32 → kb_S → Option (kb_S)) (x1 : Int32) (x2 : Int32) (x3 : Int32) (x4 : Int32) (x5 : Int32) (x6 : Int32) (x7 : Int32) (x8 : Int32) (μ : kb_S) : fp_X9_lay_163 kc28 kc56 x1 x2 x3 x4 x5 x6 x7 x8 μ =
  kc56 x1 x2 x3 x4 x5 x6 x7 (x8 + (1 : Int32)) μ := rfl
def fp_X9_lay_134  (kc28 : Int32 → Int32 → Int32 → Int32 → Int32 → kb_S → Option (kb_S)) (kc56 : Int32 → Int32 → Int32 → Int32 → Int32 → Int32 → Int32 → Int32 → kb_S → Option (kb_S)) : Nat → Int32 → Int32 → Int32 → Int32 → Int32 → Int32 → Int32 → Int32 → Int32 → Int32 → kb_S → Option (kb_S)
  | 0 => fun _ _ _ _ _ _ _ _ _ _ _ => none
  | nn + 1 => fun x1 x2 x3 x4 x5 x6 x7 x8 x9 x10 μ => 
  if x7 ≤ x10 then
    fp_X9_lay_163  kc28 kc56 x1 x2 x3 x4 x5 x6 x7 x8 μ
  else
    (fn_X9_hasParent x9 (fn_X9_take x1 x2 (x3 + x10) μ) μ).bind fun q2 =>
    (fp_X9_lay_134 kc28 kc56 nn) x1 x2 x3 x4 x5 x6 x7 x8 x9 (x10 + (1 : Int32)) q2
theorem fp_X9_lay_134_s  (kc28 : Int32 → Int32 → Int32 → Int32 → Int32 → kb_S → Option (kb_S)) (kc56 : Int32 → Int32 → Int32 → Int32 → Int32 → Int32 → Int32 → Int32 → kb_S → Option (kb_S)) (nn : Nat) (x1 : Int32) (x2 : Int32) (x3 : Int32) (x4 : Int32) (x5 : Int32) (x6 : Int32) (x7 : Int32) (x8 : Int32) (x9 : Int32) (x10 : Int32) (μ : kb_S) : fp_X9_lay_134 kc28 kc56 (nn + 1) x1 x2 x3 x4 x5 x6 x7 x8 x9 x10 μ =
  if x7 ≤ x10 then
    fp_X9_lay_163  kc28 kc56 x1 x2 x3 x4 x5 x6 x7 x8 μ
  else
    (fn_X9_hasParent x9 (fn_X9_take x1 x2 (x3 + x10) μ) μ).bind fun q2 =>
    (fp_X9_lay_134 kc28 kc56 nn) x1 x2 x3 x4 x5 x6 x7 x8 x9 (x10 + (1 : Int32)) q2 := rfl
def fp_X9_lay_121  (kc28 : Int32 → Int32 → Int32 → Int32 → Int32 → kb_S → Option (kb_S)) (kc56 : Int32 → Int32 → Int32 → Int32 → Int32 → Int32 → Int32 → Int32 → kb_S → Option (kb_S)) (x1 : Int32) (x2 : Int32) (x3 : Int32) (x4 : Int32) (x5 : Int32) (x6 : Int32) (x7 : Int32) (x8 : Int32) (y0 : Int32) (y1 : Int32) (y2 : Int32) (y3 : Int32) (y5 : Int32) (μ : kb_S) : Option (kb_S) :=
  (fn_X9_hasParent y5 (fn_X9_take y3 y2 (y1 + y0) μ) μ).bind fun q1 =>
  fp_X9_lay_163  kc28 kc56 x1 x2 x3 x4 x5 x6 x7 x8 q1
theorem fp_X9_lay_121_e  (kc28 : Int32 → Int32 → Int32 → Int32 → Int32 → kb_S → Option (kb_S)) (kc56 : Int32 → Int32 → Int32 → Int32 → Int32 → Int32 → Int32 → Int32 → kb_S → Option (kb_S)) (x1 : Int32) (x2 : Int32) (x3 : Int32) (x4 : Int32) (x5 : Int32) (x6 : Int32) (x7 : Int32) (x8 : Int32) (y0 : Int32) (y1 : Int32) (y2 : Int32) (y3 : Int32) (y5 : Int32) (μ : kb_S) : fp_X9_lay_121 kc28 kc56 x1 x2 x3 x4 x5 x6 x7 x8 y0 y1 y2 y3 y5 μ =
  (fn_X9_hasParent y5 (fn_X9_take y3 y2 (y1 + y0) μ) μ).bind fun q1 =>
  fp_X9_lay_163  kc28 kc56 x1 x2 x3 x4 x5 x6 x7 x8 q1 := rfl
def fp_X9_lay_56  (kc28 : Int32 → Int32 → Int32 → Int32 → Int32 → kb_S → Option (kb_S)) : Nat → Int32 → Int32 → Int32 → Int32 → Int32 → Int32 → Int32 → Int32 → kb_S → Option (kb_S)
  | 0 => fun _ _ _ _ _ _ _ _ _ => none
  | nn + 1 => fun x1 x2 x3 x4 x5 x6 x7 x8 μ => 
  if (fn_X9_makes x6) ≤ x8 then
    fp_X9_lay_172  kc28 kb_FU x1 x2 x3 x4 x5 x6 x7 (0 : Int32) μ
  else
    (fn_X9_newLoop x4 μ).bind fun q2 =>
    if x6 < (100 : Int32) then
      fp_X9_lay_134  kc28 (fp_X9_lay_56 kc28 nn) kb_FU x1 x2 x3 x4 x5 x6 x7 x8 (kb_g μ 3) (0 : Int32) q2
    else
      if (fn_X9_b x6) ≤ x8 then
        fp_X9_lay_121  kc28 (fp_X9_lay_56 kc28 nn) x1 x2 x3 x4 x5 x6 x7 x8 (x8 - (fn_X9_b x6)) x3 x2 x1 (kb_g μ 3) q2
      else
        fp_X9_lay_121  kc28 (fp_X9_lay_56 kc28 nn) x1 x2 x3 x4 x5 x6 x7 x8 ((fn_X9_a x6) + x8) x3 x2 x1 (kb_g μ 3) q2
theorem fp_X9_lay_56_s  (kc28 : Int32 → Int32 → Int32 → Int32 → Int32 → kb_S → Option (kb_S)) (nn : Nat) (x1 : Int32) (x2 : Int32) (x3 : Int32) (x4 : Int32) (x5 : Int32) (x6 : Int32) (x7 : Int32) (x8 : Int32) (μ : kb_S) : fp_X9_lay_56 kc28 (nn + 1) x1 x2 x3 x4 x5 x6 x7 x8 μ =
  if (fn_X9_makes x6) ≤ x8 then
    fp_X9_lay_172  kc28 kb_FU x1 x2 x3 x4 x5 x6 x7 (0 : Int32) μ
  else
    (fn_X9_newLoop x4 μ).bind fun q2 =>
    if x6 < (100 : Int32) then
      fp_X9_lay_134  kc28 (fp_X9_lay_56 kc28 nn) kb_FU x1 x2 x3 x4 x5 x6 x7 x8 (kb_g μ 3) (0 : Int32) q2
    else
      if (fn_X9_b x6) ≤ x8 then
        fp_X9_lay_121  kc28 (fp_X9_lay_56 kc28 nn) x1 x2 x3 x4 x5 x6 x7 x8 (x8 - (fn_X9_b x6)) x3 x2 x1 (kb_g μ 3) q2
      else
        fp_X9_lay_121  kc28 (fp_X9_lay_56 kc28 nn) x1 x2 x3 x4 x5 x6 x7 x8 ((fn_X9_a x6) + x8) x3 x2 x1 (kb_g μ 3) q2 := rfl
def fp_X9_lay_28   : Nat → Int32 → Int32 → Int32 → Int32 → Int32 → kb_S → Option (kb_S)
  | 0 => fun _ _ _ _ _ _ => none
  | nn + 1 => fun x1 x2 x3 x4 x5 μ => 
  if (kb_g μ 10) ≤ x5 then
    if kb_in x4 31 = true then
      if kb_in x4 32 = true then
        if kb_in (x4 + (1 : Int32)) 32 = true then
          some (kb_ap (kb_ap (kb_p (kb_ap μ 7 x4.toNatClampNeg (kb_g μ 10)) 4 x4) 6 x4.toNatClampNeg x2) 6 (x4 + (1 : Int32)).toNatClampNeg (kb_g μ 3))
        else none
      else none
    else none
  else
    if kb_in x5 700 = true then
      fp_X9_lay_56  (fp_X9_lay_28  nn) kb_FU x1 x2 x3 x4 x5 (kb_a μ 13 x5.toNatClampNeg) (fn_X9_takes (kb_a μ 13 x5.toNatClampNeg)) (0 : Int32) μ
    else none
theorem fp_X9_lay_28_s   (nn : Nat) (x1 : Int32) (x2 : Int32) (x3 : Int32) (x4 : Int32) (x5 : Int32) (μ : kb_S) : fp_X9_lay_28  (nn + 1) x1 x2 x3 x4 x5 μ =
  if (kb_g μ 10) ≤ x5 then
    if kb_in x4 31 = true then
      if kb_in x4 32 = true then
        if kb_in (x4 + (1 : Int32)) 32 = true then
          some (kb_ap (kb_ap (kb_p (kb_ap μ 7 x4.toNatClampNeg (kb_g μ 10)) 4 x4) 6 x4.toNatClampNeg x2) 6 (x4 + (1 : Int32)).toNatClampNeg (kb_g μ 3))
        else none
      else none
    else none
  else
    if kb_in x5 700 = true then
      fp_X9_lay_56  (fp_X9_lay_28  nn) kb_FU x1 x2 x3 x4 x5 (kb_a μ 13 x5.toNatClampNeg) (fn_X9_takes (kb_a μ 13 x5.toNatClampNeg)) (0 : Int32) μ
    else none := rfl
def fn_X9_lay   (μ : kb_S) : Option (kb_S) :=
  if kb_in (kb_g μ 4) 32 = true then
    fp_X9_lay_28   kb_FU (kb_a μ 6 (kb_g μ 4).toNatClampNeg) (kb_g μ 3) (0 : Int32) ((kb_g μ 4) + (1 : Int32)) (0 : Int32) μ
  else none
theorem fe_X9_lay   (μ : kb_S) : fn_X9_lay   μ =
  if kb_in (kb_g μ 4) 32 = true then
    fp_X9_lay_28   kb_FU (kb_a μ 6 (kb_g μ 4).toNatClampNeg) (kb_g μ 3) (0 : Int32) ((kb_g μ 4) + (1 : Int32)) (0 : Int32) μ
  else none := rfl
theorem hd_X9_lay : yX9_lay.cls = RX9 ∧ yX9_lay.cls ≠ "java/lang/invoke/MethodHandle" ∧ yX9_lay.cls ≠ "java/lang/invoke/VarHandle" ∧ (parseMethodDescriptor yX9_lay.desc).map (fun d => d.parameters.length) = some 0 := by decide +kernel
set_option maxRecDepth 100000 in
set_option maxHeartbeats 4000000 in
theorem ct_X9_lay (l : Launch) (V : kb_V) (A : Nat → Prop)   (d : Nat → Nat) (μ : kb_S) (ex : va_W) {μ9 : kb_S} (hf : fn_X9_lay   μ = some μ9) : kb_T l yX9_lay cX9_lay 11 none ({ frames := 2, cells := 0, slots := 0, locals := 40 } : Room) V A [.ref (d 0)] (kb_WM V d μ ex) none (kb_WM V d μ9 ex) 0 0 := by
  refine kb_start (cc := cX9_lay) (nL := 11) (ret := none) (own := RX9) (by decide) rfl (Nat.le_of_ble_eq_true rfl) ?_
  intro p e s m args below meth c C
  have hp28 : ∀ (nn : Nat) (x1 : Int32) (x2 : Int32) (x3 : Int32) (x4 : Int32) (x5 : Int32) (μ : kb_S), fp_X9_lay_28   nn x1 x2 x3 x4 x5 μ = some μ9 → kb_J p l e ({ frames := 2, cells := 0, slots := 0, locals := 40 } : Room) s m args below meth c 11 V A 0 0 (MQ below (kb_post V A none (kb_WM V d μ9 ex)) args s 0 0 A) 28 [(0, .ref (d 0)), (1, .int x1), (2, .int x2), (3, .int x3), (4, .int x4), (5, .int x5)] [] (kb_WM V d μ ex) := by
    intro nn28
    induction nn28 with
    | zero => intro x1 x2 x3 x4 x5 μ hf; exact kb_no hf
    | succ nn28 ih28 =>
      have hp172 : ∀ (nn : Nat) (x1 : Int32) (x2 : Int32) (x3 : Int32) (x4 : Int32) (x5 : Int32) (x6 : Int32) (x7 : Int32) (x8 : Int32) (μ : kb_S), fp_X9_lay_172  (fp_X9_lay_28   nn28) nn x1 x2 x3 x4 x5 x6 x7 x8 μ = some μ9 → kb_J p l e ({ frames := 2, cells := 0, slots := 0, locals := 40 } : Room) s m args below meth c 11 V A 0 0 (MQ below (kb_post V A none (kb_WM V d μ9 ex)) args s 0 0 A) 172 [(0, .ref (d 0)), (1, .int x1), (2, .int x2), (3, .int x3), (4, .int x4), (5, .int x5), (6, .int x6), (7, .int x7), (8, .int x8)] [] (kb_WM V d μ ex) := by
        intro nn172
        induction nn172 with
        | zero => intro x1 x2 x3 x4 x5 x6 x7 x8 μ hf; exact kb_no hf
        | succ nn172 ih172 =>
          have hp222 : ∀ (x1 : Int32) (x2 : Int32) (x3 : Int32) (x4 : Int32) (x5 : Int32) (x6 : Int32) (x7 : Int32) (x8 : Int32) (y0 : Int32) (y1 : Int32) (μ : kb_S), fp_X9_lay_222  (fp_X9_lay_28   nn28) (fp_X9_lay_172  (fp_X9_lay_28   nn28) nn172) x1 x2 x3 x4 x5 x6 x7 x8 y0 y1 μ = some μ9 → kb_J p l e ({ frames := 2, cells := 0, slots := 0, locals := 40 } : Room) s m args below meth c 11 V A 0 0 (MQ below (kb_post V A none (kb_WM V d μ9 ex)) args s 0 0 A) 222 [(0, .ref (d 0)), (1, .int x1), (2, .int x2), (3, .int x3), (4, .int x4), (5, .int x5), (6, .int x6), (7, .int x7), (8, .int x8)] [.int y0, .int y1, .ref (d 4)] (kb_WM V d μ ex) := by
            intro x1 x2 x3 x4 x5 x6 x7 x8 y0 y1 μ hf
            rw [fp_X9_lay_222_e] at hf
            obtain ⟨g1, hf⟩ := kb_gd hf
            refine ks_X9_bound (pc := 222) C g1 dX9_lay_222 ?_
            refine kj_iinc (pc := 223) C 8 [1, 2, 3, 4, 5, 6, 7, 8, 0] (L2 := [(0, .ref (d 0)), (1, .int x1), (2, .int x2), (3, .int x3), (4, .int x4), (5, .int x5), (6, .int x6), (7, .int x7), (8, .int (x8 + (1 : Int32)))]) dX9_lay_223 rfl rfl (by decide) rfl ?_
            refine kj_goto (pc := 226) 172 C dX9_lay_226 (by decide) ?_
            exact ih172 x1 x2 x3 x4 x5 x6 x7 (x8 + (1 : Int32)) (kb_ap μ 3 y1.toNatClampNeg (vp_nar .boolean y0)) hf
          intro x1 x2 x3 x4 x5 x6 x7 x8 μ hf
          rw [fp_X9_lay_172_s] at hf
          refine kj_iload (pc := 172) C 8 dX9_lay_172 rfl ?_
          refine kj_iload (pc := 174) C 7 dX9_lay_174 rfl ?_
          refine kj_icmp_ge (pc := 176) 229 C dX9_lay_176 (by decide) (fun c1 => ?_) (fun c1 => ?_)
          · have hf := kb_ift hf c1
            refine kj_iload_n (pc := 229) C 3 dX9_lay_229 rfl rfl ?_
            refine kj_iload (pc := 230) C 7 dX9_lay_230 rfl ?_
            refine kj_iadd (pc := 232) C dX9_lay_232 ?_
            refine kj_istore_n (pc := 233) C [1, 2, 3, 0, 4, 5, 6, 7, 8] (L2 := [(0, .ref (d 0)), (1, .int x1), (2, .int x2), (3, .int (x3 + x7)), (4, .int x4), (5, .int x5), (6, .int x6), (7, .int x7), (8, .int x8)]) dX9_lay_233 rfl (by decide) rfl ?_
            refine kj_aload_n (pc := 234) C 0 dX9_lay_234 rfl rfl ?_
            refine kg_X9_stitch (pc := 235) C wf_X9_35 dX9_lay_235 ?_
            refine kj_iload (pc := 238) C 4 dX9_lay_238 rfl ?_
            refine kj_bipush (pc := 240) (v := (80 : Int32)) C dX9_lay_240 (by decide) ?_
            refine kj_imul (pc := 242) C dX9_lay_242 ?_
            refine kj_iload (pc := 243) C 5 dX9_lay_243 rfl ?_
            refine kj_iadd (pc := 245) C dX9_lay_245 ?_
            refine kj_iload (pc := 246) C 6 dX9_lay_246 rfl ?_
            obtain ⟨g2, hf⟩ := kb_gd hf
            refine ks_X9_stitch (pc := 248) C g2 dX9_lay_248 ?_
            refine kj_iinc (pc := 249) C 5 [1, 2, 3, 4, 5, 0, 6, 7, 8] (L2 := [(0, .ref (d 0)), (1, .int x1), (2, .int x2), (3, .int (x3 + x7)), (4, .int x4), (5, .int (x5 + (1 : Int32))), (6, .int x6), (7, .int x7), (8, .int x8)]) dX9_lay_249 rfl rfl (by decide) rfl ?_
            refine kj_goto (pc := 252) 28 C dX9_lay_252 (by decide) ?_
            refine kj_sub [0, 1, 2, 3, 4, 5] (L2 := [(0, .ref (d 0)), (1, .int x1), (2, .int x2), (3, .int (x3 + x7)), (4, .int x4), (5, .int (x5 + (1 : Int32)))]) rfl ?_
            exact ih28 x1 x2 (x3 + x7) x4 (x5 + (1 : Int32)) (kb_ap μ 8 ((x4 * (80 : Int32)) + x5).toNatClampNeg x6) hf
          · have hf := kb_ife hf c1
            refine kj_aload_n (pc := 179) C 0 dX9_lay_179 rfl rfl ?_
            refine kg_X9_died (pc := 180) C wf_X9_16 dX9_lay_180 ?_
            refine kj_aload_n (pc := 183) C 0 dX9_lay_183 rfl rfl ?_
            refine kj_iload_n (pc := 184) C 1 dX9_lay_184 rfl rfl ?_
            refine kj_iload_n (pc := 185) C 2 dX9_lay_185 rfl rfl ?_
            refine kj_iload_n (pc := 186) C 3 dX9_lay_186 rfl rfl ?_
            refine kj_iload (pc := 187) C 8 dX9_lay_187 rfl ?_
            refine kj_iadd (pc := 189) C dX9_lay_189 ?_
            refine kj_callV0 (pc := 190) (as := [.int x1, .int x2, .int (x3 + x8)]) (rest := [.ref (d 3)]) (b := (d 0)) C (ct_X9_take l V A x1 x2 (x3 + x8) d μ ex rfl) wd_X9_take wk_X9_198 wi_X9_take ws_X9_take wz_X9 rfl rfl hd_X9_take ⟨by decide, by decide⟩ 0 rfl rfl rfl rfl (Nat.le_of_ble_eq_true rfl) (by decide) dX9_lay_190 ?_
            refine kj_iload (pc := 193) C 4 dX9_lay_193 rfl ?_
            obtain ⟨g2, hf⟩ := kb_gd hf
            refine ks_X9_died (pc := 195) C g2 dX9_lay_195 ?_
            refine kj_aload_n (pc := 196) C 0 dX9_lay_196 rfl rfl ?_
            refine kg_X9_bound (pc := 197) C wf_X9_19 dX9_lay_197 ?_
            refine kj_aload_n (pc := 200) C 0 dX9_lay_200 rfl rfl ?_
            refine kj_iload_n (pc := 201) C 1 dX9_lay_201 rfl rfl ?_
            refine kj_iload_n (pc := 202) C 2 dX9_lay_202 rfl rfl ?_
            refine kj_iload_n (pc := 203) C 3 dX9_lay_203 rfl rfl ?_
            refine kj_iload (pc := 204) C 8 dX9_lay_204 rfl ?_
            refine kj_iadd (pc := 206) C dX9_lay_206 ?_
            refine kj_callV0 (pc := 207) (as := [.int x1, .int x2, .int (x3 + x8)]) (rest := [.ref (d 4)]) (b := (d 0)) C (ct_X9_take l V A x1 x2 (x3 + x8) d (kb_ap μ 2 (fn_X9_take x1 x2 (x3 + x8) μ).toNatClampNeg x4) ex rfl) wd_X9_take wk_X9_198 wi_X9_take ws_X9_take wz_X9 rfl rfl hd_X9_take ⟨by decide, by decide⟩ 0 rfl rfl rfl rfl (Nat.le_of_ble_eq_true rfl) (by decide) dX9_lay_207 ?_
            refine kj_iload (pc := 210) C 6 dX9_lay_210 rfl ?_
            refine kj_bipush (pc := 212) (v := (8 : Int32)) C dX9_lay_212 (by decide) ?_
            refine kj_icmp_ne (pc := 214) 221 C dX9_lay_214 (by decide) (fun c3 => ?_) (fun c3 => ?_)
            · have hf := kb_ife hf c3
              refine kj_iconst (pc := 221) (v := (0 : Int32)) C dX9_lay_221 (by decide) ?_
              exact hp222 x1 x2 x3 x4 x5 x6 x7 x8 (0 : Int32) (fn_X9_take x1 x2 (x3 + x8) (kb_ap μ 2 (fn_X9_take x1 x2 (x3 + x8) μ).toNatClampNeg x4)) (kb_ap μ 2 (fn_X9_take x1 x2 (x3 + x8) μ).toNatClampNeg x4) hf
            · have hf := kb_ift hf c3
              refine kj_iconst (pc := 217) (v := (1 : Int32)) C dX9_lay_217 (by decide) ?_
              refine kj_goto (pc := 218) 222 C dX9_lay_218 (by decide) ?_
              exact hp222 x1 x2 x3 x4 x5 x6 x7 x8 (1 : Int32) (fn_X9_take x1 x2 (x3 + x8) (kb_ap μ 2 (fn_X9_take x1 x2 (x3 + x8) μ).toNatClampNeg x4)) (kb_ap μ 2 (fn_X9_take x1 x2 (x3 + x8) μ).toNatClampNeg x4) hf
      have hp56 : ∀ (nn : Nat) (x1 : Int32) (x2 : Int32) (x3 : Int32) (x4 : Int32) (x5 : Int32) (x6 : Int32) (x7 : Int32) (x8 : Int32) (μ : kb_S), fp_X9_lay_56  (fp_X9_lay_28   nn28) nn x1 x2 x3 x4 x5 x6 x7 x8 μ = some μ9 → kb_J p l e ({ frames := 2, cells := 0, slots := 0, locals := 40 } : Room) s m args below meth c 11 V A 0 0 (MQ below (kb_post V A none (kb_WM V d μ9 ex)) args s 0 0 A) 56 [(0, .ref (d 0)), (1, .int x1), (2, .int x2), (3, .int x3), (4, .int x4), (5, .int x5), (6, .int x6), (7, .int x7), (8, .int x8)] [] (kb_WM V d μ ex) := by
        intro nn56
        induction nn56 with
        | zero => intro x1 x2 x3 x4 x5 x6 x7 x8 μ hf; exact kb_no hf
        | succ nn56 ih56 =>
          have hp163 : ∀ (x1 : Int32) (x2 : Int32) (x3 : Int32) (x4 : Int32) (x5 : Int32) (x6 : Int32) (x7 : Int32) (x8 : Int32) (μ : kb_S), fp_X9_lay_163  (fp_X9_lay_28   nn28) (fp_X9_lay_56  (fp_X9_lay_28   nn28) nn56) x1 x2 x3 x4 x5 x6 x7 x8 μ = some μ9 → kb_J p l e ({ frames := 2, cells := 0, slots := 0, locals := 40 } : Room) s m args below meth c 11 V A 0 0 (MQ below (kb_post V A none (kb_WM V d μ9 ex)) args s 0 0 A) 163 [(0, .ref (d 0)), (1, .int x1), (2, .int x2), (3, .int x3), (4, .int x4), (5, .int x5), (6, .int x6), (7, .int x7), (8, .int x8)] [] (kb_WM V d μ ex) := by
            intro x1 x2 x3 x4 x5 x6 x7 x8 μ hf
            rw [fp_X9_lay_163_e] at hf
            refine kj_iinc (pc := 163) C 8 [1, 2, 3, 4, 5, 6, 7, 8, 0] (L2 := [(0, .ref (d 0)), (1, .int x1), (2, .int x2), (3, .int x3), (4, .int x4), (5, .int x5), (6, .int x6), (7, .int x7), (8, .int (x8 + (1 : Int32)))]) dX9_lay_163 rfl rfl (by decide) rfl ?_
            refine kj_goto (pc := 166) 56 C dX9_lay_166 (by decide) ?_
            exact ih56 x1 x2 x3 x4 x5 x6 x7 (x8 + (1 : Int32)) μ hf
          have hp134 : ∀ (nn : Nat) (x1 : Int32) (x2 : Int32) (x3 : Int32) (x4 : Int32) (x5 : Int32) (x6 : Int32) (x7 : Int32) (x8 : Int32) (x9 : Int32) (x10 : Int32) (μ : kb_S), fp_X9_lay_134  (fp_X9_lay_28   nn28) (fp_X9_lay_56  (fp_X9_lay_28   nn28) nn56) nn x1 x2 x3 x4 x5 x6 x7 x8 x9 x10 μ = some μ9 → kb_J p l e ({ frames := 2, cells := 0, slots := 0, locals := 40 } : Room) s m args below meth c 11 V A 0 0 (MQ below (kb_post V A none (kb_WM V d μ9 ex)) args s 0 0 A) 134 [(0, .ref (d 0)), (1, .int x1), (2, .int x2), (3, .int x3), (4, .int x4), (5, .int x5), (6, .int x6), (7, .int x7), (8, .int x8), (9, .int x9), (10, .int x10)] [] (kb_WM V d μ ex) := by
            intro nn134
            induction nn134 with
            | zero => intro x1 x2 x3 x4 x5 x6 x7 x8 x9 x10 μ hf; exact kb_no hf
            | succ nn134 ih134 =>
              intro x1 x2 x3 x4 x5 x6 x7 x8 x9 x10 μ hf
              rw [fp_X9_lay_134_s] at hf
              refine kj_iload (pc := 134) C 10 dX9_lay_134 rfl ?_
              refine kj_iload (pc := 136) C 7 dX9_lay_136 rfl ?_
              refine kj_icmp_ge (pc := 138) 163 C dX9_lay_138 (by decide) (fun c1 => ?_) (fun c1 => ?_)
              · have hf := kb_ift hf c1
                refine kj_sub [0, 1, 2, 3, 4, 5, 6, 7, 8] (L2 := [(0, .ref (d 0)), (1, .int x1), (2, .int x2), (3, .int x3), (4, .int x4), (5, .int x5), (6, .int x6), (7, .int x7), (8, .int x8)]) rfl ?_
                exact hp163 x1 x2 x3 x4 x5 x6 x7 x8 μ hf
              · have hf := kb_ife hf c1
                refine kj_aload_n (pc := 141) C 0 dX9_lay_141 rfl rfl ?_
                refine kj_iload (pc := 142) C 9 dX9_lay_142 rfl ?_
                refine kj_aload_n (pc := 144) C 0 dX9_lay_144 rfl rfl ?_
                refine kj_iload_n (pc := 145) C 1 dX9_lay_145 rfl rfl ?_
                refine kj_iload_n (pc := 146) C 2 dX9_lay_146 rfl rfl ?_
                refine kj_iload_n (pc := 147) C 3 dX9_lay_147 rfl rfl ?_
                refine kj_iload (pc := 148) C 10 dX9_lay_148 rfl ?_
                refine kj_iadd (pc := 150) C dX9_lay_150 ?_
                refine kj_callV0 (pc := 151) (as := [.int x1, .int x2, .int (x3 + x10)]) (rest := [.int x9, .ref (d 0)]) (b := (d 0)) C (ct_X9_take l V A x1 x2 (x3 + x10) d μ ex rfl) wd_X9_take wk_X9_198 wi_X9_take ws_X9_take wz_X9 rfl rfl hd_X9_take ⟨by decide, by decide⟩ 0 rfl rfl rfl rfl (Nat.le_of_ble_eq_true rfl) (by decide) dX9_lay_151 ?_
                obtain ⟨q2, hq2, hf⟩ := kb_bd hf
                refine kj_callV0 (pc := 154) (as := [.int x9, .int (fn_X9_take x1 x2 (x3 + x10) μ)]) (rest := []) (b := (d 0)) C (ct_X9_hasParent l V A x9 (fn_X9_take x1 x2 (x3 + x10) μ) d μ ex hq2) wd_X9_hasParent wk_X9_202 wi_X9_hasParent ws_X9_hasParent wz_X9 rfl rfl hd_X9_hasParent ⟨by decide, by decide⟩ 0 rfl rfl rfl rfl (Nat.le_of_ble_eq_true rfl) (by decide) dX9_lay_154 ?_
                refine kj_iinc (pc := 157) C 10 [1, 2, 3, 4, 5, 6, 7, 8, 9, 10, 0] (L2 := [(0, .ref (d 0)), (1, .int x1), (2, .int x2), (3, .int x3), (4, .int x4), (5, .int x5), (6, .int x6), (7, .int x7), (8, .int x8), (9, .int x9), (10, .int (x10 + (1 : Int32)))]) dX9_lay_157 rfl rfl (by decide) rfl ?_
                refine kj_goto (pc := 160) 134 C dX9_lay_160 (by decide) ?_
                exact ih134 x1 x2 x3 x4 x5 x6 x7 x8 x9 (x10 + (1 : Int32)) q2 hf
          have hp121 : ∀ (x1 : Int32) (x2 : Int32) (x3 : Int32) (x4 : Int32) (x5 : Int32) (x6 : Int32) (x7 : Int32) (x8 : Int32) (y0 : Int32) (y1 : Int32) (y2 : Int32) (y3 : Int32) (y5 : Int32) (μ : kb_S), fp_X9_lay_121  (fp_X9_lay_28   nn28) (fp_X9_lay_56  (fp_X9_lay_28   nn28) nn56) x1 x2 x3 x4 x5 x6 x7 x8 y0 y1 y2 y3 y5 μ = some μ9 → kb_J p l e ({ frames := 2, cells := 0, slots := 0, locals := 40 } : Room) s m args below meth c 11 V A 0 0 (MQ below (kb_post V A none (kb_WM V d μ9 ex)) args s 0 0 A) 121 [(0, .ref (d 0)), (1, .int x1), (2, .int x2), (3, .int x3), (4, .int x4), (5, .int x5), (6, .int x6), (7, .int x7), (8, .int x8)] [.int y0, .int y1, .int y2, .int y3, .ref (d 0), .int y5, .ref (d 0)] (kb_WM V d μ ex) := by
            intro x1 x2 x3 x4 x5 x6 x7 x8 y0 y1 y2 y3 y5 μ hf
            rw [fp_X9_lay_121_e] at hf
            refine kj_iadd (pc := 121) C dX9_lay_121 ?_
            refine kj_callV0 (pc := 122) (as := [.int y3, .int y2, .int (y1 + y0)]) (rest := [.int y5, .ref (d 0)]) (b := (d 0)) C (ct_X9_take l V A y3 y2 (y1 + y0) d μ ex rfl) wd_X9_take wk_X9_198 wi_X9_take ws_X9_take wz_X9 rfl rfl hd_X9_take ⟨by decide, by decide⟩ 0 rfl rfl rfl rfl (Nat.le_of_ble_eq_true rfl) (by decide) dX9_lay_122 ?_
            obtain ⟨q1, hq1, hf⟩ := kb_bd hf
            refine kj_callV0 (pc := 125) (as := [.int y5, .int (fn_X9_take y3 y2 (y1 + y0) μ)]) (rest := []) (b := (d 0)) C (ct_X9_hasParent l V A y5 (fn_X9_take y3 y2 (y1 + y0) μ) d μ ex hq1) wd_X9_hasParent wk_X9_202 wi_X9_hasParent ws_X9_hasParent wz_X9 rfl rfl hd_X9_hasParent ⟨by decide, by decide⟩ 0 rfl rfl rfl rfl (Nat.le_of_ble_eq_true rfl) (by decide) dX9_lay_125 ?_
            refine kj_goto (pc := 128) 163 C dX9_lay_128 (by decide) ?_
            exact hp163 x1 x2 x3 x4 x5 x6 x7 x8 q1 hf
          intro x1 x2 x3 x4 x5 x6 x7 x8 μ hf
          rw [fp_X9_lay_56_s] at hf
          refine kj_iload (pc := 56) C 8 dX9_lay_56 rfl ?_
          refine kj_iload (pc := 58) C 6 dX9_lay_58 rfl ?_
          refine kj_callS0 (pc := 60) (as := [.int x6]) (rest := [.int x8]) C (ct_X9_makes l V A x6 (kb_WM V d μ ex) rfl) wd_X9_makes wk_X9_195 wi_X9_makes wz_X9 rfl rfl hd_X9_makes ⟨by decide, by decide⟩ rfl (Nat.le_of_ble_eq_true rfl) (by decide) dX9_lay_60 ?_
          refine kj_icmp_ge (pc := 63) 169 C dX9_lay_63 (by decide) (fun c1 => ?_) (fun c1 => ?_)
          · have hf := kb_ift hf c1
            refine kj_iconst (pc := 169) (v := (0 : Int32)) C dX9_lay_169 (by decide) ?_
            refine kj_istore (pc := 170) C [1, 2, 3, 4, 5, 6, 7, 8, 0] (L2 := [(0, .ref (d 0)), (1, .int x1), (2, .int x2), (3, .int x3), (4, .int x4), (5, .int x5), (6, .int x6), (7, .int x7), (8, .int (0 : Int32))]) dX9_lay_170 (by decide) rfl ?_
            exact hp172 kb_FU x1 x2 x3 x4 x5 x6 x7 (0 : Int32) μ hf
          · have hf := kb_ife hf c1
            refine kj_aload_n (pc := 66) C 0 dX9_lay_66 rfl rfl ?_
            refine kg_X9_loops (pc := 67) (v := (kb_g μ 3)) C wf_X9_83 dX9_lay_67 rfl ?_
            refine kj_istore (pc := 70) C [1, 2, 3, 4, 5, 6, 7, 8, 9, 0] (L2 := [(0, .ref (d 0)), (1, .int x1), (2, .int x2), (3, .int x3), (4, .int x4), (5, .int x5), (6, .int x6), (7, .int x7), (8, .int x8), (9, .int (kb_g μ 3))]) dX9_lay_70 (by decide) rfl ?_
            refine kj_aload_n (pc := 72) C 0 dX9_lay_72 rfl rfl ?_
            refine kj_iload (pc := 73) C 4 dX9_lay_73 rfl ?_
            obtain ⟨q2, hq2, hf⟩ := kb_bd hf
            refine kj_callV0 (pc := 75) (as := [.int x4]) (rest := []) (b := (d 0)) C (ct_X9_newLoop l V A x4 d μ ex hq2) wd_X9_newLoop wk_X9_92 wi_X9_newLoop ws_X9_newLoop wz_X9 rfl rfl hd_X9_newLoop ⟨by decide, by decide⟩ 0 rfl rfl rfl rfl (Nat.le_of_ble_eq_true rfl) (by decide) dX9_lay_75 ?_
            refine kj_iload (pc := 78) C 6 dX9_lay_78 rfl ?_
            refine kj_bipush (pc := 80) (v := (100 : Int32)) C dX9_lay_80 (by decide) ?_
            refine kj_icmp_lt (pc := 82) 131 C dX9_lay_82 (by decide) (fun c3 => ?_) (fun c3 => ?_)
            · have hf := kb_ift hf c3
              refine kj_iconst (pc := 131) (v := (0 : Int32)) C dX9_lay_131 (by decide) ?_
              refine kj_istore (pc := 132) C [1, 2, 3, 4, 5, 6, 7, 8, 9, 10, 0] (L2 := [(0, .ref (d 0)), (1, .int x1), (2, .int x2), (3, .int x3), (4, .int x4), (5, .int x5), (6, .int x6), (7, .int x7), (8, .int x8), (9, .int (kb_g μ 3)), (10, .int (0 : Int32))]) dX9_lay_132 (by decide) rfl ?_
              exact hp134 kb_FU x1 x2 x3 x4 x5 x6 x7 x8 (kb_g μ 3) (0 : Int32) q2 hf
            · have hf := kb_ife hf c3
              refine kj_aload_n (pc := 85) C 0 dX9_lay_85 rfl rfl ?_
              refine kj_iload (pc := 86) C 9 dX9_lay_86 rfl ?_
              refine kj_aload_n (pc := 88) C 0 dX9_lay_88 rfl rfl ?_
              refine kj_iload_n (pc := 89) C 1 dX9_lay_89 rfl rfl ?_
              refine kj_iload_n (pc := 90) C 2 dX9_lay_90 rfl rfl ?_
              refine kj_iload_n (pc := 91) C 3 dX9_lay_91 rfl rfl ?_
              refine kj_iload (pc := 92) C 8 dX9_lay_92 rfl ?_
              refine kj_iload (pc := 94) C 6 dX9_lay_94 rfl ?_
              refine kj_callS0 (pc := 96) (as := [.int x6]) (rest := [.int x8, .int x3, .int x2, .int x1, .ref (d 0), .int (kb_g μ 3), .ref (d 0)]) C (ct_X9_b l V A x6 (kb_WM V d q2 ex) rfl) wd_X9_b wk_X9_179 wi_X9_b wz_X9 rfl rfl hd_X9_b ⟨by decide, by decide⟩ rfl (Nat.le_of_ble_eq_true rfl) (by decide) dX9_lay_96 ?_
              refine kj_icmp_ge (pc := 99) 113 C dX9_lay_99 (by decide) (fun c4 => ?_) (fun c4 => ?_)
              · have hf := kb_ift hf c4
                refine kj_iload (pc := 113) C 8 dX9_lay_113 rfl ?_
                refine kj_iload (pc := 115) C 6 dX9_lay_115 rfl ?_
                refine kj_callS0 (pc := 117) (as := [.int x6]) (rest := [.int x8, .int x3, .int x2, .int x1, .ref (d 0), .int (kb_g μ 3), .ref (d 0)]) C (ct_X9_b l V A x6 (kb_WM V d q2 ex) rfl) wd_X9_b wk_X9_179 wi_X9_b wz_X9 rfl rfl hd_X9_b ⟨by decide, by decide⟩ rfl (Nat.le_of_ble_eq_true rfl) (by decide) dX9_lay_117 ?_
                refine kj_isub (pc := 120) C dX9_lay_120 ?_
                refine kj_sub [0, 1, 2, 3, 4, 5, 6, 7, 8] (L2 := [(0, .ref (d 0)), (1, .int x1), (2, .int x2), (3, .int x3), (4, .int x4), (5, .int x5), (6, .int x6), (7, .int x7), (8, .int x8)]) rfl ?_
                exact hp121 x1 x2 x3 x4 x5 x6 x7 x8 (x8 - (fn_X9_b x6)) x3 x2 x1 (kb_g μ 3) q2 hf
              · have hf := kb_ife hf c4
                refine kj_iload (pc := 102) C 6 dX9_lay_102 rfl ?_
                refine kj_callS0 (pc := 104) (as := [.int x6]) (rest := [.int x3, .int x2, .int x1, .ref (d 0), .int (kb_g μ 3), .ref (d 0)]) C (ct_X9_a l V A x6 (kb_WM V d q2 ex) rfl) wd_X9_a wk_X9_176 wi_X9_a wz_X9 rfl rfl hd_X9_a ⟨by decide, by decide⟩ rfl (Nat.le_of_ble_eq_true rfl) (by decide) dX9_lay_104 ?_
                refine kj_iload (pc := 107) C 8 dX9_lay_107 rfl ?_
                refine kj_iadd (pc := 109) C dX9_lay_109 ?_
                refine kj_goto (pc := 110) 121 C dX9_lay_110 (by decide) ?_
                refine kj_sub [0, 1, 2, 3, 4, 5, 6, 7, 8] (L2 := [(0, .ref (d 0)), (1, .int x1), (2, .int x2), (3, .int x3), (4, .int x4), (5, .int x5), (6, .int x6), (7, .int x7), (8, .int x8)]) rfl ?_
                exact hp121 x1 x2 x3 x4 x5 x6 x7 x8 ((fn_X9_a x6) + x8) x3 x2 x1 (kb_g μ 3) q2 hf
      intro x1 x2 x3 x4 x5 μ hf
      rw [fp_X9_lay_28_s] at hf
      refine kj_iload (pc := 28) C 5 dX9_lay_28 rfl ?_
      refine kj_aload_n (pc := 30) C 0 dX9_lay_30 rfl rfl ?_
      refine kg_X9_size (pc := 31) (v := (kb_g μ 10)) C wf_X9_185 dX9_lay_31 rfl ?_
      refine kj_icmp_ge (pc := 34) 255 C dX9_lay_34 (by decide) (fun c1 => ?_) (fun c1 => ?_)
      · have hf := kb_ift hf c1
        refine kj_aload_n (pc := 255) C 0 dX9_lay_255 rfl rfl ?_
        refine kg_X9_many (pc := 256) C wf_X9_32 dX9_lay_256 ?_
        refine kj_iload (pc := 259) C 4 dX9_lay_259 rfl ?_
        refine kj_aload_n (pc := 261) C 0 dX9_lay_261 rfl rfl ?_
        refine kg_X9_size (pc := 262) (v := (kb_g μ 10)) C wf_X9_185 dX9_lay_262 rfl ?_
        obtain ⟨g2, hf⟩ := kb_gd hf
        refine ks_X9_many (pc := 265) C g2 dX9_lay_265 ?_
        refine kj_aload_n (pc := 266) C 0 dX9_lay_266 rfl rfl ?_
        refine kj_iload (pc := 267) C 4 dX9_lay_267 rfl ?_
        refine kp_X9_rows (pc := 269) C wf_X9_86 dX9_lay_269 ?_
        refine kj_aload_n (pc := 272) C 0 dX9_lay_272 rfl rfl ?_
        refine kg_X9_begin (pc := 273) C wf_X9_29 dX9_lay_273 ?_
        refine kj_iload (pc := 276) C 4 dX9_lay_276 rfl ?_
        refine kj_iload_n (pc := 278) C 2 dX9_lay_278 rfl rfl ?_
        obtain ⟨g3, hf⟩ := kb_gd hf
        refine ks_X9_begin (pc := 279) C g3 dX9_lay_279 ?_
        refine kj_aload_n (pc := 280) C 0 dX9_lay_280 rfl rfl ?_
        refine kg_X9_begin (pc := 281) C wf_X9_29 dX9_lay_281 ?_
        refine kj_iload (pc := 284) C 4 dX9_lay_284 rfl ?_
        refine kj_iconst (pc := 286) (v := (1 : Int32)) C dX9_lay_286 (by decide) ?_
        refine kj_iadd (pc := 287) C dX9_lay_287 ?_
        refine kj_aload_n (pc := 288) C 0 dX9_lay_288 rfl rfl ?_
        refine kg_X9_loops (pc := 289) (v := (kb_g μ 3)) C wf_X9_83 dX9_lay_289 rfl ?_
        obtain ⟨g4, hf⟩ := kb_gd hf
        refine ks_X9_begin (pc := 292) C g4 dX9_lay_292 ?_
        cases hf
        exact kj_vret (pc := 293) C dX9_lay_293
      · have hf := kb_ife hf c1
        refine kj_aload_n (pc := 37) C 0 dX9_lay_37 rfl rfl ?_
        refine kg_X9_made (pc := 38) C wf_X9_50 dX9_lay_38 ?_
        refine kj_iload (pc := 41) C 5 dX9_lay_41 rfl ?_
        obtain ⟨g2, hf⟩ := kb_gd hf
        refine ka_X9_made (pc := 43) (v := (kb_a μ 13 x5.toNatClampNeg)) C g2 dX9_lay_43 rfl ?_
        refine kj_istore (pc := 44) C [1, 2, 3, 4, 5, 6, 0] (L2 := [(0, .ref (d 0)), (1, .int x1), (2, .int x2), (3, .int x3), (4, .int x4), (5, .int x5), (6, .int (kb_a μ 13 x5.toNatClampNeg))]) dX9_lay_44 (by decide) rfl ?_
        refine kj_iload (pc := 46) C 6 dX9_lay_46 rfl ?_
        refine kj_callS0 (pc := 48) (as := [.int (kb_a μ 13 x5.toNatClampNeg)]) (rest := []) C (ct_X9_takes l V A (kb_a μ 13 x5.toNatClampNeg) (kb_WM V d μ ex) rfl) wd_X9_takes wk_X9_182 wi_X9_takes wz_X9 rfl rfl hd_X9_takes ⟨by decide, by decide⟩ rfl (Nat.le_of_ble_eq_true rfl) (by decide) dX9_lay_48 ?_
        refine kj_istore (pc := 51) C [1, 2, 3, 4, 5, 6, 7, 0] (L2 := [(0, .ref (d 0)), (1, .int x1), (2, .int x2), (3, .int x3), (4, .int x4), (5, .int x5), (6, .int (kb_a μ 13 x5.toNatClampNeg)), (7, .int (fn_X9_takes (kb_a μ 13 x5.toNatClampNeg)))]) dX9_lay_51 (by decide) rfl ?_
        refine kj_iconst (pc := 53) (v := (0 : Int32)) C dX9_lay_53 (by decide) ?_
        refine kj_istore (pc := 54) C [1, 2, 3, 4, 5, 6, 7, 8, 0] (L2 := [(0, .ref (d 0)), (1, .int x1), (2, .int x2), (3, .int x3), (4, .int x4), (5, .int x5), (6, .int (kb_a μ 13 x5.toNatClampNeg)), (7, .int (fn_X9_takes (kb_a μ 13 x5.toNatClampNeg))), (8, .int (0 : Int32))]) dX9_lay_54 (by decide) rfl ?_
        exact hp56 kb_FU x1 x2 x3 x4 x5 (kb_a μ 13 x5.toNatClampNeg) (fn_X9_takes (kb_a μ 13 x5.toNatClampNeg)) (0 : Int32) μ hf
  refine kj_sub [0] (L2 := [(0, .ref (d 0))]) rfl ?_
  rw [fe_X9_lay] at hf
  refine kj_aload_n (pc := 0) C 0 dX9_lay_0 rfl rfl ?_
  refine kg_X9_begin (pc := 1) C wf_X9_29 dX9_lay_1 ?_
  refine kj_aload_n (pc := 4) C 0 dX9_lay_4 rfl rfl ?_
  refine kg_X9_rows (pc := 5) (v := (kb_g μ 4)) C wf_X9_86 dX9_lay_5 rfl ?_
  obtain ⟨g1, hf⟩ := kb_gd hf
  refine ka_X9_begin (pc := 8) (v := (kb_a μ 6 (kb_g μ 4).toNatClampNeg)) C g1 dX9_lay_8 rfl ?_
  refine kj_istore_n (pc := 9) C [1, 0] (L2 := [(0, .ref (d 0)), (1, .int (kb_a μ 6 (kb_g μ 4).toNatClampNeg))]) dX9_lay_9 rfl (by decide) rfl ?_
  refine kj_aload_n (pc := 10) C 0 dX9_lay_10 rfl rfl ?_
  refine kg_X9_loops (pc := 11) (v := (kb_g μ 3)) C wf_X9_83 dX9_lay_11 rfl ?_
  refine kj_istore_n (pc := 14) C [1, 2, 0] (L2 := [(0, .ref (d 0)), (1, .int (kb_a μ 6 (kb_g μ 4).toNatClampNeg)), (2, .int (kb_g μ 3))]) dX9_lay_14 rfl (by decide) rfl ?_
  refine kj_iconst (pc := 15) (v := (0 : Int32)) C dX9_lay_15 (by decide) ?_
  refine kj_istore_n (pc := 16) C [1, 2, 3, 0] (L2 := [(0, .ref (d 0)), (1, .int (kb_a μ 6 (kb_g μ 4).toNatClampNeg)), (2, .int (kb_g μ 3)), (3, .int (0 : Int32))]) dX9_lay_16 rfl (by decide) rfl ?_
  refine kj_aload_n (pc := 17) C 0 dX9_lay_17 rfl rfl ?_
  refine kg_X9_rows (pc := 18) (v := (kb_g μ 4)) C wf_X9_86 dX9_lay_18 rfl ?_
  refine kj_iconst (pc := 21) (v := (1 : Int32)) C dX9_lay_21 (by decide) ?_
  refine kj_iadd (pc := 22) C dX9_lay_22 ?_
  refine kj_istore (pc := 23) C [1, 2, 3, 4, 0] (L2 := [(0, .ref (d 0)), (1, .int (kb_a μ 6 (kb_g μ 4).toNatClampNeg)), (2, .int (kb_g μ 3)), (3, .int (0 : Int32)), (4, .int ((kb_g μ 4) + (1 : Int32)))]) dX9_lay_23 (by decide) rfl ?_
  refine kj_iconst (pc := 25) (v := (0 : Int32)) C dX9_lay_25 (by decide) ?_
  refine kj_istore (pc := 26) C [1, 2, 3, 4, 5, 0] (L2 := [(0, .ref (d 0)), (1, .int (kb_a μ 6 (kb_g μ 4).toNatClampNeg)), (2, .int (kb_g μ 3)), (3, .int (0 : Int32)), (4, .int ((kb_g μ 4) + (1 : Int32))), (5, .int (0 : Int32))]) dX9_lay_26 (by decide) rfl ?_
  exact hp28 kb_FU (kb_a μ 6 (kb_g μ 4).toNatClampNeg) (kb_g μ 3) (0 : Int32) ((kb_g μ 4) + (1 : Int32)) (0 : Int32) μ hf
def fp_X9_work_63   (μ : kb_S) : Option (kb_S × Int32) :=
  if (kb_g μ 6) ≤ 0 then
    (fn_X9_lay  (kb_p μ 1 (0 : Int32))).bind fun q2 =>
    (fn_X9_liveLoops  q2).bind fun q3 =>
    some (q2, q3)
  else
    some ((kb_p μ 1 (0 : Int32)), (-(((1000 : Int32) * (kb_g μ 6)) + (kb_g μ 7))))
theorem fp_X9_work_63_e   (μ : kb_S) : fp_X9_work_63  μ =
  if (kb_g μ 6) ≤ 0 then
    (fn_X9_lay  (kb_p μ 1 (0 : Int32))).bind fun q2 =>
    (fn_X9_liveLoops  q2).bind fun q3 =>
    some (q2, q3)
  else
    some ((kb_p μ 1 (0 : Int32)), (-(((1000 : Int32) * (kb_g μ 6)) + (kb_g μ 7)))) := rfl
def fp_X9_work_48   (μ : kb_S) : Option (kb_S × Int32) :=
  if (kb_g μ 6) = 0 then
    (fn_X9_liveLoops  μ).bind fun q2 =>
    (fn_X9_flatten q2 μ).bind fun q3 =>
    fp_X9_work_63   q3
  else
    fp_X9_work_63   μ
theorem fp_X9_work_48_e   (μ : kb_S) : fp_X9_work_48  μ =
  if (kb_g μ 6) = 0 then
    (fn_X9_liveLoops  μ).bind fun q2 =>
    (fn_X9_flatten q2 μ).bind fun q3 =>
    fp_X9_work_63   q3
  else
    fp_X9_work_63   μ := rfl
def fn_X9_work   (μ : kb_S) : Option (kb_S × Int32) :=
  (fn_X9_line  (kb_p (kb_p (kb_p (kb_p (kb_p μ 0 (0 : Int32)) 5 (0 : Int32)) 6 (0 : Int32)) 8 (0 : Int32)) 9 (0 : Int32))).bind fun q1 =>
  if (kb_g q1 6) = 0 then
    (fn_X9_seeWord  q1).bind fun q3 =>
    if q3.2 < 0 then
      fp_X9_work_48   q3.1
    else
      (fn_X9_wrong (1 : Int32) q3.1).bind fun q5 =>
      fp_X9_work_48   q5
  else
    fp_X9_work_48   q1
theorem fe_X9_work   (μ : kb_S) : fn_X9_work   μ =
  (fn_X9_line  (kb_p (kb_p (kb_p (kb_p (kb_p μ 0 (0 : Int32)) 5 (0 : Int32)) 6 (0 : Int32)) 8 (0 : Int32)) 9 (0 : Int32))).bind fun q1 =>
  if (kb_g q1 6) = 0 then
    (fn_X9_seeWord  q1).bind fun q3 =>
    if q3.2 < 0 then
      fp_X9_work_48   q3.1
    else
      (fn_X9_wrong (1 : Int32) q3.1).bind fun q5 =>
      fp_X9_work_48   q5
  else
    fp_X9_work_48   q1 := rfl
theorem hd_X9_work : yX9_work.cls = RX9 ∧ yX9_work.cls ≠ "java/lang/invoke/MethodHandle" ∧ yX9_work.cls ≠ "java/lang/invoke/VarHandle" ∧ (parseMethodDescriptor yX9_work.desc).map (fun d => d.parameters.length) = some 0 := by decide +kernel
set_option maxRecDepth 100000 in
set_option maxHeartbeats 4000000 in
theorem ct_X9_work (l : Launch) (V : kb_V) (A : Nat → Prop)   (d : Nat → Nat) (μ : kb_S) (ex : va_W) {μ9 : kb_S} {r : Int32} (hf : fn_X9_work   μ = some (μ9, r)) : kb_T l yX9_work cX9_work 1 (some .int) ({ frames := 7, cells := 0, slots := 0, locals := 157 } : Room) V A [.ref (d 0)] (kb_WM V d μ ex) (some (.int r)) (kb_WM V d μ9 ex) 0 0 := by
  refine kb_start (cc := cX9_work) (nL := 1) (ret := (some .int)) (own := RX9) (by decide) rfl (Nat.le_of_ble_eq_true rfl) ?_
  intro p e s m args below meth c C
  have hp63 : ∀ (μ : kb_S), fp_X9_work_63   μ = some (μ9, r) → kb_J p l e ({ frames := 7, cells := 0, slots := 0, locals := 157 } : Room) s m args below meth c 1 V A 0 0 (MQ below (kb_post V A (some (.int r)) (kb_WM V d μ9 ex)) args s 0 0 A) 63 [(0, .ref (d 0))] [] (kb_WM V d μ ex) := by
    intro μ hf
    rw [fp_X9_work_63_e] at hf
    refine kj_aload_n (pc := 63) C 0 dX9_work_63 rfl rfl ?_
    refine kj_iconst (pc := 64) (v := (0 : Int32)) C dX9_work_64 (by decide) ?_
    refine kp_X9_taped (pc := 65) C wf_X9_104 dX9_work_65 ?_
    refine kj_aload_n (pc := 68) C 0 dX9_work_68 rfl rfl ?_
    refine kg_X9_fault (pc := 69) (v := (kb_g μ 6)) C wf_X9_114 dX9_work_69 rfl ?_
    refine kj_if_le (pc := 72) 90 C dX9_work_72 (by decide) (fun c1 => ?_) (fun c1 => ?_)
    · have hf := kb_ift hf c1
      refine kj_aload_n (pc := 90) C 0 dX9_work_90 rfl rfl ?_
      obtain ⟨q2, hq2, hf⟩ := kb_bd hf
      refine kj_callV0 (pc := 91) (as := []) (rest := []) (b := (d 0)) C (ct_X9_lay l V A  d (kb_p μ 1 (0 : Int32)) ex hq2) wd_X9_lay wk_X9_214 wi_X9_lay ws_X9_lay wz_X9 rfl rfl hd_X9_lay ⟨by decide, by decide⟩ 0 rfl rfl rfl rfl (Nat.le_of_ble_eq_true rfl) (by decide) dX9_work_91 ?_
      refine kj_aload_n (pc := 94) C 0 dX9_work_94 rfl rfl ?_
      obtain ⟨q3, hq3, hf⟩ := kb_bd hf
      refine kj_callV0 (pc := 95) (as := []) (rest := []) (b := (d 0)) C (ct_X9_liveLoops l V A  d q2 ex hq3) wd_X9_liveLoops wk_X9_208 wi_X9_liveLoops ws_X9_liveLoops wz_X9 rfl rfl hd_X9_liveLoops ⟨by decide, by decide⟩ 0 rfl rfl rfl rfl (Nat.le_of_ble_eq_true rfl) (by decide) dX9_work_95 ?_
      cases hf
      exact kj_iret (pc := 98) C dX9_work_98
    · have hf := kb_ife hf c1
      refine kj_sipush (pc := 75) (v := (1000 : Int32)) C dX9_work_75 (by decide) ?_
      refine kj_aload_n (pc := 78) C 0 dX9_work_78 rfl rfl ?_
      refine kg_X9_fault (pc := 79) (v := (kb_g μ 6)) C wf_X9_114 dX9_work_79 rfl ?_
      refine kj_imul (pc := 82) C dX9_work_82 ?_
      refine kj_aload_n (pc := 83) C 0 dX9_work_83 rfl rfl ?_
      refine kg_X9_place (pc := 84) (v := (kb_g μ 7)) C wf_X9_117 dX9_work_84 rfl ?_
      refine kj_iadd (pc := 87) C dX9_work_87 ?_
      refine kj_ineg (pc := 88) C dX9_work_88 ?_
      cases hf
      exact kj_iret (pc := 89) C dX9_work_89
  have hp48 : ∀ (μ : kb_S), fp_X9_work_48   μ = some (μ9, r) → kb_J p l e ({ frames := 7, cells := 0, slots := 0, locals := 157 } : Room) s m args below meth c 1 V A 0 0 (MQ below (kb_post V A (some (.int r)) (kb_WM V d μ9 ex)) args s 0 0 A) 48 [(0, .ref (d 0))] [] (kb_WM V d μ ex) := by
    intro μ hf
    rw [fp_X9_work_48_e] at hf
    refine kj_aload_n (pc := 48) C 0 dX9_work_48 rfl rfl ?_
    refine kg_X9_fault (pc := 49) (v := (kb_g μ 6)) C wf_X9_114 dX9_work_49 rfl ?_
    refine kj_if_ne (pc := 52) 63 C dX9_work_52 (by decide) (fun c1 => ?_) (fun c1 => ?_)
    · have hf := kb_ife hf c1
      exact hp63 μ hf
    · have hf := kb_ift hf c1
      refine kj_aload_n (pc := 55) C 0 dX9_work_55 rfl rfl ?_
      refine kj_aload_n (pc := 56) C 0 dX9_work_56 rfl rfl ?_
      obtain ⟨q2, hq2, hf⟩ := kb_bd hf
      refine kj_callV0 (pc := 57) (as := []) (rest := [.ref (d 0)]) (b := (d 0)) C (ct_X9_liveLoops l V A  d μ ex hq2) wd_X9_liveLoops wk_X9_208 wi_X9_liveLoops ws_X9_liveLoops wz_X9 rfl rfl hd_X9_liveLoops ⟨by decide, by decide⟩ 0 rfl rfl rfl rfl (Nat.le_of_ble_eq_true rfl) (by decide) dX9_work_57 ?_
      obtain ⟨q3, hq3, hf⟩ := kb_bd hf
      refine kj_callV0 (pc := 60) (as := [.int q2]) (rest := []) (b := (d 0)) C (ct_X9_flatten l V A q2 d μ ex hq3) wd_X9_flatten wk_X9_211 wi_X9_flatten ws_X9_flatten wz_X9 rfl rfl hd_X9_flatten ⟨by decide, by decide⟩ 0 rfl rfl rfl rfl (Nat.le_of_ble_eq_true rfl) (by decide) dX9_work_60 ?_
      exact hp63 q3 hf
  refine kj_sub [0] (L2 := [(0, .ref (d 0))]) rfl ?_
  rw [fe_X9_work] at hf
  refine kj_aload_n (pc := 0) C 0 dX9_work_0 rfl rfl ?_
  refine kj_iconst (pc := 1) (v := (0 : Int32)) C dX9_work_1 (by decide) ?_
  refine kp_X9_thrown (pc := 2) C wf_X9_75 dX9_work_2 ?_
  refine kj_aload_n (pc := 5) C 0 dX9_work_5 rfl rfl ?_
  refine kj_iconst (pc := 6) (v := (0 : Int32)) C dX9_work_6 (by decide) ?_
  refine kp_X9_at (pc := 7) C wf_X9_107 dX9_work_7 ?_
  refine kj_aload_n (pc := 10) C 0 dX9_work_10 rfl rfl ?_
  refine kj_iconst (pc := 11) (v := (0 : Int32)) C dX9_work_11 (by decide) ?_
  refine kp_X9_fault (pc := 12) C wf_X9_114 dX9_work_12 ?_
  refine kj_aload_n (pc := 15) C 0 dX9_work_15 rfl rfl ?_
  refine kj_iconst (pc := 16) (v := (0 : Int32)) C dX9_work_16 (by decide) ?_
  refine kp_X9_depth (pc := 17) C wf_X9_141 dX9_work_17 ?_
  refine kj_aload_n (pc := 20) C 0 dX9_work_20 rfl rfl ?_
  refine kj_iconst (pc := 21) (v := (0 : Int32)) C dX9_work_21 (by decide) ?_
  refine kp_X9_marks (pc := 22) C wf_X9_123 dX9_work_22 ?_
  refine kj_aload_n (pc := 25) C 0 dX9_work_25 rfl rfl ?_
  obtain ⟨q1, hq1, hf⟩ := kb_bd hf
  refine kj_callV0 (pc := 26) (as := []) (rest := []) (b := (d 0)) C (ct_X9_line l V A  d (kb_p (kb_p (kb_p (kb_p (kb_p μ 0 (0 : Int32)) 5 (0 : Int32)) 6 (0 : Int32)) 8 (0 : Int32)) 9 (0 : Int32)) ex hq1) wd_X9_line wk_X9_205 wi_X9_line ws_X9_line wz_X9 rfl rfl hd_X9_line ⟨by decide, by decide⟩ 0 rfl rfl rfl rfl (Nat.le_of_ble_eq_true rfl) (by decide) dX9_work_26 ?_
  refine kj_aload_n (pc := 29) C 0 dX9_work_29 rfl rfl ?_
  refine kg_X9_fault (pc := 30) (v := (kb_g q1 6)) C wf_X9_114 dX9_work_30 rfl ?_
  refine kj_if_ne (pc := 33) 48 C dX9_work_33 (by decide) (fun c2 => ?_) (fun c2 => ?_)
  · have hf := kb_ife hf c2
    exact hp48 q1 hf
  · have hf := kb_ift hf c2
    refine kj_aload_n (pc := 36) C 0 dX9_work_36 rfl rfl ?_
    obtain ⟨q3, hq3, hf⟩ := kb_bd hf
    refine kj_callV0 (pc := 37) (as := []) (rest := []) (b := (d 0)) C (ct_X9_seeWord l V A  d q1 ex hq3) wd_X9_seeWord wk_X9_138 wi_X9_seeWord ws_X9_seeWord wz_X9 rfl rfl hd_X9_seeWord ⟨by decide, by decide⟩ 0 rfl rfl rfl rfl (Nat.le_of_ble_eq_true rfl) (by decide) dX9_work_37 ?_
    refine kj_if_lt (pc := 40) 48 C dX9_work_40 (by decide) (fun c4 => ?_) (fun c4 => ?_)
    · have hf := kb_ift hf c4
      exact hp48 q3.1 hf
    · have hf := kb_ife hf c4
      refine kj_aload_n (pc := 43) C 0 dX9_work_43 rfl rfl ?_
      refine kj_iconst (pc := 44) (v := (1 : Int32)) C dX9_work_44 (by decide) ?_
      obtain ⟨q5, hq5, hf⟩ := kb_bd hf
      refine kj_callV0 (pc := 45) (as := [.int (1 : Int32)]) (rest := []) (b := (d 0)) C (ct_X9_wrong l V A (1 : Int32) d q3.1 ex hq5) wd_X9_wrong wk_X9_120 wi_X9_wrong ws_X9_wrong wz_X9 rfl rfl hd_X9_wrong ⟨by decide, by decide⟩ 0 rfl rfl rfl rfl (Nat.le_of_ble_eq_true rfl) (by decide) dX9_work_45 ?_
      exact hp48 q5 hf
def fn_X9_rows   (μ : kb_S) : Option (kb_S × Int32) :=
  some ((kb_p μ 0 (0 : Int32)), (kb_g μ 4))
theorem fe_X9_rows   (μ : kb_S) : fn_X9_rows   μ =
  some ((kb_p μ 0 (0 : Int32)), (kb_g μ 4)) := rfl
theorem hd_X9_rows : yX9_rows.cls = RX9 ∧ yX9_rows.cls ≠ "java/lang/invoke/MethodHandle" ∧ yX9_rows.cls ≠ "java/lang/invoke/VarHandle" ∧ (parseMethodDescriptor yX9_rows.desc).map (fun d => d.parameters.length) = some 0 := by decide +kernel
set_option maxRecDepth 100000 in
set_option maxHeartbeats 4000000 in
theorem ct_X9_rows (l : Launch) (V : kb_V) (A : Nat → Prop)   (d : Nat → Nat) (μ : kb_S) (ex : va_W) {μ9 : kb_S} {r : Int32} (hf : fn_X9_rows   μ = some (μ9, r)) : kb_T l yX9_rows cX9_rows 1 (some .int) ({ frames := 0, cells := 0, slots := 0, locals := 0 } : Room) V A [.ref (d 0)] (kb_WM V d μ ex) (some (.int r)) (kb_WM V d μ9 ex) 0 0 := by
  refine kb_start (cc := cX9_rows) (nL := 1) (ret := (some .int)) (own := RX9) (by decide) rfl (Nat.le_of_ble_eq_true rfl) ?_
  intro p e s m args below meth c C
  refine kj_sub [0] (L2 := [(0, .ref (d 0))]) rfl ?_
  rw [fe_X9_rows] at hf
  refine kj_aload_n (pc := 0) C 0 dX9_rows_0 rfl rfl ?_
  refine kj_iconst (pc := 1) (v := (0 : Int32)) C dX9_rows_1 (by decide) ?_
  refine kp_X9_thrown (pc := 2) C wf_X9_75 dX9_rows_2 ?_
  refine kj_aload_n (pc := 5) C 0 dX9_rows_5 rfl rfl ?_
  refine kg_X9_rows (pc := 6) (v := (kb_g μ 4)) C wf_X9_86 dX9_rows_6 rfl ?_
  cases hf
  exact kj_iret (pc := 9) C dX9_rows_9
def fp_X9_unravel_78  (kc20 : Int32 → Int32 → kb_S → Option (kb_S × Int32)) (kc40 : Int32 → Int32 → Int32 → kb_S → Option (kb_S × Int32)) (x1 : Int32) (x2 : Int32) (x3 : Int32) (μ : kb_S) : Option (kb_S × Int32) :=
  kc40 x1 x2 (x3 + (1 : Int32)) μ
theorem fp_X9_unravel_78_e  (kc20 : Int32 → Int32 → kb_S → Option (kb_S × Int32)) (kc40 : Int32 → Int32 → Int32 → kb_S → Option (kb_S × Int32)) (x1 : Int32) (x2 : Int32) (x3 : Int32) (μ : kb_S) : fp_X9_unravel_78 kc20 kc40 x1 x2 x3 μ =
  kc40 x1 x2 (x3 + (1 : Int32)) μ := rfl
def fp_X9_unravel_40  (kc20 : Int32 → Int32 → kb_S → Option (kb_S × Int32)) : Nat → Int32 → Int32 → Int32 → kb_S → Option (kb_S × Int32)
  | 0 => fun _ _ _ _ => none
  | nn + 1 => fun x1 x2 x3 μ => 
  if (kb_g μ 3) ≤ x3 then
    kc20 x1 (x2 + (1 : Int32)) (kb_p μ 4 ((kb_g μ 4) - (1 : Int32)))
  else
    if kb_in x3 600 = true then
      if (kb_a μ 2 x3.toNatClampNeg) = (kb_g μ 4) then
        if kb_in x3 600 = true then
          if kb_in x3 600 = true then
            fp_X9_unravel_78  kc20 (fp_X9_unravel_40 kc20 nn) x1 x2 x3 (kb_ap (kb_ap μ 2 x3.toNatClampNeg (0 : Int32)) 3 x3.toNatClampNeg (vp_nar .boolean (0 : Int32)))
          else none
        else none
      else
        fp_X9_unravel_78  kc20 (fp_X9_unravel_40 kc20 nn) x1 x2 x3 μ
    else none
theorem fp_X9_unravel_40_s  (kc20 : Int32 → Int32 → kb_S → Option (kb_S × Int32)) (nn : Nat) (x1 : Int32) (x2 : Int32) (x3 : Int32) (μ : kb_S) : fp_X9_unravel_40 kc20 (nn + 1) x1 x2 x3 μ =
  if (kb_g μ 3) ≤ x3 then
    kc20 x1 (x2 + (1 : Int32)) (kb_p μ 4 ((kb_g μ 4) - (1 : Int32)))
  else
    if kb_in x3 600 = true then
      if (kb_a μ 2 x3.toNatClampNeg) = (kb_g μ 4) then
        if kb_in x3 600 = true then
          if kb_in x3 600 = true then
            fp_X9_unravel_78  kc20 (fp_X9_unravel_40 kc20 nn) x1 x2 x3 (kb_ap (kb_ap μ 2 x3.toNatClampNeg (0 : Int32)) 3 x3.toNatClampNeg (vp_nar .boolean (0 : Int32)))
          else none
        else none
      else
        fp_X9_unravel_78  kc20 (fp_X9_unravel_40 kc20 nn) x1 x2 x3 μ
    else none := rfl
def fp_X9_unravel_20   : Nat → Int32 → Int32 → kb_S → Option (kb_S × Int32)
  | 0 => fun _ _ _ => none
  | nn + 1 => fun x1 x2 μ => 
  if x1 ≤ x2 then
    some (μ, (kb_g μ 4))
  else
    if kb_in (kb_g μ 4) 32 = true then
      fp_X9_unravel_40  (fp_X9_unravel_20  nn) kb_FU x1 x2 (0 : Int32) (kb_p μ 3 (kb_a μ 6 (kb_g μ 4).toNatClampNeg))
    else none
theorem fp_X9_unravel_20_s   (nn : Nat) (x1 : Int32) (x2 : Int32) (μ : kb_S) : fp_X9_unravel_20  (nn + 1) x1 x2 μ =
  if x1 ≤ x2 then
    some (μ, (kb_g μ 4))
  else
    if kb_in (kb_g μ 4) 32 = true then
      fp_X9_unravel_40  (fp_X9_unravel_20  nn) kb_FU x1 x2 (0 : Int32) (kb_p μ 3 (kb_a μ 6 (kb_g μ 4).toNatClampNeg))
    else none := rfl
def fn_X9_unravel  (x1 : Int32) (μ : kb_S) : Option (kb_S × Int32) :=
  (fn_X9_says (fn_X9_in x1 (0 : Int32) (kb_g μ 4)) μ).bind fun q1 =>
  if q1.2 = 0 then
    some (q1.1, (0 : Int32))
  else
    fp_X9_unravel_20   kb_FU x1 (0 : Int32) q1.1
theorem fe_X9_unravel  (x1 : Int32) (μ : kb_S) : fn_X9_unravel  x1 μ =
  (fn_X9_says (fn_X9_in x1 (0 : Int32) (kb_g μ 4)) μ).bind fun q1 =>
  if q1.2 = 0 then
    some (q1.1, (0 : Int32))
  else
    fp_X9_unravel_20   kb_FU x1 (0 : Int32) q1.1 := rfl
theorem hd_X9_unravel : yX9_unravel.cls = RX9 ∧ yX9_unravel.cls ≠ "java/lang/invoke/MethodHandle" ∧ yX9_unravel.cls ≠ "java/lang/invoke/VarHandle" ∧ (parseMethodDescriptor yX9_unravel.desc).map (fun d => d.parameters.length) = some 1 := by decide +kernel
set_option maxRecDepth 100000 in
set_option maxHeartbeats 4000000 in
theorem ct_X9_unravel (l : Launch) (V : kb_V) (A : Nat → Prop)  (x1 : Int32) (d : Nat → Nat) (μ : kb_S) (ex : va_W) {μ9 : kb_S} {r : Int32} (hf : fn_X9_unravel  x1 μ = some (μ9, r)) : kb_T l yX9_unravel cX9_unravel 4 (some .int) ({ frames := 1, cells := 0, slots := 0, locals := 22 } : Room) V A [.ref (d 0), .int x1] (kb_WM V d μ ex) (some (.int r)) (kb_WM V d μ9 ex) 0 0 := by
  refine kb_start (cc := cX9_unravel) (nL := 4) (ret := (some .int)) (own := RX9) (by decide) rfl (Nat.le_of_ble_eq_true rfl) ?_
  intro p e s m args below meth c C
  have hp20 : ∀ (nn : Nat) (x1 : Int32) (x2 : Int32) (μ : kb_S), fp_X9_unravel_20   nn x1 x2 μ = some (μ9, r) → kb_J p l e ({ frames := 1, cells := 0, slots := 0, locals := 22 } : Room) s m args below meth c 4 V A 0 0 (MQ below (kb_post V A (some (.int r)) (kb_WM V d μ9 ex)) args s 0 0 A) 20 [(0, .ref (d 0)), (1, .int x1), (2, .int x2)] [] (kb_WM V d μ ex) := by
    intro nn20
    induction nn20 with
    | zero => intro x1 x2 μ hf; exact kb_no hf
    | succ nn20 ih20 =>
      have hp40 : ∀ (nn : Nat) (x1 : Int32) (x2 : Int32) (x3 : Int32) (μ : kb_S), fp_X9_unravel_40  (fp_X9_unravel_20   nn20) nn x1 x2 x3 μ = some (μ9, r) → kb_J p l e ({ frames := 1, cells := 0, slots := 0, locals := 22 } : Room) s m args below meth c 4 V A 0 0 (MQ below (kb_post V A (some (.int r)) (kb_WM V d μ9 ex)) args s 0 0 A) 40 [(0, .ref (d 0)), (1, .int x1), (2, .int x2), (3, .int x3)] [] (kb_WM V d μ ex) := by
        intro nn40
        induction nn40 with
        | zero => intro x1 x2 x3 μ hf; exact kb_no hf
        | succ nn40 ih40 =>
          have hp78 : ∀ (x1 : Int32) (x2 : Int32) (x3 : Int32) (μ : kb_S), fp_X9_unravel_78  (fp_X9_unravel_20   nn20) (fp_X9_unravel_40  (fp_X9_unravel_20   nn20) nn40) x1 x2 x3 μ = some (μ9, r) → kb_J p l e ({ frames := 1, cells := 0, slots := 0, locals := 22 } : Room) s m args below meth c 4 V A 0 0 (MQ below (kb_post V A (some (.int r)) (kb_WM V d μ9 ex)) args s 0 0 A) 78 [(0, .ref (d 0)), (1, .int x1), (2, .int x2), (3, .int x3)] [] (kb_WM V d μ ex) := by
            intro x1 x2 x3 μ hf
            rw [fp_X9_unravel_78_e] at hf
            refine kj_iinc (pc := 78) C 3 [1, 2, 3, 0] (L2 := [(0, .ref (d 0)), (1, .int x1), (2, .int x2), (3, .int (x3 + (1 : Int32)))]) dX9_unravel_78 rfl rfl (by decide) rfl ?_
            refine kj_goto (pc := 81) 40 C dX9_unravel_81 (by decide) ?_
            exact ih40 x1 x2 (x3 + (1 : Int32)) μ hf
          intro x1 x2 x3 μ hf
          rw [fp_X9_unravel_40_s] at hf
          refine kj_iload_n (pc := 40) C 3 dX9_unravel_40 rfl rfl ?_
          refine kj_aload_n (pc := 41) C 0 dX9_unravel_41 rfl rfl ?_
          refine kg_X9_loops (pc := 42) (v := (kb_g μ 3)) C wf_X9_83 dX9_unravel_42 rfl ?_
          refine kj_icmp_ge (pc := 45) 84 C dX9_unravel_45 (by decide) (fun c1 => ?_) (fun c1 => ?_)
          · have hf := kb_ift hf c1
            refine kj_aload_n (pc := 84) C 0 dX9_unravel_84 rfl rfl ?_
            refine kj_dup (pc := 85) C dX9_unravel_85 rfl ?_
            refine kg_X9_rows (pc := 86) (v := (kb_g μ 4)) C wf_X9_86 dX9_unravel_86 rfl ?_
            refine kj_iconst (pc := 89) (v := (1 : Int32)) C dX9_unravel_89 (by decide) ?_
            refine kj_isub (pc := 90) C dX9_unravel_90 ?_
            refine kp_X9_rows (pc := 91) C wf_X9_86 dX9_unravel_91 ?_
            refine kj_iinc (pc := 94) C 2 [1, 2, 0, 3] (L2 := [(0, .ref (d 0)), (1, .int x1), (2, .int (x2 + (1 : Int32))), (3, .int x3)]) dX9_unravel_94 rfl rfl (by decide) rfl ?_
            refine kj_goto (pc := 97) 20 C dX9_unravel_97 (by decide) ?_
            refine kj_sub [0, 1, 2] (L2 := [(0, .ref (d 0)), (1, .int x1), (2, .int (x2 + (1 : Int32)))]) rfl ?_
            exact ih20 x1 (x2 + (1 : Int32)) (kb_p μ 4 ((kb_g μ 4) - (1 : Int32))) hf
          · have hf := kb_ife hf c1
            refine kj_aload_n (pc := 48) C 0 dX9_unravel_48 rfl rfl ?_
            refine kg_X9_died (pc := 49) C wf_X9_16 dX9_unravel_49 ?_
            refine kj_iload_n (pc := 52) C 3 dX9_unravel_52 rfl rfl ?_
            obtain ⟨g2, hf⟩ := kb_gd hf
            refine ka_X9_died (pc := 53) (v := (kb_a μ 2 x3.toNatClampNeg)) C g2 dX9_unravel_53 rfl ?_
            refine kj_aload_n (pc := 54) C 0 dX9_unravel_54 rfl rfl ?_
            refine kg_X9_rows (pc := 55) (v := (kb_g μ 4)) C wf_X9_86 dX9_unravel_55 rfl ?_
            refine kj_icmp_eq (pc := 58) 64 C dX9_unravel_58 (by decide) (fun c3 => ?_) (fun c3 => ?_)
            · have hf := kb_ift hf c3
              refine kj_aload_n (pc := 64) C 0 dX9_unravel_64 rfl rfl ?_
              refine kg_X9_died (pc := 65) C wf_X9_16 dX9_unravel_65 ?_
              refine kj_iload_n (pc := 68) C 3 dX9_unravel_68 rfl rfl ?_
              refine kj_iconst (pc := 69) (v := (0 : Int32)) C dX9_unravel_69 (by decide) ?_
              obtain ⟨g4, hf⟩ := kb_gd hf
              refine ks_X9_died (pc := 70) C g4 dX9_unravel_70 ?_
              refine kj_aload_n (pc := 71) C 0 dX9_unravel_71 rfl rfl ?_
              refine kg_X9_bound (pc := 72) C wf_X9_19 dX9_unravel_72 ?_
              refine kj_iload_n (pc := 75) C 3 dX9_unravel_75 rfl rfl ?_
              refine kj_iconst (pc := 76) (v := (0 : Int32)) C dX9_unravel_76 (by decide) ?_
              obtain ⟨g5, hf⟩ := kb_gd hf
              refine ks_X9_bound (pc := 77) C g5 dX9_unravel_77 ?_
              exact hp78 x1 x2 x3 (kb_ap (kb_ap μ 2 x3.toNatClampNeg (0 : Int32)) 3 x3.toNatClampNeg (vp_nar .boolean (0 : Int32))) hf
            · have hf := kb_ife hf c3
              refine kj_goto (pc := 61) 78 C dX9_unravel_61 (by decide) ?_
              exact hp78 x1 x2 x3 μ hf
      intro x1 x2 μ hf
      rw [fp_X9_unravel_20_s] at hf
      refine kj_iload_n (pc := 20) C 2 dX9_unravel_20 rfl rfl ?_
      refine kj_iload_n (pc := 21) C 1 dX9_unravel_21 rfl rfl ?_
      refine kj_icmp_ge (pc := 22) 100 C dX9_unravel_22 (by decide) (fun c1 => ?_) (fun c1 => ?_)
      · have hf := kb_ift hf c1
        refine kj_aload_n (pc := 100) C 0 dX9_unravel_100 rfl rfl ?_
        refine kg_X9_rows (pc := 101) (v := (kb_g μ 4)) C wf_X9_86 dX9_unravel_101 rfl ?_
        cases hf
        exact kj_iret (pc := 104) C dX9_unravel_104
      · have hf := kb_ife hf c1
        refine kj_aload_n (pc := 25) C 0 dX9_unravel_25 rfl rfl ?_
        refine kj_aload_n (pc := 26) C 0 dX9_unravel_26 rfl rfl ?_
        refine kg_X9_begin (pc := 27) C wf_X9_29 dX9_unravel_27 ?_
        refine kj_aload_n (pc := 30) C 0 dX9_unravel_30 rfl rfl ?_
        refine kg_X9_rows (pc := 31) (v := (kb_g μ 4)) C wf_X9_86 dX9_unravel_31 rfl ?_
        obtain ⟨g2, hf⟩ := kb_gd hf
        refine ka_X9_begin (pc := 34) (v := (kb_a μ 6 (kb_g μ 4).toNatClampNeg)) C g2 dX9_unravel_34 rfl ?_
        refine kp_X9_loops (pc := 35) C wf_X9_83 dX9_unravel_35 ?_
        refine kj_iconst (pc := 38) (v := (0 : Int32)) C dX9_unravel_38 (by decide) ?_
        refine kj_istore_n (pc := 39) C [1, 2, 3, 0] (L2 := [(0, .ref (d 0)), (1, .int x1), (2, .int x2), (3, .int (0 : Int32))]) dX9_unravel_39 rfl (by decide) rfl ?_
        exact hp40 kb_FU x1 x2 (0 : Int32) (kb_p μ 3 (kb_a μ 6 (kb_g μ 4).toNatClampNeg)) hf
  refine kj_sub [0, 1] (L2 := [(0, .ref (d 0)), (1, .int x1)]) rfl ?_
  rw [fe_X9_unravel] at hf
  refine kj_aload_n (pc := 0) C 0 dX9_unravel_0 rfl rfl ?_
  refine kj_iload_n (pc := 1) C 1 dX9_unravel_1 rfl rfl ?_
  refine kj_iconst (pc := 2) (v := (0 : Int32)) C dX9_unravel_2 (by decide) ?_
  refine kj_aload_n (pc := 3) C 0 dX9_unravel_3 rfl rfl ?_
  refine kg_X9_rows (pc := 4) (v := (kb_g μ 4)) C wf_X9_86 dX9_unravel_4 rfl ?_
  refine kj_callS0 (pc := 7) (as := [.int x1, .int (0 : Int32), .int (kb_g μ 4)]) (rest := [.ref (d 0)]) C (ct_X9_in l V A x1 (0 : Int32) (kb_g μ 4) (kb_WM V d μ ex) rfl) wd_X9_in wk_X9_96 wi_X9_in wz_X9 rfl rfl hd_X9_in ⟨by decide, by decide⟩ rfl (Nat.le_of_ble_eq_true rfl) (by decide) dX9_unravel_7 ?_
  obtain ⟨q1, hq1, hf⟩ := kb_bd hf
  refine kj_callV0 (pc := 10) (as := [.int (fn_X9_in x1 (0 : Int32) (kb_g μ 4))]) (rest := []) (b := (d 0)) C (ct_X9_says l V A (fn_X9_in x1 (0 : Int32) (kb_g μ 4)) d μ ex hq1) wd_X9_says wk_X9_100 wi_X9_says ws_X9_says wz_X9 rfl rfl hd_X9_says ⟨by decide, by decide⟩ 0 rfl rfl rfl rfl (Nat.le_of_ble_eq_true rfl) (by decide) dX9_unravel_10 ?_
  refine kj_if_ne (pc := 13) 18 C dX9_unravel_13 (by decide) (fun c2 => ?_) (fun c2 => ?_)
  · have hf := kb_ife hf c2
    refine kj_iconst (pc := 18) (v := (0 : Int32)) C dX9_unravel_18 (by decide) ?_
    refine kj_istore_n (pc := 19) C [1, 2, 0] (L2 := [(0, .ref (d 0)), (1, .int x1), (2, .int (0 : Int32))]) dX9_unravel_19 rfl (by decide) rfl ?_
    exact hp20 kb_FU x1 (0 : Int32) q1.1 hf
  · have hf := kb_ift hf c2
    refine kj_iconst (pc := 16) (v := (0 : Int32)) C dX9_unravel_16 (by decide) ?_
    cases hf
    exact kj_iret (pc := 17) C dX9_unravel_17
def fn_X9_live  (x1 : Int32) (μ : kb_S) : Option (kb_S × Int32) :=
  (fn_X9_liveLoops  (kb_p μ 0 (0 : Int32))).bind fun q1 =>
  if (fn_X9_in x1 (0 : Int32) (q1 - (1 : Int32))) = 0 then
    some ((kb_p μ 0 (0 : Int32)), (-1 : Int32))
  else
    (fn_X9_needle x1 (kb_p μ 0 (0 : Int32))).bind fun q3 =>
    some ((kb_p μ 0 (0 : Int32)), q3)
theorem fe_X9_live  (x1 : Int32) (μ : kb_S) : fn_X9_live  x1 μ =
  (fn_X9_liveLoops  (kb_p μ 0 (0 : Int32))).bind fun q1 =>
  if (fn_X9_in x1 (0 : Int32) (q1 - (1 : Int32))) = 0 then
    some ((kb_p μ 0 (0 : Int32)), (-1 : Int32))
  else
    (fn_X9_needle x1 (kb_p μ 0 (0 : Int32))).bind fun q3 =>
    some ((kb_p μ 0 (0 : Int32)), q3) := rfl
theorem hd_X9_live : yX9_live.cls = RX9 ∧ yX9_live.cls ≠ "java/lang/invoke/MethodHandle" ∧ yX9_live.cls ≠ "java/lang/invoke/VarHandle" ∧ (parseMethodDescriptor yX9_live.desc).map (fun d => d.parameters.length) = some 1 := by decide +kernel
set_option maxRecDepth 100000 in
set_option maxHeartbeats 4000000 in
theorem ct_X9_live (l : Launch) (V : kb_V) (A : Nat → Prop)  (x1 : Int32) (d : Nat → Nat) (μ : kb_S) (ex : va_W) {μ9 : kb_S} {r : Int32} (hf : fn_X9_live  x1 μ = some (μ9, r)) : kb_T l yX9_live cX9_live 2 (some .int) ({ frames := 1, cells := 0, slots := 0, locals := 22 } : Room) V A [.ref (d 0), .int x1] (kb_WM V d μ ex) (some (.int r)) (kb_WM V d μ9 ex) 0 0 := by
  refine kb_start (cc := cX9_live) (nL := 2) (ret := (some .int)) (own := RX9) (by decide) rfl (Nat.le_of_ble_eq_true rfl) ?_
  intro p e s m args below meth c C
  refine kj_sub [0, 1] (L2 := [(0, .ref (d 0)), (1, .int x1)]) rfl ?_
  rw [fe_X9_live] at hf
  refine kj_aload_n (pc := 0) C 0 dX9_live_0 rfl rfl ?_
  refine kj_iconst (pc := 1) (v := (0 : Int32)) C dX9_live_1 (by decide) ?_
  refine kp_X9_thrown (pc := 2) C wf_X9_75 dX9_live_2 ?_
  refine kj_iload_n (pc := 5) C 1 dX9_live_5 rfl rfl ?_
  refine kj_iconst (pc := 6) (v := (0 : Int32)) C dX9_live_6 (by decide) ?_
  refine kj_aload_n (pc := 7) C 0 dX9_live_7 rfl rfl ?_
  obtain ⟨q1, hq1, hf⟩ := kb_bd hf
  refine kj_callV0 (pc := 8) (as := []) (rest := [.int (0 : Int32), .int x1]) (b := (d 0)) C (ct_X9_liveLoops l V A  d (kb_p μ 0 (0 : Int32)) ex hq1) wd_X9_liveLoops wk_X9_208 wi_X9_liveLoops ws_X9_liveLoops wz_X9 rfl rfl hd_X9_liveLoops ⟨by decide, by decide⟩ 0 rfl rfl rfl rfl (Nat.le_of_ble_eq_true rfl) (by decide) dX9_live_8 ?_
  refine kj_iconst (pc := 11) (v := (1 : Int32)) C dX9_live_11 (by decide) ?_
  refine kj_isub (pc := 12) C dX9_live_12 ?_
  refine kj_callS0 (pc := 13) (as := [.int x1, .int (0 : Int32), .int (q1 - (1 : Int32))]) (rest := []) C (ct_X9_in l V A x1 (0 : Int32) (q1 - (1 : Int32)) (kb_WM V d (kb_p μ 0 (0 : Int32)) ex) rfl) wd_X9_in wk_X9_96 wi_X9_in wz_X9 rfl rfl hd_X9_in ⟨by decide, by decide⟩ rfl (Nat.le_of_ble_eq_true rfl) (by decide) dX9_live_13 ?_
  refine kj_if_eq (pc := 16) 27 C dX9_live_16 (by decide) (fun c2 => ?_) (fun c2 => ?_)
  · have hf := kb_ift hf c2
    refine kj_iconst (pc := 27) (v := (-1 : Int32)) C dX9_live_27 (by decide) ?_
    cases hf
    exact kj_iret (pc := 28) C dX9_live_28
  · have hf := kb_ife hf c2
    refine kj_aload_n (pc := 19) C 0 dX9_live_19 rfl rfl ?_
    refine kj_iload_n (pc := 20) C 1 dX9_live_20 rfl rfl ?_
    obtain ⟨q3, hq3, hf⟩ := kb_bd hf
    refine kj_callV0 (pc := 21) (as := [.int x1]) (rest := []) (b := (d 0)) C (ct_X9_needle l V A x1 d (kb_p μ 0 (0 : Int32)) ex hq3) wd_X9_needle wk_X9_217 wi_X9_needle ws_X9_needle wz_X9 rfl rfl hd_X9_needle ⟨by decide, by decide⟩ 0 rfl rfl rfl rfl (Nat.le_of_ble_eq_true rfl) (by decide) dX9_live_21 ?_
    refine kj_goto (pc := 24) 28 C dX9_live_24 (by decide) ?_
    cases hf
    exact kj_iret (pc := 28) C dX9_live_28
def fp_X9_loop_54   (x1 : Int32) (x2 : Int32) (y0 : Int32) (μ : kb_S) : Option (kb_S × Int32) :=
  (fn_X9_says y0 μ).bind fun q1 =>
  if q1.2 = 0 then
    some (q1.1, (0 : Int32))
  else
    if x2 = 0 then
      if kb_in x1 600 = true then
        some (q1.1, (kb_a q1.1 1 x1.toNatClampNeg))
      else none
    else
      if x2 = (1 : Int32) then
        if kb_in x1 600 = true then
          some (q1.1, (kb_a q1.1 2 x1.toNatClampNeg))
        else none
      else
        if x2 = (2 : Int32) then
          if kb_in x1 600 = true then
            some (q1.1, (kb_a q1.1 4 x1.toNatClampNeg))
          else none
        else
          if kb_in ((((3 : Int32) * x1) + x2) - (3 : Int32)) 1800 = true then
            some (q1.1, (kb_a q1.1 5 ((((3 : Int32) * x1) + x2) - (3 : Int32)).toNatClampNeg))
          else none
theorem fp_X9_loop_54_e   (x1 : Int32) (x2 : Int32) (y0 : Int32) (μ : kb_S) : fp_X9_loop_54  x1 x2 y0 μ =
  (fn_X9_says y0 μ).bind fun q1 =>
  if q1.2 = 0 then
    some (q1.1, (0 : Int32))
  else
    if x2 = 0 then
      if kb_in x1 600 = true then
        some (q1.1, (kb_a q1.1 1 x1.toNatClampNeg))
      else none
    else
      if x2 = (1 : Int32) then
        if kb_in x1 600 = true then
          some (q1.1, (kb_a q1.1 2 x1.toNatClampNeg))
        else none
      else
        if x2 = (2 : Int32) then
          if kb_in x1 600 = true then
            some (q1.1, (kb_a q1.1 4 x1.toNatClampNeg))
          else none
        else
          if kb_in ((((3 : Int32) * x1) + x2) - (3 : Int32)) 1800 = true then
            some (q1.1, (kb_a q1.1 5 ((((3 : Int32) * x1) + x2) - (3 : Int32)).toNatClampNeg))
          else none := rfl
def fp_X9_loop_53   (x1 : Int32) (x2 : Int32) (μ : kb_S) : Option (kb_S × Int32) :=
  fp_X9_loop_54   x1 x2 (0 : Int32) μ
theorem fp_X9_loop_53_e   (x1 : Int32) (x2 : Int32) (μ : kb_S) : fp_X9_loop_53  x1 x2 μ =
  fp_X9_loop_54   x1 x2 (0 : Int32) μ := rfl
def fp_X9_loop_42   (x1 : Int32) (x2 : Int32) (y0 : Int32) (y1 : Int32) (y2 : Int32) (y3 : Int32) (μ : kb_S) : Option (kb_S × Int32) :=
  if (fn_X9_in y3 y2 (y1 + y0)) = 0 then
    fp_X9_loop_53   x1 x2 μ
  else
    fp_X9_loop_54   x1 x2 (1 : Int32) μ
theorem fp_X9_loop_42_e   (x1 : Int32) (x2 : Int32) (y0 : Int32) (y1 : Int32) (y2 : Int32) (y3 : Int32) (μ : kb_S) : fp_X9_loop_42  x1 x2 y0 y1 y2 y3 μ =
  if (fn_X9_in y3 y2 (y1 + y0)) = 0 then
    fp_X9_loop_53   x1 x2 μ
  else
    fp_X9_loop_54   x1 x2 (1 : Int32) μ := rfl
def fn_X9_loop  (x1 : Int32) (x2 : Int32) (μ : kb_S) : Option (kb_S × Int32) :=
  if (fn_X9_in x1 (0 : Int32) ((kb_g μ 3) - (1 : Int32))) = 0 then
    fp_X9_loop_53   x1 x2 μ
  else
    if (fn_X9_in x1 (0 : Int32) ((kb_g μ 3) - (1 : Int32))) = 0 then
      fp_X9_loop_42   x1 x2 (0 : Int32) (2 : Int32) (0 : Int32) x2 μ
    else
      if kb_in x1 600 = true then
        fp_X9_loop_42   x1 x2 (kb_a μ 4 x1.toNatClampNeg) (2 : Int32) (0 : Int32) x2 μ
      else none
theorem fe_X9_loop  (x1 : Int32) (x2 : Int32) (μ : kb_S) : fn_X9_loop  x1 x2 μ =
  if (fn_X9_in x1 (0 : Int32) ((kb_g μ 3) - (1 : Int32))) = 0 then
    fp_X9_loop_53   x1 x2 μ
  else
    if (fn_X9_in x1 (0 : Int32) ((kb_g μ 3) - (1 : Int32))) = 0 then
      fp_X9_loop_42   x1 x2 (0 : Int32) (2 : Int32) (0 : Int32) x2 μ
    else
      if kb_in x1 600 = true then
        fp_X9_loop_42   x1 x2 (kb_a μ 4 x1.toNatClampNeg) (2 : Int32) (0 : Int32) x2 μ
      else none := rfl
theorem hd_X9_loop : yX9_loop.cls = RX9 ∧ yX9_loop.cls ≠ "java/lang/invoke/MethodHandle" ∧ yX9_loop.cls ≠ "java/lang/invoke/VarHandle" ∧ (parseMethodDescriptor yX9_loop.desc).map (fun d => d.parameters.length) = some 2 := by decide +kernel
set_option maxRecDepth 100000 in
set_option maxHeartbeats 4000000 in
theorem ct_X9_loop (l : Launch) (V : kb_V) (A : Nat → Prop)  (x1 : Int32) (x2 : Int32) (d : Nat → Nat) (μ : kb_S) (ex : va_W) {μ9 : kb_S} {r : Int32} (hf : fn_X9_loop  x1 x2 μ = some (μ9, r)) : kb_T l yX9_loop cX9_loop 3 (some .int) ({ frames := 1, cells := 0, slots := 0, locals := 22 } : Room) V A [.ref (d 0), .int x1, .int x2] (kb_WM V d μ ex) (some (.int r)) (kb_WM V d μ9 ex) 0 0 := by
  refine kb_start (cc := cX9_loop) (nL := 3) (ret := (some .int)) (own := RX9) (by decide) rfl (Nat.le_of_ble_eq_true rfl) ?_
  intro p e s m args below meth c C
  have hp54 : ∀ (x1 : Int32) (x2 : Int32) (y0 : Int32) (μ : kb_S), fp_X9_loop_54   x1 x2 y0 μ = some (μ9, r) → kb_J p l e ({ frames := 1, cells := 0, slots := 0, locals := 22 } : Room) s m args below meth c 3 V A 0 0 (MQ below (kb_post V A (some (.int r)) (kb_WM V d μ9 ex)) args s 0 0 A) 54 [(0, .ref (d 0)), (1, .int x1), (2, .int x2)] [.int y0, .ref (d 0)] (kb_WM V d μ ex) := by
    intro x1 x2 y0 μ hf
    rw [fp_X9_loop_54_e] at hf
    obtain ⟨q1, hq1, hf⟩ := kb_bd hf
    refine kj_callV0 (pc := 54) (as := [.int y0]) (rest := []) (b := (d 0)) C (ct_X9_says l V A y0 d μ ex hq1) wd_X9_says wk_X9_100 wi_X9_says ws_X9_says wz_X9 rfl rfl hd_X9_says ⟨by decide, by decide⟩ 0 rfl rfl rfl rfl (Nat.le_of_ble_eq_true rfl) (by decide) dX9_loop_54 ?_
    refine kj_if_ne (pc := 57) 62 C dX9_loop_57 (by decide) (fun c2 => ?_) (fun c2 => ?_)
    · have hf := kb_ife hf c2
      refine kj_iload_n (pc := 62) C 2 dX9_loop_62 rfl rfl ?_
      refine kj_if_ne (pc := 63) 75 C dX9_loop_63 (by decide) (fun c3 => ?_) (fun c3 => ?_)
      · have hf := kb_ife hf c3
        refine kj_iload_n (pc := 75) C 2 dX9_loop_75 rfl rfl ?_
        refine kj_iconst (pc := 76) (v := (1 : Int32)) C dX9_loop_76 (by decide) ?_
        refine kj_icmp_ne (pc := 77) 89 C dX9_loop_77 (by decide) (fun c4 => ?_) (fun c4 => ?_)
        · have hf := kb_ife hf c4
          refine kj_iload_n (pc := 89) C 2 dX9_loop_89 rfl rfl ?_
          refine kj_iconst (pc := 90) (v := (2 : Int32)) C dX9_loop_90 (by decide) ?_
          refine kj_icmp_ne (pc := 91) 103 C dX9_loop_91 (by decide) (fun c5 => ?_) (fun c5 => ?_)
          · have hf := kb_ife hf c5
            refine kj_aload_n (pc := 103) C 0 dX9_loop_103 rfl rfl ?_
            refine kg_X9_parent (pc := 104) C wf_X9_26 dX9_loop_104 ?_
            refine kj_iconst (pc := 107) (v := (3 : Int32)) C dX9_loop_107 (by decide) ?_
            refine kj_iload_n (pc := 108) C 1 dX9_loop_108 rfl rfl ?_
            refine kj_imul (pc := 109) C dX9_loop_109 ?_
            refine kj_iload_n (pc := 110) C 2 dX9_loop_110 rfl rfl ?_
            refine kj_iadd (pc := 111) C dX9_loop_111 ?_
            refine kj_iconst (pc := 112) (v := (3 : Int32)) C dX9_loop_112 (by decide) ?_
            refine kj_isub (pc := 113) C dX9_loop_113 ?_
            obtain ⟨g6, hf⟩ := kb_gd hf
            refine ka_X9_parent (pc := 114) (v := (kb_a q1.1 5 ((((3 : Int32) * x1) + x2) - (3 : Int32)).toNatClampNeg)) C g6 dX9_loop_114 rfl ?_
            cases hf
            exact kj_iret (pc := 115) C dX9_loop_115
          · have hf := kb_ift hf c5
            refine kj_aload_n (pc := 94) C 0 dX9_loop_94 rfl rfl ?_
            refine kg_X9_parents (pc := 95) C wf_X9_23 dX9_loop_95 ?_
            refine kj_iload_n (pc := 98) C 1 dX9_loop_98 rfl rfl ?_
            obtain ⟨g6, hf⟩ := kb_gd hf
            refine ka_X9_parents (pc := 99) (v := (kb_a q1.1 4 x1.toNatClampNeg)) C g6 dX9_loop_99 rfl ?_
            refine kj_goto (pc := 100) 115 C dX9_loop_100 (by decide) ?_
            cases hf
            exact kj_iret (pc := 115) C dX9_loop_115
        · have hf := kb_ift hf c4
          refine kj_aload_n (pc := 80) C 0 dX9_loop_80 rfl rfl ?_
          refine kg_X9_died (pc := 81) C wf_X9_16 dX9_loop_81 ?_
          refine kj_iload_n (pc := 84) C 1 dX9_loop_84 rfl rfl ?_
          obtain ⟨g5, hf⟩ := kb_gd hf
          refine ka_X9_died (pc := 85) (v := (kb_a q1.1 2 x1.toNatClampNeg)) C g5 dX9_loop_85 rfl ?_
          refine kj_goto (pc := 86) 115 C dX9_loop_86 (by decide) ?_
          cases hf
          exact kj_iret (pc := 115) C dX9_loop_115
      · have hf := kb_ift hf c3
        refine kj_aload_n (pc := 66) C 0 dX9_loop_66 rfl rfl ?_
        refine kg_X9_born (pc := 67) C wf_X9_13 dX9_loop_67 ?_
        refine kj_iload_n (pc := 70) C 1 dX9_loop_70 rfl rfl ?_
        obtain ⟨g4, hf⟩ := kb_gd hf
        refine ka_X9_born (pc := 71) (v := (kb_a q1.1 1 x1.toNatClampNeg)) C g4 dX9_loop_71 rfl ?_
        refine kj_goto (pc := 72) 115 C dX9_loop_72 (by decide) ?_
        cases hf
        exact kj_iret (pc := 115) C dX9_loop_115
    · have hf := kb_ift hf c2
      refine kj_iconst (pc := 60) (v := (0 : Int32)) C dX9_loop_60 (by decide) ?_
      cases hf
      exact kj_iret (pc := 61) C dX9_loop_61
  have hp53 : ∀ (x1 : Int32) (x2 : Int32) (μ : kb_S), fp_X9_loop_53   x1 x2 μ = some (μ9, r) → kb_J p l e ({ frames := 1, cells := 0, slots := 0, locals := 22 } : Room) s m args below meth c 3 V A 0 0 (MQ below (kb_post V A (some (.int r)) (kb_WM V d μ9 ex)) args s 0 0 A) 53 [(0, .ref (d 0)), (1, .int x1), (2, .int x2)] [.ref (d 0)] (kb_WM V d μ ex) := by
    intro x1 x2 μ hf
    rw [fp_X9_loop_53_e] at hf
    refine kj_iconst (pc := 53) (v := (0 : Int32)) C dX9_loop_53 (by decide) ?_
    exact hp54 x1 x2 (0 : Int32) μ hf
  have hp42 : ∀ (x1 : Int32) (x2 : Int32) (y0 : Int32) (y1 : Int32) (y2 : Int32) (y3 : Int32) (μ : kb_S), fp_X9_loop_42   x1 x2 y0 y1 y2 y3 μ = some (μ9, r) → kb_J p l e ({ frames := 1, cells := 0, slots := 0, locals := 22 } : Room) s m args below meth c 3 V A 0 0 (MQ below (kb_post V A (some (.int r)) (kb_WM V d μ9 ex)) args s 0 0 A) 42 [(0, .ref (d 0)), (1, .int x1), (2, .int x2)] [.int y0, .int y1, .int y2, .int y3, .ref (d 0)] (kb_WM V d μ ex) := by
    intro x1 x2 y0 y1 y2 y3 μ hf
    rw [fp_X9_loop_42_e] at hf
    refine kj_iadd (pc := 42) C dX9_loop_42 ?_
    refine kj_callS0 (pc := 43) (as := [.int y3, .int y2, .int (y1 + y0)]) (rest := [.ref (d 0)]) C (ct_X9_in l V A y3 y2 (y1 + y0) (kb_WM V d μ ex) rfl) wd_X9_in wk_X9_96 wi_X9_in wz_X9 rfl rfl hd_X9_in ⟨by decide, by decide⟩ rfl (Nat.le_of_ble_eq_true rfl) (by decide) dX9_loop_43 ?_
    refine kj_if_eq (pc := 46) 53 C dX9_loop_46 (by decide) (fun c1 => ?_) (fun c1 => ?_)
    · have hf := kb_ift hf c1
      exact hp53 x1 x2 μ hf
    · have hf := kb_ife hf c1
      refine kj_iconst (pc := 49) (v := (1 : Int32)) C dX9_loop_49 (by decide) ?_
      refine kj_goto (pc := 50) 54 C dX9_loop_50 (by decide) ?_
      exact hp54 x1 x2 (1 : Int32) μ hf
  refine kj_sub [0, 1, 2] (L2 := [(0, .ref (d 0)), (1, .int x1), (2, .int x2)]) rfl ?_
  rw [fe_X9_loop] at hf
  refine kj_aload_n (pc := 0) C 0 dX9_loop_0 rfl rfl ?_
  refine kj_iload_n (pc := 1) C 1 dX9_loop_1 rfl rfl ?_
  refine kj_iconst (pc := 2) (v := (0 : Int32)) C dX9_loop_2 (by decide) ?_
  refine kj_aload_n (pc := 3) C 0 dX9_loop_3 rfl rfl ?_
  refine kg_X9_loops (pc := 4) (v := (kb_g μ 3)) C wf_X9_83 dX9_loop_4 rfl ?_
  refine kj_iconst (pc := 7) (v := (1 : Int32)) C dX9_loop_7 (by decide) ?_
  refine kj_isub (pc := 8) C dX9_loop_8 ?_
  refine kj_callS0 (pc := 9) (as := [.int x1, .int (0 : Int32), .int ((kb_g μ 3) - (1 : Int32))]) (rest := [.ref (d 0)]) C (ct_X9_in l V A x1 (0 : Int32) ((kb_g μ 3) - (1 : Int32)) (kb_WM V d μ ex) rfl) wd_X9_in wk_X9_96 wi_X9_in wz_X9 rfl rfl hd_X9_in ⟨by decide, by decide⟩ rfl (Nat.le_of_ble_eq_true rfl) (by decide) dX9_loop_9 ?_
  refine kj_if_eq (pc := 12) 53 C dX9_loop_12 (by decide) (fun c1 => ?_) (fun c1 => ?_)
  · have hf := kb_ift hf c1
    exact hp53 x1 x2 μ hf
  · have hf := kb_ife hf c1
    refine kj_iload_n (pc := 15) C 2 dX9_loop_15 rfl rfl ?_
    refine kj_iconst (pc := 16) (v := (0 : Int32)) C dX9_loop_16 (by decide) ?_
    refine kj_iconst (pc := 17) (v := (2 : Int32)) C dX9_loop_17 (by decide) ?_
    refine kj_iload_n (pc := 18) C 1 dX9_loop_18 rfl rfl ?_
    refine kj_iconst (pc := 19) (v := (0 : Int32)) C dX9_loop_19 (by decide) ?_
    refine kj_aload_n (pc := 20) C 0 dX9_loop_20 rfl rfl ?_
    refine kg_X9_loops (pc := 21) (v := (kb_g μ 3)) C wf_X9_83 dX9_loop_21 rfl ?_
    refine kj_iconst (pc := 24) (v := (1 : Int32)) C dX9_loop_24 (by decide) ?_
    refine kj_isub (pc := 25) C dX9_loop_25 ?_
    refine kj_callS0 (pc := 26) (as := [.int x1, .int (0 : Int32), .int ((kb_g μ 3) - (1 : Int32))]) (rest := [.int (2 : Int32), .int (0 : Int32), .int x2, .ref (d 0)]) C (ct_X9_in l V A x1 (0 : Int32) ((kb_g μ 3) - (1 : Int32)) (kb_WM V d μ ex) rfl) wd_X9_in wk_X9_96 wi_X9_in wz_X9 rfl rfl hd_X9_in ⟨by decide, by decide⟩ rfl (Nat.le_of_ble_eq_true rfl) (by decide) dX9_loop_26 ?_
    refine kj_if_eq (pc := 29) 41 C dX9_loop_29 (by decide) (fun c2 => ?_) (fun c2 => ?_)
    · have hf := kb_ift hf c2
      refine kj_iconst (pc := 41) (v := (0 : Int32)) C dX9_loop_41 (by decide) ?_
      exact hp42 x1 x2 (0 : Int32) (2 : Int32) (0 : Int32) x2 μ hf
    · have hf := kb_ife hf c2
      refine kj_aload_n (pc := 32) C 0 dX9_loop_32 rfl rfl ?_
      refine kg_X9_parents (pc := 33) C wf_X9_23 dX9_loop_33 ?_
      refine kj_iload_n (pc := 36) C 1 dX9_loop_36 rfl rfl ?_
      obtain ⟨g3, hf⟩ := kb_gd hf
      refine ka_X9_parents (pc := 37) (v := (kb_a μ 4 x1.toNatClampNeg)) C g3 dX9_loop_37 rfl ?_
      refine kj_goto (pc := 38) 42 C dX9_loop_38 (by decide) ?_
      exact hp42 x1 x2 (kb_a μ 4 x1.toNatClampNeg) (2 : Int32) (0 : Int32) x2 μ hf
def fp_X9_chart_114   (x3 : Int32) (x4 : Int32) (μ : kb_S) : Option (kb_S × Int32) :=
  if x3 = 0 then
    some (μ, x4)
  else
    if x4 = (1 : Int32) then
      some (μ, (0 : Int32))
    else
      some (μ, x4)
theorem fp_X9_chart_114_e   (x3 : Int32) (x4 : Int32) (μ : kb_S) : fp_X9_chart_114  x3 x4 μ =
  if x3 = 0 then
    some (μ, x4)
  else
    if x4 = (1 : Int32) then
      some (μ, (0 : Int32))
    else
      some (μ, x4) := rfl
def fp_X9_chart_97   (x3 : Int32) (y0 : Int32) (y1 : Int32) (μ : kb_S) : Option (kb_S × Int32) :=
  if kb_in (y1 + y0) 2480 = true then
    if x3 = 0 then
      fp_X9_chart_114   x3 (kb_a μ 8 (y1 + y0).toNatClampNeg) μ
    else
      if (kb_a μ 8 (y1 + y0).toNatClampNeg) = 0 then
        some (μ, (1 : Int32))
      else
        fp_X9_chart_114   x3 (kb_a μ 8 (y1 + y0).toNatClampNeg) μ
  else none
theorem fp_X9_chart_97_e   (x3 : Int32) (y0 : Int32) (y1 : Int32) (μ : kb_S) : fp_X9_chart_97  x3 y0 y1 μ =
  if kb_in (y1 + y0) 2480 = true then
    if x3 = 0 then
      fp_X9_chart_114   x3 (kb_a μ 8 (y1 + y0).toNatClampNeg) μ
    else
      if (kb_a μ 8 (y1 + y0).toNatClampNeg) = 0 then
        some (μ, (1 : Int32))
      else
        fp_X9_chart_114   x3 (kb_a μ 8 (y1 + y0).toNatClampNeg) μ
  else none := rfl
def fp_X9_chart_70   (x1 : Int32) (x2 : Int32) (y0 : Int32) (μ : kb_S) : Option (kb_S × Int32) :=
  if y0 = 0 then
    fp_X9_chart_97   y0 x2 (x1 * (80 : Int32)) μ
  else
    if kb_in x1 31 = true then
      fp_X9_chart_97   y0 (((kb_a μ 7 x1.toNatClampNeg) - (1 : Int32)) - x2) (x1 * (80 : Int32)) μ
    else none
theorem fp_X9_chart_70_e   (x1 : Int32) (x2 : Int32) (y0 : Int32) (μ : kb_S) : fp_X9_chart_70  x1 x2 y0 μ =
  if y0 = 0 then
    fp_X9_chart_97   y0 x2 (x1 * (80 : Int32)) μ
  else
    if kb_in x1 31 = true then
      fp_X9_chart_97   y0 (((kb_a μ 7 x1.toNatClampNeg) - (1 : Int32)) - x2) (x1 * (80 : Int32)) μ
    else none := rfl
def fp_X9_chart_69   (x1 : Int32) (x2 : Int32) (μ : kb_S) : Option (kb_S × Int32) :=
  fp_X9_chart_70   x1 x2 (0 : Int32) μ
theorem fp_X9_chart_69_e   (x1 : Int32) (x2 : Int32) (μ : kb_S) : fp_X9_chart_69  x1 x2 μ =
  fp_X9_chart_70   x1 x2 (0 : Int32) μ := rfl
def fp_X9_chart_40   (x1 : Int32) (x2 : Int32) (y0 : Int32) (μ : kb_S) : Option (kb_S × Int32) :=
  if y0 ≤ 0 then
    if (kb_g μ 2) = 0 then
      if (x1 - x1 / (2 : Int32) * (2 : Int32)) = 0 then
        fp_X9_chart_70   x1 x2 (1 : Int32) (kb_p μ 0 y0)
      else
        fp_X9_chart_69   x1 x2 (kb_p μ 0 y0)
    else
      fp_X9_chart_69   x1 x2 (kb_p μ 0 y0)
  else
    some ((kb_p μ 0 y0), (0 : Int32))
theorem fp_X9_chart_40_e   (x1 : Int32) (x2 : Int32) (y0 : Int32) (μ : kb_S) : fp_X9_chart_40  x1 x2 y0 μ =
  if y0 ≤ 0 then
    if (kb_g μ 2) = 0 then
      if (x1 - x1 / (2 : Int32) * (2 : Int32)) = 0 then
        fp_X9_chart_70   x1 x2 (1 : Int32) (kb_p μ 0 y0)
      else
        fp_X9_chart_69   x1 x2 (kb_p μ 0 y0)
    else
      fp_X9_chart_69   x1 x2 (kb_p μ 0 y0)
  else
    some ((kb_p μ 0 y0), (0 : Int32)) := rfl
def fn_X9_chart  (x1 : Int32) (x2 : Int32) (μ : kb_S) : Option (kb_S × Int32) :=
  (fn_X9_says (fn_X9_in x1 (1 : Int32) (kb_g μ 4)) μ).bind fun q1 =>
  if q1.2 = 0 then
    some (q1.1, (0 : Int32))
  else
    if kb_in x1 31 = true then
      if (fn_X9_in x2 (0 : Int32) ((kb_a q1.1 7 x1.toNatClampNeg) - (1 : Int32))) = 0 then
        fp_X9_chart_40   x1 x2 (2 : Int32) q1.1
      else
        fp_X9_chart_40   x1 x2 (0 : Int32) q1.1
    else none
theorem fe_X9_chart  (x1 : Int32) (x2 : Int32) (μ : kb_S) : fn_X9_chart  x1 x2 μ =
  (fn_X9_says (fn_X9_in x1 (1 : Int32) (kb_g μ 4)) μ).bind fun q1 =>
  if q1.2 = 0 then
    some (q1.1, (0 : Int32))
  else
    if kb_in x1 31 = true then
      if (fn_X9_in x2 (0 : Int32) ((kb_a q1.1 7 x1.toNatClampNeg) - (1 : Int32))) = 0 then
        fp_X9_chart_40   x1 x2 (2 : Int32) q1.1
      else
        fp_X9_chart_40   x1 x2 (0 : Int32) q1.1
    else none := rfl
theorem hd_X9_chart : yX9_chart.cls = RX9 ∧ yX9_chart.cls ≠ "java/lang/invoke/MethodHandle" ∧ yX9_chart.cls ≠ "java/lang/invoke/VarHandle" ∧ (parseMethodDescriptor yX9_chart.desc).map (fun d => d.parameters.length) = some 2 := by decide +kernel
set_option maxRecDepth 100000 in
set_option maxHeartbeats 4000000 in
theorem ct_X9_chart (l : Launch) (V : kb_V) (A : Nat → Prop)  (x1 : Int32) (x2 : Int32) (d : Nat → Nat) (μ : kb_S) (ex : va_W) {μ9 : kb_S} {r : Int32} (hf : fn_X9_chart  x1 x2 μ = some (μ9, r)) : kb_T l yX9_chart cX9_chart 5 (some .int) ({ frames := 1, cells := 0, slots := 0, locals := 22 } : Room) V A [.ref (d 0), .int x1, .int x2] (kb_WM V d μ ex) (some (.int r)) (kb_WM V d μ9 ex) 0 0 := by
  refine kb_start (cc := cX9_chart) (nL := 5) (ret := (some .int)) (own := RX9) (by decide) rfl (Nat.le_of_ble_eq_true rfl) ?_
  intro p e s m args below meth c C
  have hp114 : ∀ (x3 : Int32) (x4 : Int32) (μ : kb_S), fp_X9_chart_114   x3 x4 μ = some (μ9, r) → kb_J p l e ({ frames := 1, cells := 0, slots := 0, locals := 22 } : Room) s m args below meth c 5 V A 0 0 (MQ below (kb_post V A (some (.int r)) (kb_WM V d μ9 ex)) args s 0 0 A) 114 [(3, .int x3), (4, .int x4)] [] (kb_WM V d μ ex) := by
    intro x3 x4 μ hf
    rw [fp_X9_chart_114_e] at hf
    refine kj_iload_n (pc := 114) C 0 dX9_chart_114 rfl rfl ?_
    refine kj_if_eq (pc := 115) 128 C dX9_chart_115 (by decide) (fun c1 => ?_) (fun c1 => ?_)
    · have hf := kb_ift hf c1
      refine kj_iload (pc := 128) C 1 dX9_chart_128 rfl ?_
      cases hf
      exact kj_iret (pc := 130) C dX9_chart_130
    · have hf := kb_ife hf c1
      refine kj_iload (pc := 118) C 1 dX9_chart_118 rfl ?_
      refine kj_iconst (pc := 120) (v := (1 : Int32)) C dX9_chart_120 (by decide) ?_
      refine kj_icmp_ne (pc := 121) 128 C dX9_chart_121 (by decide) (fun c2 => ?_) (fun c2 => ?_)
      · have hf := kb_ife hf c2
        refine kj_iload (pc := 128) C 1 dX9_chart_128 rfl ?_
        cases hf
        exact kj_iret (pc := 130) C dX9_chart_130
      · have hf := kb_ift hf c2
        refine kj_iconst (pc := 124) (v := (0 : Int32)) C dX9_chart_124 (by decide) ?_
        refine kj_goto (pc := 125) 130 C dX9_chart_125 (by decide) ?_
        cases hf
        exact kj_iret (pc := 130) C dX9_chart_130
  have hp97 : ∀ (x3 : Int32) (y0 : Int32) (y1 : Int32) (μ : kb_S), fp_X9_chart_97   x3 y0 y1 μ = some (μ9, r) → kb_J p l e ({ frames := 1, cells := 0, slots := 0, locals := 22 } : Room) s m args below meth c 5 V A 0 0 (MQ below (kb_post V A (some (.int r)) (kb_WM V d μ9 ex)) args s 0 0 A) 97 [(3, .int x3)] [.int y0, .int y1, .ref (d 9)] (kb_WM V d μ ex) := by
    intro x3 y0 y1 μ hf
    rw [fp_X9_chart_97_e] at hf
    refine kj_iadd (pc := 97) C dX9_chart_97 ?_
    obtain ⟨g1, hf⟩ := kb_gd hf
    refine ka_X9_stitch (pc := 98) (v := (kb_a μ 8 (y1 + y0).toNatClampNeg)) C g1 dX9_chart_98 rfl ?_
    refine kj_istore (pc := 99) C [1, 0] (L2 := [(3, .int x3), (4, .int (kb_a μ 8 (y1 + y0).toNatClampNeg))]) dX9_chart_99 (by decide) rfl ?_
    refine kj_iload_n (pc := 101) C 0 dX9_chart_101 rfl rfl ?_
    refine kj_if_eq (pc := 102) 114 C dX9_chart_102 (by decide) (fun c2 => ?_) (fun c2 => ?_)
    · have hf := kb_ift hf c2
      exact hp114 x3 (kb_a μ 8 (y1 + y0).toNatClampNeg) μ hf
    · have hf := kb_ife hf c2
      refine kj_iload (pc := 105) C 1 dX9_chart_105 rfl ?_
      refine kj_if_ne (pc := 107) 114 C dX9_chart_107 (by decide) (fun c3 => ?_) (fun c3 => ?_)
      · have hf := kb_ife hf c3
        exact hp114 x3 (kb_a μ 8 (y1 + y0).toNatClampNeg) μ hf
      · have hf := kb_ift hf c3
        refine kj_iconst (pc := 110) (v := (1 : Int32)) C dX9_chart_110 (by decide) ?_
        refine kj_goto (pc := 111) 130 C dX9_chart_111 (by decide) ?_
        cases hf
        exact kj_iret (pc := 130) C dX9_chart_130
  have hp70 : ∀ (x1 : Int32) (x2 : Int32) (y0 : Int32) (μ : kb_S), fp_X9_chart_70   x1 x2 y0 μ = some (μ9, r) → kb_J p l e ({ frames := 1, cells := 0, slots := 0, locals := 22 } : Room) s m args below meth c 5 V A 0 0 (MQ below (kb_post V A (some (.int r)) (kb_WM V d μ9 ex)) args s 0 0 A) 70 [(0, .ref (d 0)), (1, .int x1), (2, .int x2)] [.int y0] (kb_WM V d μ ex) := by
    intro x1 x2 y0 μ hf
    rw [fp_X9_chart_70_e] at hf
    refine kj_istore_n (pc := 70) C [1, 2, 3, 0] (L2 := [(0, .ref (d 0)), (1, .int x1), (2, .int x2), (3, .int y0)]) dX9_chart_70 rfl (by decide) rfl ?_
    refine kj_aload_n (pc := 71) C 0 dX9_chart_71 rfl rfl ?_
    refine kg_X9_stitch (pc := 72) C wf_X9_35 dX9_chart_72 ?_
    refine kj_iload_n (pc := 75) C 1 dX9_chart_75 rfl rfl ?_
    refine kj_bipush (pc := 76) (v := (80 : Int32)) C dX9_chart_76 (by decide) ?_
    refine kj_imul (pc := 78) C dX9_chart_78 ?_
    refine kj_iload_n (pc := 79) C 3 dX9_chart_79 rfl rfl ?_
    refine kj_if_eq (pc := 80) 96 C dX9_chart_80 (by decide) (fun c1 => ?_) (fun c1 => ?_)
    · have hf := kb_ift hf c1
      refine kj_iload_n (pc := 96) C 2 dX9_chart_96 rfl rfl ?_
      refine kj_sub [3] (L2 := [(3, .int y0)]) rfl ?_
      exact hp97 y0 x2 (x1 * (80 : Int32)) μ hf
    · have hf := kb_ife hf c1
      refine kj_aload_n (pc := 83) C 0 dX9_chart_83 rfl rfl ?_
      refine kg_X9_many (pc := 84) C wf_X9_32 dX9_chart_84 ?_
      refine kj_iload_n (pc := 87) C 1 dX9_chart_87 rfl rfl ?_
      obtain ⟨g2, hf⟩ := kb_gd hf
      refine ka_X9_many (pc := 88) (v := (kb_a μ 7 x1.toNatClampNeg)) C g2 dX9_chart_88 rfl ?_
      refine kj_iconst (pc := 89) (v := (1 : Int32)) C dX9_chart_89 (by decide) ?_
      refine kj_isub (pc := 90) C dX9_chart_90 ?_
      refine kj_iload_n (pc := 91) C 2 dX9_chart_91 rfl rfl ?_
      refine kj_isub (pc := 92) C dX9_chart_92 ?_
      refine kj_goto (pc := 93) 97 C dX9_chart_93 (by decide) ?_
      refine kj_sub [3] (L2 := [(3, .int y0)]) rfl ?_
      exact hp97 y0 (((kb_a μ 7 x1.toNatClampNeg) - (1 : Int32)) - x2) (x1 * (80 : Int32)) μ hf
  have hp69 : ∀ (x1 : Int32) (x2 : Int32) (μ : kb_S), fp_X9_chart_69   x1 x2 μ = some (μ9, r) → kb_J p l e ({ frames := 1, cells := 0, slots := 0, locals := 22 } : Room) s m args below meth c 5 V A 0 0 (MQ below (kb_post V A (some (.int r)) (kb_WM V d μ9 ex)) args s 0 0 A) 69 [(0, .ref (d 0)), (1, .int x1), (2, .int x2)] [] (kb_WM V d μ ex) := by
    intro x1 x2 μ hf
    rw [fp_X9_chart_69_e] at hf
    refine kj_iconst (pc := 69) (v := (0 : Int32)) C dX9_chart_69 (by decide) ?_
    exact hp70 x1 x2 (0 : Int32) μ hf
  have hp40 : ∀ (x1 : Int32) (x2 : Int32) (y0 : Int32) (μ : kb_S), fp_X9_chart_40   x1 x2 y0 μ = some (μ9, r) → kb_J p l e ({ frames := 1, cells := 0, slots := 0, locals := 22 } : Room) s m args below meth c 5 V A 0 0 (MQ below (kb_post V A (some (.int r)) (kb_WM V d μ9 ex)) args s 0 0 A) 40 [(0, .ref (d 0)), (1, .int x1), (2, .int x2)] [.int y0, .ref (d 0)] (kb_WM V d μ ex) := by
    intro x1 x2 y0 μ hf
    rw [fp_X9_chart_40_e] at hf
    refine kp_X9_thrown (pc := 40) C wf_X9_75 dX9_chart_40 ?_
    refine kj_aload_n (pc := 43) C 0 dX9_chart_43 rfl rfl ?_
    refine kg_X9_thrown (pc := 44) (v := y0) C wf_X9_75 dX9_chart_44 rfl ?_
    refine kj_if_le (pc := 47) 52 C dX9_chart_47 (by decide) (fun c1 => ?_) (fun c1 => ?_)
    · have hf := kb_ift hf c1
      refine kj_aload_n (pc := 52) C 0 dX9_chart_52 rfl rfl ?_
      refine kg_X9_round (pc := 53) (v := (kb_g μ 2)) C wf_X9_79 dX9_chart_53 rfl ?_
      refine kj_if_ne (pc := 56) 69 C dX9_chart_56 (by decide) (fun c2 => ?_) (fun c2 => ?_)
      · have hf := kb_ife hf c2
        exact hp69 x1 x2 (kb_p μ 0 y0) hf
      · have hf := kb_ift hf c2
        refine kj_iload_n (pc := 59) C 1 dX9_chart_59 rfl rfl ?_
        refine kj_iconst (pc := 60) (v := (2 : Int32)) C dX9_chart_60 (by decide) ?_
        refine kj_irem (pc := 61) C dX9_chart_61 (by decide) ?_
        refine kj_if_ne (pc := 62) 69 C dX9_chart_62 (by decide) (fun c3 => ?_) (fun c3 => ?_)
        · have hf := kb_ife hf c3
          exact hp69 x1 x2 (kb_p μ 0 y0) hf
        · have hf := kb_ift hf c3
          refine kj_iconst (pc := 65) (v := (1 : Int32)) C dX9_chart_65 (by decide) ?_
          refine kj_goto (pc := 66) 70 C dX9_chart_66 (by decide) ?_
          exact hp70 x1 x2 (1 : Int32) (kb_p μ 0 y0) hf
    · have hf := kb_ife hf c1
      refine kj_iconst (pc := 50) (v := (0 : Int32)) C dX9_chart_50 (by decide) ?_
      cases hf
      exact kj_iret (pc := 51) C dX9_chart_51
  refine kj_sub [0, 1, 2] (L2 := [(0, .ref (d 0)), (1, .int x1), (2, .int x2)]) rfl ?_
  rw [fe_X9_chart] at hf
  refine kj_aload_n (pc := 0) C 0 dX9_chart_0 rfl rfl ?_
  refine kj_iload_n (pc := 1) C 1 dX9_chart_1 rfl rfl ?_
  refine kj_iconst (pc := 2) (v := (1 : Int32)) C dX9_chart_2 (by decide) ?_
  refine kj_aload_n (pc := 3) C 0 dX9_chart_3 rfl rfl ?_
  refine kg_X9_rows (pc := 4) (v := (kb_g μ 4)) C wf_X9_86 dX9_chart_4 rfl ?_
  refine kj_callS0 (pc := 7) (as := [.int x1, .int (1 : Int32), .int (kb_g μ 4)]) (rest := [.ref (d 0)]) C (ct_X9_in l V A x1 (1 : Int32) (kb_g μ 4) (kb_WM V d μ ex) rfl) wd_X9_in wk_X9_96 wi_X9_in wz_X9 rfl rfl hd_X9_in ⟨by decide, by decide⟩ rfl (Nat.le_of_ble_eq_true rfl) (by decide) dX9_chart_7 ?_
  obtain ⟨q1, hq1, hf⟩ := kb_bd hf
  refine kj_callV0 (pc := 10) (as := [.int (fn_X9_in x1 (1 : Int32) (kb_g μ 4))]) (rest := []) (b := (d 0)) C (ct_X9_says l V A (fn_X9_in x1 (1 : Int32) (kb_g μ 4)) d μ ex hq1) wd_X9_says wk_X9_100 wi_X9_says ws_X9_says wz_X9 rfl rfl hd_X9_says ⟨by decide, by decide⟩ 0 rfl rfl rfl rfl (Nat.le_of_ble_eq_true rfl) (by decide) dX9_chart_10 ?_
  refine kj_if_ne (pc := 13) 18 C dX9_chart_13 (by decide) (fun c2 => ?_) (fun c2 => ?_)
  · have hf := kb_ife hf c2
    refine kj_aload_n (pc := 18) C 0 dX9_chart_18 rfl rfl ?_
    refine kj_iload_n (pc := 19) C 2 dX9_chart_19 rfl rfl ?_
    refine kj_iconst (pc := 20) (v := (0 : Int32)) C dX9_chart_20 (by decide) ?_
    refine kj_aload_n (pc := 21) C 0 dX9_chart_21 rfl rfl ?_
    refine kg_X9_many (pc := 22) C wf_X9_32 dX9_chart_22 ?_
    refine kj_iload_n (pc := 25) C 1 dX9_chart_25 rfl rfl ?_
    obtain ⟨g3, hf⟩ := kb_gd hf
    refine ka_X9_many (pc := 26) (v := (kb_a q1.1 7 x1.toNatClampNeg)) C g3 dX9_chart_26 rfl ?_
    refine kj_iconst (pc := 27) (v := (1 : Int32)) C dX9_chart_27 (by decide) ?_
    refine kj_isub (pc := 28) C dX9_chart_28 ?_
    refine kj_callS0 (pc := 29) (as := [.int x2, .int (0 : Int32), .int ((kb_a q1.1 7 x1.toNatClampNeg) - (1 : Int32))]) (rest := [.ref (d 0)]) C (ct_X9_in l V A x2 (0 : Int32) ((kb_a q1.1 7 x1.toNatClampNeg) - (1 : Int32)) (kb_WM V d q1.1 ex) rfl) wd_X9_in wk_X9_96 wi_X9_in wz_X9 rfl rfl hd_X9_in ⟨by decide, by decide⟩ rfl (Nat.le_of_ble_eq_true rfl) (by decide) dX9_chart_29 ?_
    refine kj_if_eq (pc := 32) 39 C dX9_chart_32 (by decide) (fun c4 => ?_) (fun c4 => ?_)
    · have hf := kb_ift hf c4
      refine kj_iconst (pc := 39) (v := (2 : Int32)) C dX9_chart_39 (by decide) ?_
      exact hp40 x1 x2 (2 : Int32) q1.1 hf
    · have hf := kb_ife hf c4
      refine kj_iconst (pc := 35) (v := (0 : Int32)) C dX9_chart_35 (by decide) ?_
      refine kj_goto (pc := 36) 40 C dX9_chart_36 (by decide) ?_
      exact hp40 x1 x2 (0 : Int32) q1.1 hf
  · have hf := kb_ift hf c2
    refine kj_iconst (pc := 16) (v := (0 : Int32)) C dX9_chart_16 (by decide) ?_
    cases hf
    exact kj_iret (pc := 17) C dX9_chart_17
def fp_X9_row_142  (kc40 : Int32 → Int32 → Int32 → Int32 → kb_S → Option (kb_S × Int32)) (x1 : Int32) (x2 : Int32) (x4 : Int32) (y0 : Int32) (y1 : Int32) (μ : kb_S) : Option (kb_S × Int32) :=
  kc40 x1 x2 (y1 + y0) (x4 + (1 : Int32)) μ
theorem fp_X9_row_142_e  (kc40 : Int32 → Int32 → Int32 → Int32 → kb_S → Option (kb_S × Int32)) (x1 : Int32) (x2 : Int32) (x4 : Int32) (y0 : Int32) (y1 : Int32) (μ : kb_S) : fp_X9_row_142 kc40 x1 x2 x4 y0 y1 μ =
  kc40 x1 x2 (y1 + y0) (x4 + (1 : Int32)) μ := rfl
def fp_X9_row_40   : Nat → Int32 → Int32 → Int32 → Int32 → kb_S → Option (kb_S × Int32)
  | 0 => fun _ _ _ _ _ => none
  | nn + 1 => fun x1 x2 x3 x4 μ => 
  if kb_in x1 31 = true then
    if (kb_a μ 7 x1.toNatClampNeg) ≤ x4 then
      some (μ, x3)
    else
      if kb_in ((x1 * (80 : Int32)) + x4) 2480 = true then
        if x2 = 0 then
          fp_X9_row_142  (fp_X9_row_40  nn) x1 x2 x4 (1 : Int32) x3 μ
        else
          if x2 = (1 : Int32) then
            if (kb_a μ 8 ((x1 * (80 : Int32)) + x4).toNatClampNeg) < (100 : Int32) then
              fp_X9_row_142  (fp_X9_row_40  nn) x1 x2 x4 (0 : Int32) x3 μ
            else
              fp_X9_row_142  (fp_X9_row_40  nn) x1 x2 x4 ((fn_X9_a (kb_a μ 8 ((x1 * (80 : Int32)) + x4).toNatClampNeg)) * (fn_X9_b (kb_a μ 8 ((x1 * (80 : Int32)) + x4).toNatClampNeg))) x3 μ
          else
            if x2 = (2 : Int32) then
              fp_X9_row_142  (fp_X9_row_40  nn) x1 x2 x4 (fn_X9_takes (kb_a μ 8 ((x1 * (80 : Int32)) + x4).toNatClampNeg)) x3 μ
            else
              if x2 = (3 : Int32) then
                fp_X9_row_142  (fp_X9_row_40  nn) x1 x2 x4 (fn_X9_makes (kb_a μ 8 ((x1 * (80 : Int32)) + x4).toNatClampNeg)) x3 μ
              else
                if (kb_a μ 8 ((x1 * (80 : Int32)) + x4).toNatClampNeg) = (8 : Int32) then
                  fp_X9_row_142  (fp_X9_row_40  nn) x1 x2 x4 (1 : Int32) x3 μ
                else
                  fp_X9_row_142  (fp_X9_row_40  nn) x1 x2 x4 (0 : Int32) x3 μ
      else none
  else none
theorem fp_X9_row_40_s   (nn : Nat) (x1 : Int32) (x2 : Int32) (x3 : Int32) (x4 : Int32) (μ : kb_S) : fp_X9_row_40  (nn + 1) x1 x2 x3 x4 μ =
  if kb_in x1 31 = true then
    if (kb_a μ 7 x1.toNatClampNeg) ≤ x4 then
      some (μ, x3)
    else
      if kb_in ((x1 * (80 : Int32)) + x4) 2480 = true then
        if x2 = 0 then
          fp_X9_row_142  (fp_X9_row_40  nn) x1 x2 x4 (1 : Int32) x3 μ
        else
          if x2 = (1 : Int32) then
            if (kb_a μ 8 ((x1 * (80 : Int32)) + x4).toNatClampNeg) < (100 : Int32) then
              fp_X9_row_142  (fp_X9_row_40  nn) x1 x2 x4 (0 : Int32) x3 μ
            else
              fp_X9_row_142  (fp_X9_row_40  nn) x1 x2 x4 ((fn_X9_a (kb_a μ 8 ((x1 * (80 : Int32)) + x4).toNatClampNeg)) * (fn_X9_b (kb_a μ 8 ((x1 * (80 : Int32)) + x4).toNatClampNeg))) x3 μ
          else
            if x2 = (2 : Int32) then
              fp_X9_row_142  (fp_X9_row_40  nn) x1 x2 x4 (fn_X9_takes (kb_a μ 8 ((x1 * (80 : Int32)) + x4).toNatClampNeg)) x3 μ
            else
              if x2 = (3 : Int32) then
                fp_X9_row_142  (fp_X9_row_40  nn) x1 x2 x4 (fn_X9_makes (kb_a μ 8 ((x1 * (80 : Int32)) + x4).toNatClampNeg)) x3 μ
              else
                if (kb_a μ 8 ((x1 * (80 : Int32)) + x4).toNatClampNeg) = (8 : Int32) then
                  fp_X9_row_142  (fp_X9_row_40  nn) x1 x2 x4 (1 : Int32) x3 μ
                else
                  fp_X9_row_142  (fp_X9_row_40  nn) x1 x2 x4 (0 : Int32) x3 μ
      else none
  else none := rfl
def fp_X9_row_27   (x1 : Int32) (x2 : Int32) (y0 : Int32) (μ : kb_S) : Option (kb_S × Int32) :=
  (fn_X9_says y0 μ).bind fun q1 =>
  if q1.2 = 0 then
    some (q1.1, (0 : Int32))
  else
    fp_X9_row_40   kb_FU x1 x2 (0 : Int32) (0 : Int32) q1.1
theorem fp_X9_row_27_e   (x1 : Int32) (x2 : Int32) (y0 : Int32) (μ : kb_S) : fp_X9_row_27  x1 x2 y0 μ =
  (fn_X9_says y0 μ).bind fun q1 =>
  if q1.2 = 0 then
    some (q1.1, (0 : Int32))
  else
    fp_X9_row_40   kb_FU x1 x2 (0 : Int32) (0 : Int32) q1.1 := rfl
def fp_X9_row_26   (x1 : Int32) (x2 : Int32) (μ : kb_S) : Option (kb_S × Int32) :=
  fp_X9_row_27   x1 x2 (0 : Int32) μ
theorem fp_X9_row_26_e   (x1 : Int32) (x2 : Int32) (μ : kb_S) : fp_X9_row_26  x1 x2 μ =
  fp_X9_row_27   x1 x2 (0 : Int32) μ := rfl
def fn_X9_row  (x1 : Int32) (x2 : Int32) (μ : kb_S) : Option (kb_S × Int32) :=
  if (fn_X9_in x1 (1 : Int32) (kb_g μ 4)) = 0 then
    fp_X9_row_26   x1 x2 μ
  else
    if (fn_X9_in x2 (0 : Int32) (4 : Int32)) = 0 then
      fp_X9_row_26   x1 x2 μ
    else
      fp_X9_row_27   x1 x2 (1 : Int32) μ
theorem fe_X9_row  (x1 : Int32) (x2 : Int32) (μ : kb_S) : fn_X9_row  x1 x2 μ =
  if (fn_X9_in x1 (1 : Int32) (kb_g μ 4)) = 0 then
    fp_X9_row_26   x1 x2 μ
  else
    if (fn_X9_in x2 (0 : Int32) (4 : Int32)) = 0 then
      fp_X9_row_26   x1 x2 μ
    else
      fp_X9_row_27   x1 x2 (1 : Int32) μ := rfl
theorem hd_X9_row : yX9_row.cls = RX9 ∧ yX9_row.cls ≠ "java/lang/invoke/MethodHandle" ∧ yX9_row.cls ≠ "java/lang/invoke/VarHandle" ∧ (parseMethodDescriptor yX9_row.desc).map (fun d => d.parameters.length) = some 2 := by decide +kernel
set_option maxRecDepth 100000 in
set_option maxHeartbeats 4000000 in
theorem ct_X9_row (l : Launch) (V : kb_V) (A : Nat → Prop)  (x1 : Int32) (x2 : Int32) (d : Nat → Nat) (μ : kb_S) (ex : va_W) {μ9 : kb_S} {r : Int32} (hf : fn_X9_row  x1 x2 μ = some (μ9, r)) : kb_T l yX9_row cX9_row 6 (some .int) ({ frames := 2, cells := 0, slots := 0, locals := 40 } : Room) V A [.ref (d 0), .int x1, .int x2] (kb_WM V d μ ex) (some (.int r)) (kb_WM V d μ9 ex) 0 0 := by
  refine kb_start (cc := cX9_row) (nL := 6) (ret := (some .int)) (own := RX9) (by decide) rfl (Nat.le_of_ble_eq_true rfl) ?_
  intro p e s m args below meth c C
  have hp40 : ∀ (nn : Nat) (x1 : Int32) (x2 : Int32) (x3 : Int32) (x4 : Int32) (μ : kb_S), fp_X9_row_40   nn x1 x2 x3 x4 μ = some (μ9, r) → kb_J p l e ({ frames := 2, cells := 0, slots := 0, locals := 40 } : Room) s m args below meth c 6 V A 0 0 (MQ below (kb_post V A (some (.int r)) (kb_WM V d μ9 ex)) args s 0 0 A) 40 [(0, .ref (d 0)), (1, .int x1), (2, .int x2), (3, .int x3), (4, .int x4)] [] (kb_WM V d μ ex) := by
    intro nn40
    induction nn40 with
    | zero => intro x1 x2 x3 x4 μ hf; exact kb_no hf
    | succ nn40 ih40 =>
      have hp142 : ∀ (x1 : Int32) (x2 : Int32) (x4 : Int32) (y0 : Int32) (y1 : Int32) (μ : kb_S), fp_X9_row_142  (fp_X9_row_40   nn40) x1 x2 x4 y0 y1 μ = some (μ9, r) → kb_J p l e ({ frames := 2, cells := 0, slots := 0, locals := 40 } : Room) s m args below meth c 6 V A 0 0 (MQ below (kb_post V A (some (.int r)) (kb_WM V d μ9 ex)) args s 0 0 A) 142 [(0, .ref (d 0)), (1, .int x1), (2, .int x2), (4, .int x4)] [.int y0, .int y1] (kb_WM V d μ ex) := by
        intro x1 x2 x4 y0 y1 μ hf
        rw [fp_X9_row_142_e] at hf
        refine kj_iadd (pc := 142) C dX9_row_142 ?_
        refine kj_istore_n (pc := 143) C [1, 2, 3, 0, 4] (L2 := [(0, .ref (d 0)), (1, .int x1), (2, .int x2), (3, .int (y1 + y0)), (4, .int x4)]) dX9_row_143 rfl (by decide) rfl ?_
        refine kj_iinc (pc := 144) C 4 [1, 2, 3, 4, 0] (L2 := [(0, .ref (d 0)), (1, .int x1), (2, .int x2), (3, .int (y1 + y0)), (4, .int (x4 + (1 : Int32)))]) dX9_row_144 rfl rfl (by decide) rfl ?_
        refine kj_goto (pc := 147) 40 C dX9_row_147 (by decide) ?_
        exact ih40 x1 x2 (y1 + y0) (x4 + (1 : Int32)) μ hf
      intro x1 x2 x3 x4 μ hf
      rw [fp_X9_row_40_s] at hf
      refine kj_iload (pc := 40) C 4 dX9_row_40 rfl ?_
      refine kj_aload_n (pc := 42) C 0 dX9_row_42 rfl rfl ?_
      refine kg_X9_many (pc := 43) C wf_X9_32 dX9_row_43 ?_
      refine kj_iload_n (pc := 46) C 1 dX9_row_46 rfl rfl ?_
      obtain ⟨g1, hf⟩ := kb_gd hf
      refine ka_X9_many (pc := 47) (v := (kb_a μ 7 x1.toNatClampNeg)) C g1 dX9_row_47 rfl ?_
      refine kj_icmp_ge (pc := 48) 150 C dX9_row_48 (by decide) (fun c2 => ?_) (fun c2 => ?_)
      · have hf := kb_ift hf c2
        refine kj_iload_n (pc := 150) C 3 dX9_row_150 rfl rfl ?_
        cases hf
        exact kj_iret (pc := 151) C dX9_row_151
      · have hf := kb_ife hf c2
        refine kj_aload_n (pc := 51) C 0 dX9_row_51 rfl rfl ?_
        refine kg_X9_stitch (pc := 52) C wf_X9_35 dX9_row_52 ?_
        refine kj_iload_n (pc := 55) C 1 dX9_row_55 rfl rfl ?_
        refine kj_bipush (pc := 56) (v := (80 : Int32)) C dX9_row_56 (by decide) ?_
        refine kj_imul (pc := 58) C dX9_row_58 ?_
        refine kj_iload (pc := 59) C 4 dX9_row_59 rfl ?_
        refine kj_iadd (pc := 61) C dX9_row_61 ?_
        obtain ⟨g3, hf⟩ := kb_gd hf
        refine ka_X9_stitch (pc := 62) (v := (kb_a μ 8 ((x1 * (80 : Int32)) + x4).toNatClampNeg)) C g3 dX9_row_62 rfl ?_
        refine kj_istore (pc := 63) C [1, 2, 3, 4, 5, 0] (L2 := [(0, .ref (d 0)), (1, .int x1), (2, .int x2), (3, .int x3), (4, .int x4), (5, .int (kb_a μ 8 ((x1 * (80 : Int32)) + x4).toNatClampNeg))]) dX9_row_63 (by decide) rfl ?_
        refine kj_iload_n (pc := 65) C 3 dX9_row_65 rfl rfl ?_
        refine kj_iload_n (pc := 66) C 2 dX9_row_66 rfl rfl ?_
        refine kj_if_ne (pc := 67) 74 C dX9_row_67 (by decide) (fun c4 => ?_) (fun c4 => ?_)
        · have hf := kb_ife hf c4
          refine kj_iload_n (pc := 74) C 2 dX9_row_74 rfl rfl ?_
          refine kj_iconst (pc := 75) (v := (1 : Int32)) C dX9_row_75 (by decide) ?_
          refine kj_icmp_ne (pc := 76) 104 C dX9_row_76 (by decide) (fun c5 => ?_) (fun c5 => ?_)
          · have hf := kb_ife hf c5
            refine kj_iload_n (pc := 104) C 2 dX9_row_104 rfl rfl ?_
            refine kj_iconst (pc := 105) (v := (2 : Int32)) C dX9_row_105 (by decide) ?_
            refine kj_icmp_ne (pc := 106) 117 C dX9_row_106 (by decide) (fun c6 => ?_) (fun c6 => ?_)
            · have hf := kb_ife hf c6
              refine kj_iload_n (pc := 117) C 2 dX9_row_117 rfl rfl ?_
              refine kj_iconst (pc := 118) (v := (3 : Int32)) C dX9_row_118 (by decide) ?_
              refine kj_icmp_ne (pc := 119) 130 C dX9_row_119 (by decide) (fun c7 => ?_) (fun c7 => ?_)
              · have hf := kb_ife hf c7
                refine kj_iload (pc := 130) C 5 dX9_row_130 rfl ?_
                refine kj_bipush (pc := 132) (v := (8 : Int32)) C dX9_row_132 (by decide) ?_
                refine kj_icmp_ne (pc := 134) 141 C dX9_row_134 (by decide) (fun c8 => ?_) (fun c8 => ?_)
                · have hf := kb_ife hf c8
                  refine kj_iconst (pc := 141) (v := (0 : Int32)) C dX9_row_141 (by decide) ?_
                  refine kj_sub [0, 1, 2, 4] (L2 := [(0, .ref (d 0)), (1, .int x1), (2, .int x2), (4, .int x4)]) rfl ?_
                  exact hp142 x1 x2 x4 (0 : Int32) x3 μ hf
                · have hf := kb_ift hf c8
                  refine kj_iconst (pc := 137) (v := (1 : Int32)) C dX9_row_137 (by decide) ?_
                  refine kj_goto (pc := 138) 142 C dX9_row_138 (by decide) ?_
                  refine kj_sub [0, 1, 2, 4] (L2 := [(0, .ref (d 0)), (1, .int x1), (2, .int x2), (4, .int x4)]) rfl ?_
                  exact hp142 x1 x2 x4 (1 : Int32) x3 μ hf
              · have hf := kb_ift hf c7
                refine kj_iload (pc := 122) C 5 dX9_row_122 rfl ?_
                refine kj_callS0 (pc := 124) (as := [.int (kb_a μ 8 ((x1 * (80 : Int32)) + x4).toNatClampNeg)]) (rest := [.int x3]) C (ct_X9_makes l V A (kb_a μ 8 ((x1 * (80 : Int32)) + x4).toNatClampNeg) (kb_WM V d μ ex) rfl) wd_X9_makes wk_X9_195 wi_X9_makes wz_X9 rfl rfl hd_X9_makes ⟨by decide, by decide⟩ rfl (Nat.le_of_ble_eq_true rfl) (by decide) dX9_row_124 ?_
                refine kj_goto (pc := 127) 142 C dX9_row_127 (by decide) ?_
                refine kj_sub [0, 1, 2, 4] (L2 := [(0, .ref (d 0)), (1, .int x1), (2, .int x2), (4, .int x4)]) rfl ?_
                exact hp142 x1 x2 x4 (fn_X9_makes (kb_a μ 8 ((x1 * (80 : Int32)) + x4).toNatClampNeg)) x3 μ hf
            · have hf := kb_ift hf c6
              refine kj_iload (pc := 109) C 5 dX9_row_109 rfl ?_
              refine kj_callS0 (pc := 111) (as := [.int (kb_a μ 8 ((x1 * (80 : Int32)) + x4).toNatClampNeg)]) (rest := [.int x3]) C (ct_X9_takes l V A (kb_a μ 8 ((x1 * (80 : Int32)) + x4).toNatClampNeg) (kb_WM V d μ ex) rfl) wd_X9_takes wk_X9_182 wi_X9_takes wz_X9 rfl rfl hd_X9_takes ⟨by decide, by decide⟩ rfl (Nat.le_of_ble_eq_true rfl) (by decide) dX9_row_111 ?_
              refine kj_goto (pc := 114) 142 C dX9_row_114 (by decide) ?_
              refine kj_sub [0, 1, 2, 4] (L2 := [(0, .ref (d 0)), (1, .int x1), (2, .int x2), (4, .int x4)]) rfl ?_
              exact hp142 x1 x2 x4 (fn_X9_takes (kb_a μ 8 ((x1 * (80 : Int32)) + x4).toNatClampNeg)) x3 μ hf
          · have hf := kb_ift hf c5
            refine kj_iload (pc := 79) C 5 dX9_row_79 rfl ?_
            refine kj_bipush (pc := 81) (v := (100 : Int32)) C dX9_row_81 (by decide) ?_
            refine kj_icmp_lt (pc := 83) 100 C dX9_row_83 (by decide) (fun c6 => ?_) (fun c6 => ?_)
            · have hf := kb_ift hf c6
              refine kj_iconst (pc := 100) (v := (0 : Int32)) C dX9_row_100 (by decide) ?_
              refine kj_goto (pc := 101) 142 C dX9_row_101 (by decide) ?_
              refine kj_sub [0, 1, 2, 4] (L2 := [(0, .ref (d 0)), (1, .int x1), (2, .int x2), (4, .int x4)]) rfl ?_
              exact hp142 x1 x2 x4 (0 : Int32) x3 μ hf
            · have hf := kb_ife hf c6
              refine kj_iload (pc := 86) C 5 dX9_row_86 rfl ?_
              refine kj_callS0 (pc := 88) (as := [.int (kb_a μ 8 ((x1 * (80 : Int32)) + x4).toNatClampNeg)]) (rest := [.int x3]) C (ct_X9_a l V A (kb_a μ 8 ((x1 * (80 : Int32)) + x4).toNatClampNeg) (kb_WM V d μ ex) rfl) wd_X9_a wk_X9_176 wi_X9_a wz_X9 rfl rfl hd_X9_a ⟨by decide, by decide⟩ rfl (Nat.le_of_ble_eq_true rfl) (by decide) dX9_row_88 ?_
              refine kj_iload (pc := 91) C 5 dX9_row_91 rfl ?_
              refine kj_callS0 (pc := 93) (as := [.int (kb_a μ 8 ((x1 * (80 : Int32)) + x4).toNatClampNeg)]) (rest := [.int (fn_X9_a (kb_a μ 8 ((x1 * (80 : Int32)) + x4).toNatClampNeg)), .int x3]) C (ct_X9_b l V A (kb_a μ 8 ((x1 * (80 : Int32)) + x4).toNatClampNeg) (kb_WM V d μ ex) rfl) wd_X9_b wk_X9_179 wi_X9_b wz_X9 rfl rfl hd_X9_b ⟨by decide, by decide⟩ rfl (Nat.le_of_ble_eq_true rfl) (by decide) dX9_row_93 ?_
              refine kj_imul (pc := 96) C dX9_row_96 ?_
              refine kj_goto (pc := 97) 142 C dX9_row_97 (by decide) ?_
              refine kj_sub [0, 1, 2, 4] (L2 := [(0, .ref (d 0)), (1, .int x1), (2, .int x2), (4, .int x4)]) rfl ?_
              exact hp142 x1 x2 x4 ((fn_X9_a (kb_a μ 8 ((x1 * (80 : Int32)) + x4).toNatClampNeg)) * (fn_X9_b (kb_a μ 8 ((x1 * (80 : Int32)) + x4).toNatClampNeg))) x3 μ hf
        · have hf := kb_ift hf c4
          refine kj_iconst (pc := 70) (v := (1 : Int32)) C dX9_row_70 (by decide) ?_
          refine kj_goto (pc := 71) 142 C dX9_row_71 (by decide) ?_
          refine kj_sub [0, 1, 2, 4] (L2 := [(0, .ref (d 0)), (1, .int x1), (2, .int x2), (4, .int x4)]) rfl ?_
          exact hp142 x1 x2 x4 (1 : Int32) x3 μ hf
  have hp27 : ∀ (x1 : Int32) (x2 : Int32) (y0 : Int32) (μ : kb_S), fp_X9_row_27   x1 x2 y0 μ = some (μ9, r) → kb_J p l e ({ frames := 2, cells := 0, slots := 0, locals := 40 } : Room) s m args below meth c 6 V A 0 0 (MQ below (kb_post V A (some (.int r)) (kb_WM V d μ9 ex)) args s 0 0 A) 27 [(0, .ref (d 0)), (1, .int x1), (2, .int x2)] [.int y0, .ref (d 0)] (kb_WM V d μ ex) := by
    intro x1 x2 y0 μ hf
    rw [fp_X9_row_27_e] at hf
    obtain ⟨q1, hq1, hf⟩ := kb_bd hf
    refine kj_callV0 (pc := 27) (as := [.int y0]) (rest := []) (b := (d 0)) C (ct_X9_says l V A y0 d μ ex hq1) wd_X9_says wk_X9_100 wi_X9_says ws_X9_says wz_X9 rfl rfl hd_X9_says ⟨by decide, by decide⟩ 0 rfl rfl rfl rfl (Nat.le_of_ble_eq_true rfl) (by decide) dX9_row_27 ?_
    refine kj_if_ne (pc := 30) 35 C dX9_row_30 (by decide) (fun c2 => ?_) (fun c2 => ?_)
    · have hf := kb_ife hf c2
      refine kj_iconst (pc := 35) (v := (0 : Int32)) C dX9_row_35 (by decide) ?_
      refine kj_istore_n (pc := 36) C [1, 2, 3, 0] (L2 := [(0, .ref (d 0)), (1, .int x1), (2, .int x2), (3, .int (0 : Int32))]) dX9_row_36 rfl (by decide) rfl ?_
      refine kj_iconst (pc := 37) (v := (0 : Int32)) C dX9_row_37 (by decide) ?_
      refine kj_istore (pc := 38) C [1, 2, 3, 4, 0] (L2 := [(0, .ref (d 0)), (1, .int x1), (2, .int x2), (3, .int (0 : Int32)), (4, .int (0 : Int32))]) dX9_row_38 (by decide) rfl ?_
      exact hp40 kb_FU x1 x2 (0 : Int32) (0 : Int32) q1.1 hf
    · have hf := kb_ift hf c2
      refine kj_iconst (pc := 33) (v := (0 : Int32)) C dX9_row_33 (by decide) ?_
      cases hf
      exact kj_iret (pc := 34) C dX9_row_34
  have hp26 : ∀ (x1 : Int32) (x2 : Int32) (μ : kb_S), fp_X9_row_26   x1 x2 μ = some (μ9, r) → kb_J p l e ({ frames := 2, cells := 0, slots := 0, locals := 40 } : Room) s m args below meth c 6 V A 0 0 (MQ below (kb_post V A (some (.int r)) (kb_WM V d μ9 ex)) args s 0 0 A) 26 [(0, .ref (d 0)), (1, .int x1), (2, .int x2)] [.ref (d 0)] (kb_WM V d μ ex) := by
    intro x1 x2 μ hf
    rw [fp_X9_row_26_e] at hf
    refine kj_iconst (pc := 26) (v := (0 : Int32)) C dX9_row_26 (by decide) ?_
    exact hp27 x1 x2 (0 : Int32) μ hf
  refine kj_sub [0, 1, 2] (L2 := [(0, .ref (d 0)), (1, .int x1), (2, .int x2)]) rfl ?_
  rw [fe_X9_row] at hf
  refine kj_aload_n (pc := 0) C 0 dX9_row_0 rfl rfl ?_
  refine kj_iload_n (pc := 1) C 1 dX9_row_1 rfl rfl ?_
  refine kj_iconst (pc := 2) (v := (1 : Int32)) C dX9_row_2 (by decide) ?_
  refine kj_aload_n (pc := 3) C 0 dX9_row_3 rfl rfl ?_
  refine kg_X9_rows (pc := 4) (v := (kb_g μ 4)) C wf_X9_86 dX9_row_4 rfl ?_
  refine kj_callS0 (pc := 7) (as := [.int x1, .int (1 : Int32), .int (kb_g μ 4)]) (rest := [.ref (d 0)]) C (ct_X9_in l V A x1 (1 : Int32) (kb_g μ 4) (kb_WM V d μ ex) rfl) wd_X9_in wk_X9_96 wi_X9_in wz_X9 rfl rfl hd_X9_in ⟨by decide, by decide⟩ rfl (Nat.le_of_ble_eq_true rfl) (by decide) dX9_row_7 ?_
  refine kj_if_eq (pc := 10) 26 C dX9_row_10 (by decide) (fun c1 => ?_) (fun c1 => ?_)
  · have hf := kb_ift hf c1
    exact hp26 x1 x2 μ hf
  · have hf := kb_ife hf c1
    refine kj_iload_n (pc := 13) C 2 dX9_row_13 rfl rfl ?_
    refine kj_iconst (pc := 14) (v := (0 : Int32)) C dX9_row_14 (by decide) ?_
    refine kj_iconst (pc := 15) (v := (4 : Int32)) C dX9_row_15 (by decide) ?_
    refine kj_callS0 (pc := 16) (as := [.int x2, .int (0 : Int32), .int (4 : Int32)]) (rest := [.ref (d 0)]) C (ct_X9_in l V A x2 (0 : Int32) (4 : Int32) (kb_WM V d μ ex) rfl) wd_X9_in wk_X9_96 wi_X9_in wz_X9 rfl rfl hd_X9_in ⟨by decide, by decide⟩ rfl (Nat.le_of_ble_eq_true rfl) (by decide) dX9_row_16 ?_
    refine kj_if_eq (pc := 19) 26 C dX9_row_19 (by decide) (fun c2 => ?_) (fun c2 => ?_)
    · have hf := kb_ift hf c2
      exact hp26 x1 x2 μ hf
    · have hf := kb_ife hf c2
      refine kj_iconst (pc := 22) (v := (1 : Int32)) C dX9_row_22 (by decide) ?_
      refine kj_goto (pc := 23) 27 C dX9_row_23 (by decide) ?_
      exact hp27 x1 x2 (1 : Int32) μ hf
def fn_X9_at  (x0 : Int32) (x1 : Int32) (x2 : Int32)  : Int32 :=
  ((((x0 * (80 : Int32)) + x1) * (81 : Int32)) + x2)
theorem fe_X9_at  (x0 : Int32) (x1 : Int32) (x2 : Int32)  : fn_X9_at  x0 x1 x2  =
  ((((x0 * (80 : Int32)) + x1) * (81 : Int32)) + x2) := rfl
theorem hd_X9_at : yX9_at.cls ≠ "java/lang/invoke/MethodHandle" ∧ yX9_at.cls ≠ "java/lang/invoke/VarHandle" ∧ (parseMethodDescriptor yX9_at.desc).map (fun d => d.parameters.length) = some 3 := by decide +kernel
set_option maxRecDepth 100000 in
set_option maxHeartbeats 4000000 in
theorem ct_X9_at (l : Launch) (V : kb_V) (A : Nat → Prop)  (x0 : Int32) (x1 : Int32) (x2 : Int32) (ws : va_W) {r : Int32} (hf : fn_X9_at  x0 x1 x2  = r) : kb_T l yX9_at cX9_at 3 (some .int) ({ frames := 0, cells := 0, slots := 0, locals := 0 } : Room) V A [.int x0, .int x1, .int x2] ws (some (.int r)) ws 0 0 := by
  refine kb_start (cc := cX9_at) (nL := 3) (ret := (some .int)) (own := RX9) (by decide) rfl (Nat.le_of_ble_eq_true rfl) ?_
  intro p e s m args below meth c C
  refine kj_sub [0, 1, 2] (L2 := [(0, .int x0), (1, .int x1), (2, .int x2)]) rfl ?_
  rw [fe_X9_at] at hf
  refine kj_iload_n (pc := 0) C 0 dX9_at_0 rfl rfl ?_
  refine kj_bipush (pc := 1) (v := (80 : Int32)) C dX9_at_1 (by decide) ?_
  refine kj_imul (pc := 3) C dX9_at_3 ?_
  refine kj_iload_n (pc := 4) C 1 dX9_at_4 rfl rfl ?_
  refine kj_iadd (pc := 5) C dX9_at_5 ?_
  refine kj_bipush (pc := 6) (v := (81 : Int32)) C dX9_at_6 (by decide) ?_
  refine kj_imul (pc := 8) C dX9_at_8 ?_
  refine kj_iload_n (pc := 9) C 2 dX9_at_9 rfl rfl ?_
  refine kj_iadd (pc := 10) C dX9_at_10 ?_
  subst hf
  exact kj_iret (pc := 11) C dX9_at_11
def fp_X9_isOver_4   : Nat → Int32 → Int32 → Int32 → Int32 → Int32 → kb_S → Option (Int32)
  | 0 => fun _ _ _ _ _ _ => none
  | nn + 1 => fun x1 x2 x3 x4 x5 μ => 
  if x3 ≤ x5 then
    some (1 : Int32)
  else
    if kb_in (((x1 * (80 : Int32)) + x2) + x5) 2480 = true then
      if kb_in ((((x1 * (80 : Int32)) + x2) + x5) - x4) 2480 = true then
        if (kb_a μ 8 (((x1 * (80 : Int32)) + x2) + x5).toNatClampNeg) = (kb_a μ 8 ((((x1 * (80 : Int32)) + x2) + x5) - x4).toNatClampNeg) then
          (fp_X9_isOver_4  nn) x1 x2 x3 x4 (x5 + (1 : Int32)) μ
        else
          some (0 : Int32)
      else none
    else none
theorem fp_X9_isOver_4_s   (nn : Nat) (x1 : Int32) (x2 : Int32) (x3 : Int32) (x4 : Int32) (x5 : Int32) (μ : kb_S) : fp_X9_isOver_4  (nn + 1) x1 x2 x3 x4 x5 μ =
  if x3 ≤ x5 then
    some (1 : Int32)
  else
    if kb_in (((x1 * (80 : Int32)) + x2) + x5) 2480 = true then
      if kb_in ((((x1 * (80 : Int32)) + x2) + x5) - x4) 2480 = true then
        if (kb_a μ 8 (((x1 * (80 : Int32)) + x2) + x5).toNatClampNeg) = (kb_a μ 8 ((((x1 * (80 : Int32)) + x2) + x5) - x4).toNatClampNeg) then
          (fp_X9_isOver_4  nn) x1 x2 x3 x4 (x5 + (1 : Int32)) μ
        else
          some (0 : Int32)
      else none
    else none := rfl
def fn_X9_isOver  (x1 : Int32) (x2 : Int32) (x3 : Int32) (x4 : Int32) (μ : kb_S) : Option (Int32) :=
  fp_X9_isOver_4   kb_FU x1 x2 x3 x4 x4 μ
theorem fe_X9_isOver  (x1 : Int32) (x2 : Int32) (x3 : Int32) (x4 : Int32) (μ : kb_S) : fn_X9_isOver  x1 x2 x3 x4 μ =
  fp_X9_isOver_4   kb_FU x1 x2 x3 x4 x4 μ := rfl
theorem hd_X9_isOver : yX9_isOver.cls = RX9 ∧ yX9_isOver.cls ≠ "java/lang/invoke/MethodHandle" ∧ yX9_isOver.cls ≠ "java/lang/invoke/VarHandle" ∧ (parseMethodDescriptor yX9_isOver.desc).map (fun d => d.parameters.length) = some 4 := by decide +kernel
set_option maxRecDepth 100000 in
set_option maxHeartbeats 4000000 in
theorem ct_X9_isOver (l : Launch) (V : kb_V) (A : Nat → Prop)  (x1 : Int32) (x2 : Int32) (x3 : Int32) (x4 : Int32) (d : Nat → Nat) (μ : kb_S) (ex : va_W) {r : Int32} (hf : fn_X9_isOver  x1 x2 x3 x4 μ = some r) : kb_T l yX9_isOver cX9_isOver 6 (some .boolean) ({ frames := 0, cells := 0, slots := 0, locals := 0 } : Room) V A [.ref (d 0), .int x1, .int x2, .int x3, .int x4] (kb_WM V d μ ex) (some (.int r)) (kb_WM V d μ ex) 0 0 := by
  refine kb_start (cc := cX9_isOver) (nL := 6) (ret := (some .boolean)) (own := RX9) (by decide) rfl (Nat.le_of_ble_eq_true rfl) ?_
  intro p e s m args below meth c C
  have hp4 : ∀ (nn : Nat) (x1 : Int32) (x2 : Int32) (x3 : Int32) (x4 : Int32) (x5 : Int32) (μ : kb_S), fp_X9_isOver_4   nn x1 x2 x3 x4 x5 μ = some r → kb_J p l e ({ frames := 0, cells := 0, slots := 0, locals := 0 } : Room) s m args below meth c 6 V A 0 0 (MQ below (kb_post V A (some (.int r)) (kb_WM V d μ ex)) args s 0 0 A) 4 [(0, .ref (d 0)), (1, .int x1), (2, .int x2), (3, .int x3), (4, .int x4), (5, .int x5)] [] (kb_WM V d μ ex) := by
    intro nn4
    induction nn4 with
    | zero => intro x1 x2 x3 x4 x5 μ hf; exact kb_no hf
    | succ nn4 ih4 =>
      intro x1 x2 x3 x4 x5 μ hf
      rw [fp_X9_isOver_4_s] at hf
      refine kj_iload (pc := 4) C 5 dX9_isOver_4 rfl ?_
      refine kj_iload_n (pc := 6) C 3 dX9_isOver_6 rfl rfl ?_
      refine kj_icmp_ge (pc := 7) 52 C dX9_isOver_7 (by decide) (fun c1 => ?_) (fun c1 => ?_)
      · have hf := kb_ift hf c1
        refine kj_iconst (pc := 52) (v := (1 : Int32)) C dX9_isOver_52 (by decide) ?_
        cases hf
        exact kj_zret (pc := 53) C (by decide) dX9_isOver_53
      · have hf := kb_ife hf c1
        refine kj_aload_n (pc := 10) C 0 dX9_isOver_10 rfl rfl ?_
        refine kg_X9_stitch (pc := 11) C wf_X9_35 dX9_isOver_11 ?_
        refine kj_iload_n (pc := 14) C 1 dX9_isOver_14 rfl rfl ?_
        refine kj_bipush (pc := 15) (v := (80 : Int32)) C dX9_isOver_15 (by decide) ?_
        refine kj_imul (pc := 17) C dX9_isOver_17 ?_
        refine kj_iload_n (pc := 18) C 2 dX9_isOver_18 rfl rfl ?_
        refine kj_iadd (pc := 19) C dX9_isOver_19 ?_
        refine kj_iload (pc := 20) C 5 dX9_isOver_20 rfl ?_
        refine kj_iadd (pc := 22) C dX9_isOver_22 ?_
        obtain ⟨g2, hf⟩ := kb_gd hf
        refine ka_X9_stitch (pc := 23) (v := (kb_a μ 8 (((x1 * (80 : Int32)) + x2) + x5).toNatClampNeg)) C g2 dX9_isOver_23 rfl ?_
        refine kj_aload_n (pc := 24) C 0 dX9_isOver_24 rfl rfl ?_
        refine kg_X9_stitch (pc := 25) C wf_X9_35 dX9_isOver_25 ?_
        refine kj_iload_n (pc := 28) C 1 dX9_isOver_28 rfl rfl ?_
        refine kj_bipush (pc := 29) (v := (80 : Int32)) C dX9_isOver_29 (by decide) ?_
        refine kj_imul (pc := 31) C dX9_isOver_31 ?_
        refine kj_iload_n (pc := 32) C 2 dX9_isOver_32 rfl rfl ?_
        refine kj_iadd (pc := 33) C dX9_isOver_33 ?_
        refine kj_iload (pc := 34) C 5 dX9_isOver_34 rfl ?_
        refine kj_iadd (pc := 36) C dX9_isOver_36 ?_
        refine kj_iload (pc := 37) C 4 dX9_isOver_37 rfl ?_
        refine kj_isub (pc := 39) C dX9_isOver_39 ?_
        obtain ⟨g3, hf⟩ := kb_gd hf
        refine ka_X9_stitch (pc := 40) (v := (kb_a μ 8 ((((x1 * (80 : Int32)) + x2) + x5) - x4).toNatClampNeg)) C g3 dX9_isOver_40 rfl ?_
        refine kj_icmp_eq (pc := 41) 46 C dX9_isOver_41 (by decide) (fun c4 => ?_) (fun c4 => ?_)
        · have hf := kb_ift hf c4
          refine kj_iinc (pc := 46) C 5 [1, 2, 3, 4, 5, 0] (L2 := [(0, .ref (d 0)), (1, .int x1), (2, .int x2), (3, .int x3), (4, .int x4), (5, .int (x5 + (1 : Int32)))]) dX9_isOver_46 rfl rfl (by decide) rfl ?_
          refine kj_goto (pc := 49) 4 C dX9_isOver_49 (by decide) ?_
          exact ih4 x1 x2 x3 x4 (x5 + (1 : Int32)) μ hf
        · have hf := kb_ife hf c4
          refine kj_iconst (pc := 44) (v := (0 : Int32)) C dX9_isOver_44 (by decide) ?_
          cases hf
          exact kj_zret (pc := 45) C (by decide) dX9_isOver_45
  refine kj_sub [0, 1, 2, 3, 4] (L2 := [(0, .ref (d 0)), (1, .int x1), (2, .int x2), (3, .int x3), (4, .int x4)]) rfl ?_
  rw [fe_X9_isOver] at hf
  refine kj_iload (pc := 0) C 4 dX9_isOver_0 rfl ?_
  refine kj_istore (pc := 2) C [1, 2, 3, 4, 5, 0] (L2 := [(0, .ref (d 0)), (1, .int x1), (2, .int x2), (3, .int x3), (4, .int x4), (5, .int x4)]) dX9_isOver_2 (by decide) rfl ?_
  exact hp4 kb_FU x1 x2 x3 x4 x4 μ hf
def fp_X9_reckon_206  (kc9 : Int32 → Int32 → Int32 → kb_S → Option (kb_S)) (kc17 : Int32 → Int32 → Int32 → Int32 → kb_S → Option (kb_S)) (kc25 : Int32 → Int32 → Int32 → Int32 → Int32 → kb_S → Option (kb_S)) (kc145 : Int32 → Int32 → Int32 → Int32 → Int32 → Int32 → Int32 → Int32 → kb_S → Option (kb_S)) (x1 : Int32) (x2 : Int32) (x3 : Int32) (x4 : Int32) (x5 : Int32) (x6 : Int32) (x7 : Int32) (x8 : Int32) (μ : kb_S) : Option (kb_S) :=
  kc145 x1 x2 x3 x4 x5 x6 x7 (x8 + (1 : Int32)) μ
theorem fp_X9_reckon_206_e  (kc9 : Int32 → Int32 → Int32 → kb_S → Option (kb_S)) (kc17 : Int32 → Int32 → Int32 → Int32 → kb_S → Option (kb_S)) (kc25 : Int32 → Int32 → Int32 → Int32 → Int32 → kb_S → Option (kb_S)) (kc145 : Int32 → Int32 → Int32 → Int32 → Int32 → Int32 → Int32 → Int32 → kb_S → Option (kb_S)) (x1 : Int32) (x2 : Int32) (x3 : Int32) (x4 : Int32) (x5 : Int32) (x6 : Int32) (x7 : Int32) (x8 : Int32) (μ : kb_S) : fp_X9_reckon_206 kc9 kc17 kc25 kc145 x1 x2 x3 x4 x5 x6 x7 x8 μ =
  kc145 x1 x2 x3 x4 x5 x6 x7 (x8 + (1 : Int32)) μ := rfl
def fp_X9_reckon_145  (kc9 : Int32 → Int32 → Int32 → kb_S → Option (kb_S)) (kc17 : Int32 → Int32 → Int32 → Int32 → kb_S → Option (kb_S)) (kc25 : Int32 → Int32 → Int32 → Int32 → Int32 → kb_S → Option (kb_S)) : Nat → Int32 → Int32 → Int32 → Int32 → Int32 → Int32 → Int32 → Int32 → kb_S → Option (kb_S)
  | 0 => fun _ _ _ _ _ _ _ _ _ => none
  | nn + 1 => fun x1 x2 x3 x4 x5 x6 x7 x8 μ => 
  if x3 ≤ x8 then
    if kb_in (fn_X9_at x4 x5 x3) 32400 = true then
      if kb_in (fn_X9_at x4 x5 x3) 32400 = true then
        kc25 x1 x2 x3 x4 (x5 + (1 : Int32)) (kb_ap (kb_ap μ 15 (fn_X9_at x4 x5 x3).toNatClampNeg x6) 16 (fn_X9_at x4 x5 x3).toNatClampNeg x7)
      else none
    else none
  else
    if kb_in (fn_X9_at x4 x5 x8) 32400 = true then
      if kb_in (fn_X9_at x4 (x5 + x8) (x3 - x8)) 32400 = true then
        if ((kb_a μ 15 (fn_X9_at x4 x5 x8).toNatClampNeg) + (kb_a μ 15 (fn_X9_at x4 (x5 + x8) (x3 - x8)).toNatClampNeg)) < x6 then
          fp_X9_reckon_206  kc9 kc17 kc25 (fp_X9_reckon_145 kc9 kc17 kc25 nn) x1 x2 x3 x4 x5 ((kb_a μ 15 (fn_X9_at x4 x5 x8).toNatClampNeg) + (kb_a μ 15 (fn_X9_at x4 (x5 + x8) (x3 - x8)).toNatClampNeg)) (-x8) x8 μ
        else
          fp_X9_reckon_206  kc9 kc17 kc25 (fp_X9_reckon_145 kc9 kc17 kc25 nn) x1 x2 x3 x4 x5 x6 x7 x8 μ
      else none
    else none
theorem fp_X9_reckon_145_s  (kc9 : Int32 → Int32 → Int32 → kb_S → Option (kb_S)) (kc17 : Int32 → Int32 → Int32 → Int32 → kb_S → Option (kb_S)) (kc25 : Int32 → Int32 → Int32 → Int32 → Int32 → kb_S → Option (kb_S)) (nn : Nat) (x1 : Int32) (x2 : Int32) (x3 : Int32) (x4 : Int32) (x5 : Int32) (x6 : Int32) (x7 : Int32) (x8 : Int32) (μ : kb_S) : fp_X9_reckon_145 kc9 kc17 kc25 (nn + 1) x1 x2 x3 x4 x5 x6 x7 x8 μ =
  if x3 ≤ x8 then
    if kb_in (fn_X9_at x4 x5 x3) 32400 = true then
      if kb_in (fn_X9_at x4 x5 x3) 32400 = true then
        kc25 x1 x2 x3 x4 (x5 + (1 : Int32)) (kb_ap (kb_ap μ 15 (fn_X9_at x4 x5 x3).toNatClampNeg x6) 16 (fn_X9_at x4 x5 x3).toNatClampNeg x7)
      else none
    else none
  else
    if kb_in (fn_X9_at x4 x5 x8) 32400 = true then
      if kb_in (fn_X9_at x4 (x5 + x8) (x3 - x8)) 32400 = true then
        if ((kb_a μ 15 (fn_X9_at x4 x5 x8).toNatClampNeg) + (kb_a μ 15 (fn_X9_at x4 (x5 + x8) (x3 - x8)).toNatClampNeg)) < x6 then
          fp_X9_reckon_206  kc9 kc17 kc25 (fp_X9_reckon_145 kc9 kc17 kc25 nn) x1 x2 x3 x4 x5 ((kb_a μ 15 (fn_X9_at x4 x5 x8).toNatClampNeg) + (kb_a μ 15 (fn_X9_at x4 (x5 + x8) (x3 - x8)).toNatClampNeg)) (-x8) x8 μ
        else
          fp_X9_reckon_206  kc9 kc17 kc25 (fp_X9_reckon_145 kc9 kc17 kc25 nn) x1 x2 x3 x4 x5 x6 x7 x8 μ
      else none
    else none := rfl
def fp_X9_reckon_142  (kc9 : Int32 → Int32 → Int32 → kb_S → Option (kb_S)) (kc17 : Int32 → Int32 → Int32 → Int32 → kb_S → Option (kb_S)) (kc25 : Int32 → Int32 → Int32 → Int32 → Int32 → kb_S → Option (kb_S)) (x1 : Int32) (x2 : Int32) (x3 : Int32) (x4 : Int32) (x5 : Int32) (x6 : Int32) (x7 : Int32) (μ : kb_S) : Option (kb_S) :=
  fp_X9_reckon_145  kc9 kc17 kc25 kb_FU x1 x2 x3 x4 x5 x6 x7 (1 : Int32) μ
theorem fp_X9_reckon_142_e  (kc9 : Int32 → Int32 → Int32 → kb_S → Option (kb_S)) (kc17 : Int32 → Int32 → Int32 → Int32 → kb_S → Option (kb_S)) (kc25 : Int32 → Int32 → Int32 → Int32 → Int32 → kb_S → Option (kb_S)) (x1 : Int32) (x2 : Int32) (x3 : Int32) (x4 : Int32) (x5 : Int32) (x6 : Int32) (x7 : Int32) (μ : kb_S) : fp_X9_reckon_142 kc9 kc17 kc25 x1 x2 x3 x4 x5 x6 x7 μ =
  fp_X9_reckon_145  kc9 kc17 kc25 kb_FU x1 x2 x3 x4 x5 x6 x7 (1 : Int32) μ := rfl
def fp_X9_reckon_136  (kc9 : Int32 → Int32 → Int32 → kb_S → Option (kb_S)) (kc17 : Int32 → Int32 → Int32 → Int32 → kb_S → Option (kb_S)) (kc25 : Int32 → Int32 → Int32 → Int32 → Int32 → kb_S → Option (kb_S)) (kc52 : Int32 → Int32 → Int32 → Int32 → Int32 → Int32 → Int32 → Int32 → kb_S → Option (kb_S)) (x1 : Int32) (x2 : Int32) (x3 : Int32) (x4 : Int32) (x5 : Int32) (x6 : Int32) (x7 : Int32) (x8 : Int32) (μ : kb_S) : Option (kb_S) :=
  kc52 x1 x2 x3 x4 x5 x6 x7 (x8 + (1 : Int32)) μ
theorem fp_X9_reckon_136_e  (kc9 : Int32 → Int32 → Int32 → kb_S → Option (kb_S)) (kc17 : Int32 → Int32 → Int32 → Int32 → kb_S → Option (kb_S)) (kc25 : Int32 → Int32 → Int32 → Int32 → Int32 → kb_S → Option (kb_S)) (kc52 : Int32 → Int32 → Int32 → Int32 → Int32 → Int32 → Int32 → Int32 → kb_S → Option (kb_S)) (x1 : Int32) (x2 : Int32) (x3 : Int32) (x4 : Int32) (x5 : Int32) (x6 : Int32) (x7 : Int32) (x8 : Int32) (μ : kb_S) : fp_X9_reckon_136 kc9 kc17 kc25 kc52 x1 x2 x3 x4 x5 x6 x7 x8 μ =
  kc52 x1 x2 x3 x4 x5 x6 x7 (x8 + (1 : Int32)) μ := rfl
def fp_X9_reckon_52  (kc9 : Int32 → Int32 → Int32 → kb_S → Option (kb_S)) (kc17 : Int32 → Int32 → Int32 → Int32 → kb_S → Option (kb_S)) (kc25 : Int32 → Int32 → Int32 → Int32 → Int32 → kb_S → Option (kb_S)) : Nat → Int32 → Int32 → Int32 → Int32 → Int32 → Int32 → Int32 → Int32 → kb_S → Option (kb_S)
  | 0 => fun _ _ _ _ _ _ _ _ _ => none
  | nn + 1 => fun x1 x2 x3 x4 x5 x6 x7 x8 μ => 
  if (x3 / (2 : Int32)) < x8 then
    fp_X9_reckon_142  kc9 kc17 kc25 x1 x2 x3 x4 x5 x6 x7 μ
  else
    if (4 : Int32) ≤ x4 then
      fp_X9_reckon_142  kc9 kc17 kc25 x1 x2 x3 x4 x5 x6 x7 μ
    else
      if ¬ x8 = 0 then
        if (x3 - x3 / x8 * x8) = 0 then
          if kb_in (fn_X9_at (x4 + (1 : Int32)) x5 x8) 32400 = true then
            if x6 ≤ ((1 : Int32) + (kb_a μ 15 (fn_X9_at (x4 + (1 : Int32)) x5 x8).toNatClampNeg)) then
              fp_X9_reckon_136  kc9 kc17 kc25 (fp_X9_reckon_52 kc9 kc17 kc25 nn) x1 x2 x3 x4 x5 x6 x7 x8 μ
            else
              (fn_X9_isOver x1 x5 x3 x8 μ).bind fun q7 =>
              if q7 = 0 then
                fp_X9_reckon_136  kc9 kc17 kc25 (fp_X9_reckon_52 kc9 kc17 kc25 nn) x1 x2 x3 x4 x5 x6 x7 x8 μ
              else
                if kb_in (fn_X9_at (x4 + (1 : Int32)) x5 x8) 32400 = true then
                  fp_X9_reckon_136  kc9 kc17 kc25 (fp_X9_reckon_52 kc9 kc17 kc25 nn) x1 x2 x3 x4 x5 ((1 : Int32) + (kb_a μ 15 (fn_X9_at (x4 + (1 : Int32)) x5 x8).toNatClampNeg)) x8 x8 μ
                else none
          else none
        else
          fp_X9_reckon_136  kc9 kc17 kc25 (fp_X9_reckon_52 kc9 kc17 kc25 nn) x1 x2 x3 x4 x5 x6 x7 x8 μ
      else none
theorem fp_X9_reckon_52_s  (kc9 : Int32 → Int32 → Int32 → kb_S → Option (kb_S)) (kc17 : Int32 → Int32 → Int32 → Int32 → kb_S → Option (kb_S)) (kc25 : Int32 → Int32 → Int32 → Int32 → Int32 → kb_S → Option (kb_S)) (nn : Nat) (x1 : Int32) (x2 : Int32) (x3 : Int32) (x4 : Int32) (x5 : Int32) (x6 : Int32) (x7 : Int32) (x8 : Int32) (μ : kb_S) : fp_X9_reckon_52 kc9 kc17 kc25 (nn + 1) x1 x2 x3 x4 x5 x6 x7 x8 μ =
  if (x3 / (2 : Int32)) < x8 then
    fp_X9_reckon_142  kc9 kc17 kc25 x1 x2 x3 x4 x5 x6 x7 μ
  else
    if (4 : Int32) ≤ x4 then
      fp_X9_reckon_142  kc9 kc17 kc25 x1 x2 x3 x4 x5 x6 x7 μ
    else
      if ¬ x8 = 0 then
        if (x3 - x3 / x8 * x8) = 0 then
          if kb_in (fn_X9_at (x4 + (1 : Int32)) x5 x8) 32400 = true then
            if x6 ≤ ((1 : Int32) + (kb_a μ 15 (fn_X9_at (x4 + (1 : Int32)) x5 x8).toNatClampNeg)) then
              fp_X9_reckon_136  kc9 kc17 kc25 (fp_X9_reckon_52 kc9 kc17 kc25 nn) x1 x2 x3 x4 x5 x6 x7 x8 μ
            else
              (fn_X9_isOver x1 x5 x3 x8 μ).bind fun q7 =>
              if q7 = 0 then
                fp_X9_reckon_136  kc9 kc17 kc25 (fp_X9_reckon_52 kc9 kc17 kc25 nn) x1 x2 x3 x4 x5 x6 x7 x8 μ
              else
                if kb_in (fn_X9_at (x4 + (1 : Int32)) x5 x8) 32400 = true then
                  fp_X9_reckon_136  kc9 kc17 kc25 (fp_X9_reckon_52 kc9 kc17 kc25 nn) x1 x2 x3 x4 x5 ((1 : Int32) + (kb_a μ 15 (fn_X9_at (x4 + (1 : Int32)) x5 x8).toNatClampNeg)) x8 x8 μ
                else none
          else none
        else
          fp_X9_reckon_136  kc9 kc17 kc25 (fp_X9_reckon_52 kc9 kc17 kc25 nn) x1 x2 x3 x4 x5 x6 x7 x8 μ
      else none := rfl
def fp_X9_reckon_44  (kc9 : Int32 → Int32 → Int32 → kb_S → Option (kb_S)) (kc17 : Int32 → Int32 → Int32 → Int32 → kb_S → Option (kb_S)) (kc25 : Int32 → Int32 → Int32 → Int32 → Int32 → kb_S → Option (kb_S)) (x1 : Int32) (x2 : Int32) (x3 : Int32) (x4 : Int32) (x5 : Int32) (y0 : Int32) (μ : kb_S) : Option (kb_S) :=
  fp_X9_reckon_52  kc9 kc17 kc25 kb_FU x1 x2 x3 x4 x5 y0 (0 : Int32) (1 : Int32) μ
theorem fp_X9_reckon_44_e  (kc9 : Int32 → Int32 → Int32 → kb_S → Option (kb_S)) (kc17 : Int32 → Int32 → Int32 → Int32 → kb_S → Option (kb_S)) (kc25 : Int32 → Int32 → Int32 → Int32 → Int32 → kb_S → Option (kb_S)) (x1 : Int32) (x2 : Int32) (x3 : Int32) (x4 : Int32) (x5 : Int32) (y0 : Int32) (μ : kb_S) : fp_X9_reckon_44 kc9 kc17 kc25 x1 x2 x3 x4 x5 y0 μ =
  fp_X9_reckon_52  kc9 kc17 kc25 kb_FU x1 x2 x3 x4 x5 y0 (0 : Int32) (1 : Int32) μ := rfl
def fp_X9_reckon_25  (kc9 : Int32 → Int32 → Int32 → kb_S → Option (kb_S)) (kc17 : Int32 → Int32 → Int32 → Int32 → kb_S → Option (kb_S)) : Nat → Int32 → Int32 → Int32 → Int32 → Int32 → kb_S → Option (kb_S)
  | 0 => fun _ _ _ _ _ _ => none
  | nn + 1 => fun x1 x2 x3 x4 x5 μ => 
  if x2 < (x5 + x3) then
    kc17 x1 x2 x3 (x4 + (-1 : Int32)) μ
  else
    if x3 = (1 : Int32) then
      fp_X9_reckon_44  kc9 kc17 (fp_X9_reckon_25 kc9 kc17 nn) x1 x2 x3 x4 x5 (1 : Int32) μ
    else
      fp_X9_reckon_44  kc9 kc17 (fp_X9_reckon_25 kc9 kc17 nn) x1 x2 x3 x4 x5 (1000000 : Int32) μ
theorem fp_X9_reckon_25_s  (kc9 : Int32 → Int32 → Int32 → kb_S → Option (kb_S)) (kc17 : Int32 → Int32 → Int32 → Int32 → kb_S → Option (kb_S)) (nn : Nat) (x1 : Int32) (x2 : Int32) (x3 : Int32) (x4 : Int32) (x5 : Int32) (μ : kb_S) : fp_X9_reckon_25 kc9 kc17 (nn + 1) x1 x2 x3 x4 x5 μ =
  if x2 < (x5 + x3) then
    kc17 x1 x2 x3 (x4 + (-1 : Int32)) μ
  else
    if x3 = (1 : Int32) then
      fp_X9_reckon_44  kc9 kc17 (fp_X9_reckon_25 kc9 kc17 nn) x1 x2 x3 x4 x5 (1 : Int32) μ
    else
      fp_X9_reckon_44  kc9 kc17 (fp_X9_reckon_25 kc9 kc17 nn) x1 x2 x3 x4 x5 (1000000 : Int32) μ := rfl
def fp_X9_reckon_17  (kc9 : Int32 → Int32 → Int32 → kb_S → Option (kb_S)) : Nat → Int32 → Int32 → Int32 → Int32 → kb_S → Option (kb_S)
  | 0 => fun _ _ _ _ _ => none
  | nn + 1 => fun x1 x2 x3 x4 μ => 
  if x4 < 0 then
    kc9 x1 x2 (x3 + (1 : Int32)) μ
  else
    fp_X9_reckon_25  kc9 (fp_X9_reckon_17 kc9 nn) kb_FU x1 x2 x3 x4 (0 : Int32) μ
theorem fp_X9_reckon_17_s  (kc9 : Int32 → Int32 → Int32 → kb_S → Option (kb_S)) (nn : Nat) (x1 : Int32) (x2 : Int32) (x3 : Int32) (x4 : Int32) (μ : kb_S) : fp_X9_reckon_17 kc9 (nn + 1) x1 x2 x3 x4 μ =
  if x4 < 0 then
    kc9 x1 x2 (x3 + (1 : Int32)) μ
  else
    fp_X9_reckon_25  kc9 (fp_X9_reckon_17 kc9 nn) kb_FU x1 x2 x3 x4 (0 : Int32) μ := rfl
def fp_X9_reckon_9   : Nat → Int32 → Int32 → Int32 → kb_S → Option (kb_S)
  | 0 => fun _ _ _ _ => none
  | nn + 1 => fun x1 x2 x3 μ => 
  if x2 < x3 then
    some μ
  else
    fp_X9_reckon_17  (fp_X9_reckon_9  nn) kb_FU x1 x2 x3 (4 : Int32) μ
theorem fp_X9_reckon_9_s   (nn : Nat) (x1 : Int32) (x2 : Int32) (x3 : Int32) (μ : kb_S) : fp_X9_reckon_9  (nn + 1) x1 x2 x3 μ =
  if x2 < x3 then
    some μ
  else
    fp_X9_reckon_17  (fp_X9_reckon_9  nn) kb_FU x1 x2 x3 (4 : Int32) μ := rfl
def fn_X9_reckon  (x1 : Int32) (μ : kb_S) : Option (kb_S) :=
  if kb_in x1 31 = true then
    fp_X9_reckon_9   kb_FU x1 (kb_a μ 7 x1.toNatClampNeg) (1 : Int32) μ
  else none
theorem fe_X9_reckon  (x1 : Int32) (μ : kb_S) : fn_X9_reckon  x1 μ =
  if kb_in x1 31 = true then
    fp_X9_reckon_9   kb_FU x1 (kb_a μ 7 x1.toNatClampNeg) (1 : Int32) μ
  else none := rfl
theorem hd_X9_reckon : yX9_reckon.cls = RX9 ∧ yX9_reckon.cls ≠ "java/lang/invoke/MethodHandle" ∧ yX9_reckon.cls ≠ "java/lang/invoke/VarHandle" ∧ (parseMethodDescriptor yX9_reckon.desc).map (fun d => d.parameters.length) = some 1 := by decide +kernel
set_option maxRecDepth 100000 in
set_option maxHeartbeats 4000000 in
theorem ct_X9_reckon (l : Launch) (V : kb_V) (A : Nat → Prop)  (x1 : Int32) (d : Nat → Nat) (μ : kb_S) (ex : va_W) {μ9 : kb_S} (hf : fn_X9_reckon  x1 μ = some μ9) : kb_T l yX9_reckon cX9_reckon 10 none ({ frames := 1, cells := 0, slots := 0, locals := 25 } : Room) V A [.ref (d 0), .int x1] (kb_WM V d μ ex) none (kb_WM V d μ9 ex) 0 0 := by
  refine kb_start (cc := cX9_reckon) (nL := 10) (ret := none) (own := RX9) (by decide) rfl (Nat.le_of_ble_eq_true rfl) ?_
  intro p e s m args below meth c C
  have hp9 : ∀ (nn : Nat) (x1 : Int32) (x2 : Int32) (x3 : Int32) (μ : kb_S), fp_X9_reckon_9   nn x1 x2 x3 μ = some μ9 → kb_J p l e ({ frames := 1, cells := 0, slots := 0, locals := 25 } : Room) s m args below meth c 10 V A 0 0 (MQ below (kb_post V A none (kb_WM V d μ9 ex)) args s 0 0 A) 9 [(0, .ref (d 0)), (1, .int x1), (2, .int x2), (3, .int x3)] [] (kb_WM V d μ ex) := by
    intro nn9
    induction nn9 with
    | zero => intro x1 x2 x3 μ hf; exact kb_no hf
    | succ nn9 ih9 =>
      have hp17 : ∀ (nn : Nat) (x1 : Int32) (x2 : Int32) (x3 : Int32) (x4 : Int32) (μ : kb_S), fp_X9_reckon_17  (fp_X9_reckon_9   nn9) nn x1 x2 x3 x4 μ = some μ9 → kb_J p l e ({ frames := 1, cells := 0, slots := 0, locals := 25 } : Room) s m args below meth c 10 V A 0 0 (MQ below (kb_post V A none (kb_WM V d μ9 ex)) args s 0 0 A) 17 [(0, .ref (d 0)), (1, .int x1), (2, .int x2), (3, .int x3), (4, .int x4)] [] (kb_WM V d μ ex) := by
        intro nn17
        induction nn17 with
        | zero => intro x1 x2 x3 x4 μ hf; exact kb_no hf
        | succ nn17 ih17 =>
          have hp25 : ∀ (nn : Nat) (x1 : Int32) (x2 : Int32) (x3 : Int32) (x4 : Int32) (x5 : Int32) (μ : kb_S), fp_X9_reckon_25  (fp_X9_reckon_9   nn9) (fp_X9_reckon_17  (fp_X9_reckon_9   nn9) nn17) nn x1 x2 x3 x4 x5 μ = some μ9 → kb_J p l e ({ frames := 1, cells := 0, slots := 0, locals := 25 } : Room) s m args below meth c 10 V A 0 0 (MQ below (kb_post V A none (kb_WM V d μ9 ex)) args s 0 0 A) 25 [(0, .ref (d 0)), (1, .int x1), (2, .int x2), (3, .int x3), (4, .int x4), (5, .int x5)] [] (kb_WM V d μ ex) := by
            intro nn25
            induction nn25 with
            | zero => intro x1 x2 x3 x4 x5 μ hf; exact kb_no hf
            | succ nn25 ih25 =>
              have hp145 : ∀ (nn : Nat) (x1 : Int32) (x2 : Int32) (x3 : Int32) (x4 : Int32) (x5 : Int32) (x6 : Int32) (x7 : Int32) (x8 : Int32) (μ : kb_S), fp_X9_reckon_145  (fp_X9_reckon_9   nn9) (fp_X9_reckon_17  (fp_X9_reckon_9   nn9) nn17) (fp_X9_reckon_25  (fp_X9_reckon_9   nn9) (fp_X9_reckon_17  (fp_X9_reckon_9   nn9) nn17) nn25) nn x1 x2 x3 x4 x5 x6 x7 x8 μ = some μ9 → kb_J p l e ({ frames := 1, cells := 0, slots := 0, locals := 25 } : Room) s m args below meth c 10 V A 0 0 (MQ below (kb_post V A none (kb_WM V d μ9 ex)) args s 0 0 A) 145 [(0, .ref (d 0)), (1, .int x1), (2, .int x2), (3, .int x3), (4, .int x4), (5, .int x5), (6, .int x6), (7, .int x7), (8, .int x8)] [] (kb_WM V d μ ex) := by
                intro nn145
                induction nn145 with
                | zero => intro x1 x2 x3 x4 x5 x6 x7 x8 μ hf; exact kb_no hf
                | succ nn145 ih145 =>
                  have hp206 : ∀ (x1 : Int32) (x2 : Int32) (x3 : Int32) (x4 : Int32) (x5 : Int32) (x6 : Int32) (x7 : Int32) (x8 : Int32) (μ : kb_S), fp_X9_reckon_206  (fp_X9_reckon_9   nn9) (fp_X9_reckon_17  (fp_X9_reckon_9   nn9) nn17) (fp_X9_reckon_25  (fp_X9_reckon_9   nn9) (fp_X9_reckon_17  (fp_X9_reckon_9   nn9) nn17) nn25) (fp_X9_reckon_145  (fp_X9_reckon_9   nn9) (fp_X9_reckon_17  (fp_X9_reckon_9   nn9) nn17) (fp_X9_reckon_25  (fp_X9_reckon_9   nn9) (fp_X9_reckon_17  (fp_X9_reckon_9   nn9) nn17) nn25) nn145) x1 x2 x3 x4 x5 x6 x7 x8 μ = some μ9 → kb_J p l e ({ frames := 1, cells := 0, slots := 0, locals := 25 } : Room) s m args below meth c 10 V A 0 0 (MQ below (kb_post V A none (kb_WM V d μ9 ex)) args s 0 0 A) 206 [(0, .ref (d 0)), (1, .int x1), (2, .int x2), (3, .int x3), (4, .int x4), (5, .int x5), (6, .int x6), (7, .int x7), (8, .int x8)] [] (kb_WM V d μ ex) := by
                    intro x1 x2 x3 x4 x5 x6 x7 x8 μ hf
                    rw [fp_X9_reckon_206_e] at hf
                    refine kj_iinc (pc := 206) C 8 [1, 2, 3, 4, 5, 6, 7, 8, 0] (L2 := [(0, .ref (d 0)), (1, .int x1), (2, .int x2), (3, .int x3), (4, .int x4), (5, .int x5), (6, .int x6), (7, .int x7), (8, .int (x8 + (1 : Int32)))]) dX9_reckon_206 rfl rfl (by decide) rfl ?_
                    refine kj_goto (pc := 209) 145 C dX9_reckon_209 (by decide) ?_
                    exact ih145 x1 x2 x3 x4 x5 x6 x7 (x8 + (1 : Int32)) μ hf
                  intro x1 x2 x3 x4 x5 x6 x7 x8 μ hf
                  rw [fp_X9_reckon_145_s] at hf
                  refine kj_iload (pc := 145) C 8 dX9_reckon_145 rfl ?_
                  refine kj_iload_n (pc := 147) C 3 dX9_reckon_147 rfl rfl ?_
                  refine kj_icmp_ge (pc := 148) 212 C dX9_reckon_148 (by decide) (fun c1 => ?_) (fun c1 => ?_)
                  · have hf := kb_ift hf c1
                    refine kj_aload_n (pc := 212) C 0 dX9_reckon_212 rfl rfl ?_
                    refine kg_X9_words (pc := 213) C wf_X9_56 dX9_reckon_213 ?_
                    refine kj_iload (pc := 216) C 4 dX9_reckon_216 rfl ?_
                    refine kj_iload (pc := 218) C 5 dX9_reckon_218 rfl ?_
                    refine kj_iload_n (pc := 220) C 3 dX9_reckon_220 rfl rfl ?_
                    refine kj_callS0 (pc := 221) (as := [.int x4, .int x5, .int x3]) (rest := [.ref (d 16)]) C (ct_X9_at l V A x4 x5 x3 (kb_WM V d μ ex) rfl) wd_X9_at wk_X9_221 wi_X9_at wz_X9 rfl rfl hd_X9_at ⟨by decide, by decide⟩ rfl (Nat.le_of_ble_eq_true rfl) (by decide) dX9_reckon_221 ?_
                    refine kj_iload (pc := 224) C 6 dX9_reckon_224 rfl ?_
                    obtain ⟨g2, hf⟩ := kb_gd hf
                    refine ks_X9_words (pc := 226) C g2 dX9_reckon_226 ?_
                    refine kj_aload_n (pc := 227) C 0 dX9_reckon_227 rfl rfl ?_
                    refine kg_X9_way (pc := 228) C wf_X9_59 dX9_reckon_228 ?_
                    refine kj_iload (pc := 231) C 4 dX9_reckon_231 rfl ?_
                    refine kj_iload (pc := 233) C 5 dX9_reckon_233 rfl ?_
                    refine kj_iload_n (pc := 235) C 3 dX9_reckon_235 rfl rfl ?_
                    refine kj_callS0 (pc := 236) (as := [.int x4, .int x5, .int x3]) (rest := [.ref (d 17)]) C (ct_X9_at l V A x4 x5 x3 (kb_WM V d (kb_ap μ 15 (fn_X9_at x4 x5 x3).toNatClampNeg x6) ex) rfl) wd_X9_at wk_X9_221 wi_X9_at wz_X9 rfl rfl hd_X9_at ⟨by decide, by decide⟩ rfl (Nat.le_of_ble_eq_true rfl) (by decide) dX9_reckon_236 ?_
                    refine kj_iload (pc := 239) C 7 dX9_reckon_239 rfl ?_
                    obtain ⟨g3, hf⟩ := kb_gd hf
                    refine ks_X9_way (pc := 241) C g3 dX9_reckon_241 ?_
                    refine kj_iinc (pc := 242) C 5 [1, 2, 3, 4, 5, 0, 6, 7, 8] (L2 := [(0, .ref (d 0)), (1, .int x1), (2, .int x2), (3, .int x3), (4, .int x4), (5, .int (x5 + (1 : Int32))), (6, .int x6), (7, .int x7), (8, .int x8)]) dX9_reckon_242 rfl rfl (by decide) rfl ?_
                    refine kj_goto (pc := 245) 25 C dX9_reckon_245 (by decide) ?_
                    refine kj_sub [0, 1, 2, 3, 4, 5] (L2 := [(0, .ref (d 0)), (1, .int x1), (2, .int x2), (3, .int x3), (4, .int x4), (5, .int (x5 + (1 : Int32)))]) rfl ?_
                    exact ih25 x1 x2 x3 x4 (x5 + (1 : Int32)) (kb_ap (kb_ap μ 15 (fn_X9_at x4 x5 x3).toNatClampNeg x6) 16 (fn_X9_at x4 x5 x3).toNatClampNeg x7) hf
                  · have hf := kb_ife hf c1
                    refine kj_aload_n (pc := 151) C 0 dX9_reckon_151 rfl rfl ?_
                    refine kg_X9_words (pc := 152) C wf_X9_56 dX9_reckon_152 ?_
                    refine kj_iload (pc := 155) C 4 dX9_reckon_155 rfl ?_
                    refine kj_iload (pc := 157) C 5 dX9_reckon_157 rfl ?_
                    refine kj_iload (pc := 159) C 8 dX9_reckon_159 rfl ?_
                    refine kj_callS0 (pc := 161) (as := [.int x4, .int x5, .int x8]) (rest := [.ref (d 16)]) C (ct_X9_at l V A x4 x5 x8 (kb_WM V d μ ex) rfl) wd_X9_at wk_X9_221 wi_X9_at wz_X9 rfl rfl hd_X9_at ⟨by decide, by decide⟩ rfl (Nat.le_of_ble_eq_true rfl) (by decide) dX9_reckon_161 ?_
                    obtain ⟨g2, hf⟩ := kb_gd hf
                    refine ka_X9_words (pc := 164) (v := (kb_a μ 15 (fn_X9_at x4 x5 x8).toNatClampNeg)) C g2 dX9_reckon_164 rfl ?_
                    refine kj_aload_n (pc := 165) C 0 dX9_reckon_165 rfl rfl ?_
                    refine kg_X9_words (pc := 166) C wf_X9_56 dX9_reckon_166 ?_
                    refine kj_iload (pc := 169) C 4 dX9_reckon_169 rfl ?_
                    refine kj_iload (pc := 171) C 5 dX9_reckon_171 rfl ?_
                    refine kj_iload (pc := 173) C 8 dX9_reckon_173 rfl ?_
                    refine kj_iadd (pc := 175) C dX9_reckon_175 ?_
                    refine kj_iload_n (pc := 176) C 3 dX9_reckon_176 rfl rfl ?_
                    refine kj_iload (pc := 177) C 8 dX9_reckon_177 rfl ?_
                    refine kj_isub (pc := 179) C dX9_reckon_179 ?_
                    refine kj_callS0 (pc := 180) (as := [.int x4, .int (x5 + x8), .int (x3 - x8)]) (rest := [.ref (d 16), .int (kb_a μ 15 (fn_X9_at x4 x5 x8).toNatClampNeg)]) C (ct_X9_at l V A x4 (x5 + x8) (x3 - x8) (kb_WM V d μ ex) rfl) wd_X9_at wk_X9_221 wi_X9_at wz_X9 rfl rfl hd_X9_at ⟨by decide, by decide⟩ rfl (Nat.le_of_ble_eq_true rfl) (by decide) dX9_reckon_180 ?_
                    obtain ⟨g3, hf⟩ := kb_gd hf
                    refine ka_X9_words (pc := 183) (v := (kb_a μ 15 (fn_X9_at x4 (x5 + x8) (x3 - x8)).toNatClampNeg)) C g3 dX9_reckon_183 rfl ?_
                    refine kj_iadd (pc := 184) C dX9_reckon_184 ?_
                    refine kj_istore (pc := 185) C [1, 2, 3, 4, 5, 6, 7, 8, 9, 0] (L2 := [(0, .ref (d 0)), (1, .int x1), (2, .int x2), (3, .int x3), (4, .int x4), (5, .int x5), (6, .int x6), (7, .int x7), (8, .int x8), (9, .int ((kb_a μ 15 (fn_X9_at x4 x5 x8).toNatClampNeg) + (kb_a μ 15 (fn_X9_at x4 (x5 + x8) (x3 - x8)).toNatClampNeg)))]) dX9_reckon_185 (by decide) rfl ?_
                    refine kj_iload (pc := 187) C 9 dX9_reckon_187 rfl ?_
                    refine kj_iload (pc := 189) C 6 dX9_reckon_189 rfl ?_
                    refine kj_icmp_lt (pc := 191) 197 C dX9_reckon_191 (by decide) (fun c4 => ?_) (fun c4 => ?_)
                    · have hf := kb_ift hf c4
                      refine kj_iload (pc := 197) C 9 dX9_reckon_197 rfl ?_
                      refine kj_istore (pc := 199) C [1, 2, 3, 4, 5, 6, 0, 7, 8, 9] (L2 := [(0, .ref (d 0)), (1, .int x1), (2, .int x2), (3, .int x3), (4, .int x4), (5, .int x5), (6, .int ((kb_a μ 15 (fn_X9_at x4 x5 x8).toNatClampNeg) + (kb_a μ 15 (fn_X9_at x4 (x5 + x8) (x3 - x8)).toNatClampNeg))), (7, .int x7), (8, .int x8), (9, .int ((kb_a μ 15 (fn_X9_at x4 x5 x8).toNatClampNeg) + (kb_a μ 15 (fn_X9_at x4 (x5 + x8) (x3 - x8)).toNatClampNeg)))]) dX9_reckon_199 (by decide) rfl ?_
                      refine kj_iload (pc := 201) C 8 dX9_reckon_201 rfl ?_
                      refine kj_ineg (pc := 203) C dX9_reckon_203 ?_
                      refine kj_istore (pc := 204) C [1, 2, 3, 4, 5, 6, 7, 0, 8, 9] (L2 := [(0, .ref (d 0)), (1, .int x1), (2, .int x2), (3, .int x3), (4, .int x4), (5, .int x5), (6, .int ((kb_a μ 15 (fn_X9_at x4 x5 x8).toNatClampNeg) + (kb_a μ 15 (fn_X9_at x4 (x5 + x8) (x3 - x8)).toNatClampNeg))), (7, .int (-x8)), (8, .int x8), (9, .int ((kb_a μ 15 (fn_X9_at x4 x5 x8).toNatClampNeg) + (kb_a μ 15 (fn_X9_at x4 (x5 + x8) (x3 - x8)).toNatClampNeg)))]) dX9_reckon_204 (by decide) rfl ?_
                      refine kj_sub [0, 1, 2, 3, 4, 5, 6, 7, 8] (L2 := [(0, .ref (d 0)), (1, .int x1), (2, .int x2), (3, .int x3), (4, .int x4), (5, .int x5), (6, .int ((kb_a μ 15 (fn_X9_at x4 x5 x8).toNatClampNeg) + (kb_a μ 15 (fn_X9_at x4 (x5 + x8) (x3 - x8)).toNatClampNeg))), (7, .int (-x8)), (8, .int x8)]) rfl ?_
                      exact hp206 x1 x2 x3 x4 x5 ((kb_a μ 15 (fn_X9_at x4 x5 x8).toNatClampNeg) + (kb_a μ 15 (fn_X9_at x4 (x5 + x8) (x3 - x8)).toNatClampNeg)) (-x8) x8 μ hf
                    · have hf := kb_ife hf c4
                      refine kj_goto (pc := 194) 206 C dX9_reckon_194 (by decide) ?_
                      refine kj_sub [0, 1, 2, 3, 4, 5, 6, 7, 8] (L2 := [(0, .ref (d 0)), (1, .int x1), (2, .int x2), (3, .int x3), (4, .int x4), (5, .int x5), (6, .int x6), (7, .int x7), (8, .int x8)]) rfl ?_
                      exact hp206 x1 x2 x3 x4 x5 x6 x7 x8 μ hf
              have hp142 : ∀ (x1 : Int32) (x2 : Int32) (x3 : Int32) (x4 : Int32) (x5 : Int32) (x6 : Int32) (x7 : Int32) (μ : kb_S), fp_X9_reckon_142  (fp_X9_reckon_9   nn9) (fp_X9_reckon_17  (fp_X9_reckon_9   nn9) nn17) (fp_X9_reckon_25  (fp_X9_reckon_9   nn9) (fp_X9_reckon_17  (fp_X9_reckon_9   nn9) nn17) nn25) x1 x2 x3 x4 x5 x6 x7 μ = some μ9 → kb_J p l e ({ frames := 1, cells := 0, slots := 0, locals := 25 } : Room) s m args below meth c 10 V A 0 0 (MQ below (kb_post V A none (kb_WM V d μ9 ex)) args s 0 0 A) 142 [(0, .ref (d 0)), (1, .int x1), (2, .int x2), (3, .int x3), (4, .int x4), (5, .int x5), (6, .int x6), (7, .int x7)] [] (kb_WM V d μ ex) := by
                intro x1 x2 x3 x4 x5 x6 x7 μ hf
                rw [fp_X9_reckon_142_e] at hf
                refine kj_iconst (pc := 142) (v := (1 : Int32)) C dX9_reckon_142 (by decide) ?_
                refine kj_istore (pc := 143) C [1, 2, 3, 4, 5, 6, 7, 8, 0] (L2 := [(0, .ref (d 0)), (1, .int x1), (2, .int x2), (3, .int x3), (4, .int x4), (5, .int x5), (6, .int x6), (7, .int x7), (8, .int (1 : Int32))]) dX9_reckon_143 (by decide) rfl ?_
                exact hp145 kb_FU x1 x2 x3 x4 x5 x6 x7 (1 : Int32) μ hf
              have hp52 : ∀ (nn : Nat) (x1 : Int32) (x2 : Int32) (x3 : Int32) (x4 : Int32) (x5 : Int32) (x6 : Int32) (x7 : Int32) (x8 : Int32) (μ : kb_S), fp_X9_reckon_52  (fp_X9_reckon_9   nn9) (fp_X9_reckon_17  (fp_X9_reckon_9   nn9) nn17) (fp_X9_reckon_25  (fp_X9_reckon_9   nn9) (fp_X9_reckon_17  (fp_X9_reckon_9   nn9) nn17) nn25) nn x1 x2 x3 x4 x5 x6 x7 x8 μ = some μ9 → kb_J p l e ({ frames := 1, cells := 0, slots := 0, locals := 25 } : Room) s m args below meth c 10 V A 0 0 (MQ below (kb_post V A none (kb_WM V d μ9 ex)) args s 0 0 A) 52 [(0, .ref (d 0)), (1, .int x1), (2, .int x2), (3, .int x3), (4, .int x4), (5, .int x5), (6, .int x6), (7, .int x7), (8, .int x8)] [] (kb_WM V d μ ex) := by
                intro nn52
                induction nn52 with
                | zero => intro x1 x2 x3 x4 x5 x6 x7 x8 μ hf; exact kb_no hf
                | succ nn52 ih52 =>
                  have hp136 : ∀ (x1 : Int32) (x2 : Int32) (x3 : Int32) (x4 : Int32) (x5 : Int32) (x6 : Int32) (x7 : Int32) (x8 : Int32) (μ : kb_S), fp_X9_reckon_136  (fp_X9_reckon_9   nn9) (fp_X9_reckon_17  (fp_X9_reckon_9   nn9) nn17) (fp_X9_reckon_25  (fp_X9_reckon_9   nn9) (fp_X9_reckon_17  (fp_X9_reckon_9   nn9) nn17) nn25) (fp_X9_reckon_52  (fp_X9_reckon_9   nn9) (fp_X9_reckon_17  (fp_X9_reckon_9   nn9) nn17) (fp_X9_reckon_25  (fp_X9_reckon_9   nn9) (fp_X9_reckon_17  (fp_X9_reckon_9   nn9) nn17) nn25) nn52) x1 x2 x3 x4 x5 x6 x7 x8 μ = some μ9 → kb_J p l e ({ frames := 1, cells := 0, slots := 0, locals := 25 } : Room) s m args below meth c 10 V A 0 0 (MQ below (kb_post V A none (kb_WM V d μ9 ex)) args s 0 0 A) 136 [(0, .ref (d 0)), (1, .int x1), (2, .int x2), (3, .int x3), (4, .int x4), (5, .int x5), (6, .int x6), (7, .int x7), (8, .int x8)] [] (kb_WM V d μ ex) := by
                    intro x1 x2 x3 x4 x5 x6 x7 x8 μ hf
                    rw [fp_X9_reckon_136_e] at hf
                    refine kj_iinc (pc := 136) C 8 [1, 2, 3, 4, 5, 6, 7, 8, 0] (L2 := [(0, .ref (d 0)), (1, .int x1), (2, .int x2), (3, .int x3), (4, .int x4), (5, .int x5), (6, .int x6), (7, .int x7), (8, .int (x8 + (1 : Int32)))]) dX9_reckon_136 rfl rfl (by decide) rfl ?_
                    refine kj_goto (pc := 139) 52 C dX9_reckon_139 (by decide) ?_
                    exact ih52 x1 x2 x3 x4 x5 x6 x7 (x8 + (1 : Int32)) μ hf
                  intro x1 x2 x3 x4 x5 x6 x7 x8 μ hf
                  rw [fp_X9_reckon_52_s] at hf
                  refine kj_iload (pc := 52) C 8 dX9_reckon_52 rfl ?_
                  refine kj_iload_n (pc := 54) C 3 dX9_reckon_54 rfl rfl ?_
                  refine kj_iconst (pc := 55) (v := (2 : Int32)) C dX9_reckon_55 (by decide) ?_
                  refine kj_idiv (pc := 56) C dX9_reckon_56 (by decide) ?_
                  refine kj_icmp_gt (pc := 57) 142 C dX9_reckon_57 (by decide) (fun c1 => ?_) (fun c1 => ?_)
                  · have hf := kb_ift hf c1
                    refine kj_sub [0, 1, 2, 3, 4, 5, 6, 7] (L2 := [(0, .ref (d 0)), (1, .int x1), (2, .int x2), (3, .int x3), (4, .int x4), (5, .int x5), (6, .int x6), (7, .int x7)]) rfl ?_
                    exact hp142 x1 x2 x3 x4 x5 x6 x7 μ hf
                  · have hf := kb_ife hf c1
                    refine kj_iload (pc := 60) C 4 dX9_reckon_60 rfl ?_
                    refine kj_iconst (pc := 62) (v := (4 : Int32)) C dX9_reckon_62 (by decide) ?_
                    refine kj_icmp_ge (pc := 63) 142 C dX9_reckon_63 (by decide) (fun c2 => ?_) (fun c2 => ?_)
                    · have hf := kb_ift hf c2
                      refine kj_sub [0, 1, 2, 3, 4, 5, 6, 7] (L2 := [(0, .ref (d 0)), (1, .int x1), (2, .int x2), (3, .int x3), (4, .int x4), (5, .int x5), (6, .int x6), (7, .int x7)]) rfl ?_
                      exact hp142 x1 x2 x3 x4 x5 x6 x7 μ hf
                    · have hf := kb_ife hf c2
                      refine kj_iload_n (pc := 66) C 3 dX9_reckon_66 rfl rfl ?_
                      refine kj_iload (pc := 67) C 8 dX9_reckon_67 rfl ?_
                      obtain ⟨g3, hf⟩ := kb_gd hf
                      refine kj_irem (pc := 69) C dX9_reckon_69 g3 ?_
                      refine kj_if_ne (pc := 70) 136 C dX9_reckon_70 (by decide) (fun c4 => ?_) (fun c4 => ?_)
                      · have hf := kb_ife hf c4
                        exact hp136 x1 x2 x3 x4 x5 x6 x7 x8 μ hf
                      · have hf := kb_ift hf c4
                        refine kj_iconst (pc := 73) (v := (1 : Int32)) C dX9_reckon_73 (by decide) ?_
                        refine kj_aload_n (pc := 74) C 0 dX9_reckon_74 rfl rfl ?_
                        refine kg_X9_words (pc := 75) C wf_X9_56 dX9_reckon_75 ?_
                        refine kj_iload (pc := 78) C 4 dX9_reckon_78 rfl ?_
                        refine kj_iconst (pc := 80) (v := (1 : Int32)) C dX9_reckon_80 (by decide) ?_
                        refine kj_iadd (pc := 81) C dX9_reckon_81 ?_
                        refine kj_iload (pc := 82) C 5 dX9_reckon_82 rfl ?_
                        refine kj_iload (pc := 84) C 8 dX9_reckon_84 rfl ?_
                        refine kj_callS0 (pc := 86) (as := [.int (x4 + (1 : Int32)), .int x5, .int x8]) (rest := [.ref (d 16), .int (1 : Int32)]) C (ct_X9_at l V A (x4 + (1 : Int32)) x5 x8 (kb_WM V d μ ex) rfl) wd_X9_at wk_X9_221 wi_X9_at wz_X9 rfl rfl hd_X9_at ⟨by decide, by decide⟩ rfl (Nat.le_of_ble_eq_true rfl) (by decide) dX9_reckon_86 ?_
                        obtain ⟨g5, hf⟩ := kb_gd hf
                        refine ka_X9_words (pc := 89) (v := (kb_a μ 15 (fn_X9_at (x4 + (1 : Int32)) x5 x8).toNatClampNeg)) C g5 dX9_reckon_89 rfl ?_
                        refine kj_iadd (pc := 90) C dX9_reckon_90 ?_
                        refine kj_iload (pc := 91) C 6 dX9_reckon_91 rfl ?_
                        refine kj_icmp_ge (pc := 93) 136 C dX9_reckon_93 (by decide) (fun c6 => ?_) (fun c6 => ?_)
                        · have hf := kb_ift hf c6
                          exact hp136 x1 x2 x3 x4 x5 x6 x7 x8 μ hf
                        · have hf := kb_ife hf c6
                          refine kj_aload_n (pc := 96) C 0 dX9_reckon_96 rfl rfl ?_
                          refine kj_iload_n (pc := 97) C 1 dX9_reckon_97 rfl rfl ?_
                          refine kj_iload (pc := 98) C 5 dX9_reckon_98 rfl ?_
                          refine kj_iload_n (pc := 100) C 3 dX9_reckon_100 rfl rfl ?_
                          refine kj_iload (pc := 101) C 8 dX9_reckon_101 rfl ?_
                          obtain ⟨q7, hq7, hf⟩ := kb_bd hf
                          refine kj_callV0 (pc := 103) (as := [.int x1, .int x5, .int x3, .int x8]) (rest := []) (b := (d 0)) C (ct_X9_isOver l V A x1 x5 x3 x8 d μ ex hq7) wd_X9_isOver wk_X9_223 wi_X9_isOver ws_X9_isOver wz_X9 rfl rfl hd_X9_isOver ⟨by decide, by decide⟩ 0 rfl rfl rfl rfl (Nat.le_of_ble_eq_true rfl) (by decide) dX9_reckon_103 ?_
                          refine kj_if_ne (pc := 106) 112 C dX9_reckon_106 (by decide) (fun c8 => ?_) (fun c8 => ?_)
                          · have hf := kb_ife hf c8
                            refine kj_iconst (pc := 112) (v := (1 : Int32)) C dX9_reckon_112 (by decide) ?_
                            refine kj_aload_n (pc := 113) C 0 dX9_reckon_113 rfl rfl ?_
                            refine kg_X9_words (pc := 114) C wf_X9_56 dX9_reckon_114 ?_
                            refine kj_iload (pc := 117) C 4 dX9_reckon_117 rfl ?_
                            refine kj_iconst (pc := 119) (v := (1 : Int32)) C dX9_reckon_119 (by decide) ?_
                            refine kj_iadd (pc := 120) C dX9_reckon_120 ?_
                            refine kj_iload (pc := 121) C 5 dX9_reckon_121 rfl ?_
                            refine kj_iload (pc := 123) C 8 dX9_reckon_123 rfl ?_
                            refine kj_callS0 (pc := 125) (as := [.int (x4 + (1 : Int32)), .int x5, .int x8]) (rest := [.ref (d 16), .int (1 : Int32)]) C (ct_X9_at l V A (x4 + (1 : Int32)) x5 x8 (kb_WM V d μ ex) rfl) wd_X9_at wk_X9_221 wi_X9_at wz_X9 rfl rfl hd_X9_at ⟨by decide, by decide⟩ rfl (Nat.le_of_ble_eq_true rfl) (by decide) dX9_reckon_125 ?_
                            obtain ⟨g9, hf⟩ := kb_gd hf
                            refine ka_X9_words (pc := 128) (v := (kb_a μ 15 (fn_X9_at (x4 + (1 : Int32)) x5 x8).toNatClampNeg)) C g9 dX9_reckon_128 rfl ?_
                            refine kj_iadd (pc := 129) C dX9_reckon_129 ?_
                            refine kj_istore (pc := 130) C [1, 2, 3, 4, 5, 6, 0, 7, 8] (L2 := [(0, .ref (d 0)), (1, .int x1), (2, .int x2), (3, .int x3), (4, .int x4), (5, .int x5), (6, .int ((1 : Int32) + (kb_a μ 15 (fn_X9_at (x4 + (1 : Int32)) x5 x8).toNatClampNeg))), (7, .int x7), (8, .int x8)]) dX9_reckon_130 (by decide) rfl ?_
                            refine kj_iload (pc := 132) C 8 dX9_reckon_132 rfl ?_
                            refine kj_istore (pc := 134) C [1, 2, 3, 4, 5, 6, 7, 0, 8] (L2 := [(0, .ref (d 0)), (1, .int x1), (2, .int x2), (3, .int x3), (4, .int x4), (5, .int x5), (6, .int ((1 : Int32) + (kb_a μ 15 (fn_X9_at (x4 + (1 : Int32)) x5 x8).toNatClampNeg))), (7, .int x8), (8, .int x8)]) dX9_reckon_134 (by decide) rfl ?_
                            exact hp136 x1 x2 x3 x4 x5 ((1 : Int32) + (kb_a μ 15 (fn_X9_at (x4 + (1 : Int32)) x5 x8).toNatClampNeg)) x8 x8 μ hf
                          · have hf := kb_ift hf c8
                            refine kj_goto (pc := 109) 136 C dX9_reckon_109 (by decide) ?_
                            exact hp136 x1 x2 x3 x4 x5 x6 x7 x8 μ hf
              have hp44 : ∀ (x1 : Int32) (x2 : Int32) (x3 : Int32) (x4 : Int32) (x5 : Int32) (y0 : Int32) (μ : kb_S), fp_X9_reckon_44  (fp_X9_reckon_9   nn9) (fp_X9_reckon_17  (fp_X9_reckon_9   nn9) nn17) (fp_X9_reckon_25  (fp_X9_reckon_9   nn9) (fp_X9_reckon_17  (fp_X9_reckon_9   nn9) nn17) nn25) x1 x2 x3 x4 x5 y0 μ = some μ9 → kb_J p l e ({ frames := 1, cells := 0, slots := 0, locals := 25 } : Room) s m args below meth c 10 V A 0 0 (MQ below (kb_post V A none (kb_WM V d μ9 ex)) args s 0 0 A) 44 [(0, .ref (d 0)), (1, .int x1), (2, .int x2), (3, .int x3), (4, .int x4), (5, .int x5)] [.int y0] (kb_WM V d μ ex) := by
                intro x1 x2 x3 x4 x5 y0 μ hf
                rw [fp_X9_reckon_44_e] at hf
                refine kj_istore (pc := 44) C [1, 2, 3, 4, 5, 6, 0] (L2 := [(0, .ref (d 0)), (1, .int x1), (2, .int x2), (3, .int x3), (4, .int x4), (5, .int x5), (6, .int y0)]) dX9_reckon_44 (by decide) rfl ?_
                refine kj_iconst (pc := 46) (v := (0 : Int32)) C dX9_reckon_46 (by decide) ?_
                refine kj_istore (pc := 47) C [1, 2, 3, 4, 5, 6, 7, 0] (L2 := [(0, .ref (d 0)), (1, .int x1), (2, .int x2), (3, .int x3), (4, .int x4), (5, .int x5), (6, .int y0), (7, .int (0 : Int32))]) dX9_reckon_47 (by decide) rfl ?_
                refine kj_iconst (pc := 49) (v := (1 : Int32)) C dX9_reckon_49 (by decide) ?_
                refine kj_istore (pc := 50) C [1, 2, 3, 4, 5, 6, 7, 8, 0] (L2 := [(0, .ref (d 0)), (1, .int x1), (2, .int x2), (3, .int x3), (4, .int x4), (5, .int x5), (6, .int y0), (7, .int (0 : Int32)), (8, .int (1 : Int32))]) dX9_reckon_50 (by decide) rfl ?_
                exact hp52 kb_FU x1 x2 x3 x4 x5 y0 (0 : Int32) (1 : Int32) μ hf
              intro x1 x2 x3 x4 x5 μ hf
              rw [fp_X9_reckon_25_s] at hf
              refine kj_iload (pc := 25) C 5 dX9_reckon_25 rfl ?_
              refine kj_iload_n (pc := 27) C 3 dX9_reckon_27 rfl rfl ?_
              refine kj_iadd (pc := 28) C dX9_reckon_28 ?_
              refine kj_iload_n (pc := 29) C 2 dX9_reckon_29 rfl rfl ?_
              refine kj_icmp_gt (pc := 30) 248 C dX9_reckon_30 (by decide) (fun c1 => ?_) (fun c1 => ?_)
              · have hf := kb_ift hf c1
                refine kj_iinc (pc := 248) C 4 [1, 2, 3, 4, 0, 5] (L2 := [(0, .ref (d 0)), (1, .int x1), (2, .int x2), (3, .int x3), (4, .int (x4 + (-1 : Int32))), (5, .int x5)]) dX9_reckon_248 rfl rfl (by decide) rfl ?_
                refine kj_goto (pc := 251) 17 C dX9_reckon_251 (by decide) ?_
                refine kj_sub [0, 1, 2, 3, 4] (L2 := [(0, .ref (d 0)), (1, .int x1), (2, .int x2), (3, .int x3), (4, .int (x4 + (-1 : Int32)))]) rfl ?_
                exact ih17 x1 x2 x3 (x4 + (-1 : Int32)) μ hf
              · have hf := kb_ife hf c1
                refine kj_iload_n (pc := 33) C 3 dX9_reckon_33 rfl rfl ?_
                refine kj_iconst (pc := 34) (v := (1 : Int32)) C dX9_reckon_34 (by decide) ?_
                refine kj_icmp_ne (pc := 35) 42 C dX9_reckon_35 (by decide) (fun c2 => ?_) (fun c2 => ?_)
                · have hf := kb_ife hf c2
                  refine kj_ldc (pc := 42) (v := (1000000 : Int32)) C dX9_reckon_42 wc_X9_220 ?_
                  exact hp44 x1 x2 x3 x4 x5 (1000000 : Int32) μ hf
                · have hf := kb_ift hf c2
                  refine kj_iconst (pc := 38) (v := (1 : Int32)) C dX9_reckon_38 (by decide) ?_
                  refine kj_goto (pc := 39) 44 C dX9_reckon_39 (by decide) ?_
                  exact hp44 x1 x2 x3 x4 x5 (1 : Int32) μ hf
          intro x1 x2 x3 x4 μ hf
          rw [fp_X9_reckon_17_s] at hf
          refine kj_iload (pc := 17) C 4 dX9_reckon_17 rfl ?_
          refine kj_if_lt (pc := 19) 254 C dX9_reckon_19 (by decide) (fun c1 => ?_) (fun c1 => ?_)
          · have hf := kb_ift hf c1
            refine kj_iinc (pc := 254) C 3 [1, 2, 3, 0, 4] (L2 := [(0, .ref (d 0)), (1, .int x1), (2, .int x2), (3, .int (x3 + (1 : Int32))), (4, .int x4)]) dX9_reckon_254 rfl rfl (by decide) rfl ?_
            refine kj_goto (pc := 257) 9 C dX9_reckon_257 (by decide) ?_
            refine kj_sub [0, 1, 2, 3] (L2 := [(0, .ref (d 0)), (1, .int x1), (2, .int x2), (3, .int (x3 + (1 : Int32)))]) rfl ?_
            exact ih9 x1 x2 (x3 + (1 : Int32)) μ hf
          · have hf := kb_ife hf c1
            refine kj_iconst (pc := 22) (v := (0 : Int32)) C dX9_reckon_22 (by decide) ?_
            refine kj_istore (pc := 23) C [1, 2, 3, 4, 5, 0] (L2 := [(0, .ref (d 0)), (1, .int x1), (2, .int x2), (3, .int x3), (4, .int x4), (5, .int (0 : Int32))]) dX9_reckon_23 (by decide) rfl ?_
            exact hp25 kb_FU x1 x2 x3 x4 (0 : Int32) μ hf
      intro x1 x2 x3 μ hf
      rw [fp_X9_reckon_9_s] at hf
      refine kj_iload_n (pc := 9) C 3 dX9_reckon_9 rfl rfl ?_
      refine kj_iload_n (pc := 10) C 2 dX9_reckon_10 rfl rfl ?_
      refine kj_icmp_gt (pc := 11) 260 C dX9_reckon_11 (by decide) (fun c1 => ?_) (fun c1 => ?_)
      · have hf := kb_ift hf c1
        cases hf
        exact kj_vret (pc := 260) C dX9_reckon_260
      · have hf := kb_ife hf c1
        refine kj_iconst (pc := 14) (v := (4 : Int32)) C dX9_reckon_14 (by decide) ?_
        refine kj_istore (pc := 15) C [1, 2, 3, 4, 0] (L2 := [(0, .ref (d 0)), (1, .int x1), (2, .int x2), (3, .int x3), (4, .int (4 : Int32))]) dX9_reckon_15 (by decide) rfl ?_
        exact hp17 kb_FU x1 x2 x3 (4 : Int32) μ hf
  refine kj_sub [0, 1] (L2 := [(0, .ref (d 0)), (1, .int x1)]) rfl ?_
  rw [fe_X9_reckon] at hf
  refine kj_aload_n (pc := 0) C 0 dX9_reckon_0 rfl rfl ?_
  refine kg_X9_many (pc := 1) C wf_X9_32 dX9_reckon_1 ?_
  refine kj_iload_n (pc := 4) C 1 dX9_reckon_4 rfl rfl ?_
  obtain ⟨g1, hf⟩ := kb_gd hf
  refine ka_X9_many (pc := 5) (v := (kb_a μ 7 x1.toNatClampNeg)) C g1 dX9_reckon_5 rfl ?_
  refine kj_istore_n (pc := 6) C [1, 2, 0] (L2 := [(0, .ref (d 0)), (1, .int x1), (2, .int (kb_a μ 7 x1.toNatClampNeg))]) dX9_reckon_6 rfl (by decide) rfl ?_
  refine kj_iconst (pc := 7) (v := (1 : Int32)) C dX9_reckon_7 (by decide) ?_
  refine kj_istore_n (pc := 8) C [1, 2, 3, 0] (L2 := [(0, .ref (d 0)), (1, .int x1), (2, .int (kb_a μ 7 x1.toNatClampNeg)), (3, .int (1 : Int32))]) dX9_reckon_8 rfl (by decide) rfl ?_
  exact hp9 kb_FU x1 (kb_a μ 7 x1.toNatClampNeg) (1 : Int32) μ hf
def fn_X9_put  (x1 : Int32) (μ : kb_S) : Option (kb_S) :=
  if kb_in (kb_g μ 11) 1200 = true then
    some (kb_p (kb_ap μ 14 (kb_g μ 11).toNatClampNeg x1) 11 ((kb_g μ 11) + (1 : Int32)))
  else none
theorem fe_X9_put  (x1 : Int32) (μ : kb_S) : fn_X9_put  x1 μ =
  if kb_in (kb_g μ 11) 1200 = true then
    some (kb_p (kb_ap μ 14 (kb_g μ 11).toNatClampNeg x1) 11 ((kb_g μ 11) + (1 : Int32)))
  else none := rfl
theorem hd_X9_put : yX9_put.cls = RX9 ∧ yX9_put.cls ≠ "java/lang/invoke/MethodHandle" ∧ yX9_put.cls ≠ "java/lang/invoke/VarHandle" ∧ (parseMethodDescriptor yX9_put.desc).map (fun d => d.parameters.length) = some 1 := by decide +kernel
set_option maxRecDepth 100000 in
set_option maxHeartbeats 4000000 in
theorem ct_X9_put (l : Launch) (V : kb_V) (A : Nat → Prop)  (x1 : Int32) (d : Nat → Nat) (μ : kb_S) (ex : va_W) {μ9 : kb_S} (hf : fn_X9_put  x1 μ = some μ9) : kb_T l yX9_put cX9_put 2 none ({ frames := 0, cells := 0, slots := 0, locals := 0 } : Room) V A [.ref (d 0), .int x1] (kb_WM V d μ ex) none (kb_WM V d μ9 ex) 0 0 := by
  refine kb_start (cc := cX9_put) (nL := 2) (ret := none) (own := RX9) (by decide) rfl (Nat.le_of_ble_eq_true rfl) ?_
  intro p e s m args below meth c C
  refine kj_sub [0, 1] (L2 := [(0, .ref (d 0)), (1, .int x1)]) rfl ?_
  rw [fe_X9_put] at hf
  refine kj_aload_n (pc := 0) C 0 dX9_put_0 rfl rfl ?_
  refine kg_X9_out (pc := 1) C wf_X9_53 dX9_put_1 ?_
  refine kj_aload_n (pc := 4) C 0 dX9_put_4 rfl rfl ?_
  refine kg_X9_written (pc := 5) (v := (kb_g μ 11)) C wf_X9_89 dX9_put_5 rfl ?_
  refine kj_iload_n (pc := 8) C 1 dX9_put_8 rfl rfl ?_
  obtain ⟨g1, hf⟩ := kb_gd hf
  refine ks_X9_out (pc := 9) C g1 dX9_put_9 ?_
  refine kj_aload_n (pc := 10) C 0 dX9_put_10 rfl rfl ?_
  refine kj_dup (pc := 11) C dX9_put_11 rfl ?_
  refine kg_X9_written (pc := 12) (v := (kb_g μ 11)) C wf_X9_89 dX9_put_12 rfl ?_
  refine kj_iconst (pc := 15) (v := (1 : Int32)) C dX9_put_15 (by decide) ?_
  refine kj_iadd (pc := 16) C dX9_put_16 ?_
  refine kp_X9_written (pc := 17) C wf_X9_89 dX9_put_17 ?_
  cases hf
  exact kj_vret (pc := 20) C dX9_put_20
def fp_X9_spell_31  (kc3 : Int64 → Int32 → kb_S → Option (kb_S)) (x1 : Int64) (x3 : Int32) (μ : kb_S) : Option (kb_S) :=
  kc3 x1 (x3 + (-8 : Int32)) μ
theorem fp_X9_spell_31_e  (kc3 : Int64 → Int32 → kb_S → Option (kb_S)) (x1 : Int64) (x3 : Int32) (μ : kb_S) : fp_X9_spell_31 kc3 x1 x3 μ =
  kc3 x1 (x3 + (-8 : Int32)) μ := rfl
def fp_X9_spell_3   : Nat → Int64 → Int32 → kb_S → Option (kb_S)
  | 0 => fun _ _ _ => none
  | nn + 1 => fun x1 x3 μ => 
  if x3 < 0 then
    some μ
  else
    if (lg_cmp (((x1.toUInt64 >>> (x3.toInt64.toUInt64 &&& Int64.toUInt64 63)).toInt64) &&& (255 : Int64)) (0 : Int64)) = 0 then
      fp_X9_spell_31  (fp_X9_spell_3  nn) x1 x3 μ
    else
      (fn_X9_put ((((x1.toUInt64 >>> (x3.toInt64.toUInt64 &&& Int64.toUInt64 63)).toInt64) &&& (255 : Int64)).toInt32) μ).bind fun q3 =>
      fp_X9_spell_31  (fp_X9_spell_3  nn) x1 x3 q3
theorem fp_X9_spell_3_s   (nn : Nat) (x1 : Int64) (x3 : Int32) (μ : kb_S) : fp_X9_spell_3  (nn + 1) x1 x3 μ =
  if x3 < 0 then
    some μ
  else
    if (lg_cmp (((x1.toUInt64 >>> (x3.toInt64.toUInt64 &&& Int64.toUInt64 63)).toInt64) &&& (255 : Int64)) (0 : Int64)) = 0 then
      fp_X9_spell_31  (fp_X9_spell_3  nn) x1 x3 μ
    else
      (fn_X9_put ((((x1.toUInt64 >>> (x3.toInt64.toUInt64 &&& Int64.toUInt64 63)).toInt64) &&& (255 : Int64)).toInt32) μ).bind fun q3 =>
      fp_X9_spell_31  (fp_X9_spell_3  nn) x1 x3 q3 := rfl
def fn_X9_spell  (x1 : Int64) (μ : kb_S) : Option (kb_S) :=
  fp_X9_spell_3   kb_FU x1 (56 : Int32) μ
theorem fe_X9_spell  (x1 : Int64) (μ : kb_S) : fn_X9_spell  x1 μ =
  fp_X9_spell_3   kb_FU x1 (56 : Int32) μ := rfl
theorem hd_X9_spell : yX9_spell.cls = RX9 ∧ yX9_spell.cls ≠ "java/lang/invoke/MethodHandle" ∧ yX9_spell.cls ≠ "java/lang/invoke/VarHandle" ∧ (parseMethodDescriptor yX9_spell.desc).map (fun d => d.parameters.length) = some 1 := by decide +kernel
set_option maxRecDepth 100000 in
set_option maxHeartbeats 4000000 in
theorem ct_X9_spell (l : Launch) (V : kb_V) (A : Nat → Prop)  (x1 : Int64) (d : Nat → Nat) (μ : kb_S) (ex : va_W) {μ9 : kb_S} (hf : fn_X9_spell  x1 μ = some μ9) : kb_T l yX9_spell cX9_spell 4 none ({ frames := 1, cells := 0, slots := 0, locals := 21 } : Room) V A [.ref (d 0), .long x1] (kb_WM V d μ ex) none (kb_WM V d μ9 ex) 0 0 := by
  refine kb_start (cc := cX9_spell) (nL := 4) (ret := none) (own := RX9) (by decide) rfl (Nat.le_of_ble_eq_true rfl) ?_
  intro p e s m args below meth c C
  have hp3 : ∀ (nn : Nat) (x1 : Int64) (x3 : Int32) (μ : kb_S), fp_X9_spell_3   nn x1 x3 μ = some μ9 → kb_J p l e ({ frames := 1, cells := 0, slots := 0, locals := 21 } : Room) s m args below meth c 4 V A 0 0 (MQ below (kb_post V A none (kb_WM V d μ9 ex)) args s 0 0 A) 3 [(0, .ref (d 0)), (1, .long x1), (3, .int x3)] [] (kb_WM V d μ ex) := by
    intro nn3
    induction nn3 with
    | zero => intro x1 x3 μ hf; exact kb_no hf
    | succ nn3 ih3 =>
      have hp31 : ∀ (x1 : Int64) (x3 : Int32) (μ : kb_S), fp_X9_spell_31  (fp_X9_spell_3   nn3) x1 x3 μ = some μ9 → kb_J p l e ({ frames := 1, cells := 0, slots := 0, locals := 21 } : Room) s m args below meth c 4 V A 0 0 (MQ below (kb_post V A none (kb_WM V d μ9 ex)) args s 0 0 A) 31 [(0, .ref (d 0)), (1, .long x1), (3, .int x3)] [] (kb_WM V d μ ex) := by
        intro x1 x3 μ hf
        rw [fp_X9_spell_31_e] at hf
        refine kj_iinc (pc := 31) C 2 [1, 2, 0] (L2 := [(0, .ref (d 0)), (1, .long x1), (3, .int (x3 + (-8 : Int32)))]) dX9_spell_31 rfl rfl (by decide) rfl ?_
        refine kj_goto (pc := 34) 3 C dX9_spell_34 (by decide) ?_
        exact ih3 x1 (x3 + (-8 : Int32)) μ hf
      intro x1 x3 μ hf
      rw [fp_X9_spell_3_s] at hf
      refine kj_iload_n (pc := 3) C 2 dX9_spell_3 rfl rfl ?_
      refine kj_if_lt (pc := 4) 37 C dX9_spell_4 (by decide) (fun c1 => ?_) (fun c1 => ?_)
      · have hf := kb_ift hf c1
        cases hf
        exact kj_vret (pc := 37) C dX9_spell_37
      · have hf := kb_ife hf c1
        refine kj_lload_n (pc := 7) C 1 dX9_spell_7 rfl rfl ?_
        refine kj_iload_n (pc := 8) C 2 dX9_spell_8 rfl rfl ?_
        refine kj_lushr (pc := 9) C dX9_spell_9 ?_
        refine kj_ldc2 (pc := 10) (v := (255 : Int64)) C dX9_spell_10 wl_X9_227 ?_
        refine kj_land (pc := 13) C dX9_spell_13 ?_
        refine kj_lconst (pc := 14) (v := (0 : Int64)) C dX9_spell_14 (by decide) ?_
        refine kj_lcmp (pc := 15) C dX9_spell_15 ?_
        refine kj_if_eq (pc := 16) 31 C dX9_spell_16 (by decide) (fun c2 => ?_) (fun c2 => ?_)
        · have hf := kb_ift hf c2
          exact hp31 x1 x3 μ hf
        · have hf := kb_ife hf c2
          refine kj_aload_n (pc := 19) C 0 dX9_spell_19 rfl rfl ?_
          refine kj_lload_n (pc := 20) C 1 dX9_spell_20 rfl rfl ?_
          refine kj_iload_n (pc := 21) C 2 dX9_spell_21 rfl rfl ?_
          refine kj_lushr (pc := 22) C dX9_spell_22 ?_
          refine kj_ldc2 (pc := 23) (v := (255 : Int64)) C dX9_spell_23 wl_X9_227 ?_
          refine kj_land (pc := 26) C dX9_spell_26 ?_
          refine kj_l2i (pc := 27) C dX9_spell_27 ?_
          obtain ⟨q3, hq3, hf⟩ := kb_bd hf
          refine kj_callV0 (pc := 28) (as := [.int ((((x1.toUInt64 >>> (x3.toInt64.toUInt64 &&& Int64.toUInt64 63)).toInt64) &&& (255 : Int64)).toInt32)]) (rest := []) (b := (d 0)) C (ct_X9_put l V A ((((x1.toUInt64 >>> (x3.toInt64.toUInt64 &&& Int64.toUInt64 63)).toInt64) &&& (255 : Int64)).toInt32) d μ ex hq3) wd_X9_put wk_X9_229 wi_X9_put ws_X9_put wz_X9 rfl rfl hd_X9_put ⟨by decide, by decide⟩ 0 rfl rfl rfl rfl (Nat.le_of_ble_eq_true rfl) (by decide) dX9_spell_28 ?_
          exact hp31 x1 x3 q3 hf
  refine kj_sub [0, 1] (L2 := [(0, .ref (d 0)), (1, .long x1)]) rfl ?_
  rw [fe_X9_spell] at hf
  refine kj_bipush (pc := 0) (v := (56 : Int32)) C dX9_spell_0 (by decide) ?_
  refine kj_istore_n (pc := 2) C [1, 2, 0] (L2 := [(0, .ref (d 0)), (1, .long x1), (3, .int (56 : Int32))]) dX9_spell_2 rfl (by decide) rfl ?_
  exact hp3 kb_FU x1 (56 : Int32) μ hf
def fp_X9_name_217   (y0 : Int32) (μ : kb_S) : Option (kb_S) :=
  (fn_X9_put y0 μ).bind fun q1 =>
  some q1
theorem fp_X9_name_217_e   (y0 : Int32) (μ : kb_S) : fp_X9_name_217  y0 μ =
  (fn_X9_put y0 μ).bind fun q1 =>
  some q1 := rfl
def fp_X9_name_12   (x1 : Int32) (y0 : Int32) (μ : kb_S) : Option (kb_S) :=
  if y0 = (0 : Int32) then
    (fn_X9_spell (107 : Int64) μ).bind fun q2 =>
    some q2
  else if y0 = (1 : Int32) then
    (fn_X9_spell (112 : Int64) μ).bind fun q2 =>
    some q2
  else if y0 = (2 : Int32) then
    (fn_X9_spell (29548 : Int64) μ).bind fun q2 =>
    some q2
  else if y0 = (3 : Int32) then
    (fn_X9_spell (460407992167 : Int64) μ).bind fun q2 =>
    some q2
  else if y0 = (4 : Int32) then
    (fn_X9_spell (7566187 : Int64) μ).bind fun q2 =>
    some q2
  else if y0 = (5 : Int32) then
    (fn_X9_spell (460424769383 : Int64) μ).bind fun q2 =>
    some q2
  else if y0 = (6 : Int32) then
    (fn_X9_spell (7038562 : Int64) μ).bind fun q2 =>
    some q2
  else if y0 = (7 : Int32) then
    (fn_X9_spell (31087 : Int64) μ).bind fun q2 =>
    some q2
  else if y0 = (8 : Int32) then
    (fn_X9_spell (1651076708 : Int64) μ).bind fun q2 =>
    some q2
  else if y0 = (9 : Int32) then
    (fn_X9_spell (426836718641 : Int64) μ).bind fun q2 =>
    some q2
  else
    (fn_X9_put (99 : Int32) μ).bind fun q2 =>
    (fn_X9_put ((48 : Int32) + (fn_X9_a x1)) q2).bind fun q3 =>
    (fn_X9_put (47 : Int32) q3).bind fun q4 =>
    (fn_X9_put ((48 : Int32) + (fn_X9_b x1)) q4).bind fun q5 =>
    if (x1 - x1 / (10 : Int32) * (10 : Int32)) = 0 then
      fp_X9_name_217   (102 : Int32) q5
    else
      fp_X9_name_217   (98 : Int32) q5
theorem fp_X9_name_12_e   (x1 : Int32) (y0 : Int32) (μ : kb_S) : fp_X9_name_12  x1 y0 μ =
  if y0 = (0 : Int32) then
    (fn_X9_spell (107 : Int64) μ).bind fun q2 =>
    some q2
  else if y0 = (1 : Int32) then
    (fn_X9_spell (112 : Int64) μ).bind fun q2 =>
    some q2
  else if y0 = (2 : Int32) then
    (fn_X9_spell (29548 : Int64) μ).bind fun q2 =>
    some q2
  else if y0 = (3 : Int32) then
    (fn_X9_spell (460407992167 : Int64) μ).bind fun q2 =>
    some q2
  else if y0 = (4 : Int32) then
    (fn_X9_spell (7566187 : Int64) μ).bind fun q2 =>
    some q2
  else if y0 = (5 : Int32) then
    (fn_X9_spell (460424769383 : Int64) μ).bind fun q2 =>
    some q2
  else if y0 = (6 : Int32) then
    (fn_X9_spell (7038562 : Int64) μ).bind fun q2 =>
    some q2
  else if y0 = (7 : Int32) then
    (fn_X9_spell (31087 : Int64) μ).bind fun q2 =>
    some q2
  else if y0 = (8 : Int32) then
    (fn_X9_spell (1651076708 : Int64) μ).bind fun q2 =>
    some q2
  else if y0 = (9 : Int32) then
    (fn_X9_spell (426836718641 : Int64) μ).bind fun q2 =>
    some q2
  else
    (fn_X9_put (99 : Int32) μ).bind fun q2 =>
    (fn_X9_put ((48 : Int32) + (fn_X9_a x1)) q2).bind fun q3 =>
    (fn_X9_put (47 : Int32) q3).bind fun q4 =>
    (fn_X9_put ((48 : Int32) + (fn_X9_b x1)) q4).bind fun q5 =>
    if (x1 - x1 / (10 : Int32) * (10 : Int32)) = 0 then
      fp_X9_name_217   (102 : Int32) q5
    else
      fp_X9_name_217   (98 : Int32) q5 := rfl
def fn_X9_name  (x1 : Int32) (μ : kb_S) : Option (kb_S) :=
  if (100 : Int32) ≤ x1 then
    fp_X9_name_12   x1 (10 : Int32) μ
  else
    fp_X9_name_12   x1 x1 μ
theorem fe_X9_name  (x1 : Int32) (μ : kb_S) : fn_X9_name  x1 μ =
  if (100 : Int32) ≤ x1 then
    fp_X9_name_12   x1 (10 : Int32) μ
  else
    fp_X9_name_12   x1 x1 μ := rfl
theorem hd_X9_name : yX9_name.cls = RX9 ∧ yX9_name.cls ≠ "java/lang/invoke/MethodHandle" ∧ yX9_name.cls ≠ "java/lang/invoke/VarHandle" ∧ (parseMethodDescriptor yX9_name.desc).map (fun d => d.parameters.length) = some 1 := by decide +kernel
set_option maxRecDepth 100000 in
set_option maxHeartbeats 4000000 in
theorem ct_X9_name (l : Launch) (V : kb_V) (A : Nat → Prop)  (x1 : Int32) (d : Nat → Nat) (μ : kb_S) (ex : va_W) {μ9 : kb_S} (hf : fn_X9_name  x1 μ = some μ9) : kb_T l yX9_name cX9_name 2 none ({ frames := 2, cells := 0, slots := 0, locals := 44 } : Room) V A [.ref (d 0), .int x1] (kb_WM V d μ ex) none (kb_WM V d μ9 ex) 0 0 := by
  refine kb_start (cc := cX9_name) (nL := 2) (ret := none) (own := RX9) (by decide) rfl (Nat.le_of_ble_eq_true rfl) ?_
  intro p e s m args below meth c C
  have hp217 : ∀ (y0 : Int32) (μ : kb_S), fp_X9_name_217   y0 μ = some μ9 → kb_J p l e ({ frames := 2, cells := 0, slots := 0, locals := 44 } : Room) s m args below meth c 2 V A 0 0 (MQ below (kb_post V A none (kb_WM V d μ9 ex)) args s 0 0 A) 217 [] [.int y0, .ref (d 0)] (kb_WM V d μ ex) := by
    intro y0 μ hf
    rw [fp_X9_name_217_e] at hf
    obtain ⟨q1, hq1, hf⟩ := kb_bd hf
    refine kj_callV0 (pc := 217) (as := [.int y0]) (rest := []) (b := (d 0)) C (ct_X9_put l V A y0 d μ ex hq1) wd_X9_put wk_X9_229 wi_X9_put ws_X9_put wz_X9 rfl rfl hd_X9_put ⟨by decide, by decide⟩ 0 rfl rfl rfl rfl (Nat.le_of_ble_eq_true rfl) (by decide) dX9_name_217 ?_
    cases hf
    exact kj_vret (pc := 220) C dX9_name_220
  have hp12 : ∀ (x1 : Int32) (y0 : Int32) (μ : kb_S), fp_X9_name_12   x1 y0 μ = some μ9 → kb_J p l e ({ frames := 2, cells := 0, slots := 0, locals := 44 } : Room) s m args below meth c 2 V A 0 0 (MQ below (kb_post V A none (kb_WM V d μ9 ex)) args s 0 0 A) 12 [(0, .ref (d 0)), (1, .int x1)] [.int y0] (kb_WM V d μ ex) := by
    intro x1 y0 μ hf
    rw [fp_X9_name_12_e] at hf
    by_cases c1_0 : y0 = (0 : Int32)
    · have hf := kb_ift hf c1_0
      refine kj_tabIn (pc := 12) 68 C dX9_name_12 (by rw [c1_0]; decide) (by rw [c1_0]; decide) (by rw [c1_0]; rfl) (by decide) ?_
      refine kj_aload_n (pc := 68) C 0 dX9_name_68 rfl rfl ?_
      refine kj_ldc2 (pc := 69) (v := (107 : Int64)) C dX9_name_69 wl_X9_232 ?_
      obtain ⟨q2, hq2, hf⟩ := kb_bd hf
      refine kj_callV0 (pc := 72) (as := [.long (107 : Int64)]) (rest := []) (b := (d 0)) C (ct_X9_spell l V A (107 : Int64) d μ ex hq2) wd_X9_spell wk_X9_234 wi_X9_spell ws_X9_spell wz_X9 rfl rfl hd_X9_spell ⟨by decide, by decide⟩ 0 rfl rfl rfl rfl (Nat.le_of_ble_eq_true rfl) (by decide) dX9_name_72 ?_
      refine kj_goto (pc := 75) 220 C dX9_name_75 (by decide) ?_
      cases hf
      exact kj_vret (pc := 220) C dX9_name_220
    have hf := kb_ife hf c1_0
    by_cases c1_1 : y0 = (1 : Int32)
    · have hf := kb_ift hf c1_1
      refine kj_tabIn (pc := 12) 78 C dX9_name_12 (by rw [c1_1]; decide) (by rw [c1_1]; decide) (by rw [c1_1]; rfl) (by decide) ?_
      refine kj_aload_n (pc := 78) C 0 dX9_name_78 rfl rfl ?_
      refine kj_ldc2 (pc := 79) (v := (112 : Int64)) C dX9_name_79 wl_X9_238 ?_
      obtain ⟨q2, hq2, hf⟩ := kb_bd hf
      refine kj_callV0 (pc := 82) (as := [.long (112 : Int64)]) (rest := []) (b := (d 0)) C (ct_X9_spell l V A (112 : Int64) d μ ex hq2) wd_X9_spell wk_X9_234 wi_X9_spell ws_X9_spell wz_X9 rfl rfl hd_X9_spell ⟨by decide, by decide⟩ 0 rfl rfl rfl rfl (Nat.le_of_ble_eq_true rfl) (by decide) dX9_name_82 ?_
      refine kj_goto (pc := 85) 220 C dX9_name_85 (by decide) ?_
      cases hf
      exact kj_vret (pc := 220) C dX9_name_220
    have hf := kb_ife hf c1_1
    by_cases c1_2 : y0 = (2 : Int32)
    · have hf := kb_ift hf c1_2
      refine kj_tabIn (pc := 12) 88 C dX9_name_12 (by rw [c1_2]; decide) (by rw [c1_2]; decide) (by rw [c1_2]; rfl) (by decide) ?_
      refine kj_aload_n (pc := 88) C 0 dX9_name_88 rfl rfl ?_
      refine kj_ldc2 (pc := 89) (v := (29548 : Int64)) C dX9_name_89 wl_X9_240 ?_
      obtain ⟨q2, hq2, hf⟩ := kb_bd hf
      refine kj_callV0 (pc := 92) (as := [.long (29548 : Int64)]) (rest := []) (b := (d 0)) C (ct_X9_spell l V A (29548 : Int64) d μ ex hq2) wd_X9_spell wk_X9_234 wi_X9_spell ws_X9_spell wz_X9 rfl rfl hd_X9_spell ⟨by decide, by decide⟩ 0 rfl rfl rfl rfl (Nat.le_of_ble_eq_true rfl) (by decide) dX9_name_92 ?_
      refine kj_goto (pc := 95) 220 C dX9_name_95 (by decide) ?_
      cases hf
      exact kj_vret (pc := 220) C dX9_name_220
    have hf := kb_ife hf c1_2
    by_cases c1_3 : y0 = (3 : Int32)
    · have hf := kb_ift hf c1_3
      refine kj_tabIn (pc := 12) 98 C dX9_name_12 (by rw [c1_3]; decide) (by rw [c1_3]; decide) (by rw [c1_3]; rfl) (by decide) ?_
      refine kj_aload_n (pc := 98) C 0 dX9_name_98 rfl rfl ?_
      refine kj_ldc2 (pc := 99) (v := (460407992167 : Int64)) C dX9_name_99 wl_X9_242 ?_
      obtain ⟨q2, hq2, hf⟩ := kb_bd hf
      refine kj_callV0 (pc := 102) (as := [.long (460407992167 : Int64)]) (rest := []) (b := (d 0)) C (ct_X9_spell l V A (460407992167 : Int64) d μ ex hq2) wd_X9_spell wk_X9_234 wi_X9_spell ws_X9_spell wz_X9 rfl rfl hd_X9_spell ⟨by decide, by decide⟩ 0 rfl rfl rfl rfl (Nat.le_of_ble_eq_true rfl) (by decide) dX9_name_102 ?_
      refine kj_goto (pc := 105) 220 C dX9_name_105 (by decide) ?_
      cases hf
      exact kj_vret (pc := 220) C dX9_name_220
    have hf := kb_ife hf c1_3
    by_cases c1_4 : y0 = (4 : Int32)
    · have hf := kb_ift hf c1_4
      refine kj_tabIn (pc := 12) 108 C dX9_name_12 (by rw [c1_4]; decide) (by rw [c1_4]; decide) (by rw [c1_4]; rfl) (by decide) ?_
      refine kj_aload_n (pc := 108) C 0 dX9_name_108 rfl rfl ?_
      refine kj_ldc2 (pc := 109) (v := (7566187 : Int64)) C dX9_name_109 wl_X9_244 ?_
      obtain ⟨q2, hq2, hf⟩ := kb_bd hf
      refine kj_callV0 (pc := 112) (as := [.long (7566187 : Int64)]) (rest := []) (b := (d 0)) C (ct_X9_spell l V A (7566187 : Int64) d μ ex hq2) wd_X9_spell wk_X9_234 wi_X9_spell ws_X9_spell wz_X9 rfl rfl hd_X9_spell ⟨by decide, by decide⟩ 0 rfl rfl rfl rfl (Nat.le_of_ble_eq_true rfl) (by decide) dX9_name_112 ?_
      refine kj_goto (pc := 115) 220 C dX9_name_115 (by decide) ?_
      cases hf
      exact kj_vret (pc := 220) C dX9_name_220
    have hf := kb_ife hf c1_4
    by_cases c1_5 : y0 = (5 : Int32)
    · have hf := kb_ift hf c1_5
      refine kj_tabIn (pc := 12) 118 C dX9_name_12 (by rw [c1_5]; decide) (by rw [c1_5]; decide) (by rw [c1_5]; rfl) (by decide) ?_
      refine kj_aload_n (pc := 118) C 0 dX9_name_118 rfl rfl ?_
      refine kj_ldc2 (pc := 119) (v := (460424769383 : Int64)) C dX9_name_119 wl_X9_246 ?_
      obtain ⟨q2, hq2, hf⟩ := kb_bd hf
      refine kj_callV0 (pc := 122) (as := [.long (460424769383 : Int64)]) (rest := []) (b := (d 0)) C (ct_X9_spell l V A (460424769383 : Int64) d μ ex hq2) wd_X9_spell wk_X9_234 wi_X9_spell ws_X9_spell wz_X9 rfl rfl hd_X9_spell ⟨by decide, by decide⟩ 0 rfl rfl rfl rfl (Nat.le_of_ble_eq_true rfl) (by decide) dX9_name_122 ?_
      refine kj_goto (pc := 125) 220 C dX9_name_125 (by decide) ?_
      cases hf
      exact kj_vret (pc := 220) C dX9_name_220
    have hf := kb_ife hf c1_5
    by_cases c1_6 : y0 = (6 : Int32)
    · have hf := kb_ift hf c1_6
      refine kj_tabIn (pc := 12) 128 C dX9_name_12 (by rw [c1_6]; decide) (by rw [c1_6]; decide) (by rw [c1_6]; rfl) (by decide) ?_
      refine kj_aload_n (pc := 128) C 0 dX9_name_128 rfl rfl ?_
      refine kj_ldc2 (pc := 129) (v := (7038562 : Int64)) C dX9_name_129 wl_X9_248 ?_
      obtain ⟨q2, hq2, hf⟩ := kb_bd hf
      refine kj_callV0 (pc := 132) (as := [.long (7038562 : Int64)]) (rest := []) (b := (d 0)) C (ct_X9_spell l V A (7038562 : Int64) d μ ex hq2) wd_X9_spell wk_X9_234 wi_X9_spell ws_X9_spell wz_X9 rfl rfl hd_X9_spell ⟨by decide, by decide⟩ 0 rfl rfl rfl rfl (Nat.le_of_ble_eq_true rfl) (by decide) dX9_name_132 ?_
      refine kj_goto (pc := 135) 220 C dX9_name_135 (by decide) ?_
      cases hf
      exact kj_vret (pc := 220) C dX9_name_220
    have hf := kb_ife hf c1_6
    by_cases c1_7 : y0 = (7 : Int32)
    · have hf := kb_ift hf c1_7
      refine kj_tabIn (pc := 12) 138 C dX9_name_12 (by rw [c1_7]; decide) (by rw [c1_7]; decide) (by rw [c1_7]; rfl) (by decide) ?_
      refine kj_aload_n (pc := 138) C 0 dX9_name_138 rfl rfl ?_
      refine kj_ldc2 (pc := 139) (v := (31087 : Int64)) C dX9_name_139 wl_X9_250 ?_
      obtain ⟨q2, hq2, hf⟩ := kb_bd hf
      refine kj_callV0 (pc := 142) (as := [.long (31087 : Int64)]) (rest := []) (b := (d 0)) C (ct_X9_spell l V A (31087 : Int64) d μ ex hq2) wd_X9_spell wk_X9_234 wi_X9_spell ws_X9_spell wz_X9 rfl rfl hd_X9_spell ⟨by decide, by decide⟩ 0 rfl rfl rfl rfl (Nat.le_of_ble_eq_true rfl) (by decide) dX9_name_142 ?_
      refine kj_goto (pc := 145) 220 C dX9_name_145 (by decide) ?_
      cases hf
      exact kj_vret (pc := 220) C dX9_name_220
    have hf := kb_ife hf c1_7
    by_cases c1_8 : y0 = (8 : Int32)
    · have hf := kb_ift hf c1_8
      refine kj_tabIn (pc := 12) 148 C dX9_name_12 (by rw [c1_8]; decide) (by rw [c1_8]; decide) (by rw [c1_8]; rfl) (by decide) ?_
      refine kj_aload_n (pc := 148) C 0 dX9_name_148 rfl rfl ?_
      refine kj_ldc2 (pc := 149) (v := (1651076708 : Int64)) C dX9_name_149 wl_X9_252 ?_
      obtain ⟨q2, hq2, hf⟩ := kb_bd hf
      refine kj_callV0 (pc := 152) (as := [.long (1651076708 : Int64)]) (rest := []) (b := (d 0)) C (ct_X9_spell l V A (1651076708 : Int64) d μ ex hq2) wd_X9_spell wk_X9_234 wi_X9_spell ws_X9_spell wz_X9 rfl rfl hd_X9_spell ⟨by decide, by decide⟩ 0 rfl rfl rfl rfl (Nat.le_of_ble_eq_true rfl) (by decide) dX9_name_152 ?_
      refine kj_goto (pc := 155) 220 C dX9_name_155 (by decide) ?_
      cases hf
      exact kj_vret (pc := 220) C dX9_name_220
    have hf := kb_ife hf c1_8
    by_cases c1_9 : y0 = (9 : Int32)
    · have hf := kb_ift hf c1_9
      refine kj_tabIn (pc := 12) 158 C dX9_name_12 (by rw [c1_9]; decide) (by rw [c1_9]; decide) (by rw [c1_9]; rfl) (by decide) ?_
      refine kj_aload_n (pc := 158) C 0 dX9_name_158 rfl rfl ?_
      refine kj_ldc2 (pc := 159) (v := (426836718641 : Int64)) C dX9_name_159 wl_X9_254 ?_
      obtain ⟨q2, hq2, hf⟩ := kb_bd hf
      refine kj_callV0 (pc := 162) (as := [.long (426836718641 : Int64)]) (rest := []) (b := (d 0)) C (ct_X9_spell l V A (426836718641 : Int64) d μ ex hq2) wd_X9_spell wk_X9_234 wi_X9_spell ws_X9_spell wz_X9 rfl rfl hd_X9_spell ⟨by decide, by decide⟩ 0 rfl rfl rfl rfl (Nat.le_of_ble_eq_true rfl) (by decide) dX9_name_162 ?_
      refine kj_goto (pc := 165) 220 C dX9_name_165 (by decide) ?_
      cases hf
      exact kj_vret (pc := 220) C dX9_name_220
    have hf := kb_ife hf c1_9
    refine kj_tabOut (pc := 12) 168 C dX9_name_12 (kb_out (fun z h1 h2 => by
      have hz : z = 0 ∨ z = 1 ∨ z = 2 ∨ z = 3 ∨ z = 4 ∨ z = 5 ∨ z = 6 ∨ z = 7 ∨ z = 8 ∨ z = 9 := by omega
      rcases hz with rfl | rfl | rfl | rfl | rfl | rfl | rfl | rfl | rfl | rfl
      · exact c1_0
      · exact c1_1
      · exact c1_2
      · exact c1_3
      · exact c1_4
      · exact c1_5
      · exact c1_6
      · exact c1_7
      · exact c1_8
      · exact c1_9)) (by decide) ?_
    refine kj_aload_n (pc := 168) C 0 dX9_name_168 rfl rfl ?_
    refine kj_bipush (pc := 169) (v := (99 : Int32)) C dX9_name_169 (by decide) ?_
    obtain ⟨q2, hq2, hf⟩ := kb_bd hf
    refine kj_callV0 (pc := 171) (as := [.int (99 : Int32)]) (rest := []) (b := (d 0)) C (ct_X9_put l V A (99 : Int32) d μ ex hq2) wd_X9_put wk_X9_229 wi_X9_put ws_X9_put wz_X9 rfl rfl hd_X9_put ⟨by decide, by decide⟩ 0 rfl rfl rfl rfl (Nat.le_of_ble_eq_true rfl) (by decide) dX9_name_171 ?_
    refine kj_aload_n (pc := 174) C 0 dX9_name_174 rfl rfl ?_
    refine kj_bipush (pc := 175) (v := (48 : Int32)) C dX9_name_175 (by decide) ?_
    refine kj_iload_n (pc := 177) C 1 dX9_name_177 rfl rfl ?_
    refine kj_callS0 (pc := 178) (as := [.int x1]) (rest := [.int (48 : Int32), .ref (d 0)]) C (ct_X9_a l V A x1 (kb_WM V d q2 ex) rfl) wd_X9_a wk_X9_176 wi_X9_a wz_X9 rfl rfl hd_X9_a ⟨by decide, by decide⟩ rfl (Nat.le_of_ble_eq_true rfl) (by decide) dX9_name_178 ?_
    refine kj_iadd (pc := 181) C dX9_name_181 ?_
    obtain ⟨q3, hq3, hf⟩ := kb_bd hf
    refine kj_callV0 (pc := 182) (as := [.int ((48 : Int32) + (fn_X9_a x1))]) (rest := []) (b := (d 0)) C (ct_X9_put l V A ((48 : Int32) + (fn_X9_a x1)) d q2 ex hq3) wd_X9_put wk_X9_229 wi_X9_put ws_X9_put wz_X9 rfl rfl hd_X9_put ⟨by decide, by decide⟩ 0 rfl rfl rfl rfl (Nat.le_of_ble_eq_true rfl) (by decide) dX9_name_182 ?_
    refine kj_aload_n (pc := 185) C 0 dX9_name_185 rfl rfl ?_
    refine kj_bipush (pc := 186) (v := (47 : Int32)) C dX9_name_186 (by decide) ?_
    obtain ⟨q4, hq4, hf⟩ := kb_bd hf
    refine kj_callV0 (pc := 188) (as := [.int (47 : Int32)]) (rest := []) (b := (d 0)) C (ct_X9_put l V A (47 : Int32) d q3 ex hq4) wd_X9_put wk_X9_229 wi_X9_put ws_X9_put wz_X9 rfl rfl hd_X9_put ⟨by decide, by decide⟩ 0 rfl rfl rfl rfl (Nat.le_of_ble_eq_true rfl) (by decide) dX9_name_188 ?_
    refine kj_aload_n (pc := 191) C 0 dX9_name_191 rfl rfl ?_
    refine kj_bipush (pc := 192) (v := (48 : Int32)) C dX9_name_192 (by decide) ?_
    refine kj_iload_n (pc := 194) C 1 dX9_name_194 rfl rfl ?_
    refine kj_callS0 (pc := 195) (as := [.int x1]) (rest := [.int (48 : Int32), .ref (d 0)]) C (ct_X9_b l V A x1 (kb_WM V d q4 ex) rfl) wd_X9_b wk_X9_179 wi_X9_b wz_X9 rfl rfl hd_X9_b ⟨by decide, by decide⟩ rfl (Nat.le_of_ble_eq_true rfl) (by decide) dX9_name_195 ?_
    refine kj_iadd (pc := 198) C dX9_name_198 ?_
    obtain ⟨q5, hq5, hf⟩ := kb_bd hf
    refine kj_callV0 (pc := 199) (as := [.int ((48 : Int32) + (fn_X9_b x1))]) (rest := []) (b := (d 0)) C (ct_X9_put l V A ((48 : Int32) + (fn_X9_b x1)) d q4 ex hq5) wd_X9_put wk_X9_229 wi_X9_put ws_X9_put wz_X9 rfl rfl hd_X9_put ⟨by decide, by decide⟩ 0 rfl rfl rfl rfl (Nat.le_of_ble_eq_true rfl) (by decide) dX9_name_199 ?_
    refine kj_aload_n (pc := 202) C 0 dX9_name_202 rfl rfl ?_
    refine kj_iload_n (pc := 203) C 1 dX9_name_203 rfl rfl ?_
    refine kj_bipush (pc := 204) (v := (10 : Int32)) C dX9_name_204 (by decide) ?_
    refine kj_irem (pc := 206) C dX9_name_206 (by decide) ?_
    refine kj_if_ne (pc := 207) 215 C dX9_name_207 (by decide) (fun c6 => ?_) (fun c6 => ?_)
    · have hf := kb_ife hf c6
      refine kj_bipush (pc := 215) (v := (98 : Int32)) C dX9_name_215 (by decide) ?_
      refine kj_sub [] (L2 := []) rfl ?_
      exact hp217 (98 : Int32) q5 hf
    · have hf := kb_ift hf c6
      refine kj_bipush (pc := 210) (v := (102 : Int32)) C dX9_name_210 (by decide) ?_
      refine kj_goto (pc := 212) 217 C dX9_name_212 (by decide) ?_
      refine kj_sub [] (L2 := []) rfl ?_
      exact hp217 (102 : Int32) q5 hf
  refine kj_sub [0, 1] (L2 := [(0, .ref (d 0)), (1, .int x1)]) rfl ?_
  rw [fe_X9_name] at hf
  refine kj_iload_n (pc := 0) C 1 dX9_name_0 rfl rfl ?_
  refine kj_bipush (pc := 1) (v := (100 : Int32)) C dX9_name_1 (by decide) ?_
  refine kj_icmp_ge (pc := 3) 10 C dX9_name_3 (by decide) (fun c1 => ?_) (fun c1 => ?_)
  · have hf := kb_ift hf c1
    refine kj_bipush (pc := 10) (v := (10 : Int32)) C dX9_name_10 (by decide) ?_
    exact hp12 x1 (10 : Int32) μ hf
  · have hf := kb_ife hf c1
    refine kj_iload_n (pc := 6) C 1 dX9_name_6 rfl rfl ?_
    refine kj_goto (pc := 7) 12 C dX9_name_7 (by decide) ?_
    exact hp12 x1 x1 μ hf
def fn_X9_push  (x1 : Int32) (x2 : Int32) (x3 : Int32) (x4 : Int32) (μ : kb_S) : Option (kb_S × Int32) :=
  if kb_in ((3 : Int32) * x1) 800 = true then
    if kb_in (((3 : Int32) * x1) + (1 : Int32)) 800 = true then
      if kb_in (((3 : Int32) * x1) + (2 : Int32)) 800 = true then
        some ((kb_ap (kb_ap (kb_ap μ 19 ((3 : Int32) * x1).toNatClampNeg x2) 19 (((3 : Int32) * x1) + (1 : Int32)).toNatClampNeg x3) 19 (((3 : Int32) * x1) + (2 : Int32)).toNatClampNeg x4), (x1 + (1 : Int32)))
      else none
    else none
  else none
theorem fe_X9_push  (x1 : Int32) (x2 : Int32) (x3 : Int32) (x4 : Int32) (μ : kb_S) : fn_X9_push  x1 x2 x3 x4 μ =
  if kb_in ((3 : Int32) * x1) 800 = true then
    if kb_in (((3 : Int32) * x1) + (1 : Int32)) 800 = true then
      if kb_in (((3 : Int32) * x1) + (2 : Int32)) 800 = true then
        some ((kb_ap (kb_ap (kb_ap μ 19 ((3 : Int32) * x1).toNatClampNeg x2) 19 (((3 : Int32) * x1) + (1 : Int32)).toNatClampNeg x3) 19 (((3 : Int32) * x1) + (2 : Int32)).toNatClampNeg x4), (x1 + (1 : Int32)))
      else none
    else none
  else none := rfl
theorem hd_X9_push : yX9_push.cls = RX9 ∧ yX9_push.cls ≠ "java/lang/invoke/MethodHandle" ∧ yX9_push.cls ≠ "java/lang/invoke/VarHandle" ∧ (parseMethodDescriptor yX9_push.desc).map (fun d => d.parameters.length) = some 4 := by decide +kernel
set_option maxRecDepth 100000 in
set_option maxHeartbeats 4000000 in
theorem ct_X9_push (l : Launch) (V : kb_V) (A : Nat → Prop)  (x1 : Int32) (x2 : Int32) (x3 : Int32) (x4 : Int32) (d : Nat → Nat) (μ : kb_S) (ex : va_W) {μ9 : kb_S} {r : Int32} (hf : fn_X9_push  x1 x2 x3 x4 μ = some (μ9, r)) : kb_T l yX9_push cX9_push 5 (some .int) ({ frames := 0, cells := 0, slots := 0, locals := 0 } : Room) V A [.ref (d 0), .int x1, .int x2, .int x3, .int x4] (kb_WM V d μ ex) (some (.int r)) (kb_WM V d μ9 ex) 0 0 := by
  refine kb_start (cc := cX9_push) (nL := 5) (ret := (some .int)) (own := RX9) (by decide) rfl (Nat.le_of_ble_eq_true rfl) ?_
  intro p e s m args below meth c C
  refine kj_sub [0, 1, 2, 3, 4] (L2 := [(0, .ref (d 0)), (1, .int x1), (2, .int x2), (3, .int x3), (4, .int x4)]) rfl ?_
  rw [fe_X9_push] at hf
  refine kj_aload_n (pc := 0) C 0 dX9_push_0 rfl rfl ?_
  refine kg_X9_task (pc := 1) C wf_X9_68 dX9_push_1 ?_
  refine kj_iconst (pc := 4) (v := (3 : Int32)) C dX9_push_4 (by decide) ?_
  refine kj_iload_n (pc := 5) C 1 dX9_push_5 rfl rfl ?_
  refine kj_imul (pc := 6) C dX9_push_6 ?_
  refine kj_iload_n (pc := 7) C 2 dX9_push_7 rfl rfl ?_
  obtain ⟨g1, hf⟩ := kb_gd hf
  refine ks_X9_task (pc := 8) C g1 dX9_push_8 ?_
  refine kj_aload_n (pc := 9) C 0 dX9_push_9 rfl rfl ?_
  refine kg_X9_task (pc := 10) C wf_X9_68 dX9_push_10 ?_
  refine kj_iconst (pc := 13) (v := (3 : Int32)) C dX9_push_13 (by decide) ?_
  refine kj_iload_n (pc := 14) C 1 dX9_push_14 rfl rfl ?_
  refine kj_imul (pc := 15) C dX9_push_15 ?_
  refine kj_iconst (pc := 16) (v := (1 : Int32)) C dX9_push_16 (by decide) ?_
  refine kj_iadd (pc := 17) C dX9_push_17 ?_
  refine kj_iload_n (pc := 18) C 3 dX9_push_18 rfl rfl ?_
  obtain ⟨g2, hf⟩ := kb_gd hf
  refine ks_X9_task (pc := 19) C g2 dX9_push_19 ?_
  refine kj_aload_n (pc := 20) C 0 dX9_push_20 rfl rfl ?_
  refine kg_X9_task (pc := 21) C wf_X9_68 dX9_push_21 ?_
  refine kj_iconst (pc := 24) (v := (3 : Int32)) C dX9_push_24 (by decide) ?_
  refine kj_iload_n (pc := 25) C 1 dX9_push_25 rfl rfl ?_
  refine kj_imul (pc := 26) C dX9_push_26 ?_
  refine kj_iconst (pc := 27) (v := (2 : Int32)) C dX9_push_27 (by decide) ?_
  refine kj_iadd (pc := 28) C dX9_push_28 ?_
  refine kj_iload (pc := 29) C 4 dX9_push_29 rfl ?_
  obtain ⟨g3, hf⟩ := kb_gd hf
  refine ks_X9_task (pc := 31) C g3 dX9_push_31 ?_
  refine kj_iload_n (pc := 32) C 1 dX9_push_32 rfl rfl ?_
  refine kj_iconst (pc := 33) (v := (1 : Int32)) C dX9_push_33 (by decide) ?_
  refine kj_iadd (pc := 34) C dX9_push_34 ?_
  cases hf
  exact kj_iret (pc := 35) C dX9_push_35
def fp_X9_ends_40   (x1 : Int32) (μ : kb_S) : Option (kb_S) :=
  (fn_X9_put ((48 : Int32) + (x1 - x1 / (10 : Int32) * (10 : Int32))) μ).bind fun q1 =>
  some q1
theorem fp_X9_ends_40_e   (x1 : Int32) (μ : kb_S) : fp_X9_ends_40  x1 μ =
  (fn_X9_put ((48 : Int32) + (x1 - x1 / (10 : Int32) * (10 : Int32))) μ).bind fun q1 =>
  some q1 := rfl
def fn_X9_ends  (x1 : Int32) (μ : kb_S) : Option (kb_S) :=
  if x1 = 0 then
    (fn_X9_put (44 : Int32) μ).bind fun q2 =>
    some q2
  else
    (fn_X9_put (41 : Int32) μ).bind fun q2 =>
    (fn_X9_put (120 : Int32) q2).bind fun q3 =>
    if x1 ≤ (9 : Int32) then
      fp_X9_ends_40   x1 q3
    else
      (fn_X9_put ((48 : Int32) + (x1 / (10 : Int32))) q3).bind fun q5 =>
      fp_X9_ends_40   x1 q5
theorem fe_X9_ends  (x1 : Int32) (μ : kb_S) : fn_X9_ends  x1 μ =
  if x1 = 0 then
    (fn_X9_put (44 : Int32) μ).bind fun q2 =>
    some q2
  else
    (fn_X9_put (41 : Int32) μ).bind fun q2 =>
    (fn_X9_put (120 : Int32) q2).bind fun q3 =>
    if x1 ≤ (9 : Int32) then
      fp_X9_ends_40   x1 q3
    else
      (fn_X9_put ((48 : Int32) + (x1 / (10 : Int32))) q3).bind fun q5 =>
      fp_X9_ends_40   x1 q5 := rfl
theorem hd_X9_ends : yX9_ends.cls = RX9 ∧ yX9_ends.cls ≠ "java/lang/invoke/MethodHandle" ∧ yX9_ends.cls ≠ "java/lang/invoke/VarHandle" ∧ (parseMethodDescriptor yX9_ends.desc).map (fun d => d.parameters.length) = some 1 := by decide +kernel
set_option maxRecDepth 100000 in
set_option maxHeartbeats 4000000 in
theorem ct_X9_ends (l : Launch) (V : kb_V) (A : Nat → Prop)  (x1 : Int32) (d : Nat → Nat) (μ : kb_S) (ex : va_W) {μ9 : kb_S} (hf : fn_X9_ends  x1 μ = some μ9) : kb_T l yX9_ends cX9_ends 2 none ({ frames := 1, cells := 0, slots := 0, locals := 21 } : Room) V A [.ref (d 0), .int x1] (kb_WM V d μ ex) none (kb_WM V d μ9 ex) 0 0 := by
  refine kb_start (cc := cX9_ends) (nL := 2) (ret := none) (own := RX9) (by decide) rfl (Nat.le_of_ble_eq_true rfl) ?_
  intro p e s m args below meth c C
  have hp40 : ∀ (x1 : Int32) (μ : kb_S), fp_X9_ends_40   x1 μ = some μ9 → kb_J p l e ({ frames := 1, cells := 0, slots := 0, locals := 21 } : Room) s m args below meth c 2 V A 0 0 (MQ below (kb_post V A none (kb_WM V d μ9 ex)) args s 0 0 A) 40 [(0, .ref (d 0)), (1, .int x1)] [] (kb_WM V d μ ex) := by
    intro x1 μ hf
    rw [fp_X9_ends_40_e] at hf
    refine kj_aload_n (pc := 40) C 0 dX9_ends_40 rfl rfl ?_
    refine kj_bipush (pc := 41) (v := (48 : Int32)) C dX9_ends_41 (by decide) ?_
    refine kj_iload_n (pc := 43) C 1 dX9_ends_43 rfl rfl ?_
    refine kj_bipush (pc := 44) (v := (10 : Int32)) C dX9_ends_44 (by decide) ?_
    refine kj_irem (pc := 46) C dX9_ends_46 (by decide) ?_
    refine kj_iadd (pc := 47) C dX9_ends_47 ?_
    obtain ⟨q1, hq1, hf⟩ := kb_bd hf
    refine kj_callV0 (pc := 48) (as := [.int ((48 : Int32) + (x1 - x1 / (10 : Int32) * (10 : Int32)))]) (rest := []) (b := (d 0)) C (ct_X9_put l V A ((48 : Int32) + (x1 - x1 / (10 : Int32) * (10 : Int32))) d μ ex hq1) wd_X9_put wk_X9_229 wi_X9_put ws_X9_put wz_X9 rfl rfl hd_X9_put ⟨by decide, by decide⟩ 0 rfl rfl rfl rfl (Nat.le_of_ble_eq_true rfl) (by decide) dX9_ends_48 ?_
    cases hf
    exact kj_vret (pc := 51) C dX9_ends_51
  refine kj_sub [0, 1] (L2 := [(0, .ref (d 0)), (1, .int x1)]) rfl ?_
  rw [fe_X9_ends] at hf
  refine kj_iload_n (pc := 0) C 1 dX9_ends_0 rfl rfl ?_
  refine kj_if_ne (pc := 1) 11 C dX9_ends_1 (by decide) (fun c1 => ?_) (fun c1 => ?_)
  · have hf := kb_ife hf c1
    refine kj_aload_n (pc := 11) C 0 dX9_ends_11 rfl rfl ?_
    refine kj_bipush (pc := 12) (v := (41 : Int32)) C dX9_ends_12 (by decide) ?_
    obtain ⟨q2, hq2, hf⟩ := kb_bd hf
    refine kj_callV0 (pc := 14) (as := [.int (41 : Int32)]) (rest := []) (b := (d 0)) C (ct_X9_put l V A (41 : Int32) d μ ex hq2) wd_X9_put wk_X9_229 wi_X9_put ws_X9_put wz_X9 rfl rfl hd_X9_put ⟨by decide, by decide⟩ 0 rfl rfl rfl rfl (Nat.le_of_ble_eq_true rfl) (by decide) dX9_ends_14 ?_
    refine kj_aload_n (pc := 17) C 0 dX9_ends_17 rfl rfl ?_
    refine kj_bipush (pc := 18) (v := (120 : Int32)) C dX9_ends_18 (by decide) ?_
    obtain ⟨q3, hq3, hf⟩ := kb_bd hf
    refine kj_callV0 (pc := 20) (as := [.int (120 : Int32)]) (rest := []) (b := (d 0)) C (ct_X9_put l V A (120 : Int32) d q2 ex hq3) wd_X9_put wk_X9_229 wi_X9_put ws_X9_put wz_X9 rfl rfl hd_X9_put ⟨by decide, by decide⟩ 0 rfl rfl rfl rfl (Nat.le_of_ble_eq_true rfl) (by decide) dX9_ends_20 ?_
    refine kj_iload_n (pc := 23) C 1 dX9_ends_23 rfl rfl ?_
    refine kj_bipush (pc := 24) (v := (9 : Int32)) C dX9_ends_24 (by decide) ?_
    refine kj_icmp_le (pc := 26) 40 C dX9_ends_26 (by decide) (fun c4 => ?_) (fun c4 => ?_)
    · have hf := kb_ift hf c4
      exact hp40 x1 q3 hf
    · have hf := kb_ife hf c4
      refine kj_aload_n (pc := 29) C 0 dX9_ends_29 rfl rfl ?_
      refine kj_bipush (pc := 30) (v := (48 : Int32)) C dX9_ends_30 (by decide) ?_
      refine kj_iload_n (pc := 32) C 1 dX9_ends_32 rfl rfl ?_
      refine kj_bipush (pc := 33) (v := (10 : Int32)) C dX9_ends_33 (by decide) ?_
      refine kj_idiv (pc := 35) C dX9_ends_35 (by decide) ?_
      refine kj_iadd (pc := 36) C dX9_ends_36 ?_
      obtain ⟨q5, hq5, hf⟩ := kb_bd hf
      refine kj_callV0 (pc := 37) (as := [.int ((48 : Int32) + (x1 / (10 : Int32)))]) (rest := []) (b := (d 0)) C (ct_X9_put l V A ((48 : Int32) + (x1 / (10 : Int32))) d q3 ex hq5) wd_X9_put wk_X9_229 wi_X9_put ws_X9_put wz_X9 rfl rfl hd_X9_put ⟨by decide, by decide⟩ 0 rfl rfl rfl rfl (Nat.le_of_ble_eq_true rfl) (by decide) dX9_ends_37 ?_
      exact hp40 x1 q5 hf
  · have hf := kb_ift hf c1
    refine kj_aload_n (pc := 4) C 0 dX9_ends_4 rfl rfl ?_
    refine kj_bipush (pc := 5) (v := (44 : Int32)) C dX9_ends_5 (by decide) ?_
    obtain ⟨q2, hq2, hf⟩ := kb_bd hf
    refine kj_callV0 (pc := 7) (as := [.int (44 : Int32)]) (rest := []) (b := (d 0)) C (ct_X9_put l V A (44 : Int32) d μ ex hq2) wd_X9_put wk_X9_229 wi_X9_put ws_X9_put wz_X9 rfl rfl hd_X9_put ⟨by decide, by decide⟩ 0 rfl rfl rfl rfl (Nat.le_of_ble_eq_true rfl) (by decide) dX9_ends_7 ?_
    cases hf
    exact kj_vret (pc := 10) C dX9_ends_10
def fp_X9_tell_185  (kc14 : Int32 → Int32 → kb_S → Option (kb_S)) (x1 : Int32) (x2 : Int32) (μ : kb_S) : Option (kb_S) :=
  kc14 x1 x2 μ
theorem fp_X9_tell_185_e  (kc14 : Int32 → Int32 → kb_S → Option (kb_S)) (x1 : Int32) (x2 : Int32) (μ : kb_S) : fp_X9_tell_185 kc14 x1 x2 μ =
  kc14 x1 x2 μ := rfl
def fp_X9_tell_14   : Nat → Int32 → Int32 → kb_S → Option (kb_S)
  | 0 => fun _ _ _ => none
  | nn + 1 => fun x1 x2 μ => 
  if x2 ≤ 0 then
    some μ
  else
    if kb_in ((3 : Int32) * (x2 + (-1 : Int32))) 800 = true then
      if kb_in (((3 : Int32) * (x2 + (-1 : Int32))) + (1 : Int32)) 800 = true then
        if kb_in (((3 : Int32) * (x2 + (-1 : Int32))) + (2 : Int32)) 800 = true then
          if 0 ≤ (kb_a μ 19 ((3 : Int32) * (x2 + (-1 : Int32))).toNatClampNeg) then
            if kb_in (fn_X9_at (kb_a μ 19 ((3 : Int32) * (x2 + (-1 : Int32))).toNatClampNeg) (kb_a μ 19 (((3 : Int32) * (x2 + (-1 : Int32))) + (1 : Int32)).toNatClampNeg) (kb_a μ 19 (((3 : Int32) * (x2 + (-1 : Int32))) + (2 : Int32)).toNatClampNeg)) 32400 = true then
              if (kb_a μ 19 (((3 : Int32) * (x2 + (-1 : Int32))) + (2 : Int32)).toNatClampNeg) = (1 : Int32) then
                if kb_in ((x1 * (80 : Int32)) + (kb_a μ 19 (((3 : Int32) * (x2 + (-1 : Int32))) + (1 : Int32)).toNatClampNeg)) 2480 = true then
                  (fn_X9_name (kb_a μ 8 ((x1 * (80 : Int32)) + (kb_a μ 19 (((3 : Int32) * (x2 + (-1 : Int32))) + (1 : Int32)).toNatClampNeg)).toNatClampNeg) μ).bind fun q9 =>
                  fp_X9_tell_185  (fp_X9_tell_14  nn) x1 (x2 + (-1 : Int32)) q9
                else none
              else
                if (kb_a μ 16 (fn_X9_at (kb_a μ 19 ((3 : Int32) * (x2 + (-1 : Int32))).toNatClampNeg) (kb_a μ 19 (((3 : Int32) * (x2 + (-1 : Int32))) + (1 : Int32)).toNatClampNeg) (kb_a μ 19 (((3 : Int32) * (x2 + (-1 : Int32))) + (2 : Int32)).toNatClampNeg)).toNatClampNeg) ≤ 0 then
                  (fn_X9_push (x2 + (-1 : Int32)) (kb_a μ 19 ((3 : Int32) * (x2 + (-1 : Int32))).toNatClampNeg) ((kb_a μ 19 (((3 : Int32) * (x2 + (-1 : Int32))) + (1 : Int32)).toNatClampNeg) - (kb_a μ 16 (fn_X9_at (kb_a μ 19 ((3 : Int32) * (x2 + (-1 : Int32))).toNatClampNeg) (kb_a μ 19 (((3 : Int32) * (x2 + (-1 : Int32))) + (1 : Int32)).toNatClampNeg) (kb_a μ 19 (((3 : Int32) * (x2 + (-1 : Int32))) + (2 : Int32)).toNatClampNeg)).toNatClampNeg)) ((kb_a μ 19 (((3 : Int32) * (x2 + (-1 : Int32))) + (2 : Int32)).toNatClampNeg) + (kb_a μ 16 (fn_X9_at (kb_a μ 19 ((3 : Int32) * (x2 + (-1 : Int32))).toNatClampNeg) (kb_a μ 19 (((3 : Int32) * (x2 + (-1 : Int32))) + (1 : Int32)).toNatClampNeg) (kb_a μ 19 (((3 : Int32) * (x2 + (-1 : Int32))) + (2 : Int32)).toNatClampNeg)).toNatClampNeg)) μ).bind fun q9 =>
                  (fn_X9_push q9.2 (-1 : Int32) (0 : Int32) (0 : Int32) q9.1).bind fun q10 =>
                  (fn_X9_push q10.2 (kb_a μ 19 ((3 : Int32) * (x2 + (-1 : Int32))).toNatClampNeg) (kb_a μ 19 (((3 : Int32) * (x2 + (-1 : Int32))) + (1 : Int32)).toNatClampNeg) (-(kb_a μ 16 (fn_X9_at (kb_a μ 19 ((3 : Int32) * (x2 + (-1 : Int32))).toNatClampNeg) (kb_a μ 19 (((3 : Int32) * (x2 + (-1 : Int32))) + (1 : Int32)).toNatClampNeg) (kb_a μ 19 (((3 : Int32) * (x2 + (-1 : Int32))) + (2 : Int32)).toNatClampNeg)).toNatClampNeg)) q10.1).bind fun q11 =>
                  fp_X9_tell_185  (fp_X9_tell_14  nn) x1 q11.2 q11.1
                else
                  (fn_X9_put (40 : Int32) μ).bind fun q9 =>
                  if ¬ (kb_a μ 16 (fn_X9_at (kb_a μ 19 ((3 : Int32) * (x2 + (-1 : Int32))).toNatClampNeg) (kb_a μ 19 (((3 : Int32) * (x2 + (-1 : Int32))) + (1 : Int32)).toNatClampNeg) (kb_a μ 19 (((3 : Int32) * (x2 + (-1 : Int32))) + (2 : Int32)).toNatClampNeg)).toNatClampNeg) = 0 then
                    (fn_X9_push (x2 + (-1 : Int32)) (-1 : Int32) (0 : Int32) ((kb_a μ 19 (((3 : Int32) * (x2 + (-1 : Int32))) + (2 : Int32)).toNatClampNeg) / (kb_a μ 16 (fn_X9_at (kb_a μ 19 ((3 : Int32) * (x2 + (-1 : Int32))).toNatClampNeg) (kb_a μ 19 (((3 : Int32) * (x2 + (-1 : Int32))) + (1 : Int32)).toNatClampNeg) (kb_a μ 19 (((3 : Int32) * (x2 + (-1 : Int32))) + (2 : Int32)).toNatClampNeg)).toNatClampNeg)) q9).bind fun q11 =>
                    (fn_X9_push q11.2 ((kb_a μ 19 ((3 : Int32) * (x2 + (-1 : Int32))).toNatClampNeg) + (1 : Int32)) (kb_a μ 19 (((3 : Int32) * (x2 + (-1 : Int32))) + (1 : Int32)).toNatClampNeg) (kb_a μ 16 (fn_X9_at (kb_a μ 19 ((3 : Int32) * (x2 + (-1 : Int32))).toNatClampNeg) (kb_a μ 19 (((3 : Int32) * (x2 + (-1 : Int32))) + (1 : Int32)).toNatClampNeg) (kb_a μ 19 (((3 : Int32) * (x2 + (-1 : Int32))) + (2 : Int32)).toNatClampNeg)).toNatClampNeg) q11.1).bind fun q12 =>
                    fp_X9_tell_185  (fp_X9_tell_14  nn) x1 q12.2 q12.1
                  else none
            else none
          else
            (fn_X9_ends (kb_a μ 19 (((3 : Int32) * (x2 + (-1 : Int32))) + (2 : Int32)).toNatClampNeg) μ).bind fun q6 =>
            (fp_X9_tell_14  nn) x1 (x2 + (-1 : Int32)) q6
        else none
      else none
    else none
theorem fp_X9_tell_14_s   (nn : Nat) (x1 : Int32) (x2 : Int32) (μ : kb_S) : fp_X9_tell_14  (nn + 1) x1 x2 μ =
  if x2 ≤ 0 then
    some μ
  else
    if kb_in ((3 : Int32) * (x2 + (-1 : Int32))) 800 = true then
      if kb_in (((3 : Int32) * (x2 + (-1 : Int32))) + (1 : Int32)) 800 = true then
        if kb_in (((3 : Int32) * (x2 + (-1 : Int32))) + (2 : Int32)) 800 = true then
          if 0 ≤ (kb_a μ 19 ((3 : Int32) * (x2 + (-1 : Int32))).toNatClampNeg) then
            if kb_in (fn_X9_at (kb_a μ 19 ((3 : Int32) * (x2 + (-1 : Int32))).toNatClampNeg) (kb_a μ 19 (((3 : Int32) * (x2 + (-1 : Int32))) + (1 : Int32)).toNatClampNeg) (kb_a μ 19 (((3 : Int32) * (x2 + (-1 : Int32))) + (2 : Int32)).toNatClampNeg)) 32400 = true then
              if (kb_a μ 19 (((3 : Int32) * (x2 + (-1 : Int32))) + (2 : Int32)).toNatClampNeg) = (1 : Int32) then
                if kb_in ((x1 * (80 : Int32)) + (kb_a μ 19 (((3 : Int32) * (x2 + (-1 : Int32))) + (1 : Int32)).toNatClampNeg)) 2480 = true then
                  (fn_X9_name (kb_a μ 8 ((x1 * (80 : Int32)) + (kb_a μ 19 (((3 : Int32) * (x2 + (-1 : Int32))) + (1 : Int32)).toNatClampNeg)).toNatClampNeg) μ).bind fun q9 =>
                  fp_X9_tell_185  (fp_X9_tell_14  nn) x1 (x2 + (-1 : Int32)) q9
                else none
              else
                if (kb_a μ 16 (fn_X9_at (kb_a μ 19 ((3 : Int32) * (x2 + (-1 : Int32))).toNatClampNeg) (kb_a μ 19 (((3 : Int32) * (x2 + (-1 : Int32))) + (1 : Int32)).toNatClampNeg) (kb_a μ 19 (((3 : Int32) * (x2 + (-1 : Int32))) + (2 : Int32)).toNatClampNeg)).toNatClampNeg) ≤ 0 then
                  (fn_X9_push (x2 + (-1 : Int32)) (kb_a μ 19 ((3 : Int32) * (x2 + (-1 : Int32))).toNatClampNeg) ((kb_a μ 19 (((3 : Int32) * (x2 + (-1 : Int32))) + (1 : Int32)).toNatClampNeg) - (kb_a μ 16 (fn_X9_at (kb_a μ 19 ((3 : Int32) * (x2 + (-1 : Int32))).toNatClampNeg) (kb_a μ 19 (((3 : Int32) * (x2 + (-1 : Int32))) + (1 : Int32)).toNatClampNeg) (kb_a μ 19 (((3 : Int32) * (x2 + (-1 : Int32))) + (2 : Int32)).toNatClampNeg)).toNatClampNeg)) ((kb_a μ 19 (((3 : Int32) * (x2 + (-1 : Int32))) + (2 : Int32)).toNatClampNeg) + (kb_a μ 16 (fn_X9_at (kb_a μ 19 ((3 : Int32) * (x2 + (-1 : Int32))).toNatClampNeg) (kb_a μ 19 (((3 : Int32) * (x2 + (-1 : Int32))) + (1 : Int32)).toNatClampNeg) (kb_a μ 19 (((3 : Int32) * (x2 + (-1 : Int32))) + (2 : Int32)).toNatClampNeg)).toNatClampNeg)) μ).bind fun q9 =>
                  (fn_X9_push q9.2 (-1 : Int32) (0 : Int32) (0 : Int32) q9.1).bind fun q10 =>
                  (fn_X9_push q10.2 (kb_a μ 19 ((3 : Int32) * (x2 + (-1 : Int32))).toNatClampNeg) (kb_a μ 19 (((3 : Int32) * (x2 + (-1 : Int32))) + (1 : Int32)).toNatClampNeg) (-(kb_a μ 16 (fn_X9_at (kb_a μ 19 ((3 : Int32) * (x2 + (-1 : Int32))).toNatClampNeg) (kb_a μ 19 (((3 : Int32) * (x2 + (-1 : Int32))) + (1 : Int32)).toNatClampNeg) (kb_a μ 19 (((3 : Int32) * (x2 + (-1 : Int32))) + (2 : Int32)).toNatClampNeg)).toNatClampNeg)) q10.1).bind fun q11 =>
                  fp_X9_tell_185  (fp_X9_tell_14  nn) x1 q11.2 q11.1
                else
                  (fn_X9_put (40 : Int32) μ).bind fun q9 =>
                  if ¬ (kb_a μ 16 (fn_X9_at (kb_a μ 19 ((3 : Int32) * (x2 + (-1 : Int32))).toNatClampNeg) (kb_a μ 19 (((3 : Int32) * (x2 + (-1 : Int32))) + (1 : Int32)).toNatClampNeg) (kb_a μ 19 (((3 : Int32) * (x2 + (-1 : Int32))) + (2 : Int32)).toNatClampNeg)).toNatClampNeg) = 0 then
                    (fn_X9_push (x2 + (-1 : Int32)) (-1 : Int32) (0 : Int32) ((kb_a μ 19 (((3 : Int32) * (x2 + (-1 : Int32))) + (2 : Int32)).toNatClampNeg) / (kb_a μ 16 (fn_X9_at (kb_a μ 19 ((3 : Int32) * (x2 + (-1 : Int32))).toNatClampNeg) (kb_a μ 19 (((3 : Int32) * (x2 + (-1 : Int32))) + (1 : Int32)).toNatClampNeg) (kb_a μ 19 (((3 : Int32) * (x2 + (-1 : Int32))) + (2 : Int32)).toNatClampNeg)).toNatClampNeg)) q9).bind fun q11 =>
                    (fn_X9_push q11.2 ((kb_a μ 19 ((3 : Int32) * (x2 + (-1 : Int32))).toNatClampNeg) + (1 : Int32)) (kb_a μ 19 (((3 : Int32) * (x2 + (-1 : Int32))) + (1 : Int32)).toNatClampNeg) (kb_a μ 16 (fn_X9_at (kb_a μ 19 ((3 : Int32) * (x2 + (-1 : Int32))).toNatClampNeg) (kb_a μ 19 (((3 : Int32) * (x2 + (-1 : Int32))) + (1 : Int32)).toNatClampNeg) (kb_a μ 19 (((3 : Int32) * (x2 + (-1 : Int32))) + (2 : Int32)).toNatClampNeg)).toNatClampNeg) q11.1).bind fun q12 =>
                    fp_X9_tell_185  (fp_X9_tell_14  nn) x1 q12.2 q12.1
                  else none
            else none
          else
            (fn_X9_ends (kb_a μ 19 (((3 : Int32) * (x2 + (-1 : Int32))) + (2 : Int32)).toNatClampNeg) μ).bind fun q6 =>
            (fp_X9_tell_14  nn) x1 (x2 + (-1 : Int32)) q6
        else none
      else none
    else none := rfl
def fn_X9_tell  (x1 : Int32) (μ : kb_S) : Option (kb_S) :=
  if kb_in x1 31 = true then
    (fn_X9_push (0 : Int32) (0 : Int32) (0 : Int32) (kb_a μ 7 x1.toNatClampNeg) μ).bind fun q2 =>
    fp_X9_tell_14   kb_FU x1 q2.2 q2.1
  else none
theorem fe_X9_tell  (x1 : Int32) (μ : kb_S) : fn_X9_tell  x1 μ =
  if kb_in x1 31 = true then
    (fn_X9_push (0 : Int32) (0 : Int32) (0 : Int32) (kb_a μ 7 x1.toNatClampNeg) μ).bind fun q2 =>
    fp_X9_tell_14   kb_FU x1 q2.2 q2.1
  else none := rfl
theorem hd_X9_tell : yX9_tell.cls = RX9 ∧ yX9_tell.cls ≠ "java/lang/invoke/MethodHandle" ∧ yX9_tell.cls ≠ "java/lang/invoke/VarHandle" ∧ (parseMethodDescriptor yX9_tell.desc).map (fun d => d.parameters.length) = some 1 := by decide +kernel
set_option maxRecDepth 100000 in
set_option maxHeartbeats 4000000 in
theorem ct_X9_tell (l : Launch) (V : kb_V) (A : Nat → Prop)  (x1 : Int32) (d : Nat → Nat) (μ : kb_S) (ex : va_W) {μ9 : kb_S} (hf : fn_X9_tell  x1 μ = some μ9) : kb_T l yX9_tell cX9_tell 7 none ({ frames := 3, cells := 0, slots := 0, locals := 65 } : Room) V A [.ref (d 0), .int x1] (kb_WM V d μ ex) none (kb_WM V d μ9 ex) 0 0 := by
  refine kb_start (cc := cX9_tell) (nL := 7) (ret := none) (own := RX9) (by decide) rfl (Nat.le_of_ble_eq_true rfl) ?_
  intro p e s m args below meth c C
  have hp14 : ∀ (nn : Nat) (x1 : Int32) (x2 : Int32) (μ : kb_S), fp_X9_tell_14   nn x1 x2 μ = some μ9 → kb_J p l e ({ frames := 3, cells := 0, slots := 0, locals := 65 } : Room) s m args below meth c 7 V A 0 0 (MQ below (kb_post V A none (kb_WM V d μ9 ex)) args s 0 0 A) 14 [(0, .ref (d 0)), (1, .int x1), (2, .int x2)] [] (kb_WM V d μ ex) := by
    intro nn14
    induction nn14 with
    | zero => intro x1 x2 μ hf; exact kb_no hf
    | succ nn14 ih14 =>
      have hp185 : ∀ (x1 : Int32) (x2 : Int32) (μ : kb_S), fp_X9_tell_185  (fp_X9_tell_14   nn14) x1 x2 μ = some μ9 → kb_J p l e ({ frames := 3, cells := 0, slots := 0, locals := 65 } : Room) s m args below meth c 7 V A 0 0 (MQ below (kb_post V A none (kb_WM V d μ9 ex)) args s 0 0 A) 185 [(0, .ref (d 0)), (1, .int x1), (2, .int x2)] [] (kb_WM V d μ ex) := by
        intro x1 x2 μ hf
        rw [fp_X9_tell_185_e] at hf
        refine kj_goto (pc := 185) 14 C dX9_tell_185 (by decide) ?_
        exact ih14 x1 x2 μ hf
      intro x1 x2 μ hf
      rw [fp_X9_tell_14_s] at hf
      refine kj_iload_n (pc := 14) C 2 dX9_tell_14 rfl rfl ?_
      refine kj_if_le (pc := 15) 188 C dX9_tell_15 (by decide) (fun c1 => ?_) (fun c1 => ?_)
      · have hf := kb_ift hf c1
        cases hf
        exact kj_vret (pc := 188) C dX9_tell_188
      · have hf := kb_ife hf c1
        refine kj_iinc (pc := 18) C 2 [1, 2, 0] (L2 := [(0, .ref (d 0)), (1, .int x1), (2, .int (x2 + (-1 : Int32)))]) dX9_tell_18 rfl rfl (by decide) rfl ?_
        refine kj_aload_n (pc := 21) C 0 dX9_tell_21 rfl rfl ?_
        refine kg_X9_task (pc := 22) C wf_X9_68 dX9_tell_22 ?_
        refine kj_iconst (pc := 25) (v := (3 : Int32)) C dX9_tell_25 (by decide) ?_
        refine kj_iload_n (pc := 26) C 2 dX9_tell_26 rfl rfl ?_
        refine kj_imul (pc := 27) C dX9_tell_27 ?_
        obtain ⟨g2, hf⟩ := kb_gd hf
        refine ka_X9_task (pc := 28) (v := (kb_a μ 19 ((3 : Int32) * (x2 + (-1 : Int32))).toNatClampNeg)) C g2 dX9_tell_28 rfl ?_
        refine kj_istore_n (pc := 29) C [1, 2, 3, 0] (L2 := [(0, .ref (d 0)), (1, .int x1), (2, .int (x2 + (-1 : Int32))), (3, .int (kb_a μ 19 ((3 : Int32) * (x2 + (-1 : Int32))).toNatClampNeg))]) dX9_tell_29 rfl (by decide) rfl ?_
        refine kj_aload_n (pc := 30) C 0 dX9_tell_30 rfl rfl ?_
        refine kg_X9_task (pc := 31) C wf_X9_68 dX9_tell_31 ?_
        refine kj_iconst (pc := 34) (v := (3 : Int32)) C dX9_tell_34 (by decide) ?_
        refine kj_iload_n (pc := 35) C 2 dX9_tell_35 rfl rfl ?_
        refine kj_imul (pc := 36) C dX9_tell_36 ?_
        refine kj_iconst (pc := 37) (v := (1 : Int32)) C dX9_tell_37 (by decide) ?_
        refine kj_iadd (pc := 38) C dX9_tell_38 ?_
        obtain ⟨g3, hf⟩ := kb_gd hf
        refine ka_X9_task (pc := 39) (v := (kb_a μ 19 (((3 : Int32) * (x2 + (-1 : Int32))) + (1 : Int32)).toNatClampNeg)) C g3 dX9_tell_39 rfl ?_
        refine kj_istore (pc := 40) C [1, 2, 3, 4, 0] (L2 := [(0, .ref (d 0)), (1, .int x1), (2, .int (x2 + (-1 : Int32))), (3, .int (kb_a μ 19 ((3 : Int32) * (x2 + (-1 : Int32))).toNatClampNeg)), (4, .int (kb_a μ 19 (((3 : Int32) * (x2 + (-1 : Int32))) + (1 : Int32)).toNatClampNeg))]) dX9_tell_40 (by decide) rfl ?_
        refine kj_aload_n (pc := 42) C 0 dX9_tell_42 rfl rfl ?_
        refine kg_X9_task (pc := 43) C wf_X9_68 dX9_tell_43 ?_
        refine kj_iconst (pc := 46) (v := (3 : Int32)) C dX9_tell_46 (by decide) ?_
        refine kj_iload_n (pc := 47) C 2 dX9_tell_47 rfl rfl ?_
        refine kj_imul (pc := 48) C dX9_tell_48 ?_
        refine kj_iconst (pc := 49) (v := (2 : Int32)) C dX9_tell_49 (by decide) ?_
        refine kj_iadd (pc := 50) C dX9_tell_50 ?_
        obtain ⟨g4, hf⟩ := kb_gd hf
        refine ka_X9_task (pc := 51) (v := (kb_a μ 19 (((3 : Int32) * (x2 + (-1 : Int32))) + (2 : Int32)).toNatClampNeg)) C g4 dX9_tell_51 rfl ?_
        refine kj_istore (pc := 52) C [1, 2, 3, 4, 5, 0] (L2 := [(0, .ref (d 0)), (1, .int x1), (2, .int (x2 + (-1 : Int32))), (3, .int (kb_a μ 19 ((3 : Int32) * (x2 + (-1 : Int32))).toNatClampNeg)), (4, .int (kb_a μ 19 (((3 : Int32) * (x2 + (-1 : Int32))) + (1 : Int32)).toNatClampNeg)), (5, .int (kb_a μ 19 (((3 : Int32) * (x2 + (-1 : Int32))) + (2 : Int32)).toNatClampNeg))]) dX9_tell_52 (by decide) rfl ?_
        refine kj_iload_n (pc := 54) C 3 dX9_tell_54 rfl rfl ?_
        refine kj_if_ge (pc := 55) 67 C dX9_tell_55 (by decide) (fun c5 => ?_) (fun c5 => ?_)
        · have hf := kb_ift hf c5
          refine kj_aload_n (pc := 67) C 0 dX9_tell_67 rfl rfl ?_
          refine kg_X9_way (pc := 68) C wf_X9_59 dX9_tell_68 ?_
          refine kj_iload_n (pc := 71) C 3 dX9_tell_71 rfl rfl ?_
          refine kj_iload (pc := 72) C 4 dX9_tell_72 rfl ?_
          refine kj_iload (pc := 74) C 5 dX9_tell_74 rfl ?_
          refine kj_callS0 (pc := 76) (as := [.int (kb_a μ 19 ((3 : Int32) * (x2 + (-1 : Int32))).toNatClampNeg), .int (kb_a μ 19 (((3 : Int32) * (x2 + (-1 : Int32))) + (1 : Int32)).toNatClampNeg), .int (kb_a μ 19 (((3 : Int32) * (x2 + (-1 : Int32))) + (2 : Int32)).toNatClampNeg)]) (rest := [.ref (d 17)]) C (ct_X9_at l V A (kb_a μ 19 ((3 : Int32) * (x2 + (-1 : Int32))).toNatClampNeg) (kb_a μ 19 (((3 : Int32) * (x2 + (-1 : Int32))) + (1 : Int32)).toNatClampNeg) (kb_a μ 19 (((3 : Int32) * (x2 + (-1 : Int32))) + (2 : Int32)).toNatClampNeg) (kb_WM V d μ ex) rfl) wd_X9_at wk_X9_221 wi_X9_at wz_X9 rfl rfl hd_X9_at ⟨by decide, by decide⟩ rfl (Nat.le_of_ble_eq_true rfl) (by decide) dX9_tell_76 ?_
          obtain ⟨g6, hf⟩ := kb_gd hf
          refine ka_X9_way (pc := 79) (v := (kb_a μ 16 (fn_X9_at (kb_a μ 19 ((3 : Int32) * (x2 + (-1 : Int32))).toNatClampNeg) (kb_a μ 19 (((3 : Int32) * (x2 + (-1 : Int32))) + (1 : Int32)).toNatClampNeg) (kb_a μ 19 (((3 : Int32) * (x2 + (-1 : Int32))) + (2 : Int32)).toNatClampNeg)).toNatClampNeg)) C g6 dX9_tell_79 rfl ?_
          refine kj_istore (pc := 80) C [1, 2, 3, 4, 5, 6, 0] (L2 := [(0, .ref (d 0)), (1, .int x1), (2, .int (x2 + (-1 : Int32))), (3, .int (kb_a μ 19 ((3 : Int32) * (x2 + (-1 : Int32))).toNatClampNeg)), (4, .int (kb_a μ 19 (((3 : Int32) * (x2 + (-1 : Int32))) + (1 : Int32)).toNatClampNeg)), (5, .int (kb_a μ 19 (((3 : Int32) * (x2 + (-1 : Int32))) + (2 : Int32)).toNatClampNeg)), (6, .int (kb_a μ 16 (fn_X9_at (kb_a μ 19 ((3 : Int32) * (x2 + (-1 : Int32))).toNatClampNeg) (kb_a μ 19 (((3 : Int32) * (x2 + (-1 : Int32))) + (1 : Int32)).toNatClampNeg) (kb_a μ 19 (((3 : Int32) * (x2 + (-1 : Int32))) + (2 : Int32)).toNatClampNeg)).toNatClampNeg))]) dX9_tell_80 (by decide) rfl ?_
          refine kj_iload (pc := 82) C 5 dX9_tell_82 rfl ?_
          refine kj_iconst (pc := 84) (v := (1 : Int32)) C dX9_tell_84 (by decide) ?_
          refine kj_icmp_ne (pc := 85) 107 C dX9_tell_85 (by decide) (fun c7 => ?_) (fun c7 => ?_)
          · have hf := kb_ife hf c7
            refine kj_iload (pc := 107) C 6 dX9_tell_107 rfl ?_
            refine kj_if_le (pc := 109) 147 C dX9_tell_109 (by decide) (fun c8 => ?_) (fun c8 => ?_)
            · have hf := kb_ift hf c8
              refine kj_aload_n (pc := 147) C 0 dX9_tell_147 rfl rfl ?_
              refine kj_iload_n (pc := 148) C 2 dX9_tell_148 rfl rfl ?_
              refine kj_iload_n (pc := 149) C 3 dX9_tell_149 rfl rfl ?_
              refine kj_iload (pc := 150) C 4 dX9_tell_150 rfl ?_
              refine kj_iload (pc := 152) C 6 dX9_tell_152 rfl ?_
              refine kj_isub (pc := 154) C dX9_tell_154 ?_
              refine kj_iload (pc := 155) C 5 dX9_tell_155 rfl ?_
              refine kj_iload (pc := 157) C 6 dX9_tell_157 rfl ?_
              refine kj_iadd (pc := 159) C dX9_tell_159 ?_
              obtain ⟨q9, hq9, hf⟩ := kb_bd hf
              refine kj_callV0 (pc := 160) (as := [.int (x2 + (-1 : Int32)), .int (kb_a μ 19 ((3 : Int32) * (x2 + (-1 : Int32))).toNatClampNeg), .int ((kb_a μ 19 (((3 : Int32) * (x2 + (-1 : Int32))) + (1 : Int32)).toNatClampNeg) - (kb_a μ 16 (fn_X9_at (kb_a μ 19 ((3 : Int32) * (x2 + (-1 : Int32))).toNatClampNeg) (kb_a μ 19 (((3 : Int32) * (x2 + (-1 : Int32))) + (1 : Int32)).toNatClampNeg) (kb_a μ 19 (((3 : Int32) * (x2 + (-1 : Int32))) + (2 : Int32)).toNatClampNeg)).toNatClampNeg)), .int ((kb_a μ 19 (((3 : Int32) * (x2 + (-1 : Int32))) + (2 : Int32)).toNatClampNeg) + (kb_a μ 16 (fn_X9_at (kb_a μ 19 ((3 : Int32) * (x2 + (-1 : Int32))).toNatClampNeg) (kb_a μ 19 (((3 : Int32) * (x2 + (-1 : Int32))) + (1 : Int32)).toNatClampNeg) (kb_a μ 19 (((3 : Int32) * (x2 + (-1 : Int32))) + (2 : Int32)).toNatClampNeg)).toNatClampNeg))]) (rest := []) (b := (d 0)) C (ct_X9_push l V A (x2 + (-1 : Int32)) (kb_a μ 19 ((3 : Int32) * (x2 + (-1 : Int32))).toNatClampNeg) ((kb_a μ 19 (((3 : Int32) * (x2 + (-1 : Int32))) + (1 : Int32)).toNatClampNeg) - (kb_a μ 16 (fn_X9_at (kb_a μ 19 ((3 : Int32) * (x2 + (-1 : Int32))).toNatClampNeg) (kb_a μ 19 (((3 : Int32) * (x2 + (-1 : Int32))) + (1 : Int32)).toNatClampNeg) (kb_a μ 19 (((3 : Int32) * (x2 + (-1 : Int32))) + (2 : Int32)).toNatClampNeg)).toNatClampNeg)) ((kb_a μ 19 (((3 : Int32) * (x2 + (-1 : Int32))) + (2 : Int32)).toNatClampNeg) + (kb_a μ 16 (fn_X9_at (kb_a μ 19 ((3 : Int32) * (x2 + (-1 : Int32))).toNatClampNeg) (kb_a μ 19 (((3 : Int32) * (x2 + (-1 : Int32))) + (1 : Int32)).toNatClampNeg) (kb_a μ 19 (((3 : Int32) * (x2 + (-1 : Int32))) + (2 : Int32)).toNatClampNeg)).toNatClampNeg)) d μ ex hq9) wd_X9_push wk_X9_256 wi_X9_push ws_X9_push wz_X9 rfl rfl hd_X9_push ⟨by decide, by decide⟩ 0 rfl rfl rfl rfl (Nat.le_of_ble_eq_true rfl) (by decide) dX9_tell_160 ?_
              refine kj_istore_n (pc := 163) C [1, 2, 0, 3, 4, 5, 6] (L2 := [(0, .ref (d 0)), (1, .int x1), (2, .int q9.2), (3, .int (kb_a μ 19 ((3 : Int32) * (x2 + (-1 : Int32))).toNatClampNeg)), (4, .int (kb_a μ 19 (((3 : Int32) * (x2 + (-1 : Int32))) + (1 : Int32)).toNatClampNeg)), (5, .int (kb_a μ 19 (((3 : Int32) * (x2 + (-1 : Int32))) + (2 : Int32)).toNatClampNeg)), (6, .int (kb_a μ 16 (fn_X9_at (kb_a μ 19 ((3 : Int32) * (x2 + (-1 : Int32))).toNatClampNeg) (kb_a μ 19 (((3 : Int32) * (x2 + (-1 : Int32))) + (1 : Int32)).toNatClampNeg) (kb_a μ 19 (((3 : Int32) * (x2 + (-1 : Int32))) + (2 : Int32)).toNatClampNeg)).toNatClampNeg))]) dX9_tell_163 rfl (by decide) rfl ?_
              refine kj_aload_n (pc := 164) C 0 dX9_tell_164 rfl rfl ?_
              refine kj_iload_n (pc := 165) C 2 dX9_tell_165 rfl rfl ?_
              refine kj_iconst (pc := 166) (v := (-1 : Int32)) C dX9_tell_166 (by decide) ?_
              refine kj_iconst (pc := 167) (v := (0 : Int32)) C dX9_tell_167 (by decide) ?_
              refine kj_iconst (pc := 168) (v := (0 : Int32)) C dX9_tell_168 (by decide) ?_
              obtain ⟨q10, hq10, hf⟩ := kb_bd hf
              refine kj_callV0 (pc := 169) (as := [.int q9.2, .int (-1 : Int32), .int (0 : Int32), .int (0 : Int32)]) (rest := []) (b := (d 0)) C (ct_X9_push l V A q9.2 (-1 : Int32) (0 : Int32) (0 : Int32) d q9.1 ex hq10) wd_X9_push wk_X9_256 wi_X9_push ws_X9_push wz_X9 rfl rfl hd_X9_push ⟨by decide, by decide⟩ 0 rfl rfl rfl rfl (Nat.le_of_ble_eq_true rfl) (by decide) dX9_tell_169 ?_
              refine kj_istore_n (pc := 172) C [1, 2, 0, 3, 4, 5, 6] (L2 := [(0, .ref (d 0)), (1, .int x1), (2, .int q10.2), (3, .int (kb_a μ 19 ((3 : Int32) * (x2 + (-1 : Int32))).toNatClampNeg)), (4, .int (kb_a μ 19 (((3 : Int32) * (x2 + (-1 : Int32))) + (1 : Int32)).toNatClampNeg)), (5, .int (kb_a μ 19 (((3 : Int32) * (x2 + (-1 : Int32))) + (2 : Int32)).toNatClampNeg)), (6, .int (kb_a μ 16 (fn_X9_at (kb_a μ 19 ((3 : Int32) * (x2 + (-1 : Int32))).toNatClampNeg) (kb_a μ 19 (((3 : Int32) * (x2 + (-1 : Int32))) + (1 : Int32)).toNatClampNeg) (kb_a μ 19 (((3 : Int32) * (x2 + (-1 : Int32))) + (2 : Int32)).toNatClampNeg)).toNatClampNeg))]) dX9_tell_172 rfl (by decide) rfl ?_
              refine kj_aload_n (pc := 173) C 0 dX9_tell_173 rfl rfl ?_
              refine kj_iload_n (pc := 174) C 2 dX9_tell_174 rfl rfl ?_
              refine kj_iload_n (pc := 175) C 3 dX9_tell_175 rfl rfl ?_
              refine kj_iload (pc := 176) C 4 dX9_tell_176 rfl ?_
              refine kj_iload (pc := 178) C 6 dX9_tell_178 rfl ?_
              refine kj_ineg (pc := 180) C dX9_tell_180 ?_
              obtain ⟨q11, hq11, hf⟩ := kb_bd hf
              refine kj_callV0 (pc := 181) (as := [.int q10.2, .int (kb_a μ 19 ((3 : Int32) * (x2 + (-1 : Int32))).toNatClampNeg), .int (kb_a μ 19 (((3 : Int32) * (x2 + (-1 : Int32))) + (1 : Int32)).toNatClampNeg), .int (-(kb_a μ 16 (fn_X9_at (kb_a μ 19 ((3 : Int32) * (x2 + (-1 : Int32))).toNatClampNeg) (kb_a μ 19 (((3 : Int32) * (x2 + (-1 : Int32))) + (1 : Int32)).toNatClampNeg) (kb_a μ 19 (((3 : Int32) * (x2 + (-1 : Int32))) + (2 : Int32)).toNatClampNeg)).toNatClampNeg))]) (rest := []) (b := (d 0)) C (ct_X9_push l V A q10.2 (kb_a μ 19 ((3 : Int32) * (x2 + (-1 : Int32))).toNatClampNeg) (kb_a μ 19 (((3 : Int32) * (x2 + (-1 : Int32))) + (1 : Int32)).toNatClampNeg) (-(kb_a μ 16 (fn_X9_at (kb_a μ 19 ((3 : Int32) * (x2 + (-1 : Int32))).toNatClampNeg) (kb_a μ 19 (((3 : Int32) * (x2 + (-1 : Int32))) + (1 : Int32)).toNatClampNeg) (kb_a μ 19 (((3 : Int32) * (x2 + (-1 : Int32))) + (2 : Int32)).toNatClampNeg)).toNatClampNeg)) d q10.1 ex hq11) wd_X9_push wk_X9_256 wi_X9_push ws_X9_push wz_X9 rfl rfl hd_X9_push ⟨by decide, by decide⟩ 0 rfl rfl rfl rfl (Nat.le_of_ble_eq_true rfl) (by decide) dX9_tell_181 ?_
              refine kj_istore_n (pc := 184) C [1, 2, 0, 3, 4, 5, 6] (L2 := [(0, .ref (d 0)), (1, .int x1), (2, .int q11.2), (3, .int (kb_a μ 19 ((3 : Int32) * (x2 + (-1 : Int32))).toNatClampNeg)), (4, .int (kb_a μ 19 (((3 : Int32) * (x2 + (-1 : Int32))) + (1 : Int32)).toNatClampNeg)), (5, .int (kb_a μ 19 (((3 : Int32) * (x2 + (-1 : Int32))) + (2 : Int32)).toNatClampNeg)), (6, .int (kb_a μ 16 (fn_X9_at (kb_a μ 19 ((3 : Int32) * (x2 + (-1 : Int32))).toNatClampNeg) (kb_a μ 19 (((3 : Int32) * (x2 + (-1 : Int32))) + (1 : Int32)).toNatClampNeg) (kb_a μ 19 (((3 : Int32) * (x2 + (-1 : Int32))) + (2 : Int32)).toNatClampNeg)).toNatClampNeg))]) dX9_tell_184 rfl (by decide) rfl ?_
              refine kj_sub [0, 1, 2] (L2 := [(0, .ref (d 0)), (1, .int x1), (2, .int q11.2)]) rfl ?_
              exact hp185 x1 q11.2 q11.1 hf
            · have hf := kb_ife hf c8
              refine kj_aload_n (pc := 112) C 0 dX9_tell_112 rfl rfl ?_
              refine kj_bipush (pc := 113) (v := (40 : Int32)) C dX9_tell_113 (by decide) ?_
              obtain ⟨q9, hq9, hf⟩ := kb_bd hf
              refine kj_callV0 (pc := 115) (as := [.int (40 : Int32)]) (rest := []) (b := (d 0)) C (ct_X9_put l V A (40 : Int32) d μ ex hq9) wd_X9_put wk_X9_229 wi_X9_put ws_X9_put wz_X9 rfl rfl hd_X9_put ⟨by decide, by decide⟩ 0 rfl rfl rfl rfl (Nat.le_of_ble_eq_true rfl) (by decide) dX9_tell_115 ?_
              refine kj_aload_n (pc := 118) C 0 dX9_tell_118 rfl rfl ?_
              refine kj_iload_n (pc := 119) C 2 dX9_tell_119 rfl rfl ?_
              refine kj_iconst (pc := 120) (v := (-1 : Int32)) C dX9_tell_120 (by decide) ?_
              refine kj_iconst (pc := 121) (v := (0 : Int32)) C dX9_tell_121 (by decide) ?_
              refine kj_iload (pc := 122) C 5 dX9_tell_122 rfl ?_
              refine kj_iload (pc := 124) C 6 dX9_tell_124 rfl ?_
              obtain ⟨g10, hf⟩ := kb_gd hf
              refine kj_idiv (pc := 126) C dX9_tell_126 g10 ?_
              obtain ⟨q11, hq11, hf⟩ := kb_bd hf
              refine kj_callV0 (pc := 127) (as := [.int (x2 + (-1 : Int32)), .int (-1 : Int32), .int (0 : Int32), .int ((kb_a μ 19 (((3 : Int32) * (x2 + (-1 : Int32))) + (2 : Int32)).toNatClampNeg) / (kb_a μ 16 (fn_X9_at (kb_a μ 19 ((3 : Int32) * (x2 + (-1 : Int32))).toNatClampNeg) (kb_a μ 19 (((3 : Int32) * (x2 + (-1 : Int32))) + (1 : Int32)).toNatClampNeg) (kb_a μ 19 (((3 : Int32) * (x2 + (-1 : Int32))) + (2 : Int32)).toNatClampNeg)).toNatClampNeg))]) (rest := []) (b := (d 0)) C (ct_X9_push l V A (x2 + (-1 : Int32)) (-1 : Int32) (0 : Int32) ((kb_a μ 19 (((3 : Int32) * (x2 + (-1 : Int32))) + (2 : Int32)).toNatClampNeg) / (kb_a μ 16 (fn_X9_at (kb_a μ 19 ((3 : Int32) * (x2 + (-1 : Int32))).toNatClampNeg) (kb_a μ 19 (((3 : Int32) * (x2 + (-1 : Int32))) + (1 : Int32)).toNatClampNeg) (kb_a μ 19 (((3 : Int32) * (x2 + (-1 : Int32))) + (2 : Int32)).toNatClampNeg)).toNatClampNeg)) d q9 ex hq11) wd_X9_push wk_X9_256 wi_X9_push ws_X9_push wz_X9 rfl rfl hd_X9_push ⟨by decide, by decide⟩ 0 rfl rfl rfl rfl (Nat.le_of_ble_eq_true rfl) (by decide) dX9_tell_127 ?_
              refine kj_istore_n (pc := 130) C [1, 2, 0, 3, 4, 5, 6] (L2 := [(0, .ref (d 0)), (1, .int x1), (2, .int q11.2), (3, .int (kb_a μ 19 ((3 : Int32) * (x2 + (-1 : Int32))).toNatClampNeg)), (4, .int (kb_a μ 19 (((3 : Int32) * (x2 + (-1 : Int32))) + (1 : Int32)).toNatClampNeg)), (5, .int (kb_a μ 19 (((3 : Int32) * (x2 + (-1 : Int32))) + (2 : Int32)).toNatClampNeg)), (6, .int (kb_a μ 16 (fn_X9_at (kb_a μ 19 ((3 : Int32) * (x2 + (-1 : Int32))).toNatClampNeg) (kb_a μ 19 (((3 : Int32) * (x2 + (-1 : Int32))) + (1 : Int32)).toNatClampNeg) (kb_a μ 19 (((3 : Int32) * (x2 + (-1 : Int32))) + (2 : Int32)).toNatClampNeg)).toNatClampNeg))]) dX9_tell_130 rfl (by decide) rfl ?_
              refine kj_aload_n (pc := 131) C 0 dX9_tell_131 rfl rfl ?_
              refine kj_iload_n (pc := 132) C 2 dX9_tell_132 rfl rfl ?_
              refine kj_iload_n (pc := 133) C 3 dX9_tell_133 rfl rfl ?_
              refine kj_iconst (pc := 134) (v := (1 : Int32)) C dX9_tell_134 (by decide) ?_
              refine kj_iadd (pc := 135) C dX9_tell_135 ?_
              refine kj_iload (pc := 136) C 4 dX9_tell_136 rfl ?_
              refine kj_iload (pc := 138) C 6 dX9_tell_138 rfl ?_
              obtain ⟨q12, hq12, hf⟩ := kb_bd hf
              refine kj_callV0 (pc := 140) (as := [.int q11.2, .int ((kb_a μ 19 ((3 : Int32) * (x2 + (-1 : Int32))).toNatClampNeg) + (1 : Int32)), .int (kb_a μ 19 (((3 : Int32) * (x2 + (-1 : Int32))) + (1 : Int32)).toNatClampNeg), .int (kb_a μ 16 (fn_X9_at (kb_a μ 19 ((3 : Int32) * (x2 + (-1 : Int32))).toNatClampNeg) (kb_a μ 19 (((3 : Int32) * (x2 + (-1 : Int32))) + (1 : Int32)).toNatClampNeg) (kb_a μ 19 (((3 : Int32) * (x2 + (-1 : Int32))) + (2 : Int32)).toNatClampNeg)).toNatClampNeg)]) (rest := []) (b := (d 0)) C (ct_X9_push l V A q11.2 ((kb_a μ 19 ((3 : Int32) * (x2 + (-1 : Int32))).toNatClampNeg) + (1 : Int32)) (kb_a μ 19 (((3 : Int32) * (x2 + (-1 : Int32))) + (1 : Int32)).toNatClampNeg) (kb_a μ 16 (fn_X9_at (kb_a μ 19 ((3 : Int32) * (x2 + (-1 : Int32))).toNatClampNeg) (kb_a μ 19 (((3 : Int32) * (x2 + (-1 : Int32))) + (1 : Int32)).toNatClampNeg) (kb_a μ 19 (((3 : Int32) * (x2 + (-1 : Int32))) + (2 : Int32)).toNatClampNeg)).toNatClampNeg) d q11.1 ex hq12) wd_X9_push wk_X9_256 wi_X9_push ws_X9_push wz_X9 rfl rfl hd_X9_push ⟨by decide, by decide⟩ 0 rfl rfl rfl rfl (Nat.le_of_ble_eq_true rfl) (by decide) dX9_tell_140 ?_
              refine kj_istore_n (pc := 143) C [1, 2, 0, 3, 4, 5, 6] (L2 := [(0, .ref (d 0)), (1, .int x1), (2, .int q12.2), (3, .int (kb_a μ 19 ((3 : Int32) * (x2 + (-1 : Int32))).toNatClampNeg)), (4, .int (kb_a μ 19 (((3 : Int32) * (x2 + (-1 : Int32))) + (1 : Int32)).toNatClampNeg)), (5, .int (kb_a μ 19 (((3 : Int32) * (x2 + (-1 : Int32))) + (2 : Int32)).toNatClampNeg)), (6, .int (kb_a μ 16 (fn_X9_at (kb_a μ 19 ((3 : Int32) * (x2 + (-1 : Int32))).toNatClampNeg) (kb_a μ 19 (((3 : Int32) * (x2 + (-1 : Int32))) + (1 : Int32)).toNatClampNeg) (kb_a μ 19 (((3 : Int32) * (x2 + (-1 : Int32))) + (2 : Int32)).toNatClampNeg)).toNatClampNeg))]) dX9_tell_143 rfl (by decide) rfl ?_
              refine kj_goto (pc := 144) 185 C dX9_tell_144 (by decide) ?_
              refine kj_sub [0, 1, 2] (L2 := [(0, .ref (d 0)), (1, .int x1), (2, .int q12.2)]) rfl ?_
              exact hp185 x1 q12.2 q12.1 hf
          · have hf := kb_ift hf c7
            refine kj_aload_n (pc := 88) C 0 dX9_tell_88 rfl rfl ?_
            refine kj_aload_n (pc := 89) C 0 dX9_tell_89 rfl rfl ?_
            refine kg_X9_stitch (pc := 90) C wf_X9_35 dX9_tell_90 ?_
            refine kj_iload_n (pc := 93) C 1 dX9_tell_93 rfl rfl ?_
            refine kj_bipush (pc := 94) (v := (80 : Int32)) C dX9_tell_94 (by decide) ?_
            refine kj_imul (pc := 96) C dX9_tell_96 ?_
            refine kj_iload (pc := 97) C 4 dX9_tell_97 rfl ?_
            refine kj_iadd (pc := 99) C dX9_tell_99 ?_
            obtain ⟨g8, hf⟩ := kb_gd hf
            refine ka_X9_stitch (pc := 100) (v := (kb_a μ 8 ((x1 * (80 : Int32)) + (kb_a μ 19 (((3 : Int32) * (x2 + (-1 : Int32))) + (1 : Int32)).toNatClampNeg)).toNatClampNeg)) C g8 dX9_tell_100 rfl ?_
            obtain ⟨q9, hq9, hf⟩ := kb_bd hf
            refine kj_callV0 (pc := 101) (as := [.int (kb_a μ 8 ((x1 * (80 : Int32)) + (kb_a μ 19 (((3 : Int32) * (x2 + (-1 : Int32))) + (1 : Int32)).toNatClampNeg)).toNatClampNeg)]) (rest := []) (b := (d 0)) C (ct_X9_name l V A (kb_a μ 8 ((x1 * (80 : Int32)) + (kb_a μ 19 (((3 : Int32) * (x2 + (-1 : Int32))) + (1 : Int32)).toNatClampNeg)).toNatClampNeg) d μ ex hq9) wd_X9_name wk_X9_263 wi_X9_name ws_X9_name wz_X9 rfl rfl hd_X9_name ⟨by decide, by decide⟩ 0 rfl rfl rfl rfl (Nat.le_of_ble_eq_true rfl) (by decide) dX9_tell_101 ?_
            refine kj_goto (pc := 104) 185 C dX9_tell_104 (by decide) ?_
            refine kj_sub [0, 1, 2] (L2 := [(0, .ref (d 0)), (1, .int x1), (2, .int (x2 + (-1 : Int32)))]) rfl ?_
            exact hp185 x1 (x2 + (-1 : Int32)) q9 hf
        · have hf := kb_ife hf c5
          refine kj_aload_n (pc := 58) C 0 dX9_tell_58 rfl rfl ?_
          refine kj_iload (pc := 59) C 5 dX9_tell_59 rfl ?_
          obtain ⟨q6, hq6, hf⟩ := kb_bd hf
          refine kj_callV0 (pc := 61) (as := [.int (kb_a μ 19 (((3 : Int32) * (x2 + (-1 : Int32))) + (2 : Int32)).toNatClampNeg)]) (rest := []) (b := (d 0)) C (ct_X9_ends l V A (kb_a μ 19 (((3 : Int32) * (x2 + (-1 : Int32))) + (2 : Int32)).toNatClampNeg) d μ ex hq6) wd_X9_ends wk_X9_260 wi_X9_ends ws_X9_ends wz_X9 rfl rfl hd_X9_ends ⟨by decide, by decide⟩ 0 rfl rfl rfl rfl (Nat.le_of_ble_eq_true rfl) (by decide) dX9_tell_61 ?_
          refine kj_goto (pc := 64) 14 C dX9_tell_64 (by decide) ?_
          refine kj_sub [0, 1, 2] (L2 := [(0, .ref (d 0)), (1, .int x1), (2, .int (x2 + (-1 : Int32)))]) rfl ?_
          exact ih14 x1 (x2 + (-1 : Int32)) q6 hf
  refine kj_sub [0, 1] (L2 := [(0, .ref (d 0)), (1, .int x1)]) rfl ?_
  rw [fe_X9_tell] at hf
  refine kj_aload_n (pc := 0) C 0 dX9_tell_0 rfl rfl ?_
  refine kj_iconst (pc := 1) (v := (0 : Int32)) C dX9_tell_1 (by decide) ?_
  refine kj_iconst (pc := 2) (v := (0 : Int32)) C dX9_tell_2 (by decide) ?_
  refine kj_iconst (pc := 3) (v := (0 : Int32)) C dX9_tell_3 (by decide) ?_
  refine kj_aload_n (pc := 4) C 0 dX9_tell_4 rfl rfl ?_
  refine kg_X9_many (pc := 5) C wf_X9_32 dX9_tell_5 ?_
  refine kj_iload_n (pc := 8) C 1 dX9_tell_8 rfl rfl ?_
  obtain ⟨g1, hf⟩ := kb_gd hf
  refine ka_X9_many (pc := 9) (v := (kb_a μ 7 x1.toNatClampNeg)) C g1 dX9_tell_9 rfl ?_
  obtain ⟨q2, hq2, hf⟩ := kb_bd hf
  refine kj_callV0 (pc := 10) (as := [.int (0 : Int32), .int (0 : Int32), .int (0 : Int32), .int (kb_a μ 7 x1.toNatClampNeg)]) (rest := []) (b := (d 0)) C (ct_X9_push l V A (0 : Int32) (0 : Int32) (0 : Int32) (kb_a μ 7 x1.toNatClampNeg) d μ ex hq2) wd_X9_push wk_X9_256 wi_X9_push ws_X9_push wz_X9 rfl rfl hd_X9_push ⟨by decide, by decide⟩ 0 rfl rfl rfl rfl (Nat.le_of_ble_eq_true rfl) (by decide) dX9_tell_10 ?_
  refine kj_istore_n (pc := 13) C [1, 2, 0] (L2 := [(0, .ref (d 0)), (1, .int x1), (2, .int q2.2)]) dX9_tell_13 rfl (by decide) rfl ?_
  exact hp14 kb_FU x1 q2.2 q2.1 hf
def fn_X9_shorten  (x1 : Int32) (μ : kb_S) : Option (kb_S × Int32) :=
  (fn_X9_says (fn_X9_in x1 (1 : Int32) (kb_g μ 4)) μ).bind fun q1 =>
  if q1.2 = 0 then
    some (q1.1, (0 : Int32))
  else
    (fn_X9_reckon x1 (kb_p q1.1 11 (0 : Int32))).bind fun q3 =>
    (fn_X9_tell x1 q3).bind fun q4 =>
    if kb_in x1 31 = true then
      if kb_in (fn_X9_at (0 : Int32) (0 : Int32) (kb_a q4 7 x1.toNatClampNeg)) 32400 = true then
        some (q4, (kb_a q4 15 (fn_X9_at (0 : Int32) (0 : Int32) (kb_a q4 7 x1.toNatClampNeg)).toNatClampNeg))
      else none
    else none
theorem fe_X9_shorten  (x1 : Int32) (μ : kb_S) : fn_X9_shorten  x1 μ =
  (fn_X9_says (fn_X9_in x1 (1 : Int32) (kb_g μ 4)) μ).bind fun q1 =>
  if q1.2 = 0 then
    some (q1.1, (0 : Int32))
  else
    (fn_X9_reckon x1 (kb_p q1.1 11 (0 : Int32))).bind fun q3 =>
    (fn_X9_tell x1 q3).bind fun q4 =>
    if kb_in x1 31 = true then
      if kb_in (fn_X9_at (0 : Int32) (0 : Int32) (kb_a q4 7 x1.toNatClampNeg)) 32400 = true then
        some (q4, (kb_a q4 15 (fn_X9_at (0 : Int32) (0 : Int32) (kb_a q4 7 x1.toNatClampNeg)).toNatClampNeg))
      else none
    else none := rfl
theorem hd_X9_shorten : yX9_shorten.cls = RX9 ∧ yX9_shorten.cls ≠ "java/lang/invoke/MethodHandle" ∧ yX9_shorten.cls ≠ "java/lang/invoke/VarHandle" ∧ (parseMethodDescriptor yX9_shorten.desc).map (fun d => d.parameters.length) = some 1 := by decide +kernel
set_option maxRecDepth 100000 in
set_option maxHeartbeats 4000000 in
theorem ct_X9_shorten (l : Launch) (V : kb_V) (A : Nat → Prop)  (x1 : Int32) (d : Nat → Nat) (μ : kb_S) (ex : va_W) {μ9 : kb_S} {r : Int32} (hf : fn_X9_shorten  x1 μ = some (μ9, r)) : kb_T l yX9_shorten cX9_shorten 2 (some .int) ({ frames := 4, cells := 0, slots := 0, locals := 91 } : Room) V A [.ref (d 0), .int x1] (kb_WM V d μ ex) (some (.int r)) (kb_WM V d μ9 ex) 0 0 := by
  refine kb_start (cc := cX9_shorten) (nL := 2) (ret := (some .int)) (own := RX9) (by decide) rfl (Nat.le_of_ble_eq_true rfl) ?_
  intro p e s m args below meth c C
  refine kj_sub [0, 1] (L2 := [(0, .ref (d 0)), (1, .int x1)]) rfl ?_
  rw [fe_X9_shorten] at hf
  refine kj_aload_n (pc := 0) C 0 dX9_shorten_0 rfl rfl ?_
  refine kj_iload_n (pc := 1) C 1 dX9_shorten_1 rfl rfl ?_
  refine kj_iconst (pc := 2) (v := (1 : Int32)) C dX9_shorten_2 (by decide) ?_
  refine kj_aload_n (pc := 3) C 0 dX9_shorten_3 rfl rfl ?_
  refine kg_X9_rows (pc := 4) (v := (kb_g μ 4)) C wf_X9_86 dX9_shorten_4 rfl ?_
  refine kj_callS0 (pc := 7) (as := [.int x1, .int (1 : Int32), .int (kb_g μ 4)]) (rest := [.ref (d 0)]) C (ct_X9_in l V A x1 (1 : Int32) (kb_g μ 4) (kb_WM V d μ ex) rfl) wd_X9_in wk_X9_96 wi_X9_in wz_X9 rfl rfl hd_X9_in ⟨by decide, by decide⟩ rfl (Nat.le_of_ble_eq_true rfl) (by decide) dX9_shorten_7 ?_
  obtain ⟨q1, hq1, hf⟩ := kb_bd hf
  refine kj_callV0 (pc := 10) (as := [.int (fn_X9_in x1 (1 : Int32) (kb_g μ 4))]) (rest := []) (b := (d 0)) C (ct_X9_says l V A (fn_X9_in x1 (1 : Int32) (kb_g μ 4)) d μ ex hq1) wd_X9_says wk_X9_100 wi_X9_says ws_X9_says wz_X9 rfl rfl hd_X9_says ⟨by decide, by decide⟩ 0 rfl rfl rfl rfl (Nat.le_of_ble_eq_true rfl) (by decide) dX9_shorten_10 ?_
  refine kj_if_ne (pc := 13) 18 C dX9_shorten_13 (by decide) (fun c2 => ?_) (fun c2 => ?_)
  · have hf := kb_ife hf c2
    refine kj_aload_n (pc := 18) C 0 dX9_shorten_18 rfl rfl ?_
    refine kj_iconst (pc := 19) (v := (0 : Int32)) C dX9_shorten_19 (by decide) ?_
    refine kp_X9_written (pc := 20) C wf_X9_89 dX9_shorten_20 ?_
    refine kj_aload_n (pc := 23) C 0 dX9_shorten_23 rfl rfl ?_
    refine kj_iload_n (pc := 24) C 1 dX9_shorten_24 rfl rfl ?_
    obtain ⟨q3, hq3, hf⟩ := kb_bd hf
    refine kj_callV0 (pc := 25) (as := [.int x1]) (rest := []) (b := (d 0)) C (ct_X9_reckon l V A x1 d (kb_p q1.1 11 (0 : Int32)) ex hq3) wd_X9_reckon wk_X9_266 wi_X9_reckon ws_X9_reckon wz_X9 rfl rfl hd_X9_reckon ⟨by decide, by decide⟩ 0 rfl rfl rfl rfl (Nat.le_of_ble_eq_true rfl) (by decide) dX9_shorten_25 ?_
    refine kj_aload_n (pc := 28) C 0 dX9_shorten_28 rfl rfl ?_
    refine kj_iload_n (pc := 29) C 1 dX9_shorten_29 rfl rfl ?_
    obtain ⟨q4, hq4, hf⟩ := kb_bd hf
    refine kj_callV0 (pc := 30) (as := [.int x1]) (rest := []) (b := (d 0)) C (ct_X9_tell l V A x1 d q3 ex hq4) wd_X9_tell wk_X9_269 wi_X9_tell ws_X9_tell wz_X9 rfl rfl hd_X9_tell ⟨by decide, by decide⟩ 0 rfl rfl rfl rfl (Nat.le_of_ble_eq_true rfl) (by decide) dX9_shorten_30 ?_
    refine kj_aload_n (pc := 33) C 0 dX9_shorten_33 rfl rfl ?_
    refine kg_X9_words (pc := 34) C wf_X9_56 dX9_shorten_34 ?_
    refine kj_iconst (pc := 37) (v := (0 : Int32)) C dX9_shorten_37 (by decide) ?_
    refine kj_iconst (pc := 38) (v := (0 : Int32)) C dX9_shorten_38 (by decide) ?_
    refine kj_aload_n (pc := 39) C 0 dX9_shorten_39 rfl rfl ?_
    refine kg_X9_many (pc := 40) C wf_X9_32 dX9_shorten_40 ?_
    refine kj_iload_n (pc := 43) C 1 dX9_shorten_43 rfl rfl ?_
    obtain ⟨g5, hf⟩ := kb_gd hf
    refine ka_X9_many (pc := 44) (v := (kb_a q4 7 x1.toNatClampNeg)) C g5 dX9_shorten_44 rfl ?_
    refine kj_callS0 (pc := 45) (as := [.int (0 : Int32), .int (0 : Int32), .int (kb_a q4 7 x1.toNatClampNeg)]) (rest := [.ref (d 16)]) C (ct_X9_at l V A (0 : Int32) (0 : Int32) (kb_a q4 7 x1.toNatClampNeg) (kb_WM V d q4 ex) rfl) wd_X9_at wk_X9_221 wi_X9_at wz_X9 rfl rfl hd_X9_at ⟨by decide, by decide⟩ rfl (Nat.le_of_ble_eq_true rfl) (by decide) dX9_shorten_45 ?_
    obtain ⟨g6, hf⟩ := kb_gd hf
    refine ka_X9_words (pc := 48) (v := (kb_a q4 15 (fn_X9_at (0 : Int32) (0 : Int32) (kb_a q4 7 x1.toNatClampNeg)).toNatClampNeg)) C g6 dX9_shorten_48 rfl ?_
    cases hf
    exact kj_iret (pc := 49) C dX9_shorten_49
  · have hf := kb_ift hf c2
    refine kj_iconst (pc := 16) (v := (0 : Int32)) C dX9_shorten_16 (by decide) ?_
    cases hf
    exact kj_iret (pc := 17) C dX9_shorten_17
def fp_X9_out_10   (x1 : Int32) (y0 : Int32) (μ : kb_S) : Option (kb_S × Int32) :=
  (fn_X9_says y0 μ).bind fun q1 =>
  if q1.2 = 0 then
    some (q1.1, (0 : Int32))
  else
    if (kb_g q1.1 11) ≤ x1 then
      some (q1.1, (-1 : Int32))
    else
      if kb_in x1 1200 = true then
        some (q1.1, (kb_a q1.1 14 x1.toNatClampNeg))
      else none
theorem fp_X9_out_10_e   (x1 : Int32) (y0 : Int32) (μ : kb_S) : fp_X9_out_10  x1 y0 μ =
  (fn_X9_says y0 μ).bind fun q1 =>
  if q1.2 = 0 then
    some (q1.1, (0 : Int32))
  else
    if (kb_g q1.1 11) ≤ x1 then
      some (q1.1, (-1 : Int32))
    else
      if kb_in x1 1200 = true then
        some (q1.1, (kb_a q1.1 14 x1.toNatClampNeg))
      else none := rfl
def fn_X9_out  (x1 : Int32) (μ : kb_S) : Option (kb_S × Int32) :=
  if x1 < 0 then
    fp_X9_out_10   x1 (0 : Int32) μ
  else
    fp_X9_out_10   x1 (1 : Int32) μ
theorem fe_X9_out  (x1 : Int32) (μ : kb_S) : fn_X9_out  x1 μ =
  if x1 < 0 then
    fp_X9_out_10   x1 (0 : Int32) μ
  else
    fp_X9_out_10   x1 (1 : Int32) μ := rfl
theorem hd_X9_out : yX9_out.cls = RX9 ∧ yX9_out.cls ≠ "java/lang/invoke/MethodHandle" ∧ yX9_out.cls ≠ "java/lang/invoke/VarHandle" ∧ (parseMethodDescriptor yX9_out.desc).map (fun d => d.parameters.length) = some 1 := by decide +kernel
set_option maxRecDepth 100000 in
set_option maxHeartbeats 4000000 in
theorem ct_X9_out (l : Launch) (V : kb_V) (A : Nat → Prop)  (x1 : Int32) (d : Nat → Nat) (μ : kb_S) (ex : va_W) {μ9 : kb_S} {r : Int32} (hf : fn_X9_out  x1 μ = some (μ9, r)) : kb_T l yX9_out cX9_out 2 (some .int) ({ frames := 1, cells := 0, slots := 0, locals := 21 } : Room) V A [.ref (d 0), .int x1] (kb_WM V d μ ex) (some (.int r)) (kb_WM V d μ9 ex) 0 0 := by
  refine kb_start (cc := cX9_out) (nL := 2) (ret := (some .int)) (own := RX9) (by decide) rfl (Nat.le_of_ble_eq_true rfl) ?_
  intro p e s m args below meth c C
  have hp10 : ∀ (x1 : Int32) (y0 : Int32) (μ : kb_S), fp_X9_out_10   x1 y0 μ = some (μ9, r) → kb_J p l e ({ frames := 1, cells := 0, slots := 0, locals := 21 } : Room) s m args below meth c 2 V A 0 0 (MQ below (kb_post V A (some (.int r)) (kb_WM V d μ9 ex)) args s 0 0 A) 10 [(0, .ref (d 0)), (1, .int x1)] [.int y0, .ref (d 0)] (kb_WM V d μ ex) := by
    intro x1 y0 μ hf
    rw [fp_X9_out_10_e] at hf
    obtain ⟨q1, hq1, hf⟩ := kb_bd hf
    refine kj_callV0 (pc := 10) (as := [.int y0]) (rest := []) (b := (d 0)) C (ct_X9_says l V A y0 d μ ex hq1) wd_X9_says wk_X9_100 wi_X9_says ws_X9_says wz_X9 rfl rfl hd_X9_says ⟨by decide, by decide⟩ 0 rfl rfl rfl rfl (Nat.le_of_ble_eq_true rfl) (by decide) dX9_out_10 ?_
    refine kj_if_ne (pc := 13) 18 C dX9_out_13 (by decide) (fun c2 => ?_) (fun c2 => ?_)
    · have hf := kb_ife hf c2
      refine kj_iload_n (pc := 18) C 1 dX9_out_18 rfl rfl ?_
      refine kj_aload_n (pc := 19) C 0 dX9_out_19 rfl rfl ?_
      refine kg_X9_written (pc := 20) (v := (kb_g q1.1 11)) C wf_X9_89 dX9_out_20 rfl ?_
      refine kj_icmp_ge (pc := 23) 35 C dX9_out_23 (by decide) (fun c3 => ?_) (fun c3 => ?_)
      · have hf := kb_ift hf c3
        refine kj_iconst (pc := 35) (v := (-1 : Int32)) C dX9_out_35 (by decide) ?_
        cases hf
        exact kj_iret (pc := 36) C dX9_out_36
      · have hf := kb_ife hf c3
        refine kj_aload_n (pc := 26) C 0 dX9_out_26 rfl rfl ?_
        refine kg_X9_out (pc := 27) C wf_X9_53 dX9_out_27 ?_
        refine kj_iload_n (pc := 30) C 1 dX9_out_30 rfl rfl ?_
        obtain ⟨g4, hf⟩ := kb_gd hf
        refine ka_X9_out (pc := 31) (v := (kb_a q1.1 14 x1.toNatClampNeg)) C g4 dX9_out_31 rfl ?_
        refine kj_goto (pc := 32) 36 C dX9_out_32 (by decide) ?_
        cases hf
        exact kj_iret (pc := 36) C dX9_out_36
    · have hf := kb_ift hf c2
      refine kj_iconst (pc := 16) (v := (0 : Int32)) C dX9_out_16 (by decide) ?_
      cases hf
      exact kj_iret (pc := 17) C dX9_out_17
  refine kj_sub [0, 1] (L2 := [(0, .ref (d 0)), (1, .int x1)]) rfl ?_
  rw [fe_X9_out] at hf
  refine kj_aload_n (pc := 0) C 0 dX9_out_0 rfl rfl ?_
  refine kj_iload_n (pc := 1) C 1 dX9_out_1 rfl rfl ?_
  refine kj_if_lt (pc := 2) 9 C dX9_out_2 (by decide) (fun c1 => ?_) (fun c1 => ?_)
  · have hf := kb_ift hf c1
    refine kj_iconst (pc := 9) (v := (0 : Int32)) C dX9_out_9 (by decide) ?_
    exact hp10 x1 (0 : Int32) μ hf
  · have hf := kb_ife hf c1
    refine kj_iconst (pc := 5) (v := (1 : Int32)) C dX9_out_5 (by decide) ?_
    refine kj_goto (pc := 6) 10 C dX9_out_6 (by decide) ?_
    exact hp10 x1 (1 : Int32) μ hf
def fp_X9_ladder_28   : Nat → Int32 → Int32 → kb_S → Option (kb_S × Int32)
  | 0 => fun _ _ _ => none
  | nn + 1 => fun x2 x3 μ => 
  if kb_in x3 600 = true then
    if (kb_a μ 4 x3.toNatClampNeg) ≤ 0 then
      some (μ, x2)
    else
      if kb_in ((3 : Int32) * x3) 1800 = true then
        (fp_X9_ladder_28  nn) (x2 + (1 : Int32)) (kb_a μ 5 ((3 : Int32) * x3).toNatClampNeg) μ
      else none
  else none
theorem fp_X9_ladder_28_s   (nn : Nat) (x2 : Int32) (x3 : Int32) (μ : kb_S) : fp_X9_ladder_28  (nn + 1) x2 x3 μ =
  if kb_in x3 600 = true then
    if (kb_a μ 4 x3.toNatClampNeg) ≤ 0 then
      some (μ, x2)
    else
      if kb_in ((3 : Int32) * x3) 1800 = true then
        (fp_X9_ladder_28  nn) (x2 + (1 : Int32)) (kb_a μ 5 ((3 : Int32) * x3).toNatClampNeg) μ
      else none
  else none := rfl
def fn_X9_ladder  (x1 : Int32) (μ : kb_S) : Option (kb_S × Int32) :=
  (fn_X9_liveLoops  μ).bind fun q1 =>
  (fn_X9_says (fn_X9_in x1 (0 : Int32) (q1 - (1 : Int32))) μ).bind fun q2 =>
  if q2.2 = 0 then
    some (q2.1, (0 : Int32))
  else
    (fn_X9_needle x1 q2.1).bind fun q4 =>
    fp_X9_ladder_28   kb_FU (1 : Int32) q4 q2.1
theorem fe_X9_ladder  (x1 : Int32) (μ : kb_S) : fn_X9_ladder  x1 μ =
  (fn_X9_liveLoops  μ).bind fun q1 =>
  (fn_X9_says (fn_X9_in x1 (0 : Int32) (q1 - (1 : Int32))) μ).bind fun q2 =>
  if q2.2 = 0 then
    some (q2.1, (0 : Int32))
  else
    (fn_X9_needle x1 q2.1).bind fun q4 =>
    fp_X9_ladder_28   kb_FU (1 : Int32) q4 q2.1 := rfl
theorem hd_X9_ladder : yX9_ladder.cls = RX9 ∧ yX9_ladder.cls ≠ "java/lang/invoke/MethodHandle" ∧ yX9_ladder.cls ≠ "java/lang/invoke/VarHandle" ∧ (parseMethodDescriptor yX9_ladder.desc).map (fun d => d.parameters.length) = some 1 := by decide +kernel
set_option maxRecDepth 100000 in
set_option maxHeartbeats 4000000 in
theorem ct_X9_ladder (l : Launch) (V : kb_V) (A : Nat → Prop)  (x1 : Int32) (d : Nat → Nat) (μ : kb_S) (ex : va_W) {μ9 : kb_S} {r : Int32} (hf : fn_X9_ladder  x1 μ = some (μ9, r)) : kb_T l yX9_ladder cX9_ladder 4 (some .int) ({ frames := 1, cells := 0, slots := 0, locals := 22 } : Room) V A [.ref (d 0), .int x1] (kb_WM V d μ ex) (some (.int r)) (kb_WM V d μ9 ex) 0 0 := by
  refine kb_start (cc := cX9_ladder) (nL := 4) (ret := (some .int)) (own := RX9) (by decide) rfl (Nat.le_of_ble_eq_true rfl) ?_
  intro p e s m args below meth c C
  have hp28 : ∀ (nn : Nat) (x2 : Int32) (x3 : Int32) (μ : kb_S), fp_X9_ladder_28   nn x2 x3 μ = some (μ9, r) → kb_J p l e ({ frames := 1, cells := 0, slots := 0, locals := 22 } : Room) s m args below meth c 4 V A 0 0 (MQ below (kb_post V A (some (.int r)) (kb_WM V d μ9 ex)) args s 0 0 A) 28 [(0, .ref (d 0)), (2, .int x2), (3, .int x3)] [] (kb_WM V d μ ex) := by
    intro nn28
    induction nn28 with
    | zero => intro x2 x3 μ hf; exact kb_no hf
    | succ nn28 ih28 =>
      intro x2 x3 μ hf
      rw [fp_X9_ladder_28_s] at hf
      refine kj_aload_n (pc := 28) C 0 dX9_ladder_28 rfl rfl ?_
      refine kg_X9_parents (pc := 29) C wf_X9_23 dX9_ladder_29 ?_
      refine kj_iload_n (pc := 32) C 2 dX9_ladder_32 rfl rfl ?_
      obtain ⟨g1, hf⟩ := kb_gd hf
      refine ka_X9_parents (pc := 33) (v := (kb_a μ 4 x3.toNatClampNeg)) C g1 dX9_ladder_33 rfl ?_
      refine kj_if_le (pc := 34) 52 C dX9_ladder_34 (by decide) (fun c2 => ?_) (fun c2 => ?_)
      · have hf := kb_ift hf c2
        refine kj_iload_n (pc := 52) C 1 dX9_ladder_52 rfl rfl ?_
        cases hf
        exact kj_iret (pc := 53) C dX9_ladder_53
      · have hf := kb_ife hf c2
        refine kj_aload_n (pc := 37) C 0 dX9_ladder_37 rfl rfl ?_
        refine kg_X9_parent (pc := 38) C wf_X9_26 dX9_ladder_38 ?_
        refine kj_iconst (pc := 41) (v := (3 : Int32)) C dX9_ladder_41 (by decide) ?_
        refine kj_iload_n (pc := 42) C 2 dX9_ladder_42 rfl rfl ?_
        refine kj_imul (pc := 43) C dX9_ladder_43 ?_
        obtain ⟨g3, hf⟩ := kb_gd hf
        refine ka_X9_parent (pc := 44) (v := (kb_a μ 5 ((3 : Int32) * x3).toNatClampNeg)) C g3 dX9_ladder_44 rfl ?_
        refine kj_istore_n (pc := 45) C [1, 2, 0] (L2 := [(0, .ref (d 0)), (2, .int x2), (3, .int (kb_a μ 5 ((3 : Int32) * x3).toNatClampNeg))]) dX9_ladder_45 rfl (by decide) rfl ?_
        refine kj_iinc (pc := 46) C 1 [1, 0, 2] (L2 := [(0, .ref (d 0)), (2, .int (x2 + (1 : Int32))), (3, .int (kb_a μ 5 ((3 : Int32) * x3).toNatClampNeg))]) dX9_ladder_46 rfl rfl (by decide) rfl ?_
        refine kj_goto (pc := 49) 28 C dX9_ladder_49 (by decide) ?_
        exact ih28 (x2 + (1 : Int32)) (kb_a μ 5 ((3 : Int32) * x3).toNatClampNeg) μ hf
  refine kj_sub [0, 1] (L2 := [(0, .ref (d 0)), (1, .int x1)]) rfl ?_
  rw [fe_X9_ladder] at hf
  refine kj_aload_n (pc := 0) C 0 dX9_ladder_0 rfl rfl ?_
  refine kj_iload_n (pc := 1) C 1 dX9_ladder_1 rfl rfl ?_
  refine kj_iconst (pc := 2) (v := (0 : Int32)) C dX9_ladder_2 (by decide) ?_
  refine kj_aload_n (pc := 3) C 0 dX9_ladder_3 rfl rfl ?_
  obtain ⟨q1, hq1, hf⟩ := kb_bd hf
  refine kj_callV0 (pc := 4) (as := []) (rest := [.int (0 : Int32), .int x1, .ref (d 0)]) (b := (d 0)) C (ct_X9_liveLoops l V A  d μ ex hq1) wd_X9_liveLoops wk_X9_208 wi_X9_liveLoops ws_X9_liveLoops wz_X9 rfl rfl hd_X9_liveLoops ⟨by decide, by decide⟩ 0 rfl rfl rfl rfl (Nat.le_of_ble_eq_true rfl) (by decide) dX9_ladder_4 ?_
  refine kj_iconst (pc := 7) (v := (1 : Int32)) C dX9_ladder_7 (by decide) ?_
  refine kj_isub (pc := 8) C dX9_ladder_8 ?_
  refine kj_callS0 (pc := 9) (as := [.int x1, .int (0 : Int32), .int (q1 - (1 : Int32))]) (rest := [.ref (d 0)]) C (ct_X9_in l V A x1 (0 : Int32) (q1 - (1 : Int32)) (kb_WM V d μ ex) rfl) wd_X9_in wk_X9_96 wi_X9_in wz_X9 rfl rfl hd_X9_in ⟨by decide, by decide⟩ rfl (Nat.le_of_ble_eq_true rfl) (by decide) dX9_ladder_9 ?_
  obtain ⟨q2, hq2, hf⟩ := kb_bd hf
  refine kj_callV0 (pc := 12) (as := [.int (fn_X9_in x1 (0 : Int32) (q1 - (1 : Int32)))]) (rest := []) (b := (d 0)) C (ct_X9_says l V A (fn_X9_in x1 (0 : Int32) (q1 - (1 : Int32))) d μ ex hq2) wd_X9_says wk_X9_100 wi_X9_says ws_X9_says wz_X9 rfl rfl hd_X9_says ⟨by decide, by decide⟩ 0 rfl rfl rfl rfl (Nat.le_of_ble_eq_true rfl) (by decide) dX9_ladder_12 ?_
  refine kj_if_ne (pc := 15) 20 C dX9_ladder_15 (by decide) (fun c3 => ?_) (fun c3 => ?_)
  · have hf := kb_ife hf c3
    refine kj_iconst (pc := 20) (v := (1 : Int32)) C dX9_ladder_20 (by decide) ?_
    refine kj_istore_n (pc := 21) C [1, 2, 0] (L2 := [(0, .ref (d 0)), (1, .int x1), (2, .int (1 : Int32))]) dX9_ladder_21 rfl (by decide) rfl ?_
    refine kj_aload_n (pc := 22) C 0 dX9_ladder_22 rfl rfl ?_
    refine kj_iload_n (pc := 23) C 1 dX9_ladder_23 rfl rfl ?_
    obtain ⟨q4, hq4, hf⟩ := kb_bd hf
    refine kj_callV0 (pc := 24) (as := [.int x1]) (rest := []) (b := (d 0)) C (ct_X9_needle l V A x1 d q2.1 ex hq4) wd_X9_needle wk_X9_217 wi_X9_needle ws_X9_needle wz_X9 rfl rfl hd_X9_needle ⟨by decide, by decide⟩ 0 rfl rfl rfl rfl (Nat.le_of_ble_eq_true rfl) (by decide) dX9_ladder_24 ?_
    refine kj_istore_n (pc := 27) C [1, 2, 3, 0] (L2 := [(0, .ref (d 0)), (1, .int x1), (2, .int (1 : Int32)), (3, .int q4)]) dX9_ladder_27 rfl (by decide) rfl ?_
    refine kj_sub [0, 2, 3] (L2 := [(0, .ref (d 0)), (2, .int (1 : Int32)), (3, .int q4)]) rfl ?_
    exact hp28 kb_FU (1 : Int32) q4 q2.1 hf
  · have hf := kb_ift hf c3
    refine kj_iconst (pc := 18) (v := (0 : Int32)) C dX9_ladder_18 (by decide) ?_
    cases hf
    exact kj_iret (pc := 19) C dX9_ladder_19
def fp_X9_total_89  (kc19 : Int32 → Int32 → Int32 → kb_S → Option (kb_S × Int32)) (x1 : Int32) (x3 : Int32) (y0 : Int32) (μ : kb_S) : Option (kb_S × Int32) :=
  kc19 x1 y0 (x3 + (1 : Int32)) μ
theorem fp_X9_total_89_e  (kc19 : Int32 → Int32 → Int32 → kb_S → Option (kb_S × Int32)) (x1 : Int32) (x3 : Int32) (y0 : Int32) (μ : kb_S) : fp_X9_total_89 kc19 x1 x3 y0 μ =
  kc19 x1 y0 (x3 + (1 : Int32)) μ := rfl
def fp_X9_total_82  (kc19 : Int32 → Int32 → Int32 → kb_S → Option (kb_S × Int32)) (x1 : Int32) (x2 : Int32) (x3 : Int32) (μ : kb_S) : Option (kb_S × Int32) :=
  fp_X9_total_89  kc19 x1 x3 (x2 + (1 : Int32)) μ
theorem fp_X9_total_82_e  (kc19 : Int32 → Int32 → Int32 → kb_S → Option (kb_S × Int32)) (x1 : Int32) (x2 : Int32) (x3 : Int32) (μ : kb_S) : fp_X9_total_82 kc19 x1 x2 x3 μ =
  fp_X9_total_89  kc19 x1 x3 (x2 + (1 : Int32)) μ := rfl
def fp_X9_total_88  (kc19 : Int32 → Int32 → Int32 → kb_S → Option (kb_S × Int32)) (x1 : Int32) (x2 : Int32) (x3 : Int32) (μ : kb_S) : Option (kb_S × Int32) :=
  fp_X9_total_89  kc19 x1 x3 x2 μ
theorem fp_X9_total_88_e  (kc19 : Int32 → Int32 → Int32 → kb_S → Option (kb_S × Int32)) (x1 : Int32) (x2 : Int32) (x3 : Int32) (μ : kb_S) : fp_X9_total_88 kc19 x1 x2 x3 μ =
  fp_X9_total_89  kc19 x1 x3 x2 μ := rfl
def fp_X9_total_68  (kc19 : Int32 → Int32 → Int32 → kb_S → Option (kb_S × Int32)) (x1 : Int32) (x2 : Int32) (x3 : Int32) (μ : kb_S) : Option (kb_S × Int32) :=
  if x1 = (3 : Int32) then
    if kb_in x3 600 = true then
      if (kb_a μ 3 x3.toNatClampNeg) = 0 then
        fp_X9_total_88  kc19 x1 x2 x3 μ
      else
        fp_X9_total_82  kc19 x1 x2 x3 μ
    else none
  else
    fp_X9_total_88  kc19 x1 x2 x3 μ
theorem fp_X9_total_68_e  (kc19 : Int32 → Int32 → Int32 → kb_S → Option (kb_S × Int32)) (x1 : Int32) (x2 : Int32) (x3 : Int32) (μ : kb_S) : fp_X9_total_68 kc19 x1 x2 x3 μ =
  if x1 = (3 : Int32) then
    if kb_in x3 600 = true then
      if (kb_a μ 3 x3.toNatClampNeg) = 0 then
        fp_X9_total_88  kc19 x1 x2 x3 μ
      else
        fp_X9_total_82  kc19 x1 x2 x3 μ
    else none
  else
    fp_X9_total_88  kc19 x1 x2 x3 μ := rfl
def fp_X9_total_45  (kc19 : Int32 → Int32 → Int32 → kb_S → Option (kb_S × Int32)) (x1 : Int32) (x2 : Int32) (x3 : Int32) (μ : kb_S) : Option (kb_S × Int32) :=
  if x1 = (2 : Int32) then
    if kb_in x3 600 = true then
      if (kb_a μ 2 x3.toNatClampNeg) ≤ 0 then
        fp_X9_total_68  kc19 x1 x2 x3 μ
      else
        if kb_in x3 600 = true then
          if (kb_a μ 3 x3.toNatClampNeg) = 0 then
            fp_X9_total_82  kc19 x1 x2 x3 μ
          else
            fp_X9_total_68  kc19 x1 x2 x3 μ
        else none
    else none
  else
    fp_X9_total_68  kc19 x1 x2 x3 μ
theorem fp_X9_total_45_e  (kc19 : Int32 → Int32 → Int32 → kb_S → Option (kb_S × Int32)) (x1 : Int32) (x2 : Int32) (x3 : Int32) (μ : kb_S) : fp_X9_total_45 kc19 x1 x2 x3 μ =
  if x1 = (2 : Int32) then
    if kb_in x3 600 = true then
      if (kb_a μ 2 x3.toNatClampNeg) ≤ 0 then
        fp_X9_total_68  kc19 x1 x2 x3 μ
      else
        if kb_in x3 600 = true then
          if (kb_a μ 3 x3.toNatClampNeg) = 0 then
            fp_X9_total_82  kc19 x1 x2 x3 μ
          else
            fp_X9_total_68  kc19 x1 x2 x3 μ
        else none
    else none
  else
    fp_X9_total_68  kc19 x1 x2 x3 μ := rfl
def fp_X9_total_19   : Nat → Int32 → Int32 → Int32 → kb_S → Option (kb_S × Int32)
  | 0 => fun _ _ _ _ => none
  | nn + 1 => fun x1 x2 x3 μ => 
  if (kb_g μ 3) ≤ x3 then
    some (μ, x2)
  else
    if x1 = 0 then
      fp_X9_total_82  (fp_X9_total_19  nn) x1 x2 x3 μ
    else
      if x1 = (1 : Int32) then
        if kb_in x3 600 = true then
          if (kb_a μ 2 x3.toNatClampNeg) = 0 then
            fp_X9_total_82  (fp_X9_total_19  nn) x1 x2 x3 μ
          else
            fp_X9_total_45  (fp_X9_total_19  nn) x1 x2 x3 μ
        else none
      else
        fp_X9_total_45  (fp_X9_total_19  nn) x1 x2 x3 μ
theorem fp_X9_total_19_s   (nn : Nat) (x1 : Int32) (x2 : Int32) (x3 : Int32) (μ : kb_S) : fp_X9_total_19  (nn + 1) x1 x2 x3 μ =
  if (kb_g μ 3) ≤ x3 then
    some (μ, x2)
  else
    if x1 = 0 then
      fp_X9_total_82  (fp_X9_total_19  nn) x1 x2 x3 μ
    else
      if x1 = (1 : Int32) then
        if kb_in x3 600 = true then
          if (kb_a μ 2 x3.toNatClampNeg) = 0 then
            fp_X9_total_82  (fp_X9_total_19  nn) x1 x2 x3 μ
          else
            fp_X9_total_45  (fp_X9_total_19  nn) x1 x2 x3 μ
        else none
      else
        fp_X9_total_45  (fp_X9_total_19  nn) x1 x2 x3 μ := rfl
def fn_X9_total  (x1 : Int32) (μ : kb_S) : Option (kb_S × Int32) :=
  (fn_X9_says (fn_X9_in x1 (0 : Int32) (3 : Int32)) μ).bind fun q1 =>
  if q1.2 = 0 then
    some (q1.1, (0 : Int32))
  else
    fp_X9_total_19   kb_FU x1 (0 : Int32) (0 : Int32) q1.1
theorem fe_X9_total  (x1 : Int32) (μ : kb_S) : fn_X9_total  x1 μ =
  (fn_X9_says (fn_X9_in x1 (0 : Int32) (3 : Int32)) μ).bind fun q1 =>
  if q1.2 = 0 then
    some (q1.1, (0 : Int32))
  else
    fp_X9_total_19   kb_FU x1 (0 : Int32) (0 : Int32) q1.1 := rfl
theorem hd_X9_total : yX9_total.cls = RX9 ∧ yX9_total.cls ≠ "java/lang/invoke/MethodHandle" ∧ yX9_total.cls ≠ "java/lang/invoke/VarHandle" ∧ (parseMethodDescriptor yX9_total.desc).map (fun d => d.parameters.length) = some 1 := by decide +kernel
set_option maxRecDepth 100000 in
set_option maxHeartbeats 4000000 in
theorem ct_X9_total (l : Launch) (V : kb_V) (A : Nat → Prop)  (x1 : Int32) (d : Nat → Nat) (μ : kb_S) (ex : va_W) {μ9 : kb_S} {r : Int32} (hf : fn_X9_total  x1 μ = some (μ9, r)) : kb_T l yX9_total cX9_total 4 (some .int) ({ frames := 1, cells := 0, slots := 0, locals := 22 } : Room) V A [.ref (d 0), .int x1] (kb_WM V d μ ex) (some (.int r)) (kb_WM V d μ9 ex) 0 0 := by
  refine kb_start (cc := cX9_total) (nL := 4) (ret := (some .int)) (own := RX9) (by decide) rfl (Nat.le_of_ble_eq_true rfl) ?_
  intro p e s m args below meth c C
  have hp19 : ∀ (nn : Nat) (x1 : Int32) (x2 : Int32) (x3 : Int32) (μ : kb_S), fp_X9_total_19   nn x1 x2 x3 μ = some (μ9, r) → kb_J p l e ({ frames := 1, cells := 0, slots := 0, locals := 22 } : Room) s m args below meth c 4 V A 0 0 (MQ below (kb_post V A (some (.int r)) (kb_WM V d μ9 ex)) args s 0 0 A) 19 [(0, .ref (d 0)), (1, .int x1), (2, .int x2), (3, .int x3)] [] (kb_WM V d μ ex) := by
    intro nn19
    induction nn19 with
    | zero => intro x1 x2 x3 μ hf; exact kb_no hf
    | succ nn19 ih19 =>
      have hp89 : ∀ (x1 : Int32) (x3 : Int32) (y0 : Int32) (μ : kb_S), fp_X9_total_89  (fp_X9_total_19   nn19) x1 x3 y0 μ = some (μ9, r) → kb_J p l e ({ frames := 1, cells := 0, slots := 0, locals := 22 } : Room) s m args below meth c 4 V A 0 0 (MQ below (kb_post V A (some (.int r)) (kb_WM V d μ9 ex)) args s 0 0 A) 89 [(0, .ref (d 0)), (1, .int x1), (3, .int x3)] [.int y0] (kb_WM V d μ ex) := by
        intro x1 x3 y0 μ hf
        rw [fp_X9_total_89_e] at hf
        refine kj_istore_n (pc := 89) C [1, 2, 0, 3] (L2 := [(0, .ref (d 0)), (1, .int x1), (2, .int y0), (3, .int x3)]) dX9_total_89 rfl (by decide) rfl ?_
        refine kj_iinc (pc := 90) C 3 [1, 2, 3, 0] (L2 := [(0, .ref (d 0)), (1, .int x1), (2, .int y0), (3, .int (x3 + (1 : Int32)))]) dX9_total_90 rfl rfl (by decide) rfl ?_
        refine kj_goto (pc := 93) 19 C dX9_total_93 (by decide) ?_
        exact ih19 x1 y0 (x3 + (1 : Int32)) μ hf
      have hp82 : ∀ (x1 : Int32) (x2 : Int32) (x3 : Int32) (μ : kb_S), fp_X9_total_82  (fp_X9_total_19   nn19) x1 x2 x3 μ = some (μ9, r) → kb_J p l e ({ frames := 1, cells := 0, slots := 0, locals := 22 } : Room) s m args below meth c 4 V A 0 0 (MQ below (kb_post V A (some (.int r)) (kb_WM V d μ9 ex)) args s 0 0 A) 82 [(0, .ref (d 0)), (1, .int x1), (2, .int x2), (3, .int x3)] [] (kb_WM V d μ ex) := by
        intro x1 x2 x3 μ hf
        rw [fp_X9_total_82_e] at hf
        refine kj_iload_n (pc := 82) C 2 dX9_total_82 rfl rfl ?_
        refine kj_iconst (pc := 83) (v := (1 : Int32)) C dX9_total_83 (by decide) ?_
        refine kj_iadd (pc := 84) C dX9_total_84 ?_
        refine kj_goto (pc := 85) 89 C dX9_total_85 (by decide) ?_
        refine kj_sub [0, 1, 3] (L2 := [(0, .ref (d 0)), (1, .int x1), (3, .int x3)]) rfl ?_
        exact hp89 x1 x3 (x2 + (1 : Int32)) μ hf
      have hp88 : ∀ (x1 : Int32) (x2 : Int32) (x3 : Int32) (μ : kb_S), fp_X9_total_88  (fp_X9_total_19   nn19) x1 x2 x3 μ = some (μ9, r) → kb_J p l e ({ frames := 1, cells := 0, slots := 0, locals := 22 } : Room) s m args below meth c 4 V A 0 0 (MQ below (kb_post V A (some (.int r)) (kb_WM V d μ9 ex)) args s 0 0 A) 88 [(0, .ref (d 0)), (1, .int x1), (2, .int x2), (3, .int x3)] [] (kb_WM V d μ ex) := by
        intro x1 x2 x3 μ hf
        rw [fp_X9_total_88_e] at hf
        refine kj_iload_n (pc := 88) C 2 dX9_total_88 rfl rfl ?_
        refine kj_sub [0, 1, 3] (L2 := [(0, .ref (d 0)), (1, .int x1), (3, .int x3)]) rfl ?_
        exact hp89 x1 x3 x2 μ hf
      have hp68 : ∀ (x1 : Int32) (x2 : Int32) (x3 : Int32) (μ : kb_S), fp_X9_total_68  (fp_X9_total_19   nn19) x1 x2 x3 μ = some (μ9, r) → kb_J p l e ({ frames := 1, cells := 0, slots := 0, locals := 22 } : Room) s m args below meth c 4 V A 0 0 (MQ below (kb_post V A (some (.int r)) (kb_WM V d μ9 ex)) args s 0 0 A) 68 [(0, .ref (d 0)), (1, .int x1), (2, .int x2), (3, .int x3)] [] (kb_WM V d μ ex) := by
        intro x1 x2 x3 μ hf
        rw [fp_X9_total_68_e] at hf
        refine kj_iload_n (pc := 68) C 1 dX9_total_68 rfl rfl ?_
        refine kj_iconst (pc := 69) (v := (3 : Int32)) C dX9_total_69 (by decide) ?_
        refine kj_icmp_ne (pc := 70) 88 C dX9_total_70 (by decide) (fun c1 => ?_) (fun c1 => ?_)
        · have hf := kb_ife hf c1
          exact hp88 x1 x2 x3 μ hf
        · have hf := kb_ift hf c1
          refine kj_aload_n (pc := 73) C 0 dX9_total_73 rfl rfl ?_
          refine kg_X9_bound (pc := 74) C wf_X9_19 dX9_total_74 ?_
          refine kj_iload_n (pc := 77) C 3 dX9_total_77 rfl rfl ?_
          obtain ⟨g2, hf⟩ := kb_gd hf
          refine ka_X9_bound (pc := 78) (v := (kb_a μ 3 x3.toNatClampNeg)) C g2 dX9_total_78 rfl ?_
          refine kj_if_eq (pc := 79) 88 C dX9_total_79 (by decide) (fun c3 => ?_) (fun c3 => ?_)
          · have hf := kb_ift hf c3
            exact hp88 x1 x2 x3 μ hf
          · have hf := kb_ife hf c3
            exact hp82 x1 x2 x3 μ hf
      have hp45 : ∀ (x1 : Int32) (x2 : Int32) (x3 : Int32) (μ : kb_S), fp_X9_total_45  (fp_X9_total_19   nn19) x1 x2 x3 μ = some (μ9, r) → kb_J p l e ({ frames := 1, cells := 0, slots := 0, locals := 22 } : Room) s m args below meth c 4 V A 0 0 (MQ below (kb_post V A (some (.int r)) (kb_WM V d μ9 ex)) args s 0 0 A) 45 [(0, .ref (d 0)), (1, .int x1), (2, .int x2), (3, .int x3)] [] (kb_WM V d μ ex) := by
        intro x1 x2 x3 μ hf
        rw [fp_X9_total_45_e] at hf
        refine kj_iload_n (pc := 45) C 1 dX9_total_45 rfl rfl ?_
        refine kj_iconst (pc := 46) (v := (2 : Int32)) C dX9_total_46 (by decide) ?_
        refine kj_icmp_ne (pc := 47) 68 C dX9_total_47 (by decide) (fun c1 => ?_) (fun c1 => ?_)
        · have hf := kb_ife hf c1
          exact hp68 x1 x2 x3 μ hf
        · have hf := kb_ift hf c1
          refine kj_aload_n (pc := 50) C 0 dX9_total_50 rfl rfl ?_
          refine kg_X9_died (pc := 51) C wf_X9_16 dX9_total_51 ?_
          refine kj_iload_n (pc := 54) C 3 dX9_total_54 rfl rfl ?_
          obtain ⟨g2, hf⟩ := kb_gd hf
          refine ka_X9_died (pc := 55) (v := (kb_a μ 2 x3.toNatClampNeg)) C g2 dX9_total_55 rfl ?_
          refine kj_if_le (pc := 56) 68 C dX9_total_56 (by decide) (fun c3 => ?_) (fun c3 => ?_)
          · have hf := kb_ift hf c3
            exact hp68 x1 x2 x3 μ hf
          · have hf := kb_ife hf c3
            refine kj_aload_n (pc := 59) C 0 dX9_total_59 rfl rfl ?_
            refine kg_X9_bound (pc := 60) C wf_X9_19 dX9_total_60 ?_
            refine kj_iload_n (pc := 63) C 3 dX9_total_63 rfl rfl ?_
            obtain ⟨g4, hf⟩ := kb_gd hf
            refine ka_X9_bound (pc := 64) (v := (kb_a μ 3 x3.toNatClampNeg)) C g4 dX9_total_64 rfl ?_
            refine kj_if_eq (pc := 65) 82 C dX9_total_65 (by decide) (fun c5 => ?_) (fun c5 => ?_)
            · have hf := kb_ift hf c5
              exact hp82 x1 x2 x3 μ hf
            · have hf := kb_ife hf c5
              exact hp68 x1 x2 x3 μ hf
      intro x1 x2 x3 μ hf
      rw [fp_X9_total_19_s] at hf
      refine kj_iload_n (pc := 19) C 3 dX9_total_19 rfl rfl ?_
      refine kj_aload_n (pc := 20) C 0 dX9_total_20 rfl rfl ?_
      refine kg_X9_loops (pc := 21) (v := (kb_g μ 3)) C wf_X9_83 dX9_total_21 rfl ?_
      refine kj_icmp_ge (pc := 24) 96 C dX9_total_24 (by decide) (fun c1 => ?_) (fun c1 => ?_)
      · have hf := kb_ift hf c1
        refine kj_iload_n (pc := 96) C 2 dX9_total_96 rfl rfl ?_
        cases hf
        exact kj_iret (pc := 97) C dX9_total_97
      · have hf := kb_ife hf c1
        refine kj_iload_n (pc := 27) C 1 dX9_total_27 rfl rfl ?_
        refine kj_if_eq (pc := 28) 82 C dX9_total_28 (by decide) (fun c2 => ?_) (fun c2 => ?_)
        · have hf := kb_ift hf c2
          exact hp82 x1 x2 x3 μ hf
        · have hf := kb_ife hf c2
          refine kj_iload_n (pc := 31) C 1 dX9_total_31 rfl rfl ?_
          refine kj_iconst (pc := 32) (v := (1 : Int32)) C dX9_total_32 (by decide) ?_
          refine kj_icmp_ne (pc := 33) 45 C dX9_total_33 (by decide) (fun c3 => ?_) (fun c3 => ?_)
          · have hf := kb_ife hf c3
            exact hp45 x1 x2 x3 μ hf
          · have hf := kb_ift hf c3
            refine kj_aload_n (pc := 36) C 0 dX9_total_36 rfl rfl ?_
            refine kg_X9_died (pc := 37) C wf_X9_16 dX9_total_37 ?_
            refine kj_iload_n (pc := 40) C 3 dX9_total_40 rfl rfl ?_
            obtain ⟨g4, hf⟩ := kb_gd hf
            refine ka_X9_died (pc := 41) (v := (kb_a μ 2 x3.toNatClampNeg)) C g4 dX9_total_41 rfl ?_
            refine kj_if_eq (pc := 42) 82 C dX9_total_42 (by decide) (fun c5 => ?_) (fun c5 => ?_)
            · have hf := kb_ift hf c5
              exact hp82 x1 x2 x3 μ hf
            · have hf := kb_ife hf c5
              exact hp45 x1 x2 x3 μ hf
  refine kj_sub [0, 1] (L2 := [(0, .ref (d 0)), (1, .int x1)]) rfl ?_
  rw [fe_X9_total] at hf
  refine kj_aload_n (pc := 0) C 0 dX9_total_0 rfl rfl ?_
  refine kj_iload_n (pc := 1) C 1 dX9_total_1 rfl rfl ?_
  refine kj_iconst (pc := 2) (v := (0 : Int32)) C dX9_total_2 (by decide) ?_
  refine kj_iconst (pc := 3) (v := (3 : Int32)) C dX9_total_3 (by decide) ?_
  refine kj_callS0 (pc := 4) (as := [.int x1, .int (0 : Int32), .int (3 : Int32)]) (rest := [.ref (d 0)]) C (ct_X9_in l V A x1 (0 : Int32) (3 : Int32) (kb_WM V d μ ex) rfl) wd_X9_in wk_X9_96 wi_X9_in wz_X9 rfl rfl hd_X9_in ⟨by decide, by decide⟩ rfl (Nat.le_of_ble_eq_true rfl) (by decide) dX9_total_4 ?_
  obtain ⟨q1, hq1, hf⟩ := kb_bd hf
  refine kj_callV0 (pc := 7) (as := [.int (fn_X9_in x1 (0 : Int32) (3 : Int32))]) (rest := []) (b := (d 0)) C (ct_X9_says l V A (fn_X9_in x1 (0 : Int32) (3 : Int32)) d μ ex hq1) wd_X9_says wk_X9_100 wi_X9_says ws_X9_says wz_X9 rfl rfl hd_X9_says ⟨by decide, by decide⟩ 0 rfl rfl rfl rfl (Nat.le_of_ble_eq_true rfl) (by decide) dX9_total_7 ?_
  refine kj_if_ne (pc := 10) 15 C dX9_total_10 (by decide) (fun c2 => ?_) (fun c2 => ?_)
  · have hf := kb_ife hf c2
    refine kj_iconst (pc := 15) (v := (0 : Int32)) C dX9_total_15 (by decide) ?_
    refine kj_istore_n (pc := 16) C [1, 2, 0] (L2 := [(0, .ref (d 0)), (1, .int x1), (2, .int (0 : Int32))]) dX9_total_16 rfl (by decide) rfl ?_
    refine kj_iconst (pc := 17) (v := (0 : Int32)) C dX9_total_17 (by decide) ?_
    refine kj_istore_n (pc := 18) C [1, 2, 3, 0] (L2 := [(0, .ref (d 0)), (1, .int x1), (2, .int (0 : Int32)), (3, .int (0 : Int32))]) dX9_total_18 rfl (by decide) rfl ?_
    exact hp19 kb_FU x1 (0 : Int32) (0 : Int32) q1.1 hf
  · have hf := kb_ift hf c2
    refine kj_iconst (pc := 13) (v := (0 : Int32)) C dX9_total_13 (by decide) ?_
    cases hf
    exact kj_iret (pc := 14) C dX9_total_14
