def fn_X5_forget   (τ : kb_S) : Option (kb_S) :=
  some (kb_p τ 1 (0 : Int32))
theorem fe_X5_forget   (τ : kb_S) : fn_X5_forget   τ =
  some (kb_p τ 1 (0 : Int32)) := rfl
theorem hd_X5_forget : yX5_forget.cls = RX5 ∧ yX5_forget.cls ≠ "java/lang/invoke/MethodHandle" ∧ yX5_forget.cls ≠ "java/lang/invoke/VarHandle" ∧ (parseMethodDescriptor yX5_forget.desc).map (fun d => d.parameters.length) = some 0 := by decide +kernel
set_option maxRecDepth 100000 in
set_option maxHeartbeats 4000000 in
theorem ct_X5_forget (l : Launch) (V : kb_V) (A : Nat → Prop)   (b : Nat → Nat) (τ : kb_S) (ex : va_W) {τ9 : kb_S} (hf : fn_X5_forget   τ = some τ9) : kb_T l yX5_forget cX5_forget 1 none ({ frames := 0, cells := 0, slots := 0, locals := 0 } : Room) V A [.ref (b 0)] (kb_WS V b τ ex) none (kb_WS V b τ9 ex) 0 0 := by
  refine kb_start (cc := cX5_forget) (nL := 1) (ret := none) (own := RX5) (by decide) rfl (Nat.le_of_ble_eq_true rfl) ?_
  intro p e s m args below meth c C
  refine kj_sub [0] (L2 := [(0, .ref (b 0))]) rfl ?_
  rw [fe_X5_forget] at hf
  refine kj_aload_n (pc := 0) C 0 dX5_forget_0 rfl rfl ?_
  refine kj_iconst (pc := 1) (v := (0 : Int32)) C dX5_forget_1 (by decide) ?_
  refine kp_X5_length (pc := 2) C wf_X5_24 dX5_forget_2 ?_
  cases hf
  exact kj_vret (pc := 5) C dX5_forget_5
def fn_X5_byteAt  (x1 : Int32) (τ : kb_S) : Option (Int32) :=
  if x1 < 0 then
    some (-1 : Int32)
  else
    if (kb_g τ 1) ≤ x1 then
      some (-1 : Int32)
    else
      if kb_in x1 480 = true then
        some (kb_a τ 3 x1.toNatClampNeg)
      else none
theorem fe_X5_byteAt  (x1 : Int32) (τ : kb_S) : fn_X5_byteAt  x1 τ =
  if x1 < 0 then
    some (-1 : Int32)
  else
    if (kb_g τ 1) ≤ x1 then
      some (-1 : Int32)
    else
      if kb_in x1 480 = true then
        some (kb_a τ 3 x1.toNatClampNeg)
      else none := rfl
theorem hd_X5_byteAt : yX5_byteAt.cls = RX5 ∧ yX5_byteAt.cls ≠ "java/lang/invoke/MethodHandle" ∧ yX5_byteAt.cls ≠ "java/lang/invoke/VarHandle" ∧ (parseMethodDescriptor yX5_byteAt.desc).map (fun d => d.parameters.length) = some 1 := by decide +kernel
set_option maxRecDepth 100000 in
set_option maxHeartbeats 4000000 in
theorem ct_X5_byteAt (l : Launch) (V : kb_V) (A : Nat → Prop)  (x1 : Int32) (b : Nat → Nat) (τ : kb_S) (ex : va_W) {r : Int32} (hf : fn_X5_byteAt  x1 τ = some r) : kb_T l yX5_byteAt cX5_byteAt 2 (some .int) ({ frames := 0, cells := 0, slots := 0, locals := 0 } : Room) V A [.ref (b 0), .int x1] (kb_WS V b τ ex) (some (.int r)) (kb_WS V b τ ex) 0 0 := by
  refine kb_start (cc := cX5_byteAt) (nL := 2) (ret := (some .int)) (own := RX5) (by decide) rfl (Nat.le_of_ble_eq_true rfl) ?_
  intro p e s m args below meth c C
  refine kj_sub [0, 1] (L2 := [(0, .ref (b 0)), (1, .int x1)]) rfl ?_
  rw [fe_X5_byteAt] at hf
  refine kj_iload_n (pc := 0) C 1 dX5_byteAt_0 rfl rfl ?_
  refine kj_if_lt (pc := 1) 21 C dX5_byteAt_1 (by decide) (fun c1 => ?_) (fun c1 => ?_)
  · have hf := kb_ift hf c1
    refine kj_iconst (pc := 21) (v := (-1 : Int32)) C dX5_byteAt_21 (by decide) ?_
    cases hf
    exact kj_iret (pc := 22) C dX5_byteAt_22
  · have hf := kb_ife hf c1
    refine kj_iload_n (pc := 4) C 1 dX5_byteAt_4 rfl rfl ?_
    refine kj_aload_n (pc := 5) C 0 dX5_byteAt_5 rfl rfl ?_
    refine kg_X5_length (pc := 6) (v := (kb_g τ 1)) C wf_X5_24 dX5_byteAt_6 rfl ?_
    refine kj_icmp_ge (pc := 9) 21 C dX5_byteAt_9 (by decide) (fun c2 => ?_) (fun c2 => ?_)
    · have hf := kb_ift hf c2
      refine kj_iconst (pc := 21) (v := (-1 : Int32)) C dX5_byteAt_21 (by decide) ?_
      cases hf
      exact kj_iret (pc := 22) C dX5_byteAt_22
    · have hf := kb_ife hf c2
      refine kj_aload_n (pc := 12) C 0 dX5_byteAt_12 rfl rfl ?_
      refine kg_X5_text (pc := 13) C wf_X5_21 dX5_byteAt_13 ?_
      refine kj_iload_n (pc := 16) C 1 dX5_byteAt_16 rfl rfl ?_
      obtain ⟨g3, hf⟩ := kb_gd hf
      refine ka_X5_text (pc := 17) (v := (kb_a τ 3 x1.toNatClampNeg)) C g3 dX5_byteAt_17 rfl ?_
      refine kj_goto (pc := 18) 22 C dX5_byteAt_18 (by decide) ?_
      cases hf
      exact kj_iret (pc := 22) C dX5_byteAt_22
def fp_X5_countSames_59  (kc9 : Int32 → Int32 → Int32 → kb_S → Option (kb_S)) (x1 : Int32) (x3 : Int32) (y0 : Int32) (τ : kb_S) : Option (kb_S) :=
  if kb_in (((x3 * (40 : Int32)) + x1) - (1 : Int32)) 3200 = true then
    kc9 x1 y0 (x3 + (-1 : Int32)) (kb_ap τ 1 (((x3 * (40 : Int32)) + x1) - (1 : Int32)).toNatClampNeg y0)
  else none
theorem fp_X5_countSames_59_e  (kc9 : Int32 → Int32 → Int32 → kb_S → Option (kb_S)) (x1 : Int32) (x3 : Int32) (y0 : Int32) (τ : kb_S) : fp_X5_countSames_59 kc9 x1 x3 y0 τ =
  if kb_in (((x3 * (40 : Int32)) + x1) - (1 : Int32)) 3200 = true then
    kc9 x1 y0 (x3 + (-1 : Int32)) (kb_ap τ 1 (((x3 * (40 : Int32)) + x1) - (1 : Int32)).toNatClampNeg y0)
  else none := rfl
def fp_X5_countSames_45  (kc9 : Int32 → Int32 → Int32 → kb_S → Option (kb_S)) (x1 : Int32) (x2 : Int32) (x3 : Int32) (y0 : Int32) (τ : kb_S) : Option (kb_S) :=
  if y0 = 0 then
    fp_X5_countSames_59  kc9 x1 x3 (0 : Int32) τ
  else
    fp_X5_countSames_59  kc9 x1 x3 (x2 + (1 : Int32)) τ
theorem fp_X5_countSames_45_e  (kc9 : Int32 → Int32 → Int32 → kb_S → Option (kb_S)) (x1 : Int32) (x2 : Int32) (x3 : Int32) (y0 : Int32) (τ : kb_S) : fp_X5_countSames_45 kc9 x1 x2 x3 y0 τ =
  if y0 = 0 then
    fp_X5_countSames_59  kc9 x1 x3 (0 : Int32) τ
  else
    fp_X5_countSames_59  kc9 x1 x3 (x2 + (1 : Int32)) τ := rfl
def fp_X5_countSames_44  (kc9 : Int32 → Int32 → Int32 → kb_S → Option (kb_S)) (x1 : Int32) (x2 : Int32) (x3 : Int32) (τ : kb_S) : Option (kb_S) :=
  fp_X5_countSames_45  kc9 x1 x2 x3 (0 : Int32) τ
theorem fp_X5_countSames_44_e  (kc9 : Int32 → Int32 → Int32 → kb_S → Option (kb_S)) (x1 : Int32) (x2 : Int32) (x3 : Int32) (τ : kb_S) : fp_X5_countSames_44 kc9 x1 x2 x3 τ =
  fp_X5_countSames_45  kc9 x1 x2 x3 (0 : Int32) τ := rfl
def fp_X5_countSames_9   : Nat → Int32 → Int32 → Int32 → kb_S → Option (kb_S)
  | 0 => fun _ _ _ _ => none
  | nn + 1 => fun x1 x2 x3 τ => 
  if x3 < 0 then
    some τ
  else
    if (kb_g τ 0) ≤ (x3 + x1) then
      fp_X5_countSames_44  (fp_X5_countSames_9  nn) x1 x2 x3 τ
    else
      if kb_in x3 80 = true then
        if kb_in (x3 + x1) 80 = true then
          if (kb_a τ 2 x3.toNatClampNeg) = (kb_a τ 2 (x3 + x1).toNatClampNeg) then
            fp_X5_countSames_45  (fp_X5_countSames_9  nn) x1 x2 x3 (1 : Int32) τ
          else
            fp_X5_countSames_44  (fp_X5_countSames_9  nn) x1 x2 x3 τ
        else none
      else none
theorem fp_X5_countSames_9_s   (nn : Nat) (x1 : Int32) (x2 : Int32) (x3 : Int32) (τ : kb_S) : fp_X5_countSames_9  (nn + 1) x1 x2 x3 τ =
  if x3 < 0 then
    some τ
  else
    if (kb_g τ 0) ≤ (x3 + x1) then
      fp_X5_countSames_44  (fp_X5_countSames_9  nn) x1 x2 x3 τ
    else
      if kb_in x3 80 = true then
        if kb_in (x3 + x1) 80 = true then
          if (kb_a τ 2 x3.toNatClampNeg) = (kb_a τ 2 (x3 + x1).toNatClampNeg) then
            fp_X5_countSames_45  (fp_X5_countSames_9  nn) x1 x2 x3 (1 : Int32) τ
          else
            fp_X5_countSames_44  (fp_X5_countSames_9  nn) x1 x2 x3 τ
        else none
      else none := rfl
def fn_X5_countSames  (x1 : Int32) (τ : kb_S) : Option (kb_S) :=
  fp_X5_countSames_9   kb_FU x1 (0 : Int32) ((kb_g τ 0) - (1 : Int32)) τ
theorem fe_X5_countSames  (x1 : Int32) (τ : kb_S) : fn_X5_countSames  x1 τ =
  fp_X5_countSames_9   kb_FU x1 (0 : Int32) ((kb_g τ 0) - (1 : Int32)) τ := rfl
theorem hd_X5_countSames : yX5_countSames.cls = RX5 ∧ yX5_countSames.cls ≠ "java/lang/invoke/MethodHandle" ∧ yX5_countSames.cls ≠ "java/lang/invoke/VarHandle" ∧ (parseMethodDescriptor yX5_countSames.desc).map (fun d => d.parameters.length) = some 1 := by decide +kernel
set_option maxRecDepth 100000 in
set_option maxHeartbeats 4000000 in
theorem ct_X5_countSames (l : Launch) (V : kb_V) (A : Nat → Prop)  (x1 : Int32) (b : Nat → Nat) (τ : kb_S) (ex : va_W) {τ9 : kb_S} (hf : fn_X5_countSames  x1 τ = some τ9) : kb_T l yX5_countSames cX5_countSames 5 none ({ frames := 0, cells := 0, slots := 0, locals := 0 } : Room) V A [.ref (b 0), .int x1] (kb_WS V b τ ex) none (kb_WS V b τ9 ex) 0 0 := by
  refine kb_start (cc := cX5_countSames) (nL := 5) (ret := none) (own := RX5) (by decide) rfl (Nat.le_of_ble_eq_true rfl) ?_
  intro p e s m args below meth c C
  have hp9 : ∀ (nn : Nat) (x1 : Int32) (x2 : Int32) (x3 : Int32) (τ : kb_S), fp_X5_countSames_9   nn x1 x2 x3 τ = some τ9 → kb_J p l e ({ frames := 0, cells := 0, slots := 0, locals := 0 } : Room) s m args below meth c 5 V A 0 0 (MQ below (kb_post V A none (kb_WS V b τ9 ex)) args s 0 0 A) 9 [(0, .ref (b 0)), (1, .int x1), (2, .int x2), (3, .int x3)] [] (kb_WS V b τ ex) := by
    intro nn9
    induction nn9 with
    | zero => intro x1 x2 x3 τ hf; exact kb_no hf
    | succ nn9 ih9 =>
      have hp59 : ∀ (x1 : Int32) (x3 : Int32) (y0 : Int32) (τ : kb_S), fp_X5_countSames_59  (fp_X5_countSames_9   nn9) x1 x3 y0 τ = some τ9 → kb_J p l e ({ frames := 0, cells := 0, slots := 0, locals := 0 } : Room) s m args below meth c 5 V A 0 0 (MQ below (kb_post V A none (kb_WS V b τ9 ex)) args s 0 0 A) 59 [(0, .ref (b 0)), (1, .int x1), (3, .int x3)] [.int y0] (kb_WS V b τ ex) := by
        intro x1 x3 y0 τ hf
        rw [fp_X5_countSames_59_e] at hf
        refine kj_istore_n (pc := 59) C [1, 2, 0, 3] (L2 := [(0, .ref (b 0)), (1, .int x1), (2, .int y0), (3, .int x3)]) dX5_countSames_59 rfl (by decide) rfl ?_
        refine kj_aload_n (pc := 60) C 0 dX5_countSames_60 rfl rfl ?_
        refine kg_X5_sames (pc := 61) C wf_X5_15 dX5_countSames_61 ?_
        refine kj_iload_n (pc := 64) C 3 dX5_countSames_64 rfl rfl ?_
        refine kj_bipush (pc := 65) (v := (40 : Int32)) C dX5_countSames_65 (by decide) ?_
        refine kj_imul (pc := 67) C dX5_countSames_67 ?_
        refine kj_iload_n (pc := 68) C 1 dX5_countSames_68 rfl rfl ?_
        refine kj_iadd (pc := 69) C dX5_countSames_69 ?_
        refine kj_iconst (pc := 70) (v := (1 : Int32)) C dX5_countSames_70 (by decide) ?_
        refine kj_isub (pc := 71) C dX5_countSames_71 ?_
        refine kj_iload_n (pc := 72) C 2 dX5_countSames_72 rfl rfl ?_
        obtain ⟨g1, hf⟩ := kb_gd hf
        refine ks_X5_sames (pc := 73) C g1 dX5_countSames_73 ?_
        refine kj_iinc (pc := 74) C 3 [1, 2, 3, 0] (L2 := [(0, .ref (b 0)), (1, .int x1), (2, .int y0), (3, .int (x3 + (-1 : Int32)))]) dX5_countSames_74 rfl rfl (by decide) rfl ?_
        refine kj_goto (pc := 77) 9 C dX5_countSames_77 (by decide) ?_
        exact ih9 x1 y0 (x3 + (-1 : Int32)) (kb_ap τ 1 (((x3 * (40 : Int32)) + x1) - (1 : Int32)).toNatClampNeg y0) hf
      have hp45 : ∀ (x1 : Int32) (x2 : Int32) (x3 : Int32) (y0 : Int32) (τ : kb_S), fp_X5_countSames_45  (fp_X5_countSames_9   nn9) x1 x2 x3 y0 τ = some τ9 → kb_J p l e ({ frames := 0, cells := 0, slots := 0, locals := 0 } : Room) s m args below meth c 5 V A 0 0 (MQ below (kb_post V A none (kb_WS V b τ9 ex)) args s 0 0 A) 45 [(0, .ref (b 0)), (1, .int x1), (2, .int x2), (3, .int x3)] [.int y0] (kb_WS V b τ ex) := by
        intro x1 x2 x3 y0 τ hf
        rw [fp_X5_countSames_45_e] at hf
        refine kj_istore (pc := 45) C [1, 2, 3, 4, 0] (L2 := [(0, .ref (b 0)), (1, .int x1), (2, .int x2), (3, .int x3), (4, .int y0)]) dX5_countSames_45 (by decide) rfl ?_
        refine kj_iload (pc := 47) C 4 dX5_countSames_47 rfl ?_
        refine kj_if_eq (pc := 49) 58 C dX5_countSames_49 (by decide) (fun c1 => ?_) (fun c1 => ?_)
        · have hf := kb_ift hf c1
          refine kj_iconst (pc := 58) (v := (0 : Int32)) C dX5_countSames_58 (by decide) ?_
          refine kj_sub [0, 1, 3] (L2 := [(0, .ref (b 0)), (1, .int x1), (3, .int x3)]) rfl ?_
          exact hp59 x1 x3 (0 : Int32) τ hf
        · have hf := kb_ife hf c1
          refine kj_iload_n (pc := 52) C 2 dX5_countSames_52 rfl rfl ?_
          refine kj_iconst (pc := 53) (v := (1 : Int32)) C dX5_countSames_53 (by decide) ?_
          refine kj_iadd (pc := 54) C dX5_countSames_54 ?_
          refine kj_goto (pc := 55) 59 C dX5_countSames_55 (by decide) ?_
          refine kj_sub [0, 1, 3] (L2 := [(0, .ref (b 0)), (1, .int x1), (3, .int x3)]) rfl ?_
          exact hp59 x1 x3 (x2 + (1 : Int32)) τ hf
      have hp44 : ∀ (x1 : Int32) (x2 : Int32) (x3 : Int32) (τ : kb_S), fp_X5_countSames_44  (fp_X5_countSames_9   nn9) x1 x2 x3 τ = some τ9 → kb_J p l e ({ frames := 0, cells := 0, slots := 0, locals := 0 } : Room) s m args below meth c 5 V A 0 0 (MQ below (kb_post V A none (kb_WS V b τ9 ex)) args s 0 0 A) 44 [(0, .ref (b 0)), (1, .int x1), (2, .int x2), (3, .int x3)] [] (kb_WS V b τ ex) := by
        intro x1 x2 x3 τ hf
        rw [fp_X5_countSames_44_e] at hf
        refine kj_iconst (pc := 44) (v := (0 : Int32)) C dX5_countSames_44 (by decide) ?_
        exact hp45 x1 x2 x3 (0 : Int32) τ hf
      intro x1 x2 x3 τ hf
      rw [fp_X5_countSames_9_s] at hf
      refine kj_iload_n (pc := 9) C 3 dX5_countSames_9 rfl rfl ?_
      refine kj_if_lt (pc := 10) 80 C dX5_countSames_10 (by decide) (fun c1 => ?_) (fun c1 => ?_)
      · have hf := kb_ift hf c1
        cases hf
        exact kj_vret (pc := 80) C dX5_countSames_80
      · have hf := kb_ife hf c1
        refine kj_iload_n (pc := 13) C 3 dX5_countSames_13 rfl rfl ?_
        refine kj_iload_n (pc := 14) C 1 dX5_countSames_14 rfl rfl ?_
        refine kj_iadd (pc := 15) C dX5_countSames_15 ?_
        refine kj_aload_n (pc := 16) C 0 dX5_countSames_16 rfl rfl ?_
        refine kg_X5_count (pc := 17) (v := (kb_g τ 0)) C wf_X5_38 dX5_countSames_17 rfl ?_
        refine kj_icmp_ge (pc := 20) 44 C dX5_countSames_20 (by decide) (fun c2 => ?_) (fun c2 => ?_)
        · have hf := kb_ift hf c2
          exact hp44 x1 x2 x3 τ hf
        · have hf := kb_ife hf c2
          refine kj_aload_n (pc := 23) C 0 dX5_countSames_23 rfl rfl ?_
          refine kg_X5_stitches (pc := 24) C wf_X5_18 dX5_countSames_24 ?_
          refine kj_iload_n (pc := 27) C 3 dX5_countSames_27 rfl rfl ?_
          obtain ⟨g3, hf⟩ := kb_gd hf
          refine ka_X5_stitches (pc := 28) (v := (kb_a τ 2 x3.toNatClampNeg)) C g3 dX5_countSames_28 rfl ?_
          refine kj_aload_n (pc := 29) C 0 dX5_countSames_29 rfl rfl ?_
          refine kg_X5_stitches (pc := 30) C wf_X5_18 dX5_countSames_30 ?_
          refine kj_iload_n (pc := 33) C 3 dX5_countSames_33 rfl rfl ?_
          refine kj_iload_n (pc := 34) C 1 dX5_countSames_34 rfl rfl ?_
          refine kj_iadd (pc := 35) C dX5_countSames_35 ?_
          obtain ⟨g4, hf⟩ := kb_gd hf
          refine ka_X5_stitches (pc := 36) (v := (kb_a τ 2 (x3 + x1).toNatClampNeg)) C g4 dX5_countSames_36 rfl ?_
          refine kj_icmp_ne (pc := 37) 44 C dX5_countSames_37 (by decide) (fun c5 => ?_) (fun c5 => ?_)
          · have hf := kb_ife hf c5
            exact hp44 x1 x2 x3 τ hf
          · have hf := kb_ift hf c5
            refine kj_iconst (pc := 40) (v := (1 : Int32)) C dX5_countSames_40 (by decide) ?_
            refine kj_goto (pc := 41) 45 C dX5_countSames_41 (by decide) ?_
            exact hp45 x1 x2 x3 (1 : Int32) τ hf
  refine kj_sub [0, 1] (L2 := [(0, .ref (b 0)), (1, .int x1)]) rfl ?_
  rw [fe_X5_countSames] at hf
  refine kj_iconst (pc := 0) (v := (0 : Int32)) C dX5_countSames_0 (by decide) ?_
  refine kj_istore_n (pc := 1) C [1, 2, 0] (L2 := [(0, .ref (b 0)), (1, .int x1), (2, .int (0 : Int32))]) dX5_countSames_1 rfl (by decide) rfl ?_
  refine kj_aload_n (pc := 2) C 0 dX5_countSames_2 rfl rfl ?_
  refine kg_X5_count (pc := 3) (v := (kb_g τ 0)) C wf_X5_38 dX5_countSames_3 rfl ?_
  refine kj_iconst (pc := 6) (v := (1 : Int32)) C dX5_countSames_6 (by decide) ?_
  refine kj_isub (pc := 7) C dX5_countSames_7 ?_
  refine kj_istore_n (pc := 8) C [1, 2, 3, 0] (L2 := [(0, .ref (b 0)), (1, .int x1), (2, .int (0 : Int32)), (3, .int ((kb_g τ 0) - (1 : Int32)))]) dX5_countSames_8 rfl (by decide) rfl ?_
  exact hp9 kb_FU x1 (0 : Int32) ((kb_g τ 0) - (1 : Int32)) τ hf
def fn_X5_cellOf  (x0 : Int32) (x1 : Int32) (x2 : Int32)  : Option (Int32) :=
  if x2 < 0 then
    some (-1 : Int32)
  else
    if (4 : Int32) ≤ x2 then
      some (-1 : Int32)
    else
      if x1 < (1 : Int32) then
        some (-1 : Int32)
      else
        if x1 ≤ ((80 : Int32) >>> (x2 &&& 31)) then
          if x0 < 0 then
            some (-1 : Int32)
          else
            if (x0 + x1) ≤ (80 : Int32) then
              if x2 = 0 then
                some x0
              else
                if kb_in x2 4 = true then
                  some ((((kb_OFFS x2.toNatClampNeg) + (x0 * ((80 : Int32) >>> (x2 &&& 31)))) + x1) - (1 : Int32))
                else none
            else
              some (-1 : Int32)
        else
          some (-1 : Int32)
theorem fe_X5_cellOf  (x0 : Int32) (x1 : Int32) (x2 : Int32)  : fn_X5_cellOf  x0 x1 x2  =
  if x2 < 0 then
    some (-1 : Int32)
  else
    if (4 : Int32) ≤ x2 then
      some (-1 : Int32)
    else
      if x1 < (1 : Int32) then
        some (-1 : Int32)
      else
        if x1 ≤ ((80 : Int32) >>> (x2 &&& 31)) then
          if x0 < 0 then
            some (-1 : Int32)
          else
            if (x0 + x1) ≤ (80 : Int32) then
              if x2 = 0 then
                some x0
              else
                if kb_in x2 4 = true then
                  some ((((kb_OFFS x2.toNatClampNeg) + (x0 * ((80 : Int32) >>> (x2 &&& 31)))) + x1) - (1 : Int32))
                else none
            else
              some (-1 : Int32)
        else
          some (-1 : Int32) := rfl
theorem hd_X5_cellOf : yX5_cellOf.cls ≠ "java/lang/invoke/MethodHandle" ∧ yX5_cellOf.cls ≠ "java/lang/invoke/VarHandle" ∧ (parseMethodDescriptor yX5_cellOf.desc).map (fun d => d.parameters.length) = some 3 := by decide +kernel
set_option maxRecDepth 100000 in
set_option maxHeartbeats 4000000 in
theorem ct_X5_cellOf (l : Launch) (V : kb_V) (A : Nat → Prop)  (x0 : Int32) (x1 : Int32) (x2 : Int32) (ws : va_W) {r : Int32} (hf : fn_X5_cellOf  x0 x1 x2  = some r) : kb_T l yX5_cellOf cX5_cellOf 3 (some .int) ({ frames := 0, cells := 0, slots := 0, locals := 0 } : Room) V A [.int x0, .int x1, .int x2] ws (some (.int r)) ws 0 0 := by
  refine kb_start (cc := cX5_cellOf) (nL := 3) (ret := (some .int)) (own := RX5) (by decide) rfl (Nat.le_of_ble_eq_true rfl) ?_
  intro p e s m args below meth c C
  refine kj_sub [0, 1, 2] (L2 := [(0, .int x0), (1, .int x1), (2, .int x2)]) rfl ?_
  rw [fe_X5_cellOf] at hf
  refine kj_iload_n (pc := 0) C 2 dX5_cellOf_0 rfl rfl ?_
  refine kj_if_lt (pc := 1) 22 C dX5_cellOf_1 (by decide) (fun c1 => ?_) (fun c1 => ?_)
  · have hf := kb_ift hf c1
    refine kj_iconst (pc := 22) (v := (-1 : Int32)) C dX5_cellOf_22 (by decide) ?_
    cases hf
    exact kj_iret (pc := 23) C dX5_cellOf_23
  · have hf := kb_ife hf c1
    refine kj_iload_n (pc := 4) C 2 dX5_cellOf_4 rfl rfl ?_
    refine kj_iconst (pc := 5) (v := (4 : Int32)) C dX5_cellOf_5 (by decide) ?_
    refine kj_icmp_ge (pc := 6) 22 C dX5_cellOf_6 (by decide) (fun c2 => ?_) (fun c2 => ?_)
    · have hf := kb_ift hf c2
      refine kj_iconst (pc := 22) (v := (-1 : Int32)) C dX5_cellOf_22 (by decide) ?_
      cases hf
      exact kj_iret (pc := 23) C dX5_cellOf_23
    · have hf := kb_ife hf c2
      refine kj_iload_n (pc := 9) C 1 dX5_cellOf_9 rfl rfl ?_
      refine kj_iconst (pc := 10) (v := (1 : Int32)) C dX5_cellOf_10 (by decide) ?_
      refine kj_icmp_lt (pc := 11) 22 C dX5_cellOf_11 (by decide) (fun c3 => ?_) (fun c3 => ?_)
      · have hf := kb_ift hf c3
        refine kj_iconst (pc := 22) (v := (-1 : Int32)) C dX5_cellOf_22 (by decide) ?_
        cases hf
        exact kj_iret (pc := 23) C dX5_cellOf_23
      · have hf := kb_ife hf c3
        refine kj_iload_n (pc := 14) C 1 dX5_cellOf_14 rfl rfl ?_
        refine kj_bipush (pc := 15) (v := (80 : Int32)) C dX5_cellOf_15 (by decide) ?_
        refine kj_iload_n (pc := 17) C 2 dX5_cellOf_17 rfl rfl ?_
        refine kj_ishr (pc := 18) C dX5_cellOf_18 ?_
        refine kj_icmp_le (pc := 19) 24 C dX5_cellOf_19 (by decide) (fun c4 => ?_) (fun c4 => ?_)
        · have hf := kb_ift hf c4
          refine kj_iload_n (pc := 24) C 0 dX5_cellOf_24 rfl rfl ?_
          refine kj_if_lt (pc := 25) 36 C dX5_cellOf_25 (by decide) (fun c5 => ?_) (fun c5 => ?_)
          · have hf := kb_ift hf c5
            refine kj_iconst (pc := 36) (v := (-1 : Int32)) C dX5_cellOf_36 (by decide) ?_
            cases hf
            exact kj_iret (pc := 37) C dX5_cellOf_37
          · have hf := kb_ife hf c5
            refine kj_iload_n (pc := 28) C 0 dX5_cellOf_28 rfl rfl ?_
            refine kj_iload_n (pc := 29) C 1 dX5_cellOf_29 rfl rfl ?_
            refine kj_iadd (pc := 30) C dX5_cellOf_30 ?_
            refine kj_bipush (pc := 31) (v := (80 : Int32)) C dX5_cellOf_31 (by decide) ?_
            refine kj_icmp_le (pc := 33) 38 C dX5_cellOf_33 (by decide) (fun c6 => ?_) (fun c6 => ?_)
            · have hf := kb_ift hf c6
              refine kj_iload_n (pc := 38) C 2 dX5_cellOf_38 rfl rfl ?_
              refine kj_if_ne (pc := 39) 46 C dX5_cellOf_39 (by decide) (fun c7 => ?_) (fun c7 => ?_)
              · have hf := kb_ife hf c7
                refine kj_gets (pc := 46) C C.2.1.2.2.2.1 wf_X5_71 dX5_cellOf_46 ?_
                refine kj_iload_n (pc := 49) C 2 dX5_cellOf_49 rfl rfl ?_
                obtain ⟨g8, hf⟩ := kb_gd hf
                refine kj_sld (pc := 50) C C.2.1.2.2.2.1 (kb_inv g8) dX5_cellOf_50 ?_
                refine kj_iload_n (pc := 51) C 0 dX5_cellOf_51 rfl rfl ?_
                refine kj_bipush (pc := 52) (v := (80 : Int32)) C dX5_cellOf_52 (by decide) ?_
                refine kj_iload_n (pc := 54) C 2 dX5_cellOf_54 rfl rfl ?_
                refine kj_ishr (pc := 55) C dX5_cellOf_55 ?_
                refine kj_imul (pc := 56) C dX5_cellOf_56 ?_
                refine kj_iadd (pc := 57) C dX5_cellOf_57 ?_
                refine kj_iload_n (pc := 58) C 1 dX5_cellOf_58 rfl rfl ?_
                refine kj_iadd (pc := 59) C dX5_cellOf_59 ?_
                refine kj_iconst (pc := 60) (v := (1 : Int32)) C dX5_cellOf_60 (by decide) ?_
                refine kj_isub (pc := 61) C dX5_cellOf_61 ?_
                cases hf
                exact kj_iret (pc := 62) C dX5_cellOf_62
              · have hf := kb_ift hf c7
                refine kj_iload_n (pc := 42) C 0 dX5_cellOf_42 rfl rfl ?_
                refine kj_goto (pc := 43) 62 C dX5_cellOf_43 (by decide) ?_
                cases hf
                exact kj_iret (pc := 62) C dX5_cellOf_62
            · have hf := kb_ife hf c6
              refine kj_iconst (pc := 36) (v := (-1 : Int32)) C dX5_cellOf_36 (by decide) ?_
              cases hf
              exact kj_iret (pc := 37) C dX5_cellOf_37
        · have hf := kb_ife hf c4
          refine kj_iconst (pc := 22) (v := (-1 : Int32)) C dX5_cellOf_22 (by decide) ?_
          cases hf
          exact kj_iret (pc := 23) C dX5_cellOf_23
def fn_X5_timesInRow  (x1 : Int32) (x2 : Int32) (τ : kb_S) : Option (Int32) :=
  if x1 < 0 then
    some (1 : Int32)
  else
    if (kb_g τ 0) ≤ x1 then
      some (1 : Int32)
    else
      if x2 < (1 : Int32) then
        some (1 : Int32)
      else
        if x2 ≤ ((kb_g τ 0) / (2 : Int32)) then
          if kb_in (((x1 * (40 : Int32)) + x2) - (1 : Int32)) 3200 = true then
            if ¬ x2 = 0 then
              some ((1 : Int32) + ((kb_a τ 1 (((x1 * (40 : Int32)) + x2) - (1 : Int32)).toNatClampNeg) / x2))
            else none
          else none
        else
          some (1 : Int32)
theorem fe_X5_timesInRow  (x1 : Int32) (x2 : Int32) (τ : kb_S) : fn_X5_timesInRow  x1 x2 τ =
  if x1 < 0 then
    some (1 : Int32)
  else
    if (kb_g τ 0) ≤ x1 then
      some (1 : Int32)
    else
      if x2 < (1 : Int32) then
        some (1 : Int32)
      else
        if x2 ≤ ((kb_g τ 0) / (2 : Int32)) then
          if kb_in (((x1 * (40 : Int32)) + x2) - (1 : Int32)) 3200 = true then
            if ¬ x2 = 0 then
              some ((1 : Int32) + ((kb_a τ 1 (((x1 * (40 : Int32)) + x2) - (1 : Int32)).toNatClampNeg) / x2))
            else none
          else none
        else
          some (1 : Int32) := rfl
theorem hd_X5_timesInRow : yX5_timesInRow.cls = RX5 ∧ yX5_timesInRow.cls ≠ "java/lang/invoke/MethodHandle" ∧ yX5_timesInRow.cls ≠ "java/lang/invoke/VarHandle" ∧ (parseMethodDescriptor yX5_timesInRow.desc).map (fun d => d.parameters.length) = some 2 := by decide +kernel
set_option maxRecDepth 100000 in
set_option maxHeartbeats 4000000 in
theorem ct_X5_timesInRow (l : Launch) (V : kb_V) (A : Nat → Prop)  (x1 : Int32) (x2 : Int32) (b : Nat → Nat) (τ : kb_S) (ex : va_W) {r : Int32} (hf : fn_X5_timesInRow  x1 x2 τ = some r) : kb_T l yX5_timesInRow cX5_timesInRow 3 (some .int) ({ frames := 0, cells := 0, slots := 0, locals := 0 } : Room) V A [.ref (b 0), .int x1, .int x2] (kb_WS V b τ ex) (some (.int r)) (kb_WS V b τ ex) 0 0 := by
  refine kb_start (cc := cX5_timesInRow) (nL := 3) (ret := (some .int)) (own := RX5) (by decide) rfl (Nat.le_of_ble_eq_true rfl) ?_
  intro p e s m args below meth c C
  refine kj_sub [0, 1, 2] (L2 := [(0, .ref (b 0)), (1, .int x1), (2, .int x2)]) rfl ?_
  rw [fe_X5_timesInRow] at hf
  refine kj_iload_n (pc := 0) C 1 dX5_timesInRow_0 rfl rfl ?_
  refine kj_if_lt (pc := 1) 27 C dX5_timesInRow_1 (by decide) (fun c1 => ?_) (fun c1 => ?_)
  · have hf := kb_ift hf c1
    refine kj_iconst (pc := 27) (v := (1 : Int32)) C dX5_timesInRow_27 (by decide) ?_
    cases hf
    exact kj_iret (pc := 28) C dX5_timesInRow_28
  · have hf := kb_ife hf c1
    refine kj_iload_n (pc := 4) C 1 dX5_timesInRow_4 rfl rfl ?_
    refine kj_aload_n (pc := 5) C 0 dX5_timesInRow_5 rfl rfl ?_
    refine kg_X5_count (pc := 6) (v := (kb_g τ 0)) C wf_X5_38 dX5_timesInRow_6 rfl ?_
    refine kj_icmp_ge (pc := 9) 27 C dX5_timesInRow_9 (by decide) (fun c2 => ?_) (fun c2 => ?_)
    · have hf := kb_ift hf c2
      refine kj_iconst (pc := 27) (v := (1 : Int32)) C dX5_timesInRow_27 (by decide) ?_
      cases hf
      exact kj_iret (pc := 28) C dX5_timesInRow_28
    · have hf := kb_ife hf c2
      refine kj_iload_n (pc := 12) C 2 dX5_timesInRow_12 rfl rfl ?_
      refine kj_iconst (pc := 13) (v := (1 : Int32)) C dX5_timesInRow_13 (by decide) ?_
      refine kj_icmp_lt (pc := 14) 27 C dX5_timesInRow_14 (by decide) (fun c3 => ?_) (fun c3 => ?_)
      · have hf := kb_ift hf c3
        refine kj_iconst (pc := 27) (v := (1 : Int32)) C dX5_timesInRow_27 (by decide) ?_
        cases hf
        exact kj_iret (pc := 28) C dX5_timesInRow_28
      · have hf := kb_ife hf c3
        refine kj_iload_n (pc := 17) C 2 dX5_timesInRow_17 rfl rfl ?_
        refine kj_aload_n (pc := 18) C 0 dX5_timesInRow_18 rfl rfl ?_
        refine kg_X5_count (pc := 19) (v := (kb_g τ 0)) C wf_X5_38 dX5_timesInRow_19 rfl ?_
        refine kj_iconst (pc := 22) (v := (2 : Int32)) C dX5_timesInRow_22 (by decide) ?_
        refine kj_idiv (pc := 23) C dX5_timesInRow_23 (by decide) ?_
        refine kj_icmp_le (pc := 24) 29 C dX5_timesInRow_24 (by decide) (fun c4 => ?_) (fun c4 => ?_)
        · have hf := kb_ift hf c4
          refine kj_iconst (pc := 29) (v := (1 : Int32)) C dX5_timesInRow_29 (by decide) ?_
          refine kj_aload_n (pc := 30) C 0 dX5_timesInRow_30 rfl rfl ?_
          refine kg_X5_sames (pc := 31) C wf_X5_15 dX5_timesInRow_31 ?_
          refine kj_iload_n (pc := 34) C 1 dX5_timesInRow_34 rfl rfl ?_
          refine kj_bipush (pc := 35) (v := (40 : Int32)) C dX5_timesInRow_35 (by decide) ?_
          refine kj_imul (pc := 37) C dX5_timesInRow_37 ?_
          refine kj_iload_n (pc := 38) C 2 dX5_timesInRow_38 rfl rfl ?_
          refine kj_iadd (pc := 39) C dX5_timesInRow_39 ?_
          refine kj_iconst (pc := 40) (v := (1 : Int32)) C dX5_timesInRow_40 (by decide) ?_
          refine kj_isub (pc := 41) C dX5_timesInRow_41 ?_
          obtain ⟨g5, hf⟩ := kb_gd hf
          refine ka_X5_sames (pc := 42) (v := (kb_a τ 1 (((x1 * (40 : Int32)) + x2) - (1 : Int32)).toNatClampNeg)) C g5 dX5_timesInRow_42 rfl ?_
          refine kj_iload_n (pc := 43) C 2 dX5_timesInRow_43 rfl rfl ?_
          obtain ⟨g6, hf⟩ := kb_gd hf
          refine kj_idiv (pc := 44) C dX5_timesInRow_44 g6 ?_
          refine kj_iadd (pc := 45) C dX5_timesInRow_45 ?_
          cases hf
          exact kj_iret (pc := 46) C dX5_timesInRow_46
        · have hf := kb_ife hf c4
          refine kj_iconst (pc := 27) (v := (1 : Int32)) C dX5_timesInRow_27 (by decide) ?_
          cases hf
          exact kj_iret (pc := 28) C dX5_timesInRow_28
def fn_X5_words  (x1 : Int32) (x2 : Int32) (x3 : Int32) (τ : kb_S) : Option (Int32) :=
  (fn_X5_cellOf x1 x2 x3).bind fun q1 =>
  if 0 ≤ q1 then
    if kb_in q1 5680 = true then
      some (kb_a τ 0 q1.toNatClampNeg)
    else none
  else
    some x2
theorem fe_X5_words  (x1 : Int32) (x2 : Int32) (x3 : Int32) (τ : kb_S) : fn_X5_words  x1 x2 x3 τ =
  (fn_X5_cellOf x1 x2 x3).bind fun q1 =>
  if 0 ≤ q1 then
    if kb_in q1 5680 = true then
      some (kb_a τ 0 q1.toNatClampNeg)
    else none
  else
    some x2 := rfl
theorem hd_X5_words : yX5_words.cls = RX5 ∧ yX5_words.cls ≠ "java/lang/invoke/MethodHandle" ∧ yX5_words.cls ≠ "java/lang/invoke/VarHandle" ∧ (parseMethodDescriptor yX5_words.desc).map (fun d => d.parameters.length) = some 3 := by decide +kernel
set_option maxRecDepth 100000 in
set_option maxHeartbeats 4000000 in
theorem ct_X5_words (l : Launch) (V : kb_V) (A : Nat → Prop)  (x1 : Int32) (x2 : Int32) (x3 : Int32) (b : Nat → Nat) (τ : kb_S) (ex : va_W) {r : Int32} (hf : fn_X5_words  x1 x2 x3 τ = some r) : kb_T l yX5_words cX5_words 5 (some .int) ({ frames := 1, cells := 0, slots := 0, locals := 22 } : Room) V A [.ref (b 0), .int x1, .int x2, .int x3] (kb_WS V b τ ex) (some (.int r)) (kb_WS V b τ ex) 0 0 := by
  refine kb_start (cc := cX5_words) (nL := 5) (ret := (some .int)) (own := RX5) (by decide) rfl (Nat.le_of_ble_eq_true rfl) ?_
  intro p e s m args below meth c C
  refine kj_sub [0, 1, 2, 3] (L2 := [(0, .ref (b 0)), (1, .int x1), (2, .int x2), (3, .int x3)]) rfl ?_
  rw [fe_X5_words] at hf
  refine kj_iload_n (pc := 0) C 1 dX5_words_0 rfl rfl ?_
  refine kj_iload_n (pc := 1) C 2 dX5_words_1 rfl rfl ?_
  refine kj_iload_n (pc := 2) C 3 dX5_words_2 rfl rfl ?_
  obtain ⟨q1, hq1, hf⟩ := kb_bd hf
  refine kj_callS0 (pc := 3) (as := [.int x1, .int x2, .int x3]) (rest := []) C (ct_X5_cellOf l V A x1 x2 x3 (kb_WS V b τ ex) hq1) wd_X5_cellOf wk_X5_65 wi_X5_cellOf wz_X5 rfl rfl hd_X5_cellOf ⟨by decide, by decide⟩ rfl (Nat.le_of_ble_eq_true rfl) (by decide) dX5_words_3 ?_
  refine kj_istore (pc := 6) C [1, 2, 3, 4, 0] (L2 := [(0, .ref (b 0)), (1, .int x1), (2, .int x2), (3, .int x3), (4, .int q1)]) dX5_words_6 (by decide) rfl ?_
  refine kj_iload (pc := 8) C 4 dX5_words_8 rfl ?_
  refine kj_if_ge (pc := 10) 17 C dX5_words_10 (by decide) (fun c2 => ?_) (fun c2 => ?_)
  · have hf := kb_ift hf c2
    refine kj_aload_n (pc := 17) C 0 dX5_words_17 rfl rfl ?_
    refine kg_X5_table (pc := 18) C wf_X5_11 dX5_words_18 ?_
    refine kj_iload (pc := 21) C 4 dX5_words_21 rfl ?_
    obtain ⟨g3, hf⟩ := kb_gd hf
    refine ka_X5_table (pc := 23) (v := (kb_a τ 0 q1.toNatClampNeg)) C g3 dX5_words_23 rfl ?_
    cases hf
    exact kj_iret (pc := 24) C dX5_words_24
  · have hf := kb_ife hf c2
    refine kj_iload_n (pc := 13) C 2 dX5_words_13 rfl rfl ?_
    refine kj_goto (pc := 14) 24 C dX5_words_14 (by decide) ?_
    cases hf
    exact kj_iret (pc := 24) C dX5_words_24
def fp_X5_fewestWords_71  (kc18 : Int32 → Int32 → Int32 → Int32 → Int32 → kb_S → Option (Int32)) : Nat → Int32 → Int32 → Int32 → Int32 → Int32 → Int32 → Int32 → Int32 → kb_S → Option (Int32)
  | 0 => fun _ _ _ _ _ _ _ _ _ => none
  | nn + 1 => fun x1 x2 x3 x4 x5 x6 x7 x8 τ => 
  if x6 < x8 then
    kc18 x1 x2 x3 x4 (x5 + (1 : Int32)) τ
  else
    (fn_X5_words (x1 + (x5 * x8)) (x2 - (x5 * x8)) x3 τ).bind fun q2 =>
    (fp_X5_fewestWords_71 kc18 nn) x1 x2 x3 (if (x7 + q2) < x4 then (x7 + q2) else x4) x5 x6 x7 (x8 + (1 : Int32)) τ
theorem fp_X5_fewestWords_71_s  (kc18 : Int32 → Int32 → Int32 → Int32 → Int32 → kb_S → Option (Int32)) (nn : Nat) (x1 : Int32) (x2 : Int32) (x3 : Int32) (x4 : Int32) (x5 : Int32) (x6 : Int32) (x7 : Int32) (x8 : Int32) (τ : kb_S) : fp_X5_fewestWords_71 kc18 (nn + 1) x1 x2 x3 x4 x5 x6 x7 x8 τ =
  if x6 < x8 then
    kc18 x1 x2 x3 x4 (x5 + (1 : Int32)) τ
  else
    (fn_X5_words (x1 + (x5 * x8)) (x2 - (x5 * x8)) x3 τ).bind fun q2 =>
    (fp_X5_fewestWords_71 kc18 nn) x1 x2 x3 (if (x7 + q2) < x4 then (x7 + q2) else x4) x5 x6 x7 (x8 + (1 : Int32)) τ := rfl
def fp_X5_fewestWords_66  (kc18 : Int32 → Int32 → Int32 → Int32 → Int32 → kb_S → Option (Int32)) (x1 : Int32) (x2 : Int32) (x3 : Int32) (x4 : Int32) (x5 : Int32) (x6 : Int32) (y0 : Int32) (τ : kb_S) : Option (Int32) :=
  fp_X5_fewestWords_71  kc18 kb_FU x1 x2 x3 x4 x5 x6 y0 (2 : Int32) τ
theorem fp_X5_fewestWords_66_e  (kc18 : Int32 → Int32 → Int32 → Int32 → Int32 → kb_S → Option (Int32)) (x1 : Int32) (x2 : Int32) (x3 : Int32) (x4 : Int32) (x5 : Int32) (x6 : Int32) (y0 : Int32) (τ : kb_S) : fp_X5_fewestWords_66 kc18 x1 x2 x3 x4 x5 x6 y0 τ =
  fp_X5_fewestWords_71  kc18 kb_FU x1 x2 x3 x4 x5 x6 y0 (2 : Int32) τ := rfl
def fp_X5_fewestWords_18   : Nat → Int32 → Int32 → Int32 → Int32 → Int32 → kb_S → Option (Int32)
  | 0 => fun _ _ _ _ _ _ => none
  | nn + 1 => fun x1 x2 x3 x4 x5 τ => 
  if (x2 / (2 : Int32)) < x5 then
    some x4
  else
    (fn_X5_timesInRow x1 x5 τ).bind fun q2 =>
    if ¬ x5 = 0 then
      if (2 : Int32) ≤ (if (x2 / x5) < q2 then (x2 / x5) else q2) then
        (fn_X5_words x1 x5 (x3 + (1 : Int32)) τ).bind fun q5 =>
        fp_X5_fewestWords_66  (fp_X5_fewestWords_18  nn) x1 x2 x3 x4 x5 (if (x2 / x5) < q2 then (x2 / x5) else q2) ((1 : Int32) + q5) τ
      else
        fp_X5_fewestWords_66  (fp_X5_fewestWords_18  nn) x1 x2 x3 x4 x5 (if (x2 / x5) < q2 then (x2 / x5) else q2) (1000 : Int32) τ
    else none
theorem fp_X5_fewestWords_18_s   (nn : Nat) (x1 : Int32) (x2 : Int32) (x3 : Int32) (x4 : Int32) (x5 : Int32) (τ : kb_S) : fp_X5_fewestWords_18  (nn + 1) x1 x2 x3 x4 x5 τ =
  if (x2 / (2 : Int32)) < x5 then
    some x4
  else
    (fn_X5_timesInRow x1 x5 τ).bind fun q2 =>
    if ¬ x5 = 0 then
      if (2 : Int32) ≤ (if (x2 / x5) < q2 then (x2 / x5) else q2) then
        (fn_X5_words x1 x5 (x3 + (1 : Int32)) τ).bind fun q5 =>
        fp_X5_fewestWords_66  (fp_X5_fewestWords_18  nn) x1 x2 x3 x4 x5 (if (x2 / x5) < q2 then (x2 / x5) else q2) ((1 : Int32) + q5) τ
      else
        fp_X5_fewestWords_66  (fp_X5_fewestWords_18  nn) x1 x2 x3 x4 x5 (if (x2 / x5) < q2 then (x2 / x5) else q2) (1000 : Int32) τ
    else none := rfl
def fn_X5_fewestWords  (x1 : Int32) (x2 : Int32) (x3 : Int32) (τ : kb_S) : Option (Int32) :=
  (fn_X5_words (x1 + (1 : Int32)) (x2 - (1 : Int32)) x3 τ).bind fun q1 =>
  fp_X5_fewestWords_18   kb_FU x1 x2 x3 ((1 : Int32) + q1) (1 : Int32) τ
theorem fe_X5_fewestWords  (x1 : Int32) (x2 : Int32) (x3 : Int32) (τ : kb_S) : fn_X5_fewestWords  x1 x2 x3 τ =
  (fn_X5_words (x1 + (1 : Int32)) (x2 - (1 : Int32)) x3 τ).bind fun q1 =>
  fp_X5_fewestWords_18   kb_FU x1 x2 x3 ((1 : Int32) + q1) (1 : Int32) τ := rfl
theorem hd_X5_fewestWords : yX5_fewestWords.cls = RX5 ∧ yX5_fewestWords.cls ≠ "java/lang/invoke/MethodHandle" ∧ yX5_fewestWords.cls ≠ "java/lang/invoke/VarHandle" ∧ (parseMethodDescriptor yX5_fewestWords.desc).map (fun d => d.parameters.length) = some 3 := by decide +kernel
set_option maxRecDepth 100000 in
set_option maxHeartbeats 4000000 in
theorem ct_X5_fewestWords (l : Launch) (V : kb_V) (A : Nat → Prop)  (x1 : Int32) (x2 : Int32) (x3 : Int32) (b : Nat → Nat) (τ : kb_S) (ex : va_W) {r : Int32} (hf : fn_X5_fewestWords  x1 x2 x3 τ = some r) : kb_T l yX5_fewestWords cX5_fewestWords 9 (some .int) ({ frames := 2, cells := 0, slots := 0, locals := 46 } : Room) V A [.ref (b 0), .int x1, .int x2, .int x3] (kb_WS V b τ ex) (some (.int r)) (kb_WS V b τ ex) 0 0 := by
  refine kb_start (cc := cX5_fewestWords) (nL := 9) (ret := (some .int)) (own := RX5) (by decide) rfl (Nat.le_of_ble_eq_true rfl) ?_
  intro p e s m args below meth c C
  have hp18 : ∀ (nn : Nat) (x1 : Int32) (x2 : Int32) (x3 : Int32) (x4 : Int32) (x5 : Int32) (τ : kb_S), fp_X5_fewestWords_18   nn x1 x2 x3 x4 x5 τ = some r → kb_J p l e ({ frames := 2, cells := 0, slots := 0, locals := 46 } : Room) s m args below meth c 9 V A 0 0 (MQ below (kb_post V A (some (.int r)) (kb_WS V b τ ex)) args s 0 0 A) 18 [(0, .ref (b 0)), (1, .int x1), (2, .int x2), (3, .int x3), (4, .int x4), (5, .int x5)] [] (kb_WS V b τ ex) := by
    intro nn18
    induction nn18 with
    | zero => intro x1 x2 x3 x4 x5 τ hf; exact kb_no hf
    | succ nn18 ih18 =>
      have hp71 : ∀ (nn : Nat) (x1 : Int32) (x2 : Int32) (x3 : Int32) (x4 : Int32) (x5 : Int32) (x6 : Int32) (x7 : Int32) (x8 : Int32) (τ : kb_S), fp_X5_fewestWords_71  (fp_X5_fewestWords_18   nn18) nn x1 x2 x3 x4 x5 x6 x7 x8 τ = some r → kb_J p l e ({ frames := 2, cells := 0, slots := 0, locals := 46 } : Room) s m args below meth c 9 V A 0 0 (MQ below (kb_post V A (some (.int r)) (kb_WS V b τ ex)) args s 0 0 A) 71 [(0, .ref (b 0)), (1, .int x1), (2, .int x2), (3, .int x3), (4, .int x4), (5, .int x5), (6, .int x6), (7, .int x7), (8, .int x8)] [] (kb_WS V b τ ex) := by
        intro nn71
        induction nn71 with
        | zero => intro x1 x2 x3 x4 x5 x6 x7 x8 τ hf; exact kb_no hf
        | succ nn71 ih71 =>
          intro x1 x2 x3 x4 x5 x6 x7 x8 τ hf
          rw [fp_X5_fewestWords_71_s] at hf
          refine kj_iload (pc := 71) C 8 dX5_fewestWords_71 rfl ?_
          refine kj_iload (pc := 73) C 6 dX5_fewestWords_73 rfl ?_
          refine kj_icmp_gt (pc := 75) 113 C dX5_fewestWords_75 (by decide) (fun c1 => ?_) (fun c1 => ?_)
          · have hf := kb_ift hf c1
            refine kj_iinc (pc := 113) C 5 [1, 2, 3, 4, 5, 0, 6, 7, 8] (L2 := [(0, .ref (b 0)), (1, .int x1), (2, .int x2), (3, .int x3), (4, .int x4), (5, .int (x5 + (1 : Int32))), (6, .int x6), (7, .int x7), (8, .int x8)]) dX5_fewestWords_113 rfl rfl (by decide) rfl ?_
            refine kj_goto (pc := 116) 18 C dX5_fewestWords_116 (by decide) ?_
            refine kj_sub [0, 1, 2, 3, 4, 5] (L2 := [(0, .ref (b 0)), (1, .int x1), (2, .int x2), (3, .int x3), (4, .int x4), (5, .int (x5 + (1 : Int32)))]) rfl ?_
            exact ih18 x1 x2 x3 x4 (x5 + (1 : Int32)) τ hf
          · have hf := kb_ife hf c1
            refine kj_iload (pc := 78) C 4 dX5_fewestWords_78 rfl ?_
            refine kj_iload (pc := 80) C 7 dX5_fewestWords_80 rfl ?_
            refine kj_aload_n (pc := 82) C 0 dX5_fewestWords_82 rfl rfl ?_
            refine kj_iload_n (pc := 83) C 1 dX5_fewestWords_83 rfl rfl ?_
            refine kj_iload (pc := 84) C 5 dX5_fewestWords_84 rfl ?_
            refine kj_iload (pc := 86) C 8 dX5_fewestWords_86 rfl ?_
            refine kj_imul (pc := 88) C dX5_fewestWords_88 ?_
            refine kj_iadd (pc := 89) C dX5_fewestWords_89 ?_
            refine kj_iload_n (pc := 90) C 2 dX5_fewestWords_90 rfl rfl ?_
            refine kj_iload (pc := 91) C 5 dX5_fewestWords_91 rfl ?_
            refine kj_iload (pc := 93) C 8 dX5_fewestWords_93 rfl ?_
            refine kj_imul (pc := 95) C dX5_fewestWords_95 ?_
            refine kj_isub (pc := 96) C dX5_fewestWords_96 ?_
            refine kj_iload_n (pc := 97) C 3 dX5_fewestWords_97 rfl rfl ?_
            obtain ⟨q2, hq2, hf⟩ := kb_bd hf
            refine kj_callV0 (pc := 98) (as := [.int (x1 + (x5 * x8)), .int (x2 - (x5 * x8)), .int x3]) (rest := [.int x7, .int x4]) (b := (b 0)) C (ct_X5_words l V A (x1 + (x5 * x8)) (x2 - (x5 * x8)) x3 b τ ex hq2) wd_X5_words wk_X5_58 wi_X5_words ws_X5_words wz_X5 rfl rfl hd_X5_words ⟨by decide, by decide⟩ 0 rfl rfl rfl rfl (Nat.le_of_ble_eq_true rfl) (by decide) dX5_fewestWords_98 ?_
            refine kj_iadd (pc := 101) C dX5_fewestWords_101 ?_
            refine kj_mmin (pc := 102) C wk_X5_32 wi_Mmin wz_Math wd_Mmin (by decide) (Nat.le_of_ble_eq_true rfl) (by decide) dX5_fewestWords_102 ?_
            refine kj_istore (pc := 105) C [1, 2, 3, 4, 0, 5, 6, 7, 8] (L2 := [(0, .ref (b 0)), (1, .int x1), (2, .int x2), (3, .int x3), (4, .int (if (x7 + q2) < x4 then (x7 + q2) else x4)), (5, .int x5), (6, .int x6), (7, .int x7), (8, .int x8)]) dX5_fewestWords_105 (by decide) rfl ?_
            refine kj_iinc (pc := 107) C 8 [1, 2, 3, 4, 5, 6, 7, 8, 0] (L2 := [(0, .ref (b 0)), (1, .int x1), (2, .int x2), (3, .int x3), (4, .int (if (x7 + q2) < x4 then (x7 + q2) else x4)), (5, .int x5), (6, .int x6), (7, .int x7), (8, .int (x8 + (1 : Int32)))]) dX5_fewestWords_107 rfl rfl (by decide) rfl ?_
            refine kj_goto (pc := 110) 71 C dX5_fewestWords_110 (by decide) ?_
            exact ih71 x1 x2 x3 (if (x7 + q2) < x4 then (x7 + q2) else x4) x5 x6 x7 (x8 + (1 : Int32)) τ hf
      have hp66 : ∀ (x1 : Int32) (x2 : Int32) (x3 : Int32) (x4 : Int32) (x5 : Int32) (x6 : Int32) (y0 : Int32) (τ : kb_S), fp_X5_fewestWords_66  (fp_X5_fewestWords_18   nn18) x1 x2 x3 x4 x5 x6 y0 τ = some r → kb_J p l e ({ frames := 2, cells := 0, slots := 0, locals := 46 } : Room) s m args below meth c 9 V A 0 0 (MQ below (kb_post V A (some (.int r)) (kb_WS V b τ ex)) args s 0 0 A) 66 [(0, .ref (b 0)), (1, .int x1), (2, .int x2), (3, .int x3), (4, .int x4), (5, .int x5), (6, .int x6)] [.int y0] (kb_WS V b τ ex) := by
        intro x1 x2 x3 x4 x5 x6 y0 τ hf
        rw [fp_X5_fewestWords_66_e] at hf
        refine kj_istore (pc := 66) C [1, 2, 3, 4, 5, 6, 7, 0] (L2 := [(0, .ref (b 0)), (1, .int x1), (2, .int x2), (3, .int x3), (4, .int x4), (5, .int x5), (6, .int x6), (7, .int y0)]) dX5_fewestWords_66 (by decide) rfl ?_
        refine kj_iconst (pc := 68) (v := (2 : Int32)) C dX5_fewestWords_68 (by decide) ?_
        refine kj_istore (pc := 69) C [1, 2, 3, 4, 5, 6, 7, 8, 0] (L2 := [(0, .ref (b 0)), (1, .int x1), (2, .int x2), (3, .int x3), (4, .int x4), (5, .int x5), (6, .int x6), (7, .int y0), (8, .int (2 : Int32))]) dX5_fewestWords_69 (by decide) rfl ?_
        exact hp71 kb_FU x1 x2 x3 x4 x5 x6 y0 (2 : Int32) τ hf
      intro x1 x2 x3 x4 x5 τ hf
      rw [fp_X5_fewestWords_18_s] at hf
      refine kj_iload (pc := 18) C 5 dX5_fewestWords_18 rfl ?_
      refine kj_iload_n (pc := 20) C 2 dX5_fewestWords_20 rfl rfl ?_
      refine kj_iconst (pc := 21) (v := (2 : Int32)) C dX5_fewestWords_21 (by decide) ?_
      refine kj_idiv (pc := 22) C dX5_fewestWords_22 (by decide) ?_
      refine kj_icmp_gt (pc := 23) 119 C dX5_fewestWords_23 (by decide) (fun c1 => ?_) (fun c1 => ?_)
      · have hf := kb_ift hf c1
        refine kj_iload (pc := 119) C 4 dX5_fewestWords_119 rfl ?_
        cases hf
        exact kj_iret (pc := 121) C dX5_fewestWords_121
      · have hf := kb_ife hf c1
        refine kj_aload_n (pc := 26) C 0 dX5_fewestWords_26 rfl rfl ?_
        refine kj_iload_n (pc := 27) C 1 dX5_fewestWords_27 rfl rfl ?_
        refine kj_iload (pc := 28) C 5 dX5_fewestWords_28 rfl ?_
        obtain ⟨q2, hq2, hf⟩ := kb_bd hf
        refine kj_callV0 (pc := 30) (as := [.int x1, .int x5]) (rest := []) (b := (b 0)) C (ct_X5_timesInRow l V A x1 x5 b τ ex hq2) wd_X5_timesInRow wk_X5_62 wi_X5_timesInRow ws_X5_timesInRow wz_X5 rfl rfl hd_X5_timesInRow ⟨by decide, by decide⟩ 0 rfl rfl rfl rfl (Nat.le_of_ble_eq_true rfl) (by decide) dX5_fewestWords_30 ?_
        refine kj_iload_n (pc := 33) C 2 dX5_fewestWords_33 rfl rfl ?_
        refine kj_iload (pc := 34) C 5 dX5_fewestWords_34 rfl ?_
        obtain ⟨g3, hf⟩ := kb_gd hf
        refine kj_idiv (pc := 36) C dX5_fewestWords_36 g3 ?_
        refine kj_mmin (pc := 37) C wk_X5_32 wi_Mmin wz_Math wd_Mmin (by decide) (Nat.le_of_ble_eq_true rfl) (by decide) dX5_fewestWords_37 ?_
        refine kj_istore (pc := 40) C [1, 2, 3, 4, 5, 6, 0] (L2 := [(0, .ref (b 0)), (1, .int x1), (2, .int x2), (3, .int x3), (4, .int x4), (5, .int x5), (6, .int (if (x2 / x5) < q2 then (x2 / x5) else q2))]) dX5_fewestWords_40 (by decide) rfl ?_
        refine kj_iload (pc := 42) C 6 dX5_fewestWords_42 rfl ?_
        refine kj_iconst (pc := 44) (v := (2 : Int32)) C dX5_fewestWords_44 (by decide) ?_
        refine kj_icmp_ge (pc := 45) 54 C dX5_fewestWords_45 (by decide) (fun c4 => ?_) (fun c4 => ?_)
        · have hf := kb_ift hf c4
          refine kj_iconst (pc := 54) (v := (1 : Int32)) C dX5_fewestWords_54 (by decide) ?_
          refine kj_aload_n (pc := 55) C 0 dX5_fewestWords_55 rfl rfl ?_
          refine kj_iload_n (pc := 56) C 1 dX5_fewestWords_56 rfl rfl ?_
          refine kj_iload (pc := 57) C 5 dX5_fewestWords_57 rfl ?_
          refine kj_iload_n (pc := 59) C 3 dX5_fewestWords_59 rfl rfl ?_
          refine kj_iconst (pc := 60) (v := (1 : Int32)) C dX5_fewestWords_60 (by decide) ?_
          refine kj_iadd (pc := 61) C dX5_fewestWords_61 ?_
          obtain ⟨q5, hq5, hf⟩ := kb_bd hf
          refine kj_callV0 (pc := 62) (as := [.int x1, .int x5, .int (x3 + (1 : Int32))]) (rest := [.int (1 : Int32)]) (b := (b 0)) C (ct_X5_words l V A x1 x5 (x3 + (1 : Int32)) b τ ex hq5) wd_X5_words wk_X5_58 wi_X5_words ws_X5_words wz_X5 rfl rfl hd_X5_words ⟨by decide, by decide⟩ 0 rfl rfl rfl rfl (Nat.le_of_ble_eq_true rfl) (by decide) dX5_fewestWords_62 ?_
          refine kj_iadd (pc := 65) C dX5_fewestWords_65 ?_
          exact hp66 x1 x2 x3 x4 x5 (if (x2 / x5) < q2 then (x2 / x5) else q2) ((1 : Int32) + q5) τ hf
        · have hf := kb_ife hf c4
          refine kj_sipush (pc := 48) (v := (1000 : Int32)) C dX5_fewestWords_48 (by decide) ?_
          refine kj_goto (pc := 51) 66 C dX5_fewestWords_51 (by decide) ?_
          exact hp66 x1 x2 x3 x4 x5 (if (x2 / x5) < q2 then (x2 / x5) else q2) (1000 : Int32) τ hf
  refine kj_sub [0, 1, 2, 3] (L2 := [(0, .ref (b 0)), (1, .int x1), (2, .int x2), (3, .int x3)]) rfl ?_
  rw [fe_X5_fewestWords] at hf
  refine kj_iconst (pc := 0) (v := (1 : Int32)) C dX5_fewestWords_0 (by decide) ?_
  refine kj_aload_n (pc := 1) C 0 dX5_fewestWords_1 rfl rfl ?_
  refine kj_iload_n (pc := 2) C 1 dX5_fewestWords_2 rfl rfl ?_
  refine kj_iconst (pc := 3) (v := (1 : Int32)) C dX5_fewestWords_3 (by decide) ?_
  refine kj_iadd (pc := 4) C dX5_fewestWords_4 ?_
  refine kj_iload_n (pc := 5) C 2 dX5_fewestWords_5 rfl rfl ?_
  refine kj_iconst (pc := 6) (v := (1 : Int32)) C dX5_fewestWords_6 (by decide) ?_
  refine kj_isub (pc := 7) C dX5_fewestWords_7 ?_
  refine kj_iload_n (pc := 8) C 3 dX5_fewestWords_8 rfl rfl ?_
  obtain ⟨q1, hq1, hf⟩ := kb_bd hf
  refine kj_callV0 (pc := 9) (as := [.int (x1 + (1 : Int32)), .int (x2 - (1 : Int32)), .int x3]) (rest := [.int (1 : Int32)]) (b := (b 0)) C (ct_X5_words l V A (x1 + (1 : Int32)) (x2 - (1 : Int32)) x3 b τ ex hq1) wd_X5_words wk_X5_58 wi_X5_words ws_X5_words wz_X5 rfl rfl hd_X5_words ⟨by decide, by decide⟩ 0 rfl rfl rfl rfl (Nat.le_of_ble_eq_true rfl) (by decide) dX5_fewestWords_9 ?_
  refine kj_iadd (pc := 12) C dX5_fewestWords_12 ?_
  refine kj_istore (pc := 13) C [1, 2, 3, 4, 0] (L2 := [(0, .ref (b 0)), (1, .int x1), (2, .int x2), (3, .int x3), (4, .int ((1 : Int32) + q1))]) dX5_fewestWords_13 (by decide) rfl ?_
  refine kj_iconst (pc := 15) (v := (1 : Int32)) C dX5_fewestWords_15 (by decide) ?_
  refine kj_istore (pc := 16) C [1, 2, 3, 4, 5, 0] (L2 := [(0, .ref (b 0)), (1, .int x1), (2, .int x2), (3, .int x3), (4, .int ((1 : Int32) + q1)), (5, .int (1 : Int32))]) dX5_fewestWords_16 (by decide) rfl ?_
  exact hp18 kb_FU x1 x2 x3 ((1 : Int32) + q1) (1 : Int32) τ hf
def fp_X5_countWords_44  (kc3 : Int32 → Int32 → Int32 → Int32 → kb_S → Option (kb_S)) (x1 : Int32) (x2 : Int32) (x3 : Int32) (x4 : Int32) (τ : kb_S) : Option (kb_S) :=
  kc3 x1 x2 x3 (x4 + (1 : Int32)) τ
theorem fp_X5_countWords_44_e  (kc3 : Int32 → Int32 → Int32 → Int32 → kb_S → Option (kb_S)) (x1 : Int32) (x2 : Int32) (x3 : Int32) (x4 : Int32) (τ : kb_S) : fp_X5_countWords_44 kc3 x1 x2 x3 x4 τ =
  kc3 x1 x2 x3 (x4 + (1 : Int32)) τ := rfl
def fp_X5_countWords_3   : Nat → Int32 → Int32 → Int32 → Int32 → kb_S → Option (kb_S)
  | 0 => fun _ _ _ _ _ => none
  | nn + 1 => fun x1 x2 x3 x4 τ => 
  if x2 < x4 then
    some τ
  else
    (fn_X5_cellOf (x1 - x4) x4 x3).bind fun q2 =>
    if q2 < 0 then
      fp_X5_countWords_44  (fp_X5_countWords_3  nn) x1 x2 x3 x4 τ
    else
      (fn_X5_fewestWords (x1 - x4) x4 x3 τ).bind fun q4 =>
      if kb_in q2 5680 = true then
        fp_X5_countWords_44  (fp_X5_countWords_3  nn) x1 x2 x3 x4 (kb_ap τ 0 q2.toNatClampNeg q4)
      else none
theorem fp_X5_countWords_3_s   (nn : Nat) (x1 : Int32) (x2 : Int32) (x3 : Int32) (x4 : Int32) (τ : kb_S) : fp_X5_countWords_3  (nn + 1) x1 x2 x3 x4 τ =
  if x2 < x4 then
    some τ
  else
    (fn_X5_cellOf (x1 - x4) x4 x3).bind fun q2 =>
    if q2 < 0 then
      fp_X5_countWords_44  (fp_X5_countWords_3  nn) x1 x2 x3 x4 τ
    else
      (fn_X5_fewestWords (x1 - x4) x4 x3 τ).bind fun q4 =>
      if kb_in q2 5680 = true then
        fp_X5_countWords_44  (fp_X5_countWords_3  nn) x1 x2 x3 x4 (kb_ap τ 0 q2.toNatClampNeg q4)
      else none := rfl
def fn_X5_countWords  (x1 : Int32) (x2 : Int32) (x3 : Int32) (τ : kb_S) : Option (kb_S) :=
  fp_X5_countWords_3   kb_FU x1 x2 x3 (1 : Int32) τ
theorem fe_X5_countWords  (x1 : Int32) (x2 : Int32) (x3 : Int32) (τ : kb_S) : fn_X5_countWords  x1 x2 x3 τ =
  fp_X5_countWords_3   kb_FU x1 x2 x3 (1 : Int32) τ := rfl
theorem hd_X5_countWords : yX5_countWords.cls = RX5 ∧ yX5_countWords.cls ≠ "java/lang/invoke/MethodHandle" ∧ yX5_countWords.cls ≠ "java/lang/invoke/VarHandle" ∧ (parseMethodDescriptor yX5_countWords.desc).map (fun d => d.parameters.length) = some 3 := by decide +kernel
set_option maxRecDepth 100000 in
set_option maxHeartbeats 4000000 in
theorem ct_X5_countWords (l : Launch) (V : kb_V) (A : Nat → Prop)  (x1 : Int32) (x2 : Int32) (x3 : Int32) (b : Nat → Nat) (τ : kb_S) (ex : va_W) {τ9 : kb_S} (hf : fn_X5_countWords  x1 x2 x3 τ = some τ9) : kb_T l yX5_countWords cX5_countWords 6 none ({ frames := 3, cells := 0, slots := 0, locals := 74 } : Room) V A [.ref (b 0), .int x1, .int x2, .int x3] (kb_WS V b τ ex) none (kb_WS V b τ9 ex) 0 0 := by
  refine kb_start (cc := cX5_countWords) (nL := 6) (ret := none) (own := RX5) (by decide) rfl (Nat.le_of_ble_eq_true rfl) ?_
  intro p e s m args below meth c C
  have hp3 : ∀ (nn : Nat) (x1 : Int32) (x2 : Int32) (x3 : Int32) (x4 : Int32) (τ : kb_S), fp_X5_countWords_3   nn x1 x2 x3 x4 τ = some τ9 → kb_J p l e ({ frames := 3, cells := 0, slots := 0, locals := 74 } : Room) s m args below meth c 6 V A 0 0 (MQ below (kb_post V A none (kb_WS V b τ9 ex)) args s 0 0 A) 3 [(0, .ref (b 0)), (1, .int x1), (2, .int x2), (3, .int x3), (4, .int x4)] [] (kb_WS V b τ ex) := by
    intro nn3
    induction nn3 with
    | zero => intro x1 x2 x3 x4 τ hf; exact kb_no hf
    | succ nn3 ih3 =>
      have hp44 : ∀ (x1 : Int32) (x2 : Int32) (x3 : Int32) (x4 : Int32) (τ : kb_S), fp_X5_countWords_44  (fp_X5_countWords_3   nn3) x1 x2 x3 x4 τ = some τ9 → kb_J p l e ({ frames := 3, cells := 0, slots := 0, locals := 74 } : Room) s m args below meth c 6 V A 0 0 (MQ below (kb_post V A none (kb_WS V b τ9 ex)) args s 0 0 A) 44 [(0, .ref (b 0)), (1, .int x1), (2, .int x2), (3, .int x3), (4, .int x4)] [] (kb_WS V b τ ex) := by
        intro x1 x2 x3 x4 τ hf
        rw [fp_X5_countWords_44_e] at hf
        refine kj_iinc (pc := 44) C 4 [1, 2, 3, 4, 0] (L2 := [(0, .ref (b 0)), (1, .int x1), (2, .int x2), (3, .int x3), (4, .int (x4 + (1 : Int32)))]) dX5_countWords_44 rfl rfl (by decide) rfl ?_
        refine kj_goto (pc := 47) 3 C dX5_countWords_47 (by decide) ?_
        exact ih3 x1 x2 x3 (x4 + (1 : Int32)) τ hf
      intro x1 x2 x3 x4 τ hf
      rw [fp_X5_countWords_3_s] at hf
      refine kj_iload (pc := 3) C 4 dX5_countWords_3 rfl ?_
      refine kj_iload_n (pc := 5) C 2 dX5_countWords_5 rfl rfl ?_
      refine kj_icmp_gt (pc := 6) 50 C dX5_countWords_6 (by decide) (fun c1 => ?_) (fun c1 => ?_)
      · have hf := kb_ift hf c1
        cases hf
        exact kj_vret (pc := 50) C dX5_countWords_50
      · have hf := kb_ife hf c1
        refine kj_iload_n (pc := 9) C 1 dX5_countWords_9 rfl rfl ?_
        refine kj_iload (pc := 10) C 4 dX5_countWords_10 rfl ?_
        refine kj_isub (pc := 12) C dX5_countWords_12 ?_
        refine kj_iload (pc := 13) C 4 dX5_countWords_13 rfl ?_
        refine kj_iload_n (pc := 15) C 3 dX5_countWords_15 rfl rfl ?_
        obtain ⟨q2, hq2, hf⟩ := kb_bd hf
        refine kj_callS0 (pc := 16) (as := [.int (x1 - x4), .int x4, .int x3]) (rest := []) C (ct_X5_cellOf l V A (x1 - x4) x4 x3 (kb_WS V b τ ex) hq2) wd_X5_cellOf wk_X5_65 wi_X5_cellOf wz_X5 rfl rfl hd_X5_cellOf ⟨by decide, by decide⟩ rfl (Nat.le_of_ble_eq_true rfl) (by decide) dX5_countWords_16 ?_
        refine kj_istore (pc := 19) C [1, 2, 3, 4, 5, 0] (L2 := [(0, .ref (b 0)), (1, .int x1), (2, .int x2), (3, .int x3), (4, .int x4), (5, .int q2)]) dX5_countWords_19 (by decide) rfl ?_
        refine kj_iload (pc := 21) C 5 dX5_countWords_21 rfl ?_
        refine kj_if_lt (pc := 23) 44 C dX5_countWords_23 (by decide) (fun c3 => ?_) (fun c3 => ?_)
        · have hf := kb_ift hf c3
          refine kj_sub [0, 1, 2, 3, 4] (L2 := [(0, .ref (b 0)), (1, .int x1), (2, .int x2), (3, .int x3), (4, .int x4)]) rfl ?_
          exact hp44 x1 x2 x3 x4 τ hf
        · have hf := kb_ife hf c3
          refine kj_aload_n (pc := 26) C 0 dX5_countWords_26 rfl rfl ?_
          refine kg_X5_table (pc := 27) C wf_X5_11 dX5_countWords_27 ?_
          refine kj_iload (pc := 30) C 5 dX5_countWords_30 rfl ?_
          refine kj_aload_n (pc := 32) C 0 dX5_countWords_32 rfl rfl ?_
          refine kj_iload_n (pc := 33) C 1 dX5_countWords_33 rfl rfl ?_
          refine kj_iload (pc := 34) C 4 dX5_countWords_34 rfl ?_
          refine kj_isub (pc := 36) C dX5_countWords_36 ?_
          refine kj_iload (pc := 37) C 4 dX5_countWords_37 rfl ?_
          refine kj_iload_n (pc := 39) C 3 dX5_countWords_39 rfl rfl ?_
          obtain ⟨q4, hq4, hf⟩ := kb_bd hf
          refine kj_callV0 (pc := 40) (as := [.int (x1 - x4), .int x4, .int x3]) (rest := [.int q2, .ref (b 1)]) (b := (b 0)) C (ct_X5_fewestWords l V A (x1 - x4) x4 x3 b τ ex hq4) wd_X5_fewestWords wk_X5_68 wi_X5_fewestWords ws_X5_fewestWords wz_X5 rfl rfl hd_X5_fewestWords ⟨by decide, by decide⟩ 0 rfl rfl rfl rfl (Nat.le_of_ble_eq_true rfl) (by decide) dX5_countWords_40 ?_
          obtain ⟨g5, hf⟩ := kb_gd hf
          refine ks_X5_table (pc := 43) C g5 dX5_countWords_43 ?_
          refine kj_sub [0, 1, 2, 3, 4] (L2 := [(0, .ref (b 0)), (1, .int x1), (2, .int x2), (3, .int x3), (4, .int x4)]) rfl ?_
          exact hp44 x1 x2 x3 x4 (kb_ap τ 0 q2.toNatClampNeg q4) hf
  refine kj_sub [0, 1, 2, 3] (L2 := [(0, .ref (b 0)), (1, .int x1), (2, .int x2), (3, .int x3)]) rfl ?_
  rw [fe_X5_countWords] at hf
  refine kj_iconst (pc := 0) (v := (1 : Int32)) C dX5_countWords_0 (by decide) ?_
  refine kj_istore (pc := 1) C [1, 2, 3, 4, 0] (L2 := [(0, .ref (b 0)), (1, .int x1), (2, .int x2), (3, .int x3), (4, .int (1 : Int32))]) dX5_countWords_1 (by decide) rfl ?_
  exact hp3 kb_FU x1 x2 x3 (1 : Int32) τ hf
def fp_X5_countWordsWithin_43  (kc2 : Int32 → Int32 → kb_S → Option (kb_S)) (x1 : Int32) (x2 : Int32) (x3 : Int32) (τ : kb_S) : Option (kb_S) :=
  (fn_X5_countWords x2 x3 x1 τ).bind fun q1 =>
  kc2 x1 (x2 + (1 : Int32)) q1
theorem fp_X5_countWordsWithin_43_e  (kc2 : Int32 → Int32 → kb_S → Option (kb_S)) (x1 : Int32) (x2 : Int32) (x3 : Int32) (τ : kb_S) : fp_X5_countWordsWithin_43 kc2 x1 x2 x3 τ =
  (fn_X5_countWords x2 x3 x1 τ).bind fun q1 =>
  kc2 x1 (x2 + (1 : Int32)) q1 := rfl
def fp_X5_countWordsWithin_21  (kc2 : Int32 → Int32 → kb_S → Option (kb_S)) : Nat → Int32 → Int32 → Int32 → kb_S → Option (kb_S)
  | 0 => fun _ _ _ _ => none
  | nn + 1 => fun x1 x2 x3 τ => 
  if x3 ≤ 0 then
    fp_X5_countWordsWithin_43  kc2 x1 x2 x3 τ
  else
    (fn_X5_timesInRow (x2 - x3) x3 τ).bind fun q2 =>
    if (2 : Int32) ≤ q2 then
      fp_X5_countWordsWithin_43  kc2 x1 x2 x3 τ
    else
      (fp_X5_countWordsWithin_21 kc2 nn) x1 x2 (x3 + (-1 : Int32)) τ
theorem fp_X5_countWordsWithin_21_s  (kc2 : Int32 → Int32 → kb_S → Option (kb_S)) (nn : Nat) (x1 : Int32) (x2 : Int32) (x3 : Int32) (τ : kb_S) : fp_X5_countWordsWithin_21 kc2 (nn + 1) x1 x2 x3 τ =
  if x3 ≤ 0 then
    fp_X5_countWordsWithin_43  kc2 x1 x2 x3 τ
  else
    (fn_X5_timesInRow (x2 - x3) x3 τ).bind fun q2 =>
    if (2 : Int32) ≤ q2 then
      fp_X5_countWordsWithin_43  kc2 x1 x2 x3 τ
    else
      (fp_X5_countWordsWithin_21 kc2 nn) x1 x2 (x3 + (-1 : Int32)) τ := rfl
def fp_X5_countWordsWithin_2   : Nat → Int32 → Int32 → kb_S → Option (kb_S)
  | 0 => fun _ _ _ => none
  | nn + 1 => fun x1 x2 τ => 
  if (kb_g τ 0) ≤ x2 then
    some τ
  else
    fp_X5_countWordsWithin_21  (fp_X5_countWordsWithin_2  nn) kb_FU x1 x2 (if ((kb_g τ 0) >>> (x1 &&& 31)) < x2 then ((kb_g τ 0) >>> (x1 &&& 31)) else x2) τ
theorem fp_X5_countWordsWithin_2_s   (nn : Nat) (x1 : Int32) (x2 : Int32) (τ : kb_S) : fp_X5_countWordsWithin_2  (nn + 1) x1 x2 τ =
  if (kb_g τ 0) ≤ x2 then
    some τ
  else
    fp_X5_countWordsWithin_21  (fp_X5_countWordsWithin_2  nn) kb_FU x1 x2 (if ((kb_g τ 0) >>> (x1 &&& 31)) < x2 then ((kb_g τ 0) >>> (x1 &&& 31)) else x2) τ := rfl
def fn_X5_countWordsWithin  (x1 : Int32) (τ : kb_S) : Option (kb_S) :=
  fp_X5_countWordsWithin_2   kb_FU x1 (1 : Int32) τ
theorem fe_X5_countWordsWithin  (x1 : Int32) (τ : kb_S) : fn_X5_countWordsWithin  x1 τ =
  fp_X5_countWordsWithin_2   kb_FU x1 (1 : Int32) τ := rfl
theorem hd_X5_countWordsWithin : yX5_countWordsWithin.cls = RX5 ∧ yX5_countWordsWithin.cls ≠ "java/lang/invoke/MethodHandle" ∧ yX5_countWordsWithin.cls ≠ "java/lang/invoke/VarHandle" ∧ (parseMethodDescriptor yX5_countWordsWithin.desc).map (fun d => d.parameters.length) = some 1 := by decide +kernel
set_option maxRecDepth 100000 in
set_option maxHeartbeats 4000000 in
theorem ct_X5_countWordsWithin (l : Launch) (V : kb_V) (A : Nat → Prop)  (x1 : Int32) (b : Nat → Nat) (τ : kb_S) (ex : va_W) {τ9 : kb_S} (hf : fn_X5_countWordsWithin  x1 τ = some τ9) : kb_T l yX5_countWordsWithin cX5_countWordsWithin 4 none ({ frames := 4, cells := 0, slots := 0, locals := 99 } : Room) V A [.ref (b 0), .int x1] (kb_WS V b τ ex) none (kb_WS V b τ9 ex) 0 0 := by
  refine kb_start (cc := cX5_countWordsWithin) (nL := 4) (ret := none) (own := RX5) (by decide) rfl (Nat.le_of_ble_eq_true rfl) ?_
  intro p e s m args below meth c C
  have hp2 : ∀ (nn : Nat) (x1 : Int32) (x2 : Int32) (τ : kb_S), fp_X5_countWordsWithin_2   nn x1 x2 τ = some τ9 → kb_J p l e ({ frames := 4, cells := 0, slots := 0, locals := 99 } : Room) s m args below meth c 4 V A 0 0 (MQ below (kb_post V A none (kb_WS V b τ9 ex)) args s 0 0 A) 2 [(0, .ref (b 0)), (1, .int x1), (2, .int x2)] [] (kb_WS V b τ ex) := by
    intro nn2
    induction nn2 with
    | zero => intro x1 x2 τ hf; exact kb_no hf
    | succ nn2 ih2 =>
      have hp43 : ∀ (x1 : Int32) (x2 : Int32) (x3 : Int32) (τ : kb_S), fp_X5_countWordsWithin_43  (fp_X5_countWordsWithin_2   nn2) x1 x2 x3 τ = some τ9 → kb_J p l e ({ frames := 4, cells := 0, slots := 0, locals := 99 } : Room) s m args below meth c 4 V A 0 0 (MQ below (kb_post V A none (kb_WS V b τ9 ex)) args s 0 0 A) 43 [(0, .ref (b 0)), (1, .int x1), (2, .int x2), (3, .int x3)] [] (kb_WS V b τ ex) := by
        intro x1 x2 x3 τ hf
        rw [fp_X5_countWordsWithin_43_e] at hf
        refine kj_aload_n (pc := 43) C 0 dX5_countWordsWithin_43 rfl rfl ?_
        refine kj_iload_n (pc := 44) C 2 dX5_countWordsWithin_44 rfl rfl ?_
        refine kj_iload_n (pc := 45) C 3 dX5_countWordsWithin_45 rfl rfl ?_
        refine kj_iload_n (pc := 46) C 1 dX5_countWordsWithin_46 rfl rfl ?_
        obtain ⟨q1, hq1, hf⟩ := kb_bd hf
        refine kj_callV0 (pc := 47) (as := [.int x2, .int x3, .int x1]) (rest := []) (b := (b 0)) C (ct_X5_countWords l V A x2 x3 x1 b τ ex hq1) wd_X5_countWords wk_X5_51 wi_X5_countWords ws_X5_countWords wz_X5 rfl rfl hd_X5_countWords ⟨by decide, by decide⟩ 0 rfl rfl rfl rfl (Nat.le_of_ble_eq_true rfl) (by decide) dX5_countWordsWithin_47 ?_
        refine kj_iinc (pc := 50) C 2 [1, 2, 0, 3] (L2 := [(0, .ref (b 0)), (1, .int x1), (2, .int (x2 + (1 : Int32))), (3, .int x3)]) dX5_countWordsWithin_50 rfl rfl (by decide) rfl ?_
        refine kj_goto (pc := 53) 2 C dX5_countWordsWithin_53 (by decide) ?_
        refine kj_sub [0, 1, 2] (L2 := [(0, .ref (b 0)), (1, .int x1), (2, .int (x2 + (1 : Int32)))]) rfl ?_
        exact ih2 x1 (x2 + (1 : Int32)) q1 hf
      have hp21 : ∀ (nn : Nat) (x1 : Int32) (x2 : Int32) (x3 : Int32) (τ : kb_S), fp_X5_countWordsWithin_21  (fp_X5_countWordsWithin_2   nn2) nn x1 x2 x3 τ = some τ9 → kb_J p l e ({ frames := 4, cells := 0, slots := 0, locals := 99 } : Room) s m args below meth c 4 V A 0 0 (MQ below (kb_post V A none (kb_WS V b τ9 ex)) args s 0 0 A) 21 [(0, .ref (b 0)), (1, .int x1), (2, .int x2), (3, .int x3)] [] (kb_WS V b τ ex) := by
        intro nn21
        induction nn21 with
        | zero => intro x1 x2 x3 τ hf; exact kb_no hf
        | succ nn21 ih21 =>
          intro x1 x2 x3 τ hf
          rw [fp_X5_countWordsWithin_21_s] at hf
          refine kj_iload_n (pc := 21) C 3 dX5_countWordsWithin_21 rfl rfl ?_
          refine kj_if_le (pc := 22) 43 C dX5_countWordsWithin_22 (by decide) (fun c1 => ?_) (fun c1 => ?_)
          · have hf := kb_ift hf c1
            exact hp43 x1 x2 x3 τ hf
          · have hf := kb_ife hf c1
            refine kj_aload_n (pc := 25) C 0 dX5_countWordsWithin_25 rfl rfl ?_
            refine kj_iload_n (pc := 26) C 2 dX5_countWordsWithin_26 rfl rfl ?_
            refine kj_iload_n (pc := 27) C 3 dX5_countWordsWithin_27 rfl rfl ?_
            refine kj_isub (pc := 28) C dX5_countWordsWithin_28 ?_
            refine kj_iload_n (pc := 29) C 3 dX5_countWordsWithin_29 rfl rfl ?_
            obtain ⟨q2, hq2, hf⟩ := kb_bd hf
            refine kj_callV0 (pc := 30) (as := [.int (x2 - x3), .int x3]) (rest := []) (b := (b 0)) C (ct_X5_timesInRow l V A (x2 - x3) x3 b τ ex hq2) wd_X5_timesInRow wk_X5_62 wi_X5_timesInRow ws_X5_timesInRow wz_X5 rfl rfl hd_X5_timesInRow ⟨by decide, by decide⟩ 0 rfl rfl rfl rfl (Nat.le_of_ble_eq_true rfl) (by decide) dX5_countWordsWithin_30 ?_
            refine kj_iconst (pc := 33) (v := (2 : Int32)) C dX5_countWordsWithin_33 (by decide) ?_
            refine kj_icmp_ge (pc := 34) 43 C dX5_countWordsWithin_34 (by decide) (fun c3 => ?_) (fun c3 => ?_)
            · have hf := kb_ift hf c3
              exact hp43 x1 x2 x3 τ hf
            · have hf := kb_ife hf c3
              refine kj_iinc (pc := 37) C 3 [1, 2, 3, 0] (L2 := [(0, .ref (b 0)), (1, .int x1), (2, .int x2), (3, .int (x3 + (-1 : Int32)))]) dX5_countWordsWithin_37 rfl rfl (by decide) rfl ?_
              refine kj_goto (pc := 40) 21 C dX5_countWordsWithin_40 (by decide) ?_
              exact ih21 x1 x2 (x3 + (-1 : Int32)) τ hf
      intro x1 x2 τ hf
      rw [fp_X5_countWordsWithin_2_s] at hf
      refine kj_iload_n (pc := 2) C 2 dX5_countWordsWithin_2 rfl rfl ?_
      refine kj_aload_n (pc := 3) C 0 dX5_countWordsWithin_3 rfl rfl ?_
      refine kg_X5_count (pc := 4) (v := (kb_g τ 0)) C wf_X5_38 dX5_countWordsWithin_4 rfl ?_
      refine kj_icmp_ge (pc := 7) 56 C dX5_countWordsWithin_7 (by decide) (fun c1 => ?_) (fun c1 => ?_)
      · have hf := kb_ift hf c1
        cases hf
        exact kj_vret (pc := 56) C dX5_countWordsWithin_56
      · have hf := kb_ife hf c1
        refine kj_iload_n (pc := 10) C 2 dX5_countWordsWithin_10 rfl rfl ?_
        refine kj_aload_n (pc := 11) C 0 dX5_countWordsWithin_11 rfl rfl ?_
        refine kg_X5_count (pc := 12) (v := (kb_g τ 0)) C wf_X5_38 dX5_countWordsWithin_12 rfl ?_
        refine kj_iload_n (pc := 15) C 1 dX5_countWordsWithin_15 rfl rfl ?_
        refine kj_ishr (pc := 16) C dX5_countWordsWithin_16 ?_
        refine kj_mmin (pc := 17) C wk_X5_32 wi_Mmin wz_Math wd_Mmin (by decide) (Nat.le_of_ble_eq_true rfl) (by decide) dX5_countWordsWithin_17 ?_
        refine kj_istore_n (pc := 20) C [1, 2, 3, 0] (L2 := [(0, .ref (b 0)), (1, .int x1), (2, .int x2), (3, .int (if ((kb_g τ 0) >>> (x1 &&& 31)) < x2 then ((kb_g τ 0) >>> (x1 &&& 31)) else x2))]) dX5_countWordsWithin_20 rfl (by decide) rfl ?_
        exact hp21 kb_FU x1 x2 (if ((kb_g τ 0) >>> (x1 &&& 31)) < x2 then ((kb_g τ 0) >>> (x1 &&& 31)) else x2) τ hf
  refine kj_sub [0, 1] (L2 := [(0, .ref (b 0)), (1, .int x1)]) rfl ?_
  rw [fe_X5_countWordsWithin] at hf
  refine kj_iconst (pc := 0) (v := (1 : Int32)) C dX5_countWordsWithin_0 (by decide) ?_
  refine kj_istore_n (pc := 1) C [1, 2, 0] (L2 := [(0, .ref (b 0)), (1, .int x1), (2, .int (1 : Int32))]) dX5_countWordsWithin_1 rfl (by decide) rfl ?_
  exact hp2 kb_FU x1 (1 : Int32) τ hf
def fp_X5_bestGroup_90  (kc11 : Int32 → Int32 → Int32 → Int32 → Int32 → Int32 → kb_S → Option (Int32)) (x1 : Int32) (x2 : Int32) (x3 : Int32) (x4 : Int32) (x5 : Int32) (x6 : Int32) (τ : kb_S) : Option (Int32) :=
  kc11 x1 x2 x3 x4 x5 (x6 + (1 : Int32)) τ
theorem fp_X5_bestGroup_90_e  (kc11 : Int32 → Int32 → Int32 → Int32 → Int32 → Int32 → kb_S → Option (Int32)) (x1 : Int32) (x2 : Int32) (x3 : Int32) (x4 : Int32) (x5 : Int32) (x6 : Int32) (τ : kb_S) : fp_X5_bestGroup_90 kc11 x1 x2 x3 x4 x5 x6 τ =
  kc11 x1 x2 x3 x4 x5 (x6 + (1 : Int32)) τ := rfl
def fp_X5_bestGroup_73  (kc11 : Int32 → Int32 → Int32 → Int32 → Int32 → Int32 → kb_S → Option (Int32)) (x1 : Int32) (x2 : Int32) (x3 : Int32) (x4 : Int32) (x5 : Int32) (x6 : Int32) (y0 : Int32) (τ : kb_S) : Option (Int32) :=
  if x5 ≤ y0 then
    fp_X5_bestGroup_90  kc11 x1 x2 x3 x4 x5 x6 τ
  else
    fp_X5_bestGroup_90  kc11 x1 x2 x3 x6 y0 x6 τ
theorem fp_X5_bestGroup_73_e  (kc11 : Int32 → Int32 → Int32 → Int32 → Int32 → Int32 → kb_S → Option (Int32)) (x1 : Int32) (x2 : Int32) (x3 : Int32) (x4 : Int32) (x5 : Int32) (x6 : Int32) (y0 : Int32) (τ : kb_S) : fp_X5_bestGroup_73 kc11 x1 x2 x3 x4 x5 x6 y0 τ =
  if x5 ≤ y0 then
    fp_X5_bestGroup_90  kc11 x1 x2 x3 x4 x5 x6 τ
  else
    fp_X5_bestGroup_90  kc11 x1 x2 x3 x6 y0 x6 τ := rfl
def fp_X5_bestGroup_50  (kc11 : Int32 → Int32 → Int32 → Int32 → Int32 → Int32 → kb_S → Option (Int32)) (x1 : Int32) (x2 : Int32) (x3 : Int32) (x4 : Int32) (x5 : Int32) (x6 : Int32) (y0 : Int32) (τ : kb_S) : Option (Int32) :=
  if y0 = 0 then
    fp_X5_bestGroup_73  kc11 x1 x2 x3 x4 x5 x6 (1000 : Int32) τ
  else
    (fn_X5_words x1 x6 (x3 + (1 : Int32)) τ).bind fun q2 =>
    fp_X5_bestGroup_73  kc11 x1 x2 x3 x4 x5 x6 q2 τ
theorem fp_X5_bestGroup_50_e  (kc11 : Int32 → Int32 → Int32 → Int32 → Int32 → Int32 → kb_S → Option (Int32)) (x1 : Int32) (x2 : Int32) (x3 : Int32) (x4 : Int32) (x5 : Int32) (x6 : Int32) (y0 : Int32) (τ : kb_S) : fp_X5_bestGroup_50 kc11 x1 x2 x3 x4 x5 x6 y0 τ =
  if y0 = 0 then
    fp_X5_bestGroup_73  kc11 x1 x2 x3 x4 x5 x6 (1000 : Int32) τ
  else
    (fn_X5_words x1 x6 (x3 + (1 : Int32)) τ).bind fun q2 =>
    fp_X5_bestGroup_73  kc11 x1 x2 x3 x4 x5 x6 q2 τ := rfl
def fp_X5_bestGroup_49  (kc11 : Int32 → Int32 → Int32 → Int32 → Int32 → Int32 → kb_S → Option (Int32)) (x1 : Int32) (x2 : Int32) (x3 : Int32) (x4 : Int32) (x5 : Int32) (x6 : Int32) (τ : kb_S) : Option (Int32) :=
  fp_X5_bestGroup_50  kc11 x1 x2 x3 x4 x5 x6 (0 : Int32) τ
theorem fp_X5_bestGroup_49_e  (kc11 : Int32 → Int32 → Int32 → Int32 → Int32 → Int32 → kb_S → Option (Int32)) (x1 : Int32) (x2 : Int32) (x3 : Int32) (x4 : Int32) (x5 : Int32) (x6 : Int32) (τ : kb_S) : fp_X5_bestGroup_49 kc11 x1 x2 x3 x4 x5 x6 τ =
  fp_X5_bestGroup_50  kc11 x1 x2 x3 x4 x5 x6 (0 : Int32) τ := rfl
def fp_X5_bestGroup_11   : Nat → Int32 → Int32 → Int32 → Int32 → Int32 → Int32 → kb_S → Option (Int32)
  | 0 => fun _ _ _ _ _ _ _ => none
  | nn + 1 => fun x1 x2 x3 x4 x5 x6 τ => 
  if (x2 / (2 : Int32)) < x6 then
    some x4
  else
    if (4 : Int32) ≤ x3 then
      some x4
    else
      if ¬ x6 = 0 then
        if (x2 - x2 / x6 * x6) = 0 then
          (fn_X5_timesInRow x1 x6 τ).bind fun q5 =>
          if ¬ x6 = 0 then
            if q5 < (x2 / x6) then
              fp_X5_bestGroup_49  (fp_X5_bestGroup_11  nn) x1 x2 x3 x4 x5 x6 τ
            else
              fp_X5_bestGroup_50  (fp_X5_bestGroup_11  nn) x1 x2 x3 x4 x5 x6 (1 : Int32) τ
          else none
        else
          fp_X5_bestGroup_49  (fp_X5_bestGroup_11  nn) x1 x2 x3 x4 x5 x6 τ
      else none
theorem fp_X5_bestGroup_11_s   (nn : Nat) (x1 : Int32) (x2 : Int32) (x3 : Int32) (x4 : Int32) (x5 : Int32) (x6 : Int32) (τ : kb_S) : fp_X5_bestGroup_11  (nn + 1) x1 x2 x3 x4 x5 x6 τ =
  if (x2 / (2 : Int32)) < x6 then
    some x4
  else
    if (4 : Int32) ≤ x3 then
      some x4
    else
      if ¬ x6 = 0 then
        if (x2 - x2 / x6 * x6) = 0 then
          (fn_X5_timesInRow x1 x6 τ).bind fun q5 =>
          if ¬ x6 = 0 then
            if q5 < (x2 / x6) then
              fp_X5_bestGroup_49  (fp_X5_bestGroup_11  nn) x1 x2 x3 x4 x5 x6 τ
            else
              fp_X5_bestGroup_50  (fp_X5_bestGroup_11  nn) x1 x2 x3 x4 x5 x6 (1 : Int32) τ
          else none
        else
          fp_X5_bestGroup_49  (fp_X5_bestGroup_11  nn) x1 x2 x3 x4 x5 x6 τ
      else none := rfl
def fn_X5_bestGroup  (x1 : Int32) (x2 : Int32) (x3 : Int32) (τ : kb_S) : Option (Int32) :=
  fp_X5_bestGroup_11   kb_FU x1 x2 x3 (0 : Int32) (1000 : Int32) (1 : Int32) τ
theorem fe_X5_bestGroup  (x1 : Int32) (x2 : Int32) (x3 : Int32) (τ : kb_S) : fn_X5_bestGroup  x1 x2 x3 τ =
  fp_X5_bestGroup_11   kb_FU x1 x2 x3 (0 : Int32) (1000 : Int32) (1 : Int32) τ := rfl
theorem hd_X5_bestGroup : yX5_bestGroup.cls = RX5 ∧ yX5_bestGroup.cls ≠ "java/lang/invoke/MethodHandle" ∧ yX5_bestGroup.cls ≠ "java/lang/invoke/VarHandle" ∧ (parseMethodDescriptor yX5_bestGroup.desc).map (fun d => d.parameters.length) = some 3 := by decide +kernel
set_option maxRecDepth 100000 in
set_option maxHeartbeats 4000000 in
theorem ct_X5_bestGroup (l : Launch) (V : kb_V) (A : Nat → Prop)  (x1 : Int32) (x2 : Int32) (x3 : Int32) (b : Nat → Nat) (τ : kb_S) (ex : va_W) {r : Int32} (hf : fn_X5_bestGroup  x1 x2 x3 τ = some r) : kb_T l yX5_bestGroup cX5_bestGroup 9 (some .int) ({ frames := 2, cells := 0, slots := 0, locals := 46 } : Room) V A [.ref (b 0), .int x1, .int x2, .int x3] (kb_WS V b τ ex) (some (.int r)) (kb_WS V b τ ex) 0 0 := by
  refine kb_start (cc := cX5_bestGroup) (nL := 9) (ret := (some .int)) (own := RX5) (by decide) rfl (Nat.le_of_ble_eq_true rfl) ?_
  intro p e s m args below meth c C
  have hp11 : ∀ (nn : Nat) (x1 : Int32) (x2 : Int32) (x3 : Int32) (x4 : Int32) (x5 : Int32) (x6 : Int32) (τ : kb_S), fp_X5_bestGroup_11   nn x1 x2 x3 x4 x5 x6 τ = some r → kb_J p l e ({ frames := 2, cells := 0, slots := 0, locals := 46 } : Room) s m args below meth c 9 V A 0 0 (MQ below (kb_post V A (some (.int r)) (kb_WS V b τ ex)) args s 0 0 A) 11 [(0, .ref (b 0)), (1, .int x1), (2, .int x2), (3, .int x3), (4, .int x4), (5, .int x5), (6, .int x6)] [] (kb_WS V b τ ex) := by
    intro nn11
    induction nn11 with
    | zero => intro x1 x2 x3 x4 x5 x6 τ hf; exact kb_no hf
    | succ nn11 ih11 =>
      have hp90 : ∀ (x1 : Int32) (x2 : Int32) (x3 : Int32) (x4 : Int32) (x5 : Int32) (x6 : Int32) (τ : kb_S), fp_X5_bestGroup_90  (fp_X5_bestGroup_11   nn11) x1 x2 x3 x4 x5 x6 τ = some r → kb_J p l e ({ frames := 2, cells := 0, slots := 0, locals := 46 } : Room) s m args below meth c 9 V A 0 0 (MQ below (kb_post V A (some (.int r)) (kb_WS V b τ ex)) args s 0 0 A) 90 [(0, .ref (b 0)), (1, .int x1), (2, .int x2), (3, .int x3), (4, .int x4), (5, .int x5), (6, .int x6)] [] (kb_WS V b τ ex) := by
        intro x1 x2 x3 x4 x5 x6 τ hf
        rw [fp_X5_bestGroup_90_e] at hf
        refine kj_iinc (pc := 90) C 6 [1, 2, 3, 4, 5, 6, 0] (L2 := [(0, .ref (b 0)), (1, .int x1), (2, .int x2), (3, .int x3), (4, .int x4), (5, .int x5), (6, .int (x6 + (1 : Int32)))]) dX5_bestGroup_90 rfl rfl (by decide) rfl ?_
        refine kj_goto (pc := 93) 11 C dX5_bestGroup_93 (by decide) ?_
        exact ih11 x1 x2 x3 x4 x5 (x6 + (1 : Int32)) τ hf
      have hp73 : ∀ (x1 : Int32) (x2 : Int32) (x3 : Int32) (x4 : Int32) (x5 : Int32) (x6 : Int32) (y0 : Int32) (τ : kb_S), fp_X5_bestGroup_73  (fp_X5_bestGroup_11   nn11) x1 x2 x3 x4 x5 x6 y0 τ = some r → kb_J p l e ({ frames := 2, cells := 0, slots := 0, locals := 46 } : Room) s m args below meth c 9 V A 0 0 (MQ below (kb_post V A (some (.int r)) (kb_WS V b τ ex)) args s 0 0 A) 73 [(0, .ref (b 0)), (1, .int x1), (2, .int x2), (3, .int x3), (4, .int x4), (5, .int x5), (6, .int x6)] [.int y0] (kb_WS V b τ ex) := by
        intro x1 x2 x3 x4 x5 x6 y0 τ hf
        rw [fp_X5_bestGroup_73_e] at hf
        refine kj_istore (pc := 73) C [1, 2, 3, 4, 5, 6, 7, 0] (L2 := [(0, .ref (b 0)), (1, .int x1), (2, .int x2), (3, .int x3), (4, .int x4), (5, .int x5), (6, .int x6), (8, .int y0)]) dX5_bestGroup_73 (by decide) rfl ?_
        refine kj_iload (pc := 75) C 7 dX5_bestGroup_75 rfl ?_
        refine kj_iload (pc := 77) C 5 dX5_bestGroup_77 rfl ?_
        refine kj_icmp_ge (pc := 79) 90 C dX5_bestGroup_79 (by decide) (fun c1 => ?_) (fun c1 => ?_)
        · have hf := kb_ift hf c1
          refine kj_sub [0, 1, 2, 3, 4, 5, 6] (L2 := [(0, .ref (b 0)), (1, .int x1), (2, .int x2), (3, .int x3), (4, .int x4), (5, .int x5), (6, .int x6)]) rfl ?_
          exact hp90 x1 x2 x3 x4 x5 x6 τ hf
        · have hf := kb_ife hf c1
          refine kj_iload (pc := 82) C 6 dX5_bestGroup_82 rfl ?_
          refine kj_istore (pc := 84) C [1, 2, 3, 4, 0, 5, 6, 7] (L2 := [(0, .ref (b 0)), (1, .int x1), (2, .int x2), (3, .int x3), (4, .int x6), (5, .int x5), (6, .int x6), (8, .int y0)]) dX5_bestGroup_84 (by decide) rfl ?_
          refine kj_iload (pc := 86) C 7 dX5_bestGroup_86 rfl ?_
          refine kj_istore (pc := 88) C [1, 2, 3, 4, 5, 0, 6, 7] (L2 := [(0, .ref (b 0)), (1, .int x1), (2, .int x2), (3, .int x3), (4, .int x6), (5, .int y0), (6, .int x6), (8, .int y0)]) dX5_bestGroup_88 (by decide) rfl ?_
          refine kj_sub [0, 1, 2, 3, 4, 5, 6] (L2 := [(0, .ref (b 0)), (1, .int x1), (2, .int x2), (3, .int x3), (4, .int x6), (5, .int y0), (6, .int x6)]) rfl ?_
          exact hp90 x1 x2 x3 x6 y0 x6 τ hf
      have hp50 : ∀ (x1 : Int32) (x2 : Int32) (x3 : Int32) (x4 : Int32) (x5 : Int32) (x6 : Int32) (y0 : Int32) (τ : kb_S), fp_X5_bestGroup_50  (fp_X5_bestGroup_11   nn11) x1 x2 x3 x4 x5 x6 y0 τ = some r → kb_J p l e ({ frames := 2, cells := 0, slots := 0, locals := 46 } : Room) s m args below meth c 9 V A 0 0 (MQ below (kb_post V A (some (.int r)) (kb_WS V b τ ex)) args s 0 0 A) 50 [(0, .ref (b 0)), (1, .int x1), (2, .int x2), (3, .int x3), (4, .int x4), (5, .int x5), (6, .int x6)] [.int y0] (kb_WS V b τ ex) := by
        intro x1 x2 x3 x4 x5 x6 y0 τ hf
        rw [fp_X5_bestGroup_50_e] at hf
        refine kj_istore (pc := 50) C [1, 2, 3, 4, 5, 6, 7, 0] (L2 := [(0, .ref (b 0)), (1, .int x1), (2, .int x2), (3, .int x3), (4, .int x4), (5, .int x5), (6, .int x6), (7, .int y0)]) dX5_bestGroup_50 (by decide) rfl ?_
        refine kj_iload (pc := 52) C 7 dX5_bestGroup_52 rfl ?_
        refine kj_if_eq (pc := 54) 70 C dX5_bestGroup_54 (by decide) (fun c1 => ?_) (fun c1 => ?_)
        · have hf := kb_ift hf c1
          refine kj_sipush (pc := 70) (v := (1000 : Int32)) C dX5_bestGroup_70 (by decide) ?_
          refine kj_sub [0, 1, 2, 3, 4, 5, 6] (L2 := [(0, .ref (b 0)), (1, .int x1), (2, .int x2), (3, .int x3), (4, .int x4), (5, .int x5), (6, .int x6)]) rfl ?_
          exact hp73 x1 x2 x3 x4 x5 x6 (1000 : Int32) τ hf
        · have hf := kb_ife hf c1
          refine kj_aload_n (pc := 57) C 0 dX5_bestGroup_57 rfl rfl ?_
          refine kj_iload_n (pc := 58) C 1 dX5_bestGroup_58 rfl rfl ?_
          refine kj_iload (pc := 59) C 6 dX5_bestGroup_59 rfl ?_
          refine kj_iload_n (pc := 61) C 3 dX5_bestGroup_61 rfl rfl ?_
          refine kj_iconst (pc := 62) (v := (1 : Int32)) C dX5_bestGroup_62 (by decide) ?_
          refine kj_iadd (pc := 63) C dX5_bestGroup_63 ?_
          obtain ⟨q2, hq2, hf⟩ := kb_bd hf
          refine kj_callV0 (pc := 64) (as := [.int x1, .int x6, .int (x3 + (1 : Int32))]) (rest := []) (b := (b 0)) C (ct_X5_words l V A x1 x6 (x3 + (1 : Int32)) b τ ex hq2) wd_X5_words wk_X5_58 wi_X5_words ws_X5_words wz_X5 rfl rfl hd_X5_words ⟨by decide, by decide⟩ 0 rfl rfl rfl rfl (Nat.le_of_ble_eq_true rfl) (by decide) dX5_bestGroup_64 ?_
          refine kj_goto (pc := 67) 73 C dX5_bestGroup_67 (by decide) ?_
          refine kj_sub [0, 1, 2, 3, 4, 5, 6] (L2 := [(0, .ref (b 0)), (1, .int x1), (2, .int x2), (3, .int x3), (4, .int x4), (5, .int x5), (6, .int x6)]) rfl ?_
          exact hp73 x1 x2 x3 x4 x5 x6 q2 τ hf
      have hp49 : ∀ (x1 : Int32) (x2 : Int32) (x3 : Int32) (x4 : Int32) (x5 : Int32) (x6 : Int32) (τ : kb_S), fp_X5_bestGroup_49  (fp_X5_bestGroup_11   nn11) x1 x2 x3 x4 x5 x6 τ = some r → kb_J p l e ({ frames := 2, cells := 0, slots := 0, locals := 46 } : Room) s m args below meth c 9 V A 0 0 (MQ below (kb_post V A (some (.int r)) (kb_WS V b τ ex)) args s 0 0 A) 49 [(0, .ref (b 0)), (1, .int x1), (2, .int x2), (3, .int x3), (4, .int x4), (5, .int x5), (6, .int x6)] [] (kb_WS V b τ ex) := by
        intro x1 x2 x3 x4 x5 x6 τ hf
        rw [fp_X5_bestGroup_49_e] at hf
        refine kj_iconst (pc := 49) (v := (0 : Int32)) C dX5_bestGroup_49 (by decide) ?_
        exact hp50 x1 x2 x3 x4 x5 x6 (0 : Int32) τ hf
      intro x1 x2 x3 x4 x5 x6 τ hf
      rw [fp_X5_bestGroup_11_s] at hf
      refine kj_iload (pc := 11) C 6 dX5_bestGroup_11 rfl ?_
      refine kj_iload_n (pc := 13) C 2 dX5_bestGroup_13 rfl rfl ?_
      refine kj_iconst (pc := 14) (v := (2 : Int32)) C dX5_bestGroup_14 (by decide) ?_
      refine kj_idiv (pc := 15) C dX5_bestGroup_15 (by decide) ?_
      refine kj_icmp_gt (pc := 16) 96 C dX5_bestGroup_16 (by decide) (fun c1 => ?_) (fun c1 => ?_)
      · have hf := kb_ift hf c1
        refine kj_iload (pc := 96) C 4 dX5_bestGroup_96 rfl ?_
        cases hf
        exact kj_iret (pc := 98) C dX5_bestGroup_98
      · have hf := kb_ife hf c1
        refine kj_iload_n (pc := 19) C 3 dX5_bestGroup_19 rfl rfl ?_
        refine kj_iconst (pc := 20) (v := (4 : Int32)) C dX5_bestGroup_20 (by decide) ?_
        refine kj_icmp_ge (pc := 21) 96 C dX5_bestGroup_21 (by decide) (fun c2 => ?_) (fun c2 => ?_)
        · have hf := kb_ift hf c2
          refine kj_iload (pc := 96) C 4 dX5_bestGroup_96 rfl ?_
          cases hf
          exact kj_iret (pc := 98) C dX5_bestGroup_98
        · have hf := kb_ife hf c2
          refine kj_iload_n (pc := 24) C 2 dX5_bestGroup_24 rfl rfl ?_
          refine kj_iload (pc := 25) C 6 dX5_bestGroup_25 rfl ?_
          obtain ⟨g3, hf⟩ := kb_gd hf
          refine kj_irem (pc := 27) C dX5_bestGroup_27 g3 ?_
          refine kj_if_ne (pc := 28) 49 C dX5_bestGroup_28 (by decide) (fun c4 => ?_) (fun c4 => ?_)
          · have hf := kb_ife hf c4
            exact hp49 x1 x2 x3 x4 x5 x6 τ hf
          · have hf := kb_ift hf c4
            refine kj_aload_n (pc := 31) C 0 dX5_bestGroup_31 rfl rfl ?_
            refine kj_iload_n (pc := 32) C 1 dX5_bestGroup_32 rfl rfl ?_
            refine kj_iload (pc := 33) C 6 dX5_bestGroup_33 rfl ?_
            obtain ⟨q5, hq5, hf⟩ := kb_bd hf
            refine kj_callV0 (pc := 35) (as := [.int x1, .int x6]) (rest := []) (b := (b 0)) C (ct_X5_timesInRow l V A x1 x6 b τ ex hq5) wd_X5_timesInRow wk_X5_62 wi_X5_timesInRow ws_X5_timesInRow wz_X5 rfl rfl hd_X5_timesInRow ⟨by decide, by decide⟩ 0 rfl rfl rfl rfl (Nat.le_of_ble_eq_true rfl) (by decide) dX5_bestGroup_35 ?_
            refine kj_iload_n (pc := 38) C 2 dX5_bestGroup_38 rfl rfl ?_
            refine kj_iload (pc := 39) C 6 dX5_bestGroup_39 rfl ?_
            obtain ⟨g6, hf⟩ := kb_gd hf
            refine kj_idiv (pc := 41) C dX5_bestGroup_41 g6 ?_
            refine kj_icmp_lt (pc := 42) 49 C dX5_bestGroup_42 (by decide) (fun c7 => ?_) (fun c7 => ?_)
            · have hf := kb_ift hf c7
              exact hp49 x1 x2 x3 x4 x5 x6 τ hf
            · have hf := kb_ife hf c7
              refine kj_iconst (pc := 45) (v := (1 : Int32)) C dX5_bestGroup_45 (by decide) ?_
              refine kj_goto (pc := 46) 50 C dX5_bestGroup_46 (by decide) ?_
              exact hp50 x1 x2 x3 x4 x5 x6 (1 : Int32) τ hf
  refine kj_sub [0, 1, 2, 3] (L2 := [(0, .ref (b 0)), (1, .int x1), (2, .int x2), (3, .int x3)]) rfl ?_
  rw [fe_X5_bestGroup] at hf
  refine kj_iconst (pc := 0) (v := (0 : Int32)) C dX5_bestGroup_0 (by decide) ?_
  refine kj_istore (pc := 1) C [1, 2, 3, 4, 0] (L2 := [(0, .ref (b 0)), (1, .int x1), (2, .int x2), (3, .int x3), (4, .int (0 : Int32))]) dX5_bestGroup_1 (by decide) rfl ?_
  refine kj_sipush (pc := 3) (v := (1000 : Int32)) C dX5_bestGroup_3 (by decide) ?_
  refine kj_istore (pc := 6) C [1, 2, 3, 4, 5, 0] (L2 := [(0, .ref (b 0)), (1, .int x1), (2, .int x2), (3, .int x3), (4, .int (0 : Int32)), (5, .int (1000 : Int32))]) dX5_bestGroup_6 (by decide) rfl ?_
  refine kj_iconst (pc := 8) (v := (1 : Int32)) C dX5_bestGroup_8 (by decide) ?_
  refine kj_istore (pc := 9) C [1, 2, 3, 4, 5, 6, 0] (L2 := [(0, .ref (b 0)), (1, .int x1), (2, .int x2), (3, .int x3), (4, .int (0 : Int32)), (5, .int (1000 : Int32)), (6, .int (1 : Int32))]) dX5_bestGroup_9 (by decide) rfl ?_
  exact hp11 kb_FU x1 x2 x3 (0 : Int32) (1000 : Int32) (1 : Int32) τ hf
def fn_X5_pieceWords  (x1 : Int32) (x2 : Int32) (x3 : Int32) (τ : kb_S) : Option (Int32) :=
  if x2 = (1 : Int32) then
    some (1 : Int32)
  else
    (fn_X5_bestGroup x1 x2 x3 τ).bind fun q2 =>
    if q2 = 0 then
      some (1000 : Int32)
    else
      (fn_X5_words x1 q2 (x3 + (1 : Int32)) τ).bind fun q4 =>
      some ((1 : Int32) + q4)
theorem fe_X5_pieceWords  (x1 : Int32) (x2 : Int32) (x3 : Int32) (τ : kb_S) : fn_X5_pieceWords  x1 x2 x3 τ =
  if x2 = (1 : Int32) then
    some (1 : Int32)
  else
    (fn_X5_bestGroup x1 x2 x3 τ).bind fun q2 =>
    if q2 = 0 then
      some (1000 : Int32)
    else
      (fn_X5_words x1 q2 (x3 + (1 : Int32)) τ).bind fun q4 =>
      some ((1 : Int32) + q4) := rfl
theorem hd_X5_pieceWords : yX5_pieceWords.cls = RX5 ∧ yX5_pieceWords.cls ≠ "java/lang/invoke/MethodHandle" ∧ yX5_pieceWords.cls ≠ "java/lang/invoke/VarHandle" ∧ (parseMethodDescriptor yX5_pieceWords.desc).map (fun d => d.parameters.length) = some 3 := by decide +kernel
set_option maxRecDepth 100000 in
set_option maxHeartbeats 4000000 in
theorem ct_X5_pieceWords (l : Launch) (V : kb_V) (A : Nat → Prop)  (x1 : Int32) (x2 : Int32) (x3 : Int32) (b : Nat → Nat) (τ : kb_S) (ex : va_W) {r : Int32} (hf : fn_X5_pieceWords  x1 x2 x3 τ = some r) : kb_T l yX5_pieceWords cX5_pieceWords 5 (some .int) ({ frames := 3, cells := 0, slots := 0, locals := 74 } : Room) V A [.ref (b 0), .int x1, .int x2, .int x3] (kb_WS V b τ ex) (some (.int r)) (kb_WS V b τ ex) 0 0 := by
  refine kb_start (cc := cX5_pieceWords) (nL := 5) (ret := (some .int)) (own := RX5) (by decide) rfl (Nat.le_of_ble_eq_true rfl) ?_
  intro p e s m args below meth c C
  refine kj_sub [0, 1, 2, 3] (L2 := [(0, .ref (b 0)), (1, .int x1), (2, .int x2), (3, .int x3)]) rfl ?_
  rw [fe_X5_pieceWords] at hf
  refine kj_iload_n (pc := 0) C 2 dX5_pieceWords_0 rfl rfl ?_
  refine kj_iconst (pc := 1) (v := (1 : Int32)) C dX5_pieceWords_1 (by decide) ?_
  refine kj_icmp_ne (pc := 2) 7 C dX5_pieceWords_2 (by decide) (fun c1 => ?_) (fun c1 => ?_)
  · have hf := kb_ife hf c1
    refine kj_aload_n (pc := 7) C 0 dX5_pieceWords_7 rfl rfl ?_
    refine kj_iload_n (pc := 8) C 1 dX5_pieceWords_8 rfl rfl ?_
    refine kj_iload_n (pc := 9) C 2 dX5_pieceWords_9 rfl rfl ?_
    refine kj_iload_n (pc := 10) C 3 dX5_pieceWords_10 rfl rfl ?_
    obtain ⟨q2, hq2, hf⟩ := kb_bd hf
    refine kj_callV0 (pc := 11) (as := [.int x1, .int x2, .int x3]) (rest := []) (b := (b 0)) C (ct_X5_bestGroup l V A x1 x2 x3 b τ ex hq2) wd_X5_bestGroup wk_X5_74 wi_X5_bestGroup ws_X5_bestGroup wz_X5 rfl rfl hd_X5_bestGroup ⟨by decide, by decide⟩ 0 rfl rfl rfl rfl (Nat.le_of_ble_eq_true rfl) (by decide) dX5_pieceWords_11 ?_
    refine kj_istore (pc := 14) C [1, 2, 3, 4, 0] (L2 := [(0, .ref (b 0)), (1, .int x1), (2, .int x2), (3, .int x3), (4, .int q2)]) dX5_pieceWords_14 (by decide) rfl ?_
    refine kj_iload (pc := 16) C 4 dX5_pieceWords_16 rfl ?_
    refine kj_if_ne (pc := 18) 27 C dX5_pieceWords_18 (by decide) (fun c3 => ?_) (fun c3 => ?_)
    · have hf := kb_ife hf c3
      refine kj_iconst (pc := 27) (v := (1 : Int32)) C dX5_pieceWords_27 (by decide) ?_
      refine kj_aload_n (pc := 28) C 0 dX5_pieceWords_28 rfl rfl ?_
      refine kj_iload_n (pc := 29) C 1 dX5_pieceWords_29 rfl rfl ?_
      refine kj_iload (pc := 30) C 4 dX5_pieceWords_30 rfl ?_
      refine kj_iload_n (pc := 32) C 3 dX5_pieceWords_32 rfl rfl ?_
      refine kj_iconst (pc := 33) (v := (1 : Int32)) C dX5_pieceWords_33 (by decide) ?_
      refine kj_iadd (pc := 34) C dX5_pieceWords_34 ?_
      obtain ⟨q4, hq4, hf⟩ := kb_bd hf
      refine kj_callV0 (pc := 35) (as := [.int x1, .int q2, .int (x3 + (1 : Int32))]) (rest := [.int (1 : Int32)]) (b := (b 0)) C (ct_X5_words l V A x1 q2 (x3 + (1 : Int32)) b τ ex hq4) wd_X5_words wk_X5_58 wi_X5_words ws_X5_words wz_X5 rfl rfl hd_X5_words ⟨by decide, by decide⟩ 0 rfl rfl rfl rfl (Nat.le_of_ble_eq_true rfl) (by decide) dX5_pieceWords_35 ?_
      refine kj_iadd (pc := 38) C dX5_pieceWords_38 ?_
      cases hf
      exact kj_iret (pc := 39) C dX5_pieceWords_39
    · have hf := kb_ift hf c3
      refine kj_sipush (pc := 21) (v := (1000 : Int32)) C dX5_pieceWords_21 (by decide) ?_
      refine kj_goto (pc := 24) 39 C dX5_pieceWords_24 (by decide) ?_
      cases hf
      exact kj_iret (pc := 39) C dX5_pieceWords_39
  · have hf := kb_ift hf c1
    refine kj_iconst (pc := 5) (v := (1 : Int32)) C dX5_pieceWords_5 (by decide) ?_
    cases hf
    exact kj_iret (pc := 6) C dX5_pieceWords_6
def fp_X5_firstPiece_26   : Nat → Int32 → Int32 → Int32 → Int32 → Int32 → kb_S → Option (Int32)
  | 0 => fun _ _ _ _ _ _ => none
  | nn + 1 => fun x1 x2 x3 x4 x5 τ => 
  if x2 ≤ x5 then
    some x2
  else
    (fn_X5_pieceWords x1 x5 x3 τ).bind fun q2 =>
    (fn_X5_words (x1 + x5) (x2 - x5) x3 τ).bind fun q3 =>
    if (q2 + q3) = x4 then
      some x5
    else
      (fp_X5_firstPiece_26  nn) x1 x2 x3 x4 (x5 + (1 : Int32)) τ
theorem fp_X5_firstPiece_26_s   (nn : Nat) (x1 : Int32) (x2 : Int32) (x3 : Int32) (x4 : Int32) (x5 : Int32) (τ : kb_S) : fp_X5_firstPiece_26  (nn + 1) x1 x2 x3 x4 x5 τ =
  if x2 ≤ x5 then
    some x2
  else
    (fn_X5_pieceWords x1 x5 x3 τ).bind fun q2 =>
    (fn_X5_words (x1 + x5) (x2 - x5) x3 τ).bind fun q3 =>
    if (q2 + q3) = x4 then
      some x5
    else
      (fp_X5_firstPiece_26  nn) x1 x2 x3 x4 (x5 + (1 : Int32)) τ := rfl
def fn_X5_firstPiece  (x1 : Int32) (x2 : Int32) (x3 : Int32) (τ : kb_S) : Option (Int32) :=
  (fn_X5_words x1 x2 x3 τ).bind fun q1 =>
  (fn_X5_pieceWords x1 x2 x3 τ).bind fun q2 =>
  if q2 = q1 then
    some x2
  else
    fp_X5_firstPiece_26   kb_FU x1 x2 x3 q1 (1 : Int32) τ
theorem fe_X5_firstPiece  (x1 : Int32) (x2 : Int32) (x3 : Int32) (τ : kb_S) : fn_X5_firstPiece  x1 x2 x3 τ =
  (fn_X5_words x1 x2 x3 τ).bind fun q1 =>
  (fn_X5_pieceWords x1 x2 x3 τ).bind fun q2 =>
  if q2 = q1 then
    some x2
  else
    fp_X5_firstPiece_26   kb_FU x1 x2 x3 q1 (1 : Int32) τ := rfl
theorem hd_X5_firstPiece : yX5_firstPiece.cls = RX5 ∧ yX5_firstPiece.cls ≠ "java/lang/invoke/MethodHandle" ∧ yX5_firstPiece.cls ≠ "java/lang/invoke/VarHandle" ∧ (parseMethodDescriptor yX5_firstPiece.desc).map (fun d => d.parameters.length) = some 3 := by decide +kernel
set_option maxRecDepth 100000 in
set_option maxHeartbeats 4000000 in
theorem ct_X5_firstPiece (l : Launch) (V : kb_V) (A : Nat → Prop)  (x1 : Int32) (x2 : Int32) (x3 : Int32) (b : Nat → Nat) (τ : kb_S) (ex : va_W) {r : Int32} (hf : fn_X5_firstPiece  x1 x2 x3 τ = some r) : kb_T l yX5_firstPiece cX5_firstPiece 6 (some .int) ({ frames := 4, cells := 0, slots := 0, locals := 98 } : Room) V A [.ref (b 0), .int x1, .int x2, .int x3] (kb_WS V b τ ex) (some (.int r)) (kb_WS V b τ ex) 0 0 := by
  refine kb_start (cc := cX5_firstPiece) (nL := 6) (ret := (some .int)) (own := RX5) (by decide) rfl (Nat.le_of_ble_eq_true rfl) ?_
  intro p e s m args below meth c C
  have hp26 : ∀ (nn : Nat) (x1 : Int32) (x2 : Int32) (x3 : Int32) (x4 : Int32) (x5 : Int32) (τ : kb_S), fp_X5_firstPiece_26   nn x1 x2 x3 x4 x5 τ = some r → kb_J p l e ({ frames := 4, cells := 0, slots := 0, locals := 98 } : Room) s m args below meth c 6 V A 0 0 (MQ below (kb_post V A (some (.int r)) (kb_WS V b τ ex)) args s 0 0 A) 26 [(0, .ref (b 0)), (1, .int x1), (2, .int x2), (3, .int x3), (4, .int x4), (5, .int x5)] [] (kb_WS V b τ ex) := by
    intro nn26
    induction nn26 with
    | zero => intro x1 x2 x3 x4 x5 τ hf; exact kb_no hf
    | succ nn26 ih26 =>
      intro x1 x2 x3 x4 x5 τ hf
      rw [fp_X5_firstPiece_26_s] at hf
      refine kj_iload (pc := 26) C 5 dX5_firstPiece_26 rfl ?_
      refine kj_iload_n (pc := 28) C 2 dX5_firstPiece_28 rfl rfl ?_
      refine kj_icmp_ge (pc := 29) 68 C dX5_firstPiece_29 (by decide) (fun c1 => ?_) (fun c1 => ?_)
      · have hf := kb_ift hf c1
        refine kj_iload_n (pc := 68) C 2 dX5_firstPiece_68 rfl rfl ?_
        cases hf
        exact kj_iret (pc := 69) C dX5_firstPiece_69
      · have hf := kb_ife hf c1
        refine kj_aload_n (pc := 32) C 0 dX5_firstPiece_32 rfl rfl ?_
        refine kj_iload_n (pc := 33) C 1 dX5_firstPiece_33 rfl rfl ?_
        refine kj_iload (pc := 34) C 5 dX5_firstPiece_34 rfl ?_
        refine kj_iload_n (pc := 36) C 3 dX5_firstPiece_36 rfl rfl ?_
        obtain ⟨q2, hq2, hf⟩ := kb_bd hf
        refine kj_callV0 (pc := 37) (as := [.int x1, .int x5, .int x3]) (rest := []) (b := (b 0)) C (ct_X5_pieceWords l V A x1 x5 x3 b τ ex hq2) wd_X5_pieceWords wk_X5_77 wi_X5_pieceWords ws_X5_pieceWords wz_X5 rfl rfl hd_X5_pieceWords ⟨by decide, by decide⟩ 0 rfl rfl rfl rfl (Nat.le_of_ble_eq_true rfl) (by decide) dX5_firstPiece_37 ?_
        refine kj_aload_n (pc := 40) C 0 dX5_firstPiece_40 rfl rfl ?_
        refine kj_iload_n (pc := 41) C 1 dX5_firstPiece_41 rfl rfl ?_
        refine kj_iload (pc := 42) C 5 dX5_firstPiece_42 rfl ?_
        refine kj_iadd (pc := 44) C dX5_firstPiece_44 ?_
        refine kj_iload_n (pc := 45) C 2 dX5_firstPiece_45 rfl rfl ?_
        refine kj_iload (pc := 46) C 5 dX5_firstPiece_46 rfl ?_
        refine kj_isub (pc := 48) C dX5_firstPiece_48 ?_
        refine kj_iload_n (pc := 49) C 3 dX5_firstPiece_49 rfl rfl ?_
        obtain ⟨q3, hq3, hf⟩ := kb_bd hf
        refine kj_callV0 (pc := 50) (as := [.int (x1 + x5), .int (x2 - x5), .int x3]) (rest := [.int q2]) (b := (b 0)) C (ct_X5_words l V A (x1 + x5) (x2 - x5) x3 b τ ex hq3) wd_X5_words wk_X5_58 wi_X5_words ws_X5_words wz_X5 rfl rfl hd_X5_words ⟨by decide, by decide⟩ 0 rfl rfl rfl rfl (Nat.le_of_ble_eq_true rfl) (by decide) dX5_firstPiece_50 ?_
        refine kj_iadd (pc := 53) C dX5_firstPiece_53 ?_
        refine kj_iload (pc := 54) C 4 dX5_firstPiece_54 rfl ?_
        refine kj_icmp_ne (pc := 56) 62 C dX5_firstPiece_56 (by decide) (fun c4 => ?_) (fun c4 => ?_)
        · have hf := kb_ife hf c4
          refine kj_iinc (pc := 62) C 5 [1, 2, 3, 4, 5, 0] (L2 := [(0, .ref (b 0)), (1, .int x1), (2, .int x2), (3, .int x3), (4, .int x4), (5, .int (x5 + (1 : Int32)))]) dX5_firstPiece_62 rfl rfl (by decide) rfl ?_
          refine kj_goto (pc := 65) 26 C dX5_firstPiece_65 (by decide) ?_
          exact ih26 x1 x2 x3 x4 (x5 + (1 : Int32)) τ hf
        · have hf := kb_ift hf c4
          refine kj_iload (pc := 59) C 5 dX5_firstPiece_59 rfl ?_
          cases hf
          exact kj_iret (pc := 61) C dX5_firstPiece_61
  refine kj_sub [0, 1, 2, 3] (L2 := [(0, .ref (b 0)), (1, .int x1), (2, .int x2), (3, .int x3)]) rfl ?_
  rw [fe_X5_firstPiece] at hf
  refine kj_aload_n (pc := 0) C 0 dX5_firstPiece_0 rfl rfl ?_
  refine kj_iload_n (pc := 1) C 1 dX5_firstPiece_1 rfl rfl ?_
  refine kj_iload_n (pc := 2) C 2 dX5_firstPiece_2 rfl rfl ?_
  refine kj_iload_n (pc := 3) C 3 dX5_firstPiece_3 rfl rfl ?_
  obtain ⟨q1, hq1, hf⟩ := kb_bd hf
  refine kj_callV0 (pc := 4) (as := [.int x1, .int x2, .int x3]) (rest := []) (b := (b 0)) C (ct_X5_words l V A x1 x2 x3 b τ ex hq1) wd_X5_words wk_X5_58 wi_X5_words ws_X5_words wz_X5 rfl rfl hd_X5_words ⟨by decide, by decide⟩ 0 rfl rfl rfl rfl (Nat.le_of_ble_eq_true rfl) (by decide) dX5_firstPiece_4 ?_
  refine kj_istore (pc := 7) C [1, 2, 3, 4, 0] (L2 := [(0, .ref (b 0)), (1, .int x1), (2, .int x2), (3, .int x3), (4, .int q1)]) dX5_firstPiece_7 (by decide) rfl ?_
  refine kj_aload_n (pc := 9) C 0 dX5_firstPiece_9 rfl rfl ?_
  refine kj_iload_n (pc := 10) C 1 dX5_firstPiece_10 rfl rfl ?_
  refine kj_iload_n (pc := 11) C 2 dX5_firstPiece_11 rfl rfl ?_
  refine kj_iload_n (pc := 12) C 3 dX5_firstPiece_12 rfl rfl ?_
  obtain ⟨q2, hq2, hf⟩ := kb_bd hf
  refine kj_callV0 (pc := 13) (as := [.int x1, .int x2, .int x3]) (rest := []) (b := (b 0)) C (ct_X5_pieceWords l V A x1 x2 x3 b τ ex hq2) wd_X5_pieceWords wk_X5_77 wi_X5_pieceWords ws_X5_pieceWords wz_X5 rfl rfl hd_X5_pieceWords ⟨by decide, by decide⟩ 0 rfl rfl rfl rfl (Nat.le_of_ble_eq_true rfl) (by decide) dX5_firstPiece_13 ?_
  refine kj_iload (pc := 16) C 4 dX5_firstPiece_16 rfl ?_
  refine kj_icmp_ne (pc := 18) 23 C dX5_firstPiece_18 (by decide) (fun c3 => ?_) (fun c3 => ?_)
  · have hf := kb_ife hf c3
    refine kj_iconst (pc := 23) (v := (1 : Int32)) C dX5_firstPiece_23 (by decide) ?_
    refine kj_istore (pc := 24) C [1, 2, 3, 4, 5, 0] (L2 := [(0, .ref (b 0)), (1, .int x1), (2, .int x2), (3, .int x3), (4, .int q1), (5, .int (1 : Int32))]) dX5_firstPiece_24 (by decide) rfl ?_
    exact hp26 kb_FU x1 x2 x3 q1 (1 : Int32) τ hf
  · have hf := kb_ift hf c3
    refine kj_iload_n (pc := 21) C 2 dX5_firstPiece_21 rfl rfl ?_
    cases hf
    exact kj_iret (pc := 22) C dX5_firstPiece_22
def fn_X5_put  (x1 : Int32) (τ : kb_S) : Option (kb_S) :=
  if (480 : Int32) ≤ (kb_g τ 1) then
    some τ
  else
    if kb_in (kb_g τ 1) 480 = true then
      some (kb_p (kb_ap τ 3 (kb_g τ 1).toNatClampNeg x1) 1 ((kb_g τ 1) + (1 : Int32)))
    else none
theorem fe_X5_put  (x1 : Int32) (τ : kb_S) : fn_X5_put  x1 τ =
  if (480 : Int32) ≤ (kb_g τ 1) then
    some τ
  else
    if kb_in (kb_g τ 1) 480 = true then
      some (kb_p (kb_ap τ 3 (kb_g τ 1).toNatClampNeg x1) 1 ((kb_g τ 1) + (1 : Int32)))
    else none := rfl
theorem hd_X5_put : yX5_put.cls = RX5 ∧ yX5_put.cls ≠ "java/lang/invoke/MethodHandle" ∧ yX5_put.cls ≠ "java/lang/invoke/VarHandle" ∧ (parseMethodDescriptor yX5_put.desc).map (fun d => d.parameters.length) = some 1 := by decide +kernel
set_option maxRecDepth 100000 in
set_option maxHeartbeats 4000000 in
theorem ct_X5_put (l : Launch) (V : kb_V) (A : Nat → Prop)  (x1 : Int32) (b : Nat → Nat) (τ : kb_S) (ex : va_W) {τ9 : kb_S} (hf : fn_X5_put  x1 τ = some τ9) : kb_T l yX5_put cX5_put 2 none ({ frames := 0, cells := 0, slots := 0, locals := 0 } : Room) V A [.ref (b 0), .int x1] (kb_WS V b τ ex) none (kb_WS V b τ9 ex) 0 0 := by
  refine kb_start (cc := cX5_put) (nL := 2) (ret := none) (own := RX5) (by decide) rfl (Nat.le_of_ble_eq_true rfl) ?_
  intro p e s m args below meth c C
  refine kj_sub [0, 1] (L2 := [(0, .ref (b 0)), (1, .int x1)]) rfl ?_
  rw [fe_X5_put] at hf
  refine kj_aload_n (pc := 0) C 0 dX5_put_0 rfl rfl ?_
  refine kg_X5_length (pc := 1) (v := (kb_g τ 1)) C wf_X5_24 dX5_put_1 rfl ?_
  refine kj_sipush (pc := 4) (v := (480 : Int32)) C dX5_put_4 (by decide) ?_
  refine kj_icmp_ge (pc := 7) 30 C dX5_put_7 (by decide) (fun c1 => ?_) (fun c1 => ?_)
  · have hf := kb_ift hf c1
    cases hf
    exact kj_vret (pc := 30) C dX5_put_30
  · have hf := kb_ife hf c1
    refine kj_aload_n (pc := 10) C 0 dX5_put_10 rfl rfl ?_
    refine kg_X5_text (pc := 11) C wf_X5_21 dX5_put_11 ?_
    refine kj_aload_n (pc := 14) C 0 dX5_put_14 rfl rfl ?_
    refine kg_X5_length (pc := 15) (v := (kb_g τ 1)) C wf_X5_24 dX5_put_15 rfl ?_
    refine kj_iload_n (pc := 18) C 1 dX5_put_18 rfl rfl ?_
    obtain ⟨g2, hf⟩ := kb_gd hf
    refine ks_X5_text (pc := 19) C g2 dX5_put_19 ?_
    refine kj_aload_n (pc := 20) C 0 dX5_put_20 rfl rfl ?_
    refine kj_dup (pc := 21) C dX5_put_21 rfl ?_
    refine kg_X5_length (pc := 22) (v := (kb_g τ 1)) C wf_X5_24 dX5_put_22 rfl ?_
    refine kj_iconst (pc := 25) (v := (1 : Int32)) C dX5_put_25 (by decide) ?_
    refine kj_iadd (pc := 26) C dX5_put_26 ?_
    refine kp_X5_length (pc := 27) C wf_X5_24 dX5_put_27 ?_
    cases hf
    exact kj_vret (pc := 30) C dX5_put_30
def fp_X5_putNumber_17   (x1 : Int32) (τ : kb_S) : Option (kb_S) :=
  (fn_X5_put ((48 : Int32) + (x1 - x1 / (10 : Int32) * (10 : Int32))) τ).bind fun q1 =>
  some q1
theorem fp_X5_putNumber_17_e   (x1 : Int32) (τ : kb_S) : fp_X5_putNumber_17  x1 τ =
  (fn_X5_put ((48 : Int32) + (x1 - x1 / (10 : Int32) * (10 : Int32))) τ).bind fun q1 =>
  some q1 := rfl
def fn_X5_putNumber  (x1 : Int32) (τ : kb_S) : Option (kb_S) :=
  if x1 < (10 : Int32) then
    fp_X5_putNumber_17   x1 τ
  else
    (fn_X5_put ((48 : Int32) + (x1 / (10 : Int32))) τ).bind fun q2 =>
    fp_X5_putNumber_17   x1 q2
theorem fe_X5_putNumber  (x1 : Int32) (τ : kb_S) : fn_X5_putNumber  x1 τ =
  if x1 < (10 : Int32) then
    fp_X5_putNumber_17   x1 τ
  else
    (fn_X5_put ((48 : Int32) + (x1 / (10 : Int32))) τ).bind fun q2 =>
    fp_X5_putNumber_17   x1 q2 := rfl
theorem hd_X5_putNumber : yX5_putNumber.cls = RX5 ∧ yX5_putNumber.cls ≠ "java/lang/invoke/MethodHandle" ∧ yX5_putNumber.cls ≠ "java/lang/invoke/VarHandle" ∧ (parseMethodDescriptor yX5_putNumber.desc).map (fun d => d.parameters.length) = some 1 := by decide +kernel
set_option maxRecDepth 100000 in
set_option maxHeartbeats 4000000 in
theorem ct_X5_putNumber (l : Launch) (V : kb_V) (A : Nat → Prop)  (x1 : Int32) (b : Nat → Nat) (τ : kb_S) (ex : va_W) {τ9 : kb_S} (hf : fn_X5_putNumber  x1 τ = some τ9) : kb_T l yX5_putNumber cX5_putNumber 2 none ({ frames := 1, cells := 0, slots := 0, locals := 21 } : Room) V A [.ref (b 0), .int x1] (kb_WS V b τ ex) none (kb_WS V b τ9 ex) 0 0 := by
  refine kb_start (cc := cX5_putNumber) (nL := 2) (ret := none) (own := RX5) (by decide) rfl (Nat.le_of_ble_eq_true rfl) ?_
  intro p e s m args below meth c C
  have hp17 : ∀ (x1 : Int32) (τ : kb_S), fp_X5_putNumber_17   x1 τ = some τ9 → kb_J p l e ({ frames := 1, cells := 0, slots := 0, locals := 21 } : Room) s m args below meth c 2 V A 0 0 (MQ below (kb_post V A none (kb_WS V b τ9 ex)) args s 0 0 A) 17 [(0, .ref (b 0)), (1, .int x1)] [] (kb_WS V b τ ex) := by
    intro x1 τ hf
    rw [fp_X5_putNumber_17_e] at hf
    refine kj_aload_n (pc := 17) C 0 dX5_putNumber_17 rfl rfl ?_
    refine kj_bipush (pc := 18) (v := (48 : Int32)) C dX5_putNumber_18 (by decide) ?_
    refine kj_iload_n (pc := 20) C 1 dX5_putNumber_20 rfl rfl ?_
    refine kj_bipush (pc := 21) (v := (10 : Int32)) C dX5_putNumber_21 (by decide) ?_
    refine kj_irem (pc := 23) C dX5_putNumber_23 (by decide) ?_
    refine kj_iadd (pc := 24) C dX5_putNumber_24 ?_
    obtain ⟨q1, hq1, hf⟩ := kb_bd hf
    refine kj_callV0 (pc := 25) (as := [.int ((48 : Int32) + (x1 - x1 / (10 : Int32) * (10 : Int32)))]) (rest := []) (b := (b 0)) C (ct_X5_put l V A ((48 : Int32) + (x1 - x1 / (10 : Int32) * (10 : Int32))) b τ ex hq1) wd_X5_put wk_X5_80 wi_X5_put ws_X5_put wz_X5 rfl rfl hd_X5_put ⟨by decide, by decide⟩ 0 rfl rfl rfl rfl (Nat.le_of_ble_eq_true rfl) (by decide) dX5_putNumber_25 ?_
    cases hf
    exact kj_vret (pc := 28) C dX5_putNumber_28
  refine kj_sub [0, 1] (L2 := [(0, .ref (b 0)), (1, .int x1)]) rfl ?_
  rw [fe_X5_putNumber] at hf
  refine kj_iload_n (pc := 0) C 1 dX5_putNumber_0 rfl rfl ?_
  refine kj_bipush (pc := 1) (v := (10 : Int32)) C dX5_putNumber_1 (by decide) ?_
  refine kj_icmp_lt (pc := 3) 17 C dX5_putNumber_3 (by decide) (fun c1 => ?_) (fun c1 => ?_)
  · have hf := kb_ift hf c1
    exact hp17 x1 τ hf
  · have hf := kb_ife hf c1
    refine kj_aload_n (pc := 6) C 0 dX5_putNumber_6 rfl rfl ?_
    refine kj_bipush (pc := 7) (v := (48 : Int32)) C dX5_putNumber_7 (by decide) ?_
    refine kj_iload_n (pc := 9) C 1 dX5_putNumber_9 rfl rfl ?_
    refine kj_bipush (pc := 10) (v := (10 : Int32)) C dX5_putNumber_10 (by decide) ?_
    refine kj_idiv (pc := 12) C dX5_putNumber_12 (by decide) ?_
    refine kj_iadd (pc := 13) C dX5_putNumber_13 ?_
    obtain ⟨q2, hq2, hf⟩ := kb_bd hf
    refine kj_callV0 (pc := 14) (as := [.int ((48 : Int32) + (x1 / (10 : Int32)))]) (rest := []) (b := (b 0)) C (ct_X5_put l V A ((48 : Int32) + (x1 / (10 : Int32))) b τ ex hq2) wd_X5_put wk_X5_80 wi_X5_put ws_X5_put wz_X5 rfl rfl hd_X5_put ⟨by decide, by decide⟩ 0 rfl rfl rfl rfl (Nat.le_of_ble_eq_true rfl) (by decide) dX5_putNumber_14 ?_
    exact hp17 x1 q2 hf
def fp_X5_tellStitch_61   : Nat → Nat → Int32 → kb_S → Option (kb_S)
  | 0 => fun _ _ _ => none
  | nn + 1 => fun x2 x3 τ => 
  if x2 < 19 then
    if (Int32.ofNat (kb_sln x2)) ≤ x3 then
      some τ
    else
      if x2 < 19 ∧ kb_in x3 (kb_sln x2) = true then
        (fn_X5_put (kb_sch x2 x3.toNatClampNeg) τ).bind fun q4 =>
        (fp_X5_tellStitch_61  nn) x2 (x3 + (1 : Int32)) q4
      else none
  else none
theorem fp_X5_tellStitch_61_s   (nn : Nat) (x2 : Nat) (x3 : Int32) (τ : kb_S) : fp_X5_tellStitch_61  (nn + 1) x2 x3 τ =
  if x2 < 19 then
    if (Int32.ofNat (kb_sln x2)) ≤ x3 then
      some τ
    else
      if x2 < 19 ∧ kb_in x3 (kb_sln x2) = true then
        (fn_X5_put (kb_sch x2 x3.toNatClampNeg) τ).bind fun q4 =>
        (fp_X5_tellStitch_61  nn) x2 (x3 + (1 : Int32)) q4
      else none
  else none := rfl
def fp_X5_tellStitch_50   (y0 : Int32) (τ : kb_S) : Option (kb_S) :=
  (fn_X5_put y0 τ).bind fun q1 =>
  some q1
theorem fp_X5_tellStitch_50_e   (y0 : Int32) (τ : kb_S) : fp_X5_tellStitch_50  y0 τ =
  (fn_X5_put y0 τ).bind fun q1 =>
  some q1 := rfl
def fn_X5_tellStitch  (x1 : Int32) (τ : kb_S) : Option (kb_S) :=
  if (fn_X6_isCable x1) = 0 then
    fp_X5_tellStitch_61   kb_FU (fn_X6_nameOf x1) (0 : Int32) τ
  else
    (fn_X5_put (99 : Int32) τ).bind fun q2 =>
    (fn_X5_putNumber (fn_X6_cableA x1) q2).bind fun q3 =>
    (fn_X5_put (47 : Int32) q3).bind fun q4 =>
    (fn_X5_putNumber (fn_X6_cableB x1) q4).bind fun q5 =>
    if (fn_X6_isBehind x1) = 0 then
      fp_X5_tellStitch_50   (102 : Int32) q5
    else
      fp_X5_tellStitch_50   (98 : Int32) q5
theorem fe_X5_tellStitch  (x1 : Int32) (τ : kb_S) : fn_X5_tellStitch  x1 τ =
  if (fn_X6_isCable x1) = 0 then
    fp_X5_tellStitch_61   kb_FU (fn_X6_nameOf x1) (0 : Int32) τ
  else
    (fn_X5_put (99 : Int32) τ).bind fun q2 =>
    (fn_X5_putNumber (fn_X6_cableA x1) q2).bind fun q3 =>
    (fn_X5_put (47 : Int32) q3).bind fun q4 =>
    (fn_X5_putNumber (fn_X6_cableB x1) q4).bind fun q5 =>
    if (fn_X6_isBehind x1) = 0 then
      fp_X5_tellStitch_50   (102 : Int32) q5
    else
      fp_X5_tellStitch_50   (98 : Int32) q5 := rfl
theorem hd_X5_tellStitch : yX5_tellStitch.cls = RX5 ∧ yX5_tellStitch.cls ≠ "java/lang/invoke/MethodHandle" ∧ yX5_tellStitch.cls ≠ "java/lang/invoke/VarHandle" ∧ (parseMethodDescriptor yX5_tellStitch.desc).map (fun d => d.parameters.length) = some 1 := by decide +kernel
set_option maxRecDepth 100000 in
set_option maxHeartbeats 4000000 in
theorem ct_X5_tellStitch (l : Launch) (V : kb_V) (A : Nat → Prop)  (x1 : Int32) (b : Nat → Nat) (τ : kb_S) (ex : va_W) {τ9 : kb_S} (hf : fn_X5_tellStitch  x1 τ = some τ9) : kb_T l yX5_tellStitch cX5_tellStitch 4 none ({ frames := 4, cells := 0, slots := 0, locals := 85 } : Room) V A [.ref (b 0), .int x1] (kb_WS V b τ ex) none (kb_WS V b τ9 ex) 0 0 := by
  refine kb_start (cc := cX5_tellStitch) (nL := 4) (ret := none) (own := RX5) (by decide) rfl (Nat.le_of_ble_eq_true rfl) ?_
  intro p e s m args below meth c C
  have hp61 : ∀ (nn : Nat) (x2 : Nat) (x3 : Int32) (τ : kb_S), fp_X5_tellStitch_61   nn x2 x3 τ = some τ9 → kb_J p l e ({ frames := 4, cells := 0, slots := 0, locals := 85 } : Room) s m args below meth c 4 V A 0 0 (MQ below (kb_post V A none (kb_WS V b τ9 ex)) args s 0 0 A) 61 [(0, .ref (b 0)), (2, .ref (V.2.2 (10 + x2))), (3, .int x3)] [] (kb_WS V b τ ex) := by
    intro nn61
    induction nn61 with
    | zero => intro x2 x3 τ hf; exact kb_no hf
    | succ nn61 ih61 =>
      intro x2 x3 τ hf
      rw [fp_X5_tellStitch_61_s] at hf
      refine kj_iload_n (pc := 61) C 2 dX5_tellStitch_61 rfl rfl ?_
      refine kj_aload_n (pc := 62) C 1 dX5_tellStitch_62 rfl rfl ?_
      obtain ⟨g1, hf⟩ := kb_gd hf
      refine kj_strlen (pc := 63) (i := x2) C g1 wk_X5_114 (by decide) (Nat.le_of_ble_eq_true rfl) (by decide) dX5_tellStitch_63 ?_
      refine kj_icmp_ge (pc := 66) 84 C dX5_tellStitch_66 (by decide) (fun c2 => ?_) (fun c2 => ?_)
      · have hf := kb_ift hf c2
        cases hf
        exact kj_vret (pc := 84) C dX5_tellStitch_84
      · have hf := kb_ife hf c2
        refine kj_aload_n (pc := 69) C 0 dX5_tellStitch_69 rfl rfl ?_
        refine kj_aload_n (pc := 70) C 1 dX5_tellStitch_70 rfl rfl ?_
        refine kj_iload_n (pc := 71) C 2 dX5_tellStitch_71 rfl rfl ?_
        obtain ⟨g3, hf⟩ := kb_gd hf
        refine kj_charAt (pc := 72) (i := x2) C g3.1 g3.2 wk_X5_119 (by decide) (Nat.le_of_ble_eq_true rfl) (by decide) dX5_tellStitch_72 ?_
        obtain ⟨q4, hq4, hf⟩ := kb_bd hf
        refine kj_callV0 (pc := 75) (as := [.int (kb_sch x2 x3.toNatClampNeg)]) (rest := []) (b := (b 0)) C (ct_X5_put l V A (kb_sch x2 x3.toNatClampNeg) b τ ex hq4) wd_X5_put wk_X5_80 wi_X5_put ws_X5_put wz_X5 rfl rfl hd_X5_put ⟨by decide, by decide⟩ 0 rfl rfl rfl rfl (Nat.le_of_ble_eq_true rfl) (by decide) dX5_tellStitch_75 ?_
        refine kj_iinc (pc := 78) C 2 [1, 2, 0] (L2 := [(0, .ref (b 0)), (2, .ref (V.2.2 (10 + x2))), (3, .int (x3 + (1 : Int32)))]) dX5_tellStitch_78 rfl rfl (by decide) rfl ?_
        refine kj_goto (pc := 81) 61 C dX5_tellStitch_81 (by decide) ?_
        exact ih61 x2 (x3 + (1 : Int32)) q4 hf
  have hp50 : ∀ (y0 : Int32) (τ : kb_S), fp_X5_tellStitch_50   y0 τ = some τ9 → kb_J p l e ({ frames := 4, cells := 0, slots := 0, locals := 85 } : Room) s m args below meth c 4 V A 0 0 (MQ below (kb_post V A none (kb_WS V b τ9 ex)) args s 0 0 A) 50 [] [.int y0, .ref (b 0)] (kb_WS V b τ ex) := by
    intro y0 τ hf
    rw [fp_X5_tellStitch_50_e] at hf
    obtain ⟨q1, hq1, hf⟩ := kb_bd hf
    refine kj_callV0 (pc := 50) (as := [.int y0]) (rest := []) (b := (b 0)) C (ct_X5_put l V A y0 b τ ex hq1) wd_X5_put wk_X5_80 wi_X5_put ws_X5_put wz_X5 rfl rfl hd_X5_put ⟨by decide, by decide⟩ 0 rfl rfl rfl rfl (Nat.le_of_ble_eq_true rfl) (by decide) dX5_tellStitch_50 ?_
    cases hf
    exact kj_vret (pc := 53) C dX5_tellStitch_53
  refine kj_sub [0, 1] (L2 := [(0, .ref (b 0)), (1, .int x1)]) rfl ?_
  rw [fe_X5_tellStitch] at hf
  refine kj_iload_n (pc := 0) C 1 dX5_tellStitch_0 rfl rfl ?_
  refine kj_callS0 (pc := 1) (as := [.int x1]) (rest := []) C (ct_X6_isCable l V A x1 (kb_WS V b τ ex) rfl) wd_X6_isCable wk_X5_95 wi_X6_isCable wz_X6 rfl rfl hd_X6_isCable ⟨by decide, by decide⟩ rfl (Nat.le_of_ble_eq_true rfl) (by decide) dX5_tellStitch_1 ?_
  refine kj_if_eq (pc := 4) 54 C dX5_tellStitch_4 (by decide) (fun c1 => ?_) (fun c1 => ?_)
  · have hf := kb_ift hf c1
    refine kj_iload_n (pc := 54) C 1 dX5_tellStitch_54 rfl rfl ?_
    refine kj_callS0 (pc := 55) (as := [.int x1]) (rest := []) C (ct_X6_nameOf l V A x1 (kb_WS V b τ ex) rfl) wd_X6_nameOf wk_X5_110 wi_X6_nameOf wz_X6 rfl rfl hd_X6_nameOf ⟨by decide, by decide⟩ rfl (Nat.le_of_ble_eq_true rfl) (by decide) dX5_tellStitch_55 ?_
    refine kj_astore_n (pc := 58) C [1, 2, 0] (L2 := [(0, .ref (b 0)), (1, .int x1), (2, .ref (V.2.2 (10 + (fn_X6_nameOf x1))))]) dX5_tellStitch_58 rfl (by decide) rfl ?_
    refine kj_iconst (pc := 59) (v := (0 : Int32)) C dX5_tellStitch_59 (by decide) ?_
    refine kj_istore_n (pc := 60) C [1, 2, 3, 0] (L2 := [(0, .ref (b 0)), (1, .int x1), (2, .ref (V.2.2 (10 + (fn_X6_nameOf x1)))), (3, .int (0 : Int32))]) dX5_tellStitch_60 rfl (by decide) rfl ?_
    refine kj_sub [0, 2, 3] (L2 := [(0, .ref (b 0)), (2, .ref (V.2.2 (10 + (fn_X6_nameOf x1)))), (3, .int (0 : Int32))]) rfl ?_
    exact hp61 kb_FU (fn_X6_nameOf x1) (0 : Int32) τ hf
  · have hf := kb_ife hf c1
    refine kj_aload_n (pc := 7) C 0 dX5_tellStitch_7 rfl rfl ?_
    refine kj_bipush (pc := 8) (v := (99 : Int32)) C dX5_tellStitch_8 (by decide) ?_
    obtain ⟨q2, hq2, hf⟩ := kb_bd hf
    refine kj_callV0 (pc := 10) (as := [.int (99 : Int32)]) (rest := []) (b := (b 0)) C (ct_X5_put l V A (99 : Int32) b τ ex hq2) wd_X5_put wk_X5_80 wi_X5_put ws_X5_put wz_X5 rfl rfl hd_X5_put ⟨by decide, by decide⟩ 0 rfl rfl rfl rfl (Nat.le_of_ble_eq_true rfl) (by decide) dX5_tellStitch_10 ?_
    refine kj_aload_n (pc := 13) C 0 dX5_tellStitch_13 rfl rfl ?_
    refine kj_iload_n (pc := 14) C 1 dX5_tellStitch_14 rfl rfl ?_
    refine kj_callS0 (pc := 15) (as := [.int x1]) (rest := [.ref (b 0)]) C (ct_X6_cableA l V A x1 (kb_WS V b q2 ex) rfl) wd_X6_cableA wk_X5_101 wi_X6_cableA wz_X6 rfl rfl hd_X6_cableA ⟨by decide, by decide⟩ rfl (Nat.le_of_ble_eq_true rfl) (by decide) dX5_tellStitch_15 ?_
    obtain ⟨q3, hq3, hf⟩ := kb_bd hf
    refine kj_callV0 (pc := 18) (as := [.int (fn_X6_cableA x1)]) (rest := []) (b := (b 0)) C (ct_X5_putNumber l V A (fn_X6_cableA x1) b q2 ex hq3) wd_X5_putNumber wk_X5_92 wi_X5_putNumber ws_X5_putNumber wz_X5 rfl rfl hd_X5_putNumber ⟨by decide, by decide⟩ 0 rfl rfl rfl rfl (Nat.le_of_ble_eq_true rfl) (by decide) dX5_tellStitch_18 ?_
    refine kj_aload_n (pc := 21) C 0 dX5_tellStitch_21 rfl rfl ?_
    refine kj_bipush (pc := 22) (v := (47 : Int32)) C dX5_tellStitch_22 (by decide) ?_
    obtain ⟨q4, hq4, hf⟩ := kb_bd hf
    refine kj_callV0 (pc := 24) (as := [.int (47 : Int32)]) (rest := []) (b := (b 0)) C (ct_X5_put l V A (47 : Int32) b q3 ex hq4) wd_X5_put wk_X5_80 wi_X5_put ws_X5_put wz_X5 rfl rfl hd_X5_put ⟨by decide, by decide⟩ 0 rfl rfl rfl rfl (Nat.le_of_ble_eq_true rfl) (by decide) dX5_tellStitch_24 ?_
    refine kj_aload_n (pc := 27) C 0 dX5_tellStitch_27 rfl rfl ?_
    refine kj_iload_n (pc := 28) C 1 dX5_tellStitch_28 rfl rfl ?_
    refine kj_callS0 (pc := 29) (as := [.int x1]) (rest := [.ref (b 0)]) C (ct_X6_cableB l V A x1 (kb_WS V b q4 ex) rfl) wd_X6_cableB wk_X5_104 wi_X6_cableB wz_X6 rfl rfl hd_X6_cableB ⟨by decide, by decide⟩ rfl (Nat.le_of_ble_eq_true rfl) (by decide) dX5_tellStitch_29 ?_
    obtain ⟨q5, hq5, hf⟩ := kb_bd hf
    refine kj_callV0 (pc := 32) (as := [.int (fn_X6_cableB x1)]) (rest := []) (b := (b 0)) C (ct_X5_putNumber l V A (fn_X6_cableB x1) b q4 ex hq5) wd_X5_putNumber wk_X5_92 wi_X5_putNumber ws_X5_putNumber wz_X5 rfl rfl hd_X5_putNumber ⟨by decide, by decide⟩ 0 rfl rfl rfl rfl (Nat.le_of_ble_eq_true rfl) (by decide) dX5_tellStitch_32 ?_
    refine kj_aload_n (pc := 35) C 0 dX5_tellStitch_35 rfl rfl ?_
    refine kj_iload_n (pc := 36) C 1 dX5_tellStitch_36 rfl rfl ?_
    refine kj_callS0 (pc := 37) (as := [.int x1]) (rest := [.ref (b 0)]) C (ct_X6_isBehind l V A x1 (kb_WS V b q5 ex) rfl) wd_X6_isBehind wk_X5_107 wi_X6_isBehind wz_X6 rfl rfl hd_X6_isBehind ⟨by decide, by decide⟩ rfl (Nat.le_of_ble_eq_true rfl) (by decide) dX5_tellStitch_37 ?_
    refine kj_if_eq (pc := 40) 48 C dX5_tellStitch_40 (by decide) (fun c6 => ?_) (fun c6 => ?_)
    · have hf := kb_ift hf c6
      refine kj_bipush (pc := 48) (v := (102 : Int32)) C dX5_tellStitch_48 (by decide) ?_
      refine kj_sub [] (L2 := []) rfl ?_
      exact hp50 (102 : Int32) q5 hf
    · have hf := kb_ife hf c6
      refine kj_bipush (pc := 43) (v := (98 : Int32)) C dX5_tellStitch_43 (by decide) ?_
      refine kj_goto (pc := 45) 50 C dX5_tellStitch_45 (by decide) ?_
      refine kj_sub [] (L2 := []) rfl ?_
      exact hp50 (98 : Int32) q5 hf
theorem hd_X5_tellPart : yX5_tellPart.cls = RX5 ∧ yX5_tellPart.cls ≠ "java/lang/invoke/MethodHandle" ∧ yX5_tellPart.cls ≠ "java/lang/invoke/VarHandle" ∧ (parseMethodDescriptor yX5_tellPart.desc).map (fun d => d.parameters.length) = some 3 := by decide +kernel
def fp_X5_tellPiece_20 (tp : Int32 → Int32 → Int32 → kb_S → Option kb_S)  (x1 : Int32) (τ : kb_S) : Option (kb_S) :=
  if kb_in x1 80 = true then
    (fn_X5_tellStitch (kb_a τ 2 x1.toNatClampNeg) τ).bind fun q2 =>
    some q2
  else none
theorem fp_X5_tellPiece_20_e (tp : Int32 → Int32 → Int32 → kb_S → Option kb_S)  (x1 : Int32) (τ : kb_S) : fp_X5_tellPiece_20 tp x1 τ =
  if kb_in x1 80 = true then
    (fn_X5_tellStitch (kb_a τ 2 x1.toNatClampNeg) τ).bind fun q2 =>
    some q2
  else none := rfl
def fn_X5_tellPiece (tp : Int32 → Int32 → Int32 → kb_S → Option kb_S) (x1 : Int32) (x2 : Int32) (x3 : Int32) (τ : kb_S) : Option (kb_S) :=
  (fn_X5_bestGroup x1 x2 x3 τ).bind fun q1 =>
  if q1 < (1 : Int32) then
    fp_X5_tellPiece_20 tp  x1 τ
  else
    if x3 < (4 : Int32) then
      (fn_X5_put (40 : Int32) τ).bind fun q4 =>
      (tp x1 q1 (x3 + (1 : Int32)) q4).bind fun q5 =>
      (fn_X5_put (41 : Int32) q5).bind fun q6 =>
      (fn_X5_put (120 : Int32) q6).bind fun q7 =>
      if ¬ q1 = 0 then
        (fn_X5_putNumber (x2 / q1) q7).bind fun q9 =>
        some q9
      else none
    else
      fp_X5_tellPiece_20 tp  x1 τ
theorem fe_X5_tellPiece (tp : Int32 → Int32 → Int32 → kb_S → Option kb_S) (x1 : Int32) (x2 : Int32) (x3 : Int32) (τ : kb_S) : fn_X5_tellPiece tp x1 x2 x3 τ =
  (fn_X5_bestGroup x1 x2 x3 τ).bind fun q1 =>
  if q1 < (1 : Int32) then
    fp_X5_tellPiece_20 tp  x1 τ
  else
    if x3 < (4 : Int32) then
      (fn_X5_put (40 : Int32) τ).bind fun q4 =>
      (tp x1 q1 (x3 + (1 : Int32)) q4).bind fun q5 =>
      (fn_X5_put (41 : Int32) q5).bind fun q6 =>
      (fn_X5_put (120 : Int32) q6).bind fun q7 =>
      if ¬ q1 = 0 then
        (fn_X5_putNumber (x2 / q1) q7).bind fun q9 =>
        some q9
      else none
    else
      fp_X5_tellPiece_20 tp  x1 τ := rfl
theorem hd_X5_tellPiece : yX5_tellPiece.cls = RX5 ∧ yX5_tellPiece.cls ≠ "java/lang/invoke/MethodHandle" ∧ yX5_tellPiece.cls ≠ "java/lang/invoke/VarHandle" ∧ (parseMethodDescriptor yX5_tellPiece.desc).map (fun d => d.parameters.length) = some 3 := by decide +kernel
set_option maxRecDepth 100000 in
set_option maxHeartbeats 4000000 in
theorem ct_X5_tellPiece (l : Launch) (V : kb_V) (A : Nat → Prop) (F G : Nat) (hF : 12 ≤ F) (hG : 260 ≤ G) (b : Nat → Nat) (ex : va_W) (tp : Int32 → Int32 → Int32 → kb_S → Option kb_S) (hT : ∀ (x1 x2 x3 : Int32) (τ τ9 : kb_S), tp x1 x2 x3 τ = some τ9 → kb_T l yX5_tellPart cX5_tellPart 8 none ({ frames := F, cells := 0, slots := 0, locals := G } : Room) V A [.ref (b 0), .int x1, .int x2, .int x3] (kb_WS V b τ ex) none (kb_WS V b τ9 ex) 0 0) (x1 : Int32) (x2 : Int32) (x3 : Int32) (τ : kb_S) {τ9 : kb_S} (hf : fn_X5_tellPiece tp x1 x2 x3 τ = some τ9) : kb_T l yX5_tellPiece cX5_tellPiece 5 none ({ frames := F + 1, cells := 0, slots := 0, locals := G + 40 } : Room) V A [.ref (b 0), .int x1, .int x2, .int x3] (kb_WS V b τ ex) none (kb_WS V b τ9 ex) 0 0 := by
  refine kb_start (cc := cX5_tellPiece) (nL := 5) (ret := none) (own := RX5) (by decide) rfl (Nat.le_of_ble_eq_true rfl) ?_
  intro p e s m args below meth c C
  have hp20 : ∀ (x1 : Int32) (τ : kb_S), fp_X5_tellPiece_20 tp  x1 τ = some τ9 → kb_J p l e ({ frames := F + 1, cells := 0, slots := 0, locals := G + 40 } : Room) s m args below meth c 5 V A 0 0 (MQ below (kb_post V A none (kb_WS V b τ9 ex)) args s 0 0 A) 20 [(0, .ref (b 0)), (1, .int x1)] [] (kb_WS V b τ ex) := by
    intro x1 τ hf
    rw [fp_X5_tellPiece_20_e] at hf
    refine kj_aload_n (pc := 20) C 0 dX5_tellPiece_20 rfl rfl ?_
    refine kj_aload_n (pc := 21) C 0 dX5_tellPiece_21 rfl rfl ?_
    refine kg_X5_stitches (pc := 22) C wf_X5_18 dX5_tellPiece_22 ?_
    refine kj_iload_n (pc := 25) C 1 dX5_tellPiece_25 rfl rfl ?_
    obtain ⟨g1, hf⟩ := kb_gd hf
    refine ka_X5_stitches (pc := 26) (v := (kb_a τ 2 x1.toNatClampNeg)) C g1 dX5_tellPiece_26 rfl ?_
    obtain ⟨q2, hq2, hf⟩ := kb_bd hf
    refine kj_callV0 (pc := 27) (as := [.int (kb_a τ 2 x1.toNatClampNeg)]) (rest := []) (b := (b 0)) C (ct_X5_tellStitch l V A (kb_a τ 2 x1.toNatClampNeg) b τ ex hq2) wd_X5_tellStitch wk_X5_89 wi_X5_tellStitch ws_X5_tellStitch wz_X5 rfl rfl hd_X5_tellStitch ⟨by dsimp only; omega, by dsimp only; omega⟩ 0 rfl rfl rfl rfl (Nat.le_of_ble_eq_true rfl) ⟨Nat.le_refl _, Nat.le_refl _⟩ dX5_tellPiece_27 ?_
    cases hf
    exact kj_vret (pc := 30) C dX5_tellPiece_30
  refine kj_sub [0, 1, 2, 3] (L2 := [(0, .ref (b 0)), (1, .int x1), (2, .int x2), (3, .int x3)]) rfl ?_
  rw [fe_X5_tellPiece] at hf
  refine kj_aload_n (pc := 0) C 0 dX5_tellPiece_0 rfl rfl ?_
  refine kj_iload_n (pc := 1) C 1 dX5_tellPiece_1 rfl rfl ?_
  refine kj_iload_n (pc := 2) C 2 dX5_tellPiece_2 rfl rfl ?_
  refine kj_iload_n (pc := 3) C 3 dX5_tellPiece_3 rfl rfl ?_
  obtain ⟨q1, hq1, hf⟩ := kb_bd hf
  refine kj_callV0 (pc := 4) (as := [.int x1, .int x2, .int x3]) (rest := []) (b := (b 0)) C (ct_X5_bestGroup l V A x1 x2 x3 b τ ex hq1) wd_X5_bestGroup wk_X5_74 wi_X5_bestGroup ws_X5_bestGroup wz_X5 rfl rfl hd_X5_bestGroup ⟨by dsimp only; omega, by dsimp only; omega⟩ 0 rfl rfl rfl rfl (Nat.le_of_ble_eq_true rfl) ⟨Nat.le_refl _, Nat.le_refl _⟩ dX5_tellPiece_4 ?_
  refine kj_istore (pc := 7) C [1, 2, 3, 4, 0] (L2 := [(0, .ref (b 0)), (1, .int x1), (2, .int x2), (3, .int x3), (4, .int q1)]) dX5_tellPiece_7 (by decide) rfl ?_
  refine kj_iload (pc := 9) C 4 dX5_tellPiece_9 rfl ?_
  refine kj_iconst (pc := 11) (v := (1 : Int32)) C dX5_tellPiece_11 (by decide) ?_
  refine kj_icmp_lt (pc := 12) 20 C dX5_tellPiece_12 (by decide) (fun c2 => ?_) (fun c2 => ?_)
  · have hf := kb_ift hf c2
    refine kj_sub [0, 1] (L2 := [(0, .ref (b 0)), (1, .int x1)]) rfl ?_
    exact hp20 x1 τ hf
  · have hf := kb_ife hf c2
    refine kj_iload_n (pc := 15) C 3 dX5_tellPiece_15 rfl rfl ?_
    refine kj_iconst (pc := 16) (v := (4 : Int32)) C dX5_tellPiece_16 (by decide) ?_
    refine kj_icmp_lt (pc := 17) 31 C dX5_tellPiece_17 (by decide) (fun c3 => ?_) (fun c3 => ?_)
    · have hf := kb_ift hf c3
      refine kj_aload_n (pc := 31) C 0 dX5_tellPiece_31 rfl rfl ?_
      refine kj_bipush (pc := 32) (v := (40 : Int32)) C dX5_tellPiece_32 (by decide) ?_
      obtain ⟨q4, hq4, hf⟩ := kb_bd hf
      refine kj_callV0 (pc := 34) (as := [.int (40 : Int32)]) (rest := []) (b := (b 0)) C (ct_X5_put l V A (40 : Int32) b τ ex hq4) wd_X5_put wk_X5_80 wi_X5_put ws_X5_put wz_X5 rfl rfl hd_X5_put ⟨by dsimp only; omega, by dsimp only; omega⟩ 0 rfl rfl rfl rfl (Nat.le_of_ble_eq_true rfl) ⟨Nat.le_refl _, Nat.le_refl _⟩ dX5_tellPiece_34 ?_
      refine kj_aload_n (pc := 37) C 0 dX5_tellPiece_37 rfl rfl ?_
      refine kj_iload_n (pc := 38) C 1 dX5_tellPiece_38 rfl rfl ?_
      refine kj_iload (pc := 39) C 4 dX5_tellPiece_39 rfl ?_
      refine kj_iload_n (pc := 41) C 3 dX5_tellPiece_41 rfl rfl ?_
      refine kj_iconst (pc := 42) (v := (1 : Int32)) C dX5_tellPiece_42 (by decide) ?_
      refine kj_iadd (pc := 43) C dX5_tellPiece_43 ?_
      obtain ⟨q5, hq5, hf⟩ := kb_bd hf
      refine kj_callV0 (pc := 44) (as := [.int x1, .int q1, .int (x3 + (1 : Int32))]) (rest := []) (b := (b 0)) C (hT x1 q1 (x3 + (1 : Int32)) q4 _ hq5) wd_X5_tellPart wk_X5_55 wi_X5_tellPart ws_X5_tellPart wz_X5 rfl rfl hd_X5_tellPart ⟨by dsimp only; omega, by dsimp only; omega⟩ 0 rfl rfl rfl rfl (Nat.le_of_ble_eq_true rfl) ⟨Nat.le_refl _, Nat.le_refl _⟩ dX5_tellPiece_44 ?_
      refine kj_aload_n (pc := 47) C 0 dX5_tellPiece_47 rfl rfl ?_
      refine kj_bipush (pc := 48) (v := (41 : Int32)) C dX5_tellPiece_48 (by decide) ?_
      obtain ⟨q6, hq6, hf⟩ := kb_bd hf
      refine kj_callV0 (pc := 50) (as := [.int (41 : Int32)]) (rest := []) (b := (b 0)) C (ct_X5_put l V A (41 : Int32) b q5 ex hq6) wd_X5_put wk_X5_80 wi_X5_put ws_X5_put wz_X5 rfl rfl hd_X5_put ⟨by dsimp only; omega, by dsimp only; omega⟩ 0 rfl rfl rfl rfl (Nat.le_of_ble_eq_true rfl) ⟨Nat.le_refl _, Nat.le_refl _⟩ dX5_tellPiece_50 ?_
      refine kj_aload_n (pc := 53) C 0 dX5_tellPiece_53 rfl rfl ?_
      refine kj_bipush (pc := 54) (v := (120 : Int32)) C dX5_tellPiece_54 (by decide) ?_
      obtain ⟨q7, hq7, hf⟩ := kb_bd hf
      refine kj_callV0 (pc := 56) (as := [.int (120 : Int32)]) (rest := []) (b := (b 0)) C (ct_X5_put l V A (120 : Int32) b q6 ex hq7) wd_X5_put wk_X5_80 wi_X5_put ws_X5_put wz_X5 rfl rfl hd_X5_put ⟨by dsimp only; omega, by dsimp only; omega⟩ 0 rfl rfl rfl rfl (Nat.le_of_ble_eq_true rfl) ⟨Nat.le_refl _, Nat.le_refl _⟩ dX5_tellPiece_56 ?_
      refine kj_aload_n (pc := 59) C 0 dX5_tellPiece_59 rfl rfl ?_
      refine kj_iload_n (pc := 60) C 2 dX5_tellPiece_60 rfl rfl ?_
      refine kj_iload (pc := 61) C 4 dX5_tellPiece_61 rfl ?_
      obtain ⟨g8, hf⟩ := kb_gd hf
      refine kj_idiv (pc := 63) C dX5_tellPiece_63 g8 ?_
      obtain ⟨q9, hq9, hf⟩ := kb_bd hf
      refine kj_callV0 (pc := 64) (as := [.int (x2 / q1)]) (rest := []) (b := (b 0)) C (ct_X5_putNumber l V A (x2 / q1) b q7 ex hq9) wd_X5_putNumber wk_X5_92 wi_X5_putNumber ws_X5_putNumber wz_X5 rfl rfl hd_X5_putNumber ⟨by dsimp only; omega, by dsimp only; omega⟩ 0 rfl rfl rfl rfl (Nat.le_of_ble_eq_true rfl) ⟨Nat.le_refl _, Nat.le_refl _⟩ dX5_tellPiece_64 ?_
      cases hf
      exact kj_vret (pc := 67) C dX5_tellPiece_67
    · have hf := kb_ife hf c3
      refine kj_sub [0, 1] (L2 := [(0, .ref (b 0)), (1, .int x1)]) rfl ?_
      exact hp20 x1 τ hf
def fp_X5_tellPart_36 (tp : Int32 → Int32 → Int32 → kb_S → Option kb_S) (kc11 : Int32 → Int32 → Int32 → Int32 → Int32 → Int32 → kb_S → Option (kb_S)) (x1 : Int32) (x2 : Int32) (x3 : Int32) (x4 : Int32) (x5 : Int32) (x6 : Int32) (τ : kb_S) : Option (kb_S) :=
  (fn_X5_firstPiece x4 (x5 - x4) x3 τ).bind fun q1 =>
  (tp x4 q1 x3 τ).bind fun q2 =>
  kc11 x1 x2 x3 (x4 + q1) x5 (x6 + (1 : Int32)) q2
theorem fp_X5_tellPart_36_e (tp : Int32 → Int32 → Int32 → kb_S → Option kb_S) (kc11 : Int32 → Int32 → Int32 → Int32 → Int32 → Int32 → kb_S → Option (kb_S)) (x1 : Int32) (x2 : Int32) (x3 : Int32) (x4 : Int32) (x5 : Int32) (x6 : Int32) (τ : kb_S) : fp_X5_tellPart_36 tp kc11 x1 x2 x3 x4 x5 x6 τ =
  (fn_X5_firstPiece x4 (x5 - x4) x3 τ).bind fun q1 =>
  (tp x4 q1 x3 τ).bind fun q2 =>
  kc11 x1 x2 x3 (x4 + q1) x5 (x6 + (1 : Int32)) q2 := rfl
def fp_X5_tellPart_11 (tp : Int32 → Int32 → Int32 → kb_S → Option kb_S)  : Nat → Int32 → Int32 → Int32 → Int32 → Int32 → Int32 → kb_S → Option (kb_S)
  | 0 => fun _ _ _ _ _ _ _ => none
  | nn + 1 => fun x1 x2 x3 x4 x5 x6 τ => 
  if x2 ≤ x6 then
    some τ
  else
    if x5 ≤ x4 then
      some τ
    else
      if x4 ≤ x1 then
        fp_X5_tellPart_36 tp (fp_X5_tellPart_11 tp nn) x1 x2 x3 x4 x5 x6 τ
      else
        (fn_X5_put (44 : Int32) τ).bind fun q4 =>
        fp_X5_tellPart_36 tp (fp_X5_tellPart_11 tp nn) x1 x2 x3 x4 x5 x6 q4
theorem fp_X5_tellPart_11_s (tp : Int32 → Int32 → Int32 → kb_S → Option kb_S)  (nn : Nat) (x1 : Int32) (x2 : Int32) (x3 : Int32) (x4 : Int32) (x5 : Int32) (x6 : Int32) (τ : kb_S) : fp_X5_tellPart_11 tp (nn + 1) x1 x2 x3 x4 x5 x6 τ =
  if x2 ≤ x6 then
    some τ
  else
    if x5 ≤ x4 then
      some τ
    else
      if x4 ≤ x1 then
        fp_X5_tellPart_36 tp (fp_X5_tellPart_11 tp nn) x1 x2 x3 x4 x5 x6 τ
      else
        (fn_X5_put (44 : Int32) τ).bind fun q4 =>
        fp_X5_tellPart_36 tp (fp_X5_tellPart_11 tp nn) x1 x2 x3 x4 x5 x6 q4 := rfl
def fn_X5_tellPart (tp : Int32 → Int32 → Int32 → kb_S → Option kb_S) (x1 : Int32) (x2 : Int32) (x3 : Int32) (τ : kb_S) : Option (kb_S) :=
  fp_X5_tellPart_11 tp  kb_FU x1 x2 x3 x1 (x1 + x2) (0 : Int32) τ
theorem fe_X5_tellPart (tp : Int32 → Int32 → Int32 → kb_S → Option kb_S) (x1 : Int32) (x2 : Int32) (x3 : Int32) (τ : kb_S) : fn_X5_tellPart tp x1 x2 x3 τ =
  fp_X5_tellPart_11 tp  kb_FU x1 x2 x3 x1 (x1 + x2) (0 : Int32) τ := rfl
set_option maxRecDepth 100000 in
set_option maxHeartbeats 4000000 in
theorem ct_X5_tellPart (l : Launch) (V : kb_V) (A : Nat → Prop) (F G : Nat) (hF : 12 ≤ F) (hG : 260 ≤ G) (b : Nat → Nat) (ex : va_W) (tp : Int32 → Int32 → Int32 → kb_S → Option kb_S) (hT : ∀ (x1 x2 x3 : Int32) (τ τ9 : kb_S), tp x1 x2 x3 τ = some τ9 → kb_T l yX5_tellPiece cX5_tellPiece 5 none ({ frames := F, cells := 0, slots := 0, locals := G } : Room) V A [.ref (b 0), .int x1, .int x2, .int x3] (kb_WS V b τ ex) none (kb_WS V b τ9 ex) 0 0) (x1 : Int32) (x2 : Int32) (x3 : Int32) (τ : kb_S) {τ9 : kb_S} (hf : fn_X5_tellPart tp x1 x2 x3 τ = some τ9) : kb_T l yX5_tellPart cX5_tellPart 8 none ({ frames := F + 1, cells := 0, slots := 0, locals := G + 40 } : Room) V A [.ref (b 0), .int x1, .int x2, .int x3] (kb_WS V b τ ex) none (kb_WS V b τ9 ex) 0 0 := by
  refine kb_start (cc := cX5_tellPart) (nL := 8) (ret := none) (own := RX5) (by decide) rfl (Nat.le_of_ble_eq_true rfl) ?_
  intro p e s m args below meth c C
  have hp11 : ∀ (nn : Nat) (x1 : Int32) (x2 : Int32) (x3 : Int32) (x4 : Int32) (x5 : Int32) (x6 : Int32) (τ : kb_S), fp_X5_tellPart_11 tp  nn x1 x2 x3 x4 x5 x6 τ = some τ9 → kb_J p l e ({ frames := F + 1, cells := 0, slots := 0, locals := G + 40 } : Room) s m args below meth c 8 V A 0 0 (MQ below (kb_post V A none (kb_WS V b τ9 ex)) args s 0 0 A) 11 [(0, .ref (b 0)), (1, .int x1), (2, .int x2), (3, .int x3), (4, .int x4), (5, .int x5), (6, .int x6)] [] (kb_WS V b τ ex) := by
    intro nn11
    induction nn11 with
    | zero => intro x1 x2 x3 x4 x5 x6 τ hf; exact kb_no hf
    | succ nn11 ih11 =>
      have hp36 : ∀ (x1 : Int32) (x2 : Int32) (x3 : Int32) (x4 : Int32) (x5 : Int32) (x6 : Int32) (τ : kb_S), fp_X5_tellPart_36 tp (fp_X5_tellPart_11 tp  nn11) x1 x2 x3 x4 x5 x6 τ = some τ9 → kb_J p l e ({ frames := F + 1, cells := 0, slots := 0, locals := G + 40 } : Room) s m args below meth c 8 V A 0 0 (MQ below (kb_post V A none (kb_WS V b τ9 ex)) args s 0 0 A) 36 [(0, .ref (b 0)), (1, .int x1), (2, .int x2), (3, .int x3), (4, .int x4), (5, .int x5), (6, .int x6)] [] (kb_WS V b τ ex) := by
        intro x1 x2 x3 x4 x5 x6 τ hf
        rw [fp_X5_tellPart_36_e] at hf
        refine kj_aload_n (pc := 36) C 0 dX5_tellPart_36 rfl rfl ?_
        refine kj_iload (pc := 37) C 4 dX5_tellPart_37 rfl ?_
        refine kj_iload (pc := 39) C 5 dX5_tellPart_39 rfl ?_
        refine kj_iload (pc := 41) C 4 dX5_tellPart_41 rfl ?_
        refine kj_isub (pc := 43) C dX5_tellPart_43 ?_
        refine kj_iload_n (pc := 44) C 3 dX5_tellPart_44 rfl rfl ?_
        obtain ⟨q1, hq1, hf⟩ := kb_bd hf
        refine kj_callV0 (pc := 45) (as := [.int x4, .int (x5 - x4), .int x3]) (rest := []) (b := (b 0)) C (ct_X5_firstPiece l V A x4 (x5 - x4) x3 b τ ex hq1) wd_X5_firstPiece wk_X5_83 wi_X5_firstPiece ws_X5_firstPiece wz_X5 rfl rfl hd_X5_firstPiece ⟨by dsimp only; omega, by dsimp only; omega⟩ 0 rfl rfl rfl rfl (Nat.le_of_ble_eq_true rfl) ⟨Nat.le_refl _, Nat.le_refl _⟩ dX5_tellPart_45 ?_
        refine kj_istore (pc := 48) C [1, 2, 3, 4, 5, 6, 7, 0] (L2 := [(0, .ref (b 0)), (1, .int x1), (2, .int x2), (3, .int x3), (4, .int x4), (5, .int x5), (6, .int x6), (7, .int q1)]) dX5_tellPart_48 (by decide) rfl ?_
        refine kj_aload_n (pc := 50) C 0 dX5_tellPart_50 rfl rfl ?_
        refine kj_iload (pc := 51) C 4 dX5_tellPart_51 rfl ?_
        refine kj_iload (pc := 53) C 7 dX5_tellPart_53 rfl ?_
        refine kj_iload_n (pc := 55) C 3 dX5_tellPart_55 rfl rfl ?_
        obtain ⟨q2, hq2, hf⟩ := kb_bd hf
        refine kj_callV0 (pc := 56) (as := [.int x4, .int q1, .int x3]) (rest := []) (b := (b 0)) C (hT x4 q1 x3 τ _ hq2) wd_X5_tellPiece wk_X5_86 wi_X5_tellPiece ws_X5_tellPiece wz_X5 rfl rfl hd_X5_tellPiece ⟨by dsimp only; omega, by dsimp only; omega⟩ 0 rfl rfl rfl rfl (Nat.le_of_ble_eq_true rfl) ⟨Nat.le_refl _, Nat.le_refl _⟩ dX5_tellPart_56 ?_
        refine kj_iload (pc := 59) C 4 dX5_tellPart_59 rfl ?_
        refine kj_iload (pc := 61) C 7 dX5_tellPart_61 rfl ?_
        refine kj_iadd (pc := 63) C dX5_tellPart_63 ?_
        refine kj_istore (pc := 64) C [1, 2, 3, 4, 0, 5, 6, 7] (L2 := [(0, .ref (b 0)), (1, .int x1), (2, .int x2), (3, .int x3), (4, .int (x4 + q1)), (5, .int x5), (6, .int x6), (7, .int q1)]) dX5_tellPart_64 (by decide) rfl ?_
        refine kj_iinc (pc := 66) C 6 [1, 2, 3, 4, 5, 6, 0, 7] (L2 := [(0, .ref (b 0)), (1, .int x1), (2, .int x2), (3, .int x3), (4, .int (x4 + q1)), (5, .int x5), (6, .int (x6 + (1 : Int32))), (7, .int q1)]) dX5_tellPart_66 rfl rfl (by decide) rfl ?_
        refine kj_goto (pc := 69) 11 C dX5_tellPart_69 (by decide) ?_
        refine kj_sub [0, 1, 2, 3, 4, 5, 6] (L2 := [(0, .ref (b 0)), (1, .int x1), (2, .int x2), (3, .int x3), (4, .int (x4 + q1)), (5, .int x5), (6, .int (x6 + (1 : Int32)))]) rfl ?_
        exact ih11 x1 x2 x3 (x4 + q1) x5 (x6 + (1 : Int32)) q2 hf
      intro x1 x2 x3 x4 x5 x6 τ hf
      rw [fp_X5_tellPart_11_s] at hf
      refine kj_iload (pc := 11) C 6 dX5_tellPart_11 rfl ?_
      refine kj_iload_n (pc := 13) C 2 dX5_tellPart_13 rfl rfl ?_
      refine kj_icmp_ge (pc := 14) 72 C dX5_tellPart_14 (by decide) (fun c1 => ?_) (fun c1 => ?_)
      · have hf := kb_ift hf c1
        cases hf
        exact kj_vret (pc := 72) C dX5_tellPart_72
      · have hf := kb_ife hf c1
        refine kj_iload (pc := 17) C 4 dX5_tellPart_17 rfl ?_
        refine kj_iload (pc := 19) C 5 dX5_tellPart_19 rfl ?_
        refine kj_icmp_ge (pc := 21) 72 C dX5_tellPart_21 (by decide) (fun c2 => ?_) (fun c2 => ?_)
        · have hf := kb_ift hf c2
          cases hf
          exact kj_vret (pc := 72) C dX5_tellPart_72
        · have hf := kb_ife hf c2
          refine kj_iload (pc := 24) C 4 dX5_tellPart_24 rfl ?_
          refine kj_iload_n (pc := 26) C 1 dX5_tellPart_26 rfl rfl ?_
          refine kj_icmp_le (pc := 27) 36 C dX5_tellPart_27 (by decide) (fun c3 => ?_) (fun c3 => ?_)
          · have hf := kb_ift hf c3
            exact hp36 x1 x2 x3 x4 x5 x6 τ hf
          · have hf := kb_ife hf c3
            refine kj_aload_n (pc := 30) C 0 dX5_tellPart_30 rfl rfl ?_
            refine kj_bipush (pc := 31) (v := (44 : Int32)) C dX5_tellPart_31 (by decide) ?_
            obtain ⟨q4, hq4, hf⟩ := kb_bd hf
            refine kj_callV0 (pc := 33) (as := [.int (44 : Int32)]) (rest := []) (b := (b 0)) C (ct_X5_put l V A (44 : Int32) b τ ex hq4) wd_X5_put wk_X5_80 wi_X5_put ws_X5_put wz_X5 rfl rfl hd_X5_put ⟨by dsimp only; omega, by dsimp only; omega⟩ 0 rfl rfl rfl rfl (Nat.le_of_ble_eq_true rfl) ⟨Nat.le_refl _, Nat.le_refl _⟩ dX5_tellPart_33 ?_
            exact hp36 x1 x2 x3 x4 x5 x6 q4 hf
  refine kj_sub [0, 1, 2, 3] (L2 := [(0, .ref (b 0)), (1, .int x1), (2, .int x2), (3, .int x3)]) rfl ?_
  rw [fe_X5_tellPart] at hf
  refine kj_iload_n (pc := 0) C 1 dX5_tellPart_0 rfl rfl ?_
  refine kj_istore (pc := 1) C [1, 2, 3, 4, 0] (L2 := [(0, .ref (b 0)), (1, .int x1), (2, .int x2), (3, .int x3), (4, .int x1)]) dX5_tellPart_1 (by decide) rfl ?_
  refine kj_iload_n (pc := 3) C 1 dX5_tellPart_3 rfl rfl ?_
  refine kj_iload_n (pc := 4) C 2 dX5_tellPart_4 rfl rfl ?_
  refine kj_iadd (pc := 5) C dX5_tellPart_5 ?_
  refine kj_istore (pc := 6) C [1, 2, 3, 4, 5, 0] (L2 := [(0, .ref (b 0)), (1, .int x1), (2, .int x2), (3, .int x3), (4, .int x1), (5, .int (x1 + x2))]) dX5_tellPart_6 (by decide) rfl ?_
  refine kj_iconst (pc := 8) (v := (0 : Int32)) C dX5_tellPart_8 (by decide) ?_
  refine kj_istore (pc := 9) C [1, 2, 3, 4, 5, 6, 0] (L2 := [(0, .ref (b 0)), (1, .int x1), (2, .int x2), (3, .int x3), (4, .int x1), (5, .int (x1 + x2)), (6, .int (0 : Int32))]) dX5_tellPart_9 (by decide) rfl ?_
  exact hp11 kb_FU x1 x2 x3 x1 (x1 + x2) (0 : Int32) τ hf
def fn_X5_tell : Nat → Int32 → Int32 → Int32 → kb_S → Option kb_S
  | 0 => fun _ _ _ _ => none
  | d + 1 => fn_X5_tellPart (fn_X5_tellPiece (fn_X5_tell d))
def kb_rf : Nat → Nat
  | 0 => 12
  | d + 1 => kb_rf d + 1 + 1
def kb_rl : Nat → Nat
  | 0 => 260
  | d + 1 => kb_rl d + 40 + 40
theorem kb_rf12 : ∀ d, 12 ≤ kb_rf d
  | 0 => Nat.le_refl _
  | d + 1 => by have := kb_rf12 d; show 12 ≤ kb_rf d + 1 + 1; omega
theorem kb_rl260 : ∀ d, 260 ≤ kb_rl d
  | 0 => Nat.le_refl _
  | d + 1 => by have := kb_rl260 d; show 260 ≤ kb_rl d + 40 + 40; omega
theorem ct_X5_tell (l : Launch) (V : kb_V) (A : Nat → Prop) (b : Nat → Nat) (ex : va_W) : ∀ (d : Nat) (x1 x2 x3 : Int32) (τ τ9 : kb_S), fn_X5_tell d x1 x2 x3 τ = some τ9 → kb_T l yX5_tellPart cX5_tellPart 8 none ({ frames := kb_rf d, cells := 0, slots := 0, locals := kb_rl d } : Room) V A [.ref (b 0), .int x1, .int x2, .int x3] (kb_WS V b τ ex) none (kb_WS V b τ9 ex) 0 0
  | 0, _, _, _, _, _, h => kb_no h
  | d + 1, x1, x2, x3, τ, τ9, h => ct_X5_tellPart l V A (kb_rf d + 1) (kb_rl d + 40) (by have := kb_rf12 d; omega) (by have := kb_rl260 d; omega) b ex (fn_X5_tellPiece (fn_X5_tell d)) (fun y1 y2 y3 τ1 τ2 h1 => ct_X5_tellPiece l V A (kb_rf d) (kb_rl d) (kb_rf12 d) (kb_rl260 d) b ex (fn_X5_tell d) (fun z1 z2 z3 τ3 τ4 h2 => ct_X5_tell l V A b ex d z1 z2 z3 τ3 τ4 h2) y1 y2 y3 τ1 h1) x1 x2 x3 τ h
/-- a method of the fabric, over the world of Shortest ahead of the rest -/
theorem kb_Tsw {l : Launch} {y : MethodName} {cc : ByteArray} {nL : Nat} {ret : Option FieldType} {rm : Room} {V : kb_V} {A : Nat → Prop} {as : List Value} {a b : Nat → Nat} {σ τ : kb_S} {sh : Value} {ex : va_W} {o : Option Value} (h : kb_T l y cc nL ret rm V A as (kb_W V a σ sh (kb_WS V b τ ex)) o (kb_W V a σ sh (kb_WS V b τ ex)) 0 0) : kb_T l y cc nL ret rm V A as (kb_WS V b τ (kb_W V a σ sh ex)) o (kb_WS V b τ (kb_W V a σ sh ex)) 0 0 :=
  kb_Tperm (List.perm_append_comm_assoc (kb_WS V b τ []) (kb_W V a σ sh []) ex) h
def fp_X5_tellRow_67 (σ : kb_S)  : Nat → Int32 → kb_S → Option (kb_S × Int32)
  | 0 => fun _ _ => none
  | nn + 1 => fun x3 τ => 
  if x3 < (1 : Int32) then
    (fn_X5_countWords (kb_g τ 0) (kb_g τ 0) (0 : Int32) τ).bind fun q2 =>
    (fn_X5_tell 6 (0 : Int32) (kb_g q2 0) (0 : Int32) (kb_p q2 1 (0 : Int32))).bind fun q3 =>
    (fn_X5_words (0 : Int32) (kb_g q3 0) (0 : Int32) q3).bind fun q4 =>
    some (q3, q4)
  else
    (fn_X5_countWordsWithin x3 τ).bind fun q2 =>
    (fp_X5_tellRow_67 σ nn) (x3 + (-1 : Int32)) q2
theorem fp_X5_tellRow_67_s (σ : kb_S)  (nn : Nat) (x3 : Int32) (τ : kb_S) : fp_X5_tellRow_67 σ (nn + 1) x3 τ =
  if x3 < (1 : Int32) then
    (fn_X5_countWords (kb_g τ 0) (kb_g τ 0) (0 : Int32) τ).bind fun q2 =>
    (fn_X5_tell 6 (0 : Int32) (kb_g q2 0) (0 : Int32) (kb_p q2 1 (0 : Int32))).bind fun q3 =>
    (fn_X5_words (0 : Int32) (kb_g q3 0) (0 : Int32) q3).bind fun q4 =>
    some (q3, q4)
  else
    (fn_X5_countWordsWithin x3 τ).bind fun q2 =>
    (fp_X5_tellRow_67 σ nn) (x3 + (-1 : Int32)) q2 := rfl
def fp_X5_tellRow_44 (σ : kb_S)  : Nat → Int32 → kb_S → Option (kb_S × Int32)
  | 0 => fun _ _ => none
  | nn + 1 => fun x3 τ => 
  if ((kb_g τ 0) / (2 : Int32)) < x3 then
    fp_X5_tellRow_67 σ  kb_FU (3 : Int32) τ
  else
    (fn_X5_countSames x3 τ).bind fun q2 =>
    (fp_X5_tellRow_44 σ nn) (x3 + (1 : Int32)) q2
theorem fp_X5_tellRow_44_s (σ : kb_S)  (nn : Nat) (x3 : Int32) (τ : kb_S) : fp_X5_tellRow_44 σ (nn + 1) x3 τ =
  if ((kb_g τ 0) / (2 : Int32)) < x3 then
    fp_X5_tellRow_67 σ  kb_FU (3 : Int32) τ
  else
    (fn_X5_countSames x3 τ).bind fun q2 =>
    (fp_X5_tellRow_44 σ nn) (x3 + (1 : Int32)) q2 := rfl
def fp_X5_tellRow_16 (σ : kb_S)  : Nat → Int32 → Int32 → kb_S → Option (kb_S × Int32)
  | 0 => fun _ _ _ => none
  | nn + 1 => fun x2 x3 τ => 
  if (kb_g τ 0) ≤ x3 then
    fp_X5_tellRow_44 σ  kb_FU (1 : Int32) τ
  else
    (fn_X0_stitchAt x2 x3 σ).bind fun q2 =>
    if kb_in x3 80 = true then
      (fp_X5_tellRow_16 σ nn) x2 (x3 + (1 : Int32)) (kb_ap τ 2 x3.toNatClampNeg q2)
    else none
theorem fp_X5_tellRow_16_s (σ : kb_S)  (nn : Nat) (x2 : Int32) (x3 : Int32) (τ : kb_S) : fp_X5_tellRow_16 σ (nn + 1) x2 x3 τ =
  if (kb_g τ 0) ≤ x3 then
    fp_X5_tellRow_44 σ  kb_FU (1 : Int32) τ
  else
    (fn_X0_stitchAt x2 x3 σ).bind fun q2 =>
    if kb_in x3 80 = true then
      (fp_X5_tellRow_16 σ nn) x2 (x3 + (1 : Int32)) (kb_ap τ 2 x3.toNatClampNeg q2)
    else none := rfl
def fn_X5_tellRow (σ : kb_S) (x2 : Int32) (τ : kb_S) : Option (kb_S × Int32) :=
  (fn_X0_stitchCount x2 σ).bind fun q1 =>
  fp_X5_tellRow_16 σ  kb_FU x2 (0 : Int32) (kb_p τ 0 (if (80 : Int32) < q1 then (80 : Int32) else q1))
theorem fe_X5_tellRow (σ : kb_S) (x2 : Int32) (τ : kb_S) : fn_X5_tellRow σ x2 τ =
  (fn_X0_stitchCount x2 σ).bind fun q1 =>
  fp_X5_tellRow_16 σ  kb_FU x2 (0 : Int32) (kb_p τ 0 (if (80 : Int32) < q1 then (80 : Int32) else q1)) := rfl
theorem hd_X5_tellRow : yX5_tellRow.cls = RX5 ∧ yX5_tellRow.cls ≠ "java/lang/invoke/MethodHandle" ∧ yX5_tellRow.cls ≠ "java/lang/invoke/VarHandle" ∧ (parseMethodDescriptor yX5_tellRow.desc).map (fun d => d.parameters.length) = some 2 := by decide +kernel
set_option maxRecDepth 100000 in
set_option maxHeartbeats 4000000 in
theorem ct_X5_tellRow (l : Launch) (V : kb_V) (A : Nat → Prop)  (x2 : Int32) (b : Nat → Nat) (τ : kb_S) (a : Nat → Nat) (σ : kb_S) (sh : Value) (ex : va_W) {τ9 : kb_S} {r : Int32} (hf : fn_X5_tellRow σ x2 τ = some (τ9, r)) : kb_T l yX5_tellRow cX5_tellRow 4 (some .int) ({ frames := 25, cells := 0, slots := 0, locals := 767 } : Room) V A [.ref (b 0), .ref (a 2), .int x2] (kb_WS V b τ (kb_W V a σ sh ex)) (some (.int r)) (kb_WS V b τ9 (kb_W V a σ sh ex)) 0 0 := by
  refine kb_start (cc := cX5_tellRow) (nL := 4) (ret := (some .int)) (own := RX5) (by decide) rfl (Nat.le_of_ble_eq_true rfl) ?_
  intro p e s m args below meth c C
  have hp67 : ∀ (nn : Nat) (x3 : Int32) (τ : kb_S), fp_X5_tellRow_67 σ  nn x3 τ = some (τ9, r) → kb_J p l e ({ frames := 25, cells := 0, slots := 0, locals := 767 } : Room) s m args below meth c 4 V A 0 0 (MQ below (kb_post V A (some (.int r)) (kb_WS V b τ9 (kb_W V a σ sh ex))) args s 0 0 A) 67 [(0, .ref (b 0)), (3, .int x3)] [] (kb_WS V b τ (kb_W V a σ sh ex)) := by
    intro nn67
    induction nn67 with
    | zero => intro x3 τ hf; exact kb_no hf
    | succ nn67 ih67 =>
      intro x3 τ hf
      rw [fp_X5_tellRow_67_s] at hf
      refine kj_iload_n (pc := 67) C 1 dX5_tellRow_67 rfl rfl ?_
      refine kj_iconst (pc := 68) (v := (1 : Int32)) C dX5_tellRow_68 (by decide) ?_
      refine kj_icmp_lt (pc := 69) 83 C dX5_tellRow_69 (by decide) (fun c1 => ?_) (fun c1 => ?_)
      · have hf := kb_ift hf c1
        refine kj_aload_n (pc := 83) C 0 dX5_tellRow_83 rfl rfl ?_
        refine kj_aload_n (pc := 84) C 0 dX5_tellRow_84 rfl rfl ?_
        refine kg_X5_count (pc := 85) (v := (kb_g τ 0)) C wf_X5_38 dX5_tellRow_85 rfl ?_
        refine kj_aload_n (pc := 88) C 0 dX5_tellRow_88 rfl rfl ?_
        refine kg_X5_count (pc := 89) (v := (kb_g τ 0)) C wf_X5_38 dX5_tellRow_89 rfl ?_
        refine kj_iconst (pc := 92) (v := (0 : Int32)) C dX5_tellRow_92 (by decide) ?_
        obtain ⟨q2, hq2, hf⟩ := kb_bd hf
        refine kj_callV0 (pc := 93) (as := [.int (kb_g τ 0), .int (kb_g τ 0), .int (0 : Int32)]) (rest := []) (b := (b 0)) C (ct_X5_countWords l V A (kb_g τ 0) (kb_g τ 0) (0 : Int32) b τ (kb_W V a σ sh ex) hq2) wd_X5_countWords wk_X5_51 wi_X5_countWords ws_X5_countWords wz_X5 rfl rfl hd_X5_countWords ⟨by decide, by decide⟩ 0 rfl rfl rfl rfl (Nat.le_of_ble_eq_true rfl) (by decide) dX5_tellRow_93 ?_
        refine kj_aload_n (pc := 96) C 0 dX5_tellRow_96 rfl rfl ?_
        refine kj_iconst (pc := 97) (v := (0 : Int32)) C dX5_tellRow_97 (by decide) ?_
        refine kp_X5_length (pc := 98) C wf_X5_24 dX5_tellRow_98 ?_
        refine kj_aload_n (pc := 101) C 0 dX5_tellRow_101 rfl rfl ?_
        refine kj_iconst (pc := 102) (v := (0 : Int32)) C dX5_tellRow_102 (by decide) ?_
        refine kj_aload_n (pc := 103) C 0 dX5_tellRow_103 rfl rfl ?_
        refine kg_X5_count (pc := 104) (v := (kb_g q2 0)) C wf_X5_38 dX5_tellRow_104 rfl ?_
        refine kj_iconst (pc := 107) (v := (0 : Int32)) C dX5_tellRow_107 (by decide) ?_
        obtain ⟨q3, hq3, hf⟩ := kb_bd hf
        refine kj_callV0 (pc := 108) (as := [.int (0 : Int32), .int (kb_g q2 0), .int (0 : Int32)]) (rest := []) (b := (b 0)) C (ct_X5_tell l V A b (kb_W V a σ sh ex) 6 (0 : Int32) (kb_g q2 0) (0 : Int32) (kb_p q2 1 (0 : Int32)) _ hq3) wd_X5_tellPart wk_X5_55 wi_X5_tellPart ws_X5_tellPart wz_X5 rfl rfl hd_X5_tellPart ⟨by decide, by decide⟩ 0 rfl rfl rfl rfl (Nat.le_of_ble_eq_true rfl) (by decide) dX5_tellRow_108 ?_
        refine kj_aload_n (pc := 111) C 0 dX5_tellRow_111 rfl rfl ?_
        refine kj_iconst (pc := 112) (v := (0 : Int32)) C dX5_tellRow_112 (by decide) ?_
        refine kj_aload_n (pc := 113) C 0 dX5_tellRow_113 rfl rfl ?_
        refine kg_X5_count (pc := 114) (v := (kb_g q3 0)) C wf_X5_38 dX5_tellRow_114 rfl ?_
        refine kj_iconst (pc := 117) (v := (0 : Int32)) C dX5_tellRow_117 (by decide) ?_
        obtain ⟨q4, hq4, hf⟩ := kb_bd hf
        refine kj_callV0 (pc := 118) (as := [.int (0 : Int32), .int (kb_g q3 0), .int (0 : Int32)]) (rest := []) (b := (b 0)) C (ct_X5_words l V A (0 : Int32) (kb_g q3 0) (0 : Int32) b q3 (kb_W V a σ sh ex) hq4) wd_X5_words wk_X5_58 wi_X5_words ws_X5_words wz_X5 rfl rfl hd_X5_words ⟨by decide, by decide⟩ 0 rfl rfl rfl rfl (Nat.le_of_ble_eq_true rfl) (by decide) dX5_tellRow_118 ?_
        cases hf
        exact kj_iret (pc := 121) C dX5_tellRow_121
      · have hf := kb_ife hf c1
        refine kj_aload_n (pc := 72) C 0 dX5_tellRow_72 rfl rfl ?_
        refine kj_iload_n (pc := 73) C 1 dX5_tellRow_73 rfl rfl ?_
        obtain ⟨q2, hq2, hf⟩ := kb_bd hf
        refine kj_callV0 (pc := 74) (as := [.int x3]) (rest := []) (b := (b 0)) C (ct_X5_countWordsWithin l V A x3 b τ (kb_W V a σ sh ex) hq2) wd_X5_countWordsWithin wk_X5_48 wi_X5_countWordsWithin ws_X5_countWordsWithin wz_X5 rfl rfl hd_X5_countWordsWithin ⟨by decide, by decide⟩ 0 rfl rfl rfl rfl (Nat.le_of_ble_eq_true rfl) (by decide) dX5_tellRow_74 ?_
        refine kj_iinc (pc := 77) C 1 [1, 0] (L2 := [(0, .ref (b 0)), (3, .int (x3 + (-1 : Int32)))]) dX5_tellRow_77 rfl rfl (by decide) rfl ?_
        refine kj_goto (pc := 80) 67 C dX5_tellRow_80 (by decide) ?_
        exact ih67 (x3 + (-1 : Int32)) q2 hf
  have hp44 : ∀ (nn : Nat) (x3 : Int32) (τ : kb_S), fp_X5_tellRow_44 σ  nn x3 τ = some (τ9, r) → kb_J p l e ({ frames := 25, cells := 0, slots := 0, locals := 767 } : Room) s m args below meth c 4 V A 0 0 (MQ below (kb_post V A (some (.int r)) (kb_WS V b τ9 (kb_W V a σ sh ex))) args s 0 0 A) 44 [(0, .ref (b 0)), (3, .int x3)] [] (kb_WS V b τ (kb_W V a σ sh ex)) := by
    intro nn44
    induction nn44 with
    | zero => intro x3 τ hf; exact kb_no hf
    | succ nn44 ih44 =>
      intro x3 τ hf
      rw [fp_X5_tellRow_44_s] at hf
      refine kj_iload_n (pc := 44) C 1 dX5_tellRow_44 rfl rfl ?_
      refine kj_aload_n (pc := 45) C 0 dX5_tellRow_45 rfl rfl ?_
      refine kg_X5_count (pc := 46) (v := (kb_g τ 0)) C wf_X5_38 dX5_tellRow_46 rfl ?_
      refine kj_iconst (pc := 49) (v := (2 : Int32)) C dX5_tellRow_49 (by decide) ?_
      refine kj_idiv (pc := 50) C dX5_tellRow_50 (by decide) ?_
      refine kj_icmp_gt (pc := 51) 65 C dX5_tellRow_51 (by decide) (fun c1 => ?_) (fun c1 => ?_)
      · have hf := kb_ift hf c1
        refine kj_iconst (pc := 65) (v := (3 : Int32)) C dX5_tellRow_65 (by decide) ?_
        refine kj_istore_n (pc := 66) C [1, 0] (L2 := [(0, .ref (b 0)), (3, .int (3 : Int32))]) dX5_tellRow_66 rfl (by decide) rfl ?_
        exact hp67 kb_FU (3 : Int32) τ hf
      · have hf := kb_ife hf c1
        refine kj_aload_n (pc := 54) C 0 dX5_tellRow_54 rfl rfl ?_
        refine kj_iload_n (pc := 55) C 1 dX5_tellRow_55 rfl rfl ?_
        obtain ⟨q2, hq2, hf⟩ := kb_bd hf
        refine kj_callV0 (pc := 56) (as := [.int x3]) (rest := []) (b := (b 0)) C (ct_X5_countSames l V A x3 b τ (kb_W V a σ sh ex) hq2) wd_X5_countSames wk_X5_44 wi_X5_countSames ws_X5_countSames wz_X5 rfl rfl hd_X5_countSames ⟨by decide, by decide⟩ 0 rfl rfl rfl rfl (Nat.le_of_ble_eq_true rfl) (by decide) dX5_tellRow_56 ?_
        refine kj_iinc (pc := 59) C 1 [1, 0] (L2 := [(0, .ref (b 0)), (3, .int (x3 + (1 : Int32)))]) dX5_tellRow_59 rfl rfl (by decide) rfl ?_
        refine kj_goto (pc := 62) 44 C dX5_tellRow_62 (by decide) ?_
        exact ih44 (x3 + (1 : Int32)) q2 hf
  have hp16 : ∀ (nn : Nat) (x2 : Int32) (x3 : Int32) (τ : kb_S), fp_X5_tellRow_16 σ  nn x2 x3 τ = some (τ9, r) → kb_J p l e ({ frames := 25, cells := 0, slots := 0, locals := 767 } : Room) s m args below meth c 4 V A 0 0 (MQ below (kb_post V A (some (.int r)) (kb_WS V b τ9 (kb_W V a σ sh ex))) args s 0 0 A) 16 [(0, .ref (b 0)), (1, .ref (a 2)), (2, .int x2), (3, .int x3)] [] (kb_WS V b τ (kb_W V a σ sh ex)) := by
    intro nn16
    induction nn16 with
    | zero => intro x2 x3 τ hf; exact kb_no hf
    | succ nn16 ih16 =>
      intro x2 x3 τ hf
      rw [fp_X5_tellRow_16_s] at hf
      refine kj_iload_n (pc := 16) C 3 dX5_tellRow_16 rfl rfl ?_
      refine kj_aload_n (pc := 17) C 0 dX5_tellRow_17 rfl rfl ?_
      refine kg_X5_count (pc := 18) (v := (kb_g τ 0)) C wf_X5_38 dX5_tellRow_18 rfl ?_
      refine kj_icmp_ge (pc := 21) 42 C dX5_tellRow_21 (by decide) (fun c1 => ?_) (fun c1 => ?_)
      · have hf := kb_ift hf c1
        refine kj_iconst (pc := 42) (v := (1 : Int32)) C dX5_tellRow_42 (by decide) ?_
        refine kj_istore_n (pc := 43) C [1, 2, 3, 0] (L2 := [(0, .ref (b 0)), (1, .ref (a 2)), (2, .int x2), (3, .int (1 : Int32))]) dX5_tellRow_43 rfl (by decide) rfl ?_
        refine kj_sub [0, 3] (L2 := [(0, .ref (b 0)), (3, .int (1 : Int32))]) rfl ?_
        exact hp44 kb_FU (1 : Int32) τ hf
      · have hf := kb_ife hf c1
        refine kj_aload_n (pc := 24) C 0 dX5_tellRow_24 rfl rfl ?_
        refine kg_X5_stitches (pc := 25) C wf_X5_18 dX5_tellRow_25 ?_
        refine kj_iload_n (pc := 28) C 3 dX5_tellRow_28 rfl rfl ?_
        refine kj_aload_n (pc := 29) C 1 dX5_tellRow_29 rfl rfl ?_
        refine kj_iload_n (pc := 30) C 2 dX5_tellRow_30 rfl rfl ?_
        refine kj_iload_n (pc := 31) C 3 dX5_tellRow_31 rfl rfl ?_
        obtain ⟨q2, hq2, hf⟩ := kb_bd hf
        refine kj_callV0 (pc := 32) (as := [.int x2, .int x3]) (rest := [.int x3, .ref (b 3)]) (b := (a 2)) C (kb_Tsw (ct_X0_stitchAt l V A x2 x3 a σ sh (kb_WS V b τ ex) hq2)) wd_X0_stitchAt wk_X5_41 wi_X0_stitchAt ws_X0_stitchAt wz_X0 rfl rfl hd_X0_stitchAt ⟨by decide, by decide⟩ 7 rfl rfl rfl rfl (Nat.le_of_ble_eq_true rfl) (by decide) dX5_tellRow_32 ?_
        obtain ⟨g3, hf⟩ := kb_gd hf
        refine ks_X5_stitches (pc := 35) C g3 dX5_tellRow_35 ?_
        refine kj_iinc (pc := 36) C 3 [1, 2, 3, 0] (L2 := [(0, .ref (b 0)), (1, .ref (a 2)), (2, .int x2), (3, .int (x3 + (1 : Int32)))]) dX5_tellRow_36 rfl rfl (by decide) rfl ?_
        refine kj_goto (pc := 39) 16 C dX5_tellRow_39 (by decide) ?_
        exact ih16 x2 (x3 + (1 : Int32)) (kb_ap τ 2 x3.toNatClampNeg q2) hf
  refine kj_sub [0, 1, 2] (L2 := [(0, .ref (b 0)), (1, .ref (a 2)), (2, .int x2)]) rfl ?_
  rw [fe_X5_tellRow] at hf
  refine kj_aload_n (pc := 0) C 0 dX5_tellRow_0 rfl rfl ?_
  refine kj_aload_n (pc := 1) C 1 dX5_tellRow_1 rfl rfl ?_
  refine kj_iload_n (pc := 2) C 2 dX5_tellRow_2 rfl rfl ?_
  obtain ⟨q1, hq1, hf⟩ := kb_bd hf
  refine kj_callV0 (pc := 3) (as := [.int x2]) (rest := [.ref (b 0)]) (b := (a 2)) C (kb_Tsw (ct_X0_stitchCount l V A x2 a σ sh (kb_WS V b τ ex) hq1)) wd_X0_stitchCount wk_X5_28 wi_X0_stitchCount ws_X0_stitchCount wz_X0 rfl rfl hd_X0_stitchCount ⟨by decide, by decide⟩ 7 rfl rfl rfl rfl (Nat.le_of_ble_eq_true rfl) (by decide) dX5_tellRow_3 ?_
  refine kj_bipush (pc := 6) (v := (80 : Int32)) C dX5_tellRow_6 (by decide) ?_
  refine kj_mmin (pc := 8) C wk_X5_32 wi_Mmin wz_Math wd_Mmin (by decide) (Nat.le_of_ble_eq_true rfl) (by decide) dX5_tellRow_8 ?_
  refine kp_X5_count (pc := 11) C wf_X5_38 dX5_tellRow_11 ?_
  refine kj_iconst (pc := 14) (v := (0 : Int32)) C dX5_tellRow_14 (by decide) ?_
  refine kj_istore_n (pc := 15) C [1, 2, 3, 0] (L2 := [(0, .ref (b 0)), (1, .ref (a 2)), (2, .int x2), (3, .int (0 : Int32))]) dX5_tellRow_15 rfl (by decide) rfl ?_
  exact hp16 kb_FU x2 (0 : Int32) (kb_p τ 0 (if (80 : Int32) < q1 then (80 : Int32) else q1)) hf
