/-! begin, out, shorten: the methods that look at Shortest -/
section KBN
variable {p : Program} {l : Launch} {e : Env} {R : Room} {s : State} {m : MethodId} {args : Array Value} {below : List Frame} {meth : Method} {c : Code} {k n : Nat} {Q : State → Prop}
variable {cc : ByteArray} {nL : Nat} {own : String} {w0 : Cond} {ret : Option FieldType} {V : kb_V} {A : Nat → Prop} {pc : Nat} {L : List (Nat × Value)} {st : List Value} {ws : va_W}
theorem kj_ifnull {x : Nat} {off : Int} (C : kb_C p s m args meth c cc nL own w0 ret V A) (d : decode cc pc = .ok (.ifnull off, 3)) (K : kb_J p l e R s m args below meth c nL V A k n Q (pc + 3) L st ws) : kb_J p l e R s m args below meth c nL V A k n Q pc L (.ref x :: st) ws :=
  fun H locs ls hP hD hS hl => lv_ifnull C.1.1 C.1.2.1 d (K H locs ls hP hD hS hl)
theorem kj_ifnonnull {x : Nat} {off : Int} (tgt : Nat) (C : kb_C p s m args meth c cc nL own w0 ret V A) (d : decode cc pc = .ok (.ifnonnull off, 3)) (ht : (pc : Int) + off = (tgt : Int)) (K : kb_J p l e R s m args below meth c nL V A k n Q tgt L st ws) : kb_J p l e R s m args below meth c nL V A k n Q pc L (.ref x :: st) ws :=
  fun H locs ls hP hD hS hl => lv_ifnonnull C.1.1 C.1.2.1 d ht (K H locs ls hP hD hS hl)
theorem kj_ifnullN {off : Int} (tgt : Nat) (C : kb_C p s m args meth c cc nL own w0 ret V A) (d : decode cc pc = .ok (.ifnull off, 3)) (ht : (pc : Int) + off = (tgt : Int)) (K : kb_J p l e R s m args below meth c nL V A k n Q tgt L st ws) : kb_J p l e R s m args below meth c nL V A k n Q pc L (.null :: st) ws :=
  fun H locs ls hP hD hS hl => lv_ifnullN C.1.1 C.1.2.1 d ht (K H locs ls hP hD hS hl)
theorem kj_ifnonnullN {off : Int} (C : kb_C p s m args meth c cc nL own w0 ret V A) (d : decode cc pc = .ok (.ifnonnull off, 3)) (K : kb_J p l e R s m args below meth c nL V A k n Q (pc + 3) L st ws) : kb_J p l e R s m args below meth c nL V A k n Q pc L (.null :: st) ws :=
  fun H locs ls hP hD hS hl => lv_ifnonnullN C.1.1 C.1.2.1 d (K H locs ls hP hD hS hl)
/-- a method that answers o, and whose new cells' addresses come with it -/
def kb_postN {α : Type} (V : kb_V) (A : Nat → Prop) (o : Option Value) (W' : α → va_W) : Array Value → State → Outcome → State → Prop := fun _ st oc t => oc = .returned o ∧ (∃ u : α, va_P V.1 vwCl (W' u) t.heap ∧ va_D A (W' u)) ∧ va_F A st t
def kb_TN {α : Type} (l : Launch) (y : MethodName) (cc : ByteArray) (nL : Nat) (ret : Option FieldType) (rm : Room) (V : kb_V) (A : Nat → Prop) (as : List Value) (W : va_W) (o : Option Value) (W' : α → va_W) (mc ms : Nat) : Prop :=
  Met l y (Cond.code y cc nL ret :: kb_TB) rm (va_Pc as (kb_pre V A W)) (kb_postN V A o W') mc ms A
theorem kb_startN {α : Type} {y : MethodName} {rm : Room} {as : List Value} {W0 : va_W} {W1 : α → va_W} {o : Option Value} {mc ms : Nat} (hy : plainName y.cls = true) (ho : y.cls = own) (hn : (lg_sl as).length ≤ nL)
    (body : ∀ (p : Program) (e : Env) (s : State) (m : MethodId) (args : Array Value) (below : List Frame) (meth : Method) (c : Code), kb_C p s m args meth c cc nL own (Cond.code y cc nL ret) ret V A → kb_J p l e rm s m args below meth c nL V A 0 0 (MQ below (kb_postN V A o W1) args s mc ms A) 0 (lv_args 0 as) [] W0) :
    kb_TN l y cc nL ret rm V A as W0 o W1 mc ms := by
  refine Met.ofW (cc := cc) (maxL := nL) (ret := ret) hy rfl ?_
  intro p e s m args below meth c s₁ B hml hv
  obtain ⟨rfl, hE, hP, hD, hA⟩ := hv
  have hts := atoms_spec (ws := Cond.code y cc nL ret :: kb_TB) B.pre
  have hown : s.vm.findClass own = some m.cls := by rw [← ho]; exact findClass_of_methodNamed B.named
  have hl := lv_entry as (n := nL) hn
  rw [lg_entry_eq]
  exact body p e s m _ below meth c ⟨⟨B.exec, B.bytes, hml, hown, hts⟩, hE, hA, B.returns, B.notSynchronized⟩ s.heap [] _ hP hD va_S.rf hl
theorem kj_iretN {α : Type} {W1 : α → va_W} {v : Int32} (u : α) (C : kb_C p s m args meth c cc nL own w0 (some .int) V A) (d : decode cc pc = .ok (.ireturn, 1)) : kb_J p l e R s m args below meth c nL V A k n (MQ below (kb_postN V A (some (.int v)) W1) args s k n A) pc L [.int v] (W1 u) :=
  fun H locs ls hP hD hS hl => W.iret C.1.1 C.1.2.1 C.2.2.2.1 (fun t ht hW => ⟨rfl, ⟨u, by rw [ht]; exact hP, hD⟩, hS.F ht⟩) hS.2.2 d C.2.2.2.2
end KBN
theorem kb_pKS {V : kb_V} {a b : Nat → Nat} {σ τ : kb_S} {sh : Value} {ex : va_W} : (kb_W V a σ sh (kb_WS V b τ ex)).Perm (kb_WS V b τ (kb_W V a σ sh ex)) := List.perm_append_comm_assoc (kb_W V a σ sh []) (kb_WS V b τ []) ex
theorem hd_X8_begin : yX8_begin.cls = RX8 ∧ yX8_begin.cls ≠ "java/lang/invoke/MethodHandle" ∧ yX8_begin.cls ≠ "java/lang/invoke/VarHandle" ∧ (parseMethodDescriptor yX8_begin.desc).map (fun d => d.parameters.length) = some 2 := by decide +kernel
theorem hd_X8_out : yX8_out.cls = RX8 ∧ yX8_out.cls ≠ "java/lang/invoke/MethodHandle" ∧ yX8_out.cls ≠ "java/lang/invoke/VarHandle" ∧ (parseMethodDescriptor yX8_out.desc).map (fun d => d.parameters.length) = some 1 := by decide +kernel
theorem hd_X8_shorten : yX8_shorten.cls = RX8 ∧ yX8_shorten.cls ≠ "java/lang/invoke/MethodHandle" ∧ yX8_shorten.cls ≠ "java/lang/invoke/VarHandle" ∧ (parseMethodDescriptor yX8_shorten.desc).map (fun d => d.parameters.length) = some 1 := by decide +kernel
set_option maxRecDepth 100000 in
set_option maxHeartbeats 4000000 in
theorem ct_X8_begin0 (l : Launch) (V : kb_V) (A : Nat → Prop) (x1 x2 : Int32) (a : Nat → Nat) (σ : kb_S) (ex : va_W) {σ9 : kb_S} (h1 : ¬ x1 < 1) (h2 : x1 ≤ 40) (hf : fn_X0_castOn x1 x2 σ = some σ9) : kb_T l yX8_begin cX8_begin 3 none ({ frames := 3, cells := 0, slots := 0, locals := 70 } : Room) V A [.ref (a 0), .int x1, .int x2] (kb_W V a σ .null ex) none (kb_W V a σ9 .null ex) 0 0 := by
  refine kb_start (cc := cX8_begin) (nL := 3) (ret := none) (own := RX8) (by decide) rfl (Nat.le_of_ble_eq_true rfl) ?_
  intro p e s m args below meth c C
  refine kj_sub [0, 1, 2] (L2 := [(0, .ref (a 0)), (1, .int x1), (2, .int x2)]) rfl ?_
  refine kj_iload_n (pc := 0) C 1 dX8_begin_0 rfl rfl ?_
  refine kj_iconst (pc := 1) (v := 1) C dX8_begin_1 (by decide) ?_
  refine kj_icmp_lt (pc := 2) 11 C dX8_begin_2 (by decide) (fun c1 => absurd c1 h1) (fun _ => ?_)
  refine kj_iload_n (pc := 5) C 1 dX8_begin_5 rfl rfl ?_
  refine kj_bipush (pc := 6) (v := 40) C dX8_begin_6 (by decide) ?_
  refine kj_icmp_le (pc := 8) 21 C dX8_begin_8 (by decide) (fun _ => ?_) (fun c1 => absurd h2 c1)
  refine kj_aload_n (pc := 21) C 0 dX8_begin_21 rfl rfl ?_
  refine kg_X8_fabric (pc := 22) C wf_X8_22 dX8_begin_22 ?_
  refine kj_iload_n (pc := 25) C 1 dX8_begin_25 rfl rfl ?_
  refine kj_iload_n (pc := 26) C 2 dX8_begin_26 rfl rfl ?_
  refine kj_callV0 (pc := 27) (as := [.int x1, .int x2]) (rest := []) (b := a 2) C (ct_X0_castOn l V A x1 x2 a σ .null ex hf) wd_X0_castOn wk_X8_44 wi_X0_castOn ws_X0_castOn wz_X0 rfl rfl hd_X0_castOn ⟨by decide, by decide⟩ 2 rfl rfl rfl rfl (Nat.le_of_ble_eq_true rfl) (by decide) dX8_begin_27 ?_
  refine kj_aload_n (pc := 30) C 0 dX8_begin_30 rfl rfl ?_
  refine kg_X8_shortest (pc := 31) C wf_X8_55 dX8_begin_31 ?_
  refine kj_ifnullN (pc := 34) 44 C dX8_begin_34 (by decide) ?_
  exact kj_vret (pc := 44) C dX8_begin_44
set_option maxRecDepth 100000 in
set_option maxHeartbeats 4000000 in
theorem ct_X8_begin1 (l : Launch) (V : kb_V) (A : Nat → Prop) (x1 x2 : Int32) (a b : Nat → Nat) (σ τ : kb_S) (ex : va_W) {σ9 τ9 : kb_S} (h1 : ¬ x1 < 1) (h2 : x1 ≤ 40) (hf : fn_X0_castOn x1 x2 σ = some σ9) (hg : fn_X5_forget τ = some τ9) : kb_T l yX8_begin cX8_begin 3 none ({ frames := 3, cells := 0, slots := 0, locals := 70 } : Room) V A [.ref (a 0), .int x1, .int x2] (kb_W V a σ (.ref (b 0)) (kb_WS V b τ ex)) none (kb_W V a σ9 (.ref (b 0)) (kb_WS V b τ9 ex)) 0 0 := by
  refine kb_start (cc := cX8_begin) (nL := 3) (ret := none) (own := RX8) (by decide) rfl (Nat.le_of_ble_eq_true rfl) ?_
  intro p e s m args below meth c C
  refine kj_sub [0, 1, 2] (L2 := [(0, .ref (a 0)), (1, .int x1), (2, .int x2)]) rfl ?_
  refine kj_iload_n (pc := 0) C 1 dX8_begin_0 rfl rfl ?_
  refine kj_iconst (pc := 1) (v := 1) C dX8_begin_1 (by decide) ?_
  refine kj_icmp_lt (pc := 2) 11 C dX8_begin_2 (by decide) (fun c1 => absurd c1 h1) (fun _ => ?_)
  refine kj_iload_n (pc := 5) C 1 dX8_begin_5 rfl rfl ?_
  refine kj_bipush (pc := 6) (v := 40) C dX8_begin_6 (by decide) ?_
  refine kj_icmp_le (pc := 8) 21 C dX8_begin_8 (by decide) (fun _ => ?_) (fun c1 => absurd h2 c1)
  refine kj_aload_n (pc := 21) C 0 dX8_begin_21 rfl rfl ?_
  refine kg_X8_fabric (pc := 22) C wf_X8_22 dX8_begin_22 ?_
  refine kj_iload_n (pc := 25) C 1 dX8_begin_25 rfl rfl ?_
  refine kj_iload_n (pc := 26) C 2 dX8_begin_26 rfl rfl ?_
  refine kj_callV0 (pc := 27) (as := [.int x1, .int x2]) (rest := []) (b := a 2) C (ct_X0_castOn l V A x1 x2 a σ (.ref (b 0)) (kb_WS V b τ ex) hf) wd_X0_castOn wk_X8_44 wi_X0_castOn ws_X0_castOn wz_X0 rfl rfl hd_X0_castOn ⟨by decide, by decide⟩ 2 rfl rfl rfl rfl (Nat.le_of_ble_eq_true rfl) (by decide) dX8_begin_27 ?_
  refine kj_aload_n (pc := 30) C 0 dX8_begin_30 rfl rfl ?_
  refine kg_X8_shortest (pc := 31) C wf_X8_55 dX8_begin_31 ?_
  refine kj_ifnull (pc := 34) C dX8_begin_34 ?_
  refine kj_aload_n (pc := 37) C 0 dX8_begin_37 rfl rfl ?_
  refine kg_X8_shortest (pc := 38) C wf_X8_55 dX8_begin_38 ?_
  refine kj_perm kb_pKS ?_
  refine kj_callV0 (pc := 41) (as := []) (rest := []) (b := b 0) C (ct_X5_forget l V A b τ (kb_W V a σ9 (.ref (b 0)) ex) hg) wd_X5_forget wk_X8_59 wi_X5_forget ws_X5_forget wz_X5 rfl rfl hd_X5_forget ⟨by decide, by decide⟩ 0 rfl rfl rfl rfl (Nat.le_of_ble_eq_true rfl) (by decide) dX8_begin_41 ?_
  refine kj_perm kb_pKS.symm ?_
  exact kj_vret (pc := 44) C dX8_begin_44
set_option maxRecDepth 100000 in
set_option maxHeartbeats 4000000 in
theorem cx_X8_begin (l : Launch) (V : kb_V) (A : Nat → Prop) (x1 x2 : Int32) (a : Nat → Nat) (σ : kb_S) (sh : Value) (ex : va_W) (hl : l.stackTraces = false) (hx : x1 < 1 ∨ ¬ x1 ≤ 40) : kb_TX l yX8_begin cX8_begin 3 none ({ frames := 9, cells := 1, slots := 6, locals := 200 } : Room) V A [.ref (a 0), .int x1, .int x2] (kb_W V a σ sh ex) (kb_EN 1) (kb_W V a σ sh ex) 1 6 := by
  refine kb_startX (cc := cX8_begin) (nL := 3) (ret := none) (own := RX8) (by decide) rfl (Nat.le_of_ble_eq_true rfl) ?_
  intro p e s m args below meth c C htb
  refine kj_sub [0, 1, 2] (L2 := [(0, .ref (a 0)), (1, .int x1), (2, .int x2)]) rfl ?_
  have hT : kb_J p l e ({ frames := 9, cells := 1, slots := 6, locals := 200 } : Room) s m args below meth c 3 V A 0 0 (vx_MQ below (fun _ _ _ _ => False) (kb_XC V A (kb_EN 1) (kb_W V a σ sh ex)) args s 1 6 A) 11 [(0, .ref (a 0)), (1, .int x1), (2, .int x2)] [] (kb_W V a σ sh ex) :=
    kj_throw (pc := 11) (cls := "java/lang/IllegalArgumentException") (text := "loops are 1 .. 40") (names := ["java/lang/RuntimeException", "java/lang/Exception"]) (ik := 48) (is := 50) (ic := 52) (sa := 70) C hl htb (by decide +kernel) (by decide +kernel) wq_X8_48 wz_IllegalArgumentException (by decide +kernel) (kb_hat1 C) kb_hgd1 dX8_begin_11 dX8_begin_14 dX8_begin_15 dX8_begin_17 dX8_begin_20 (by decide) (Nat.le_of_ble_eq_true rfl) ⟨by decide, by decide⟩ (by decide) (by decide)
  refine kj_iload_n (pc := 0) C 1 dX8_begin_0 rfl rfl ?_
  refine kj_iconst (pc := 1) (v := 1) C dX8_begin_1 (by decide) ?_
  refine kj_icmp_lt (pc := 2) 11 C dX8_begin_2 (by decide) (fun c1 => hT) (fun c1 => ?_)
  refine kj_iload_n (pc := 5) C 1 dX8_begin_5 rfl rfl ?_
  refine kj_bipush (pc := 6) (v := 40) C dX8_begin_6 (by decide) ?_
  refine kj_icmp_le (pc := 8) 21 C dX8_begin_8 (by decide) (fun c2 => ?_) (fun c2 => hT)
  exact (hx.elim (fun h => c1 h) (fun h => h c2)).elim
set_option maxRecDepth 100000 in
set_option maxHeartbeats 4000000 in
theorem ct_X8_out0 (l : Launch) (V : kb_V) (A : Nat → Prop) (x1 : Int32) (a : Nat → Nat) (σ : kb_S) (ex : va_W) (h1 : 0 ≤ x1) : kb_T l yX8_out cX8_out 2 (some .int) ({ frames := 3, cells := 0, slots := 0, locals := 70 } : Room) V A [.ref (a 0), .int x1] (kb_W V a σ .null ex) (some (.int (-1))) (kb_W V a σ .null ex) 0 0 := by
  refine kb_start (cc := cX8_out) (nL := 2) (ret := some .int) (own := RX8) (by decide) rfl (Nat.le_of_ble_eq_true rfl) ?_
  intro p e s m args below meth c C
  refine kj_sub [0, 1] (L2 := [(0, .ref (a 0)), (1, .int x1)]) rfl ?_
  refine kj_iload_n (pc := 0) C 1 dX8_out_0 rfl rfl ?_
  refine kj_if_ge (pc := 1) 14 C dX8_out_1 (by decide) (fun _ => ?_) (fun c1 => absurd h1 c1)
  refine kj_aload_n (pc := 14) C 0 dX8_out_14 rfl rfl ?_
  refine kg_X8_shortest (pc := 15) C wf_X8_55 dX8_out_15 ?_
  refine kj_ifnonnullN (pc := 18) C dX8_out_18 ?_
  refine kj_iconst (pc := 21) (v := -1) C dX8_out_21 (by decide) ?_
  refine kj_goto (pc := 22) 33 C dX8_out_22 (by decide) ?_
  exact kj_iret (pc := 33) C dX8_out_33
set_option maxRecDepth 100000 in
set_option maxHeartbeats 4000000 in
theorem ct_X8_out1 (l : Launch) (V : kb_V) (A : Nat → Prop) (x1 : Int32) (a b : Nat → Nat) (σ τ : kb_S) (ex : va_W) {r : Int32} (h1 : 0 ≤ x1) (hf : fn_X5_byteAt x1 τ = some r) : kb_T l yX8_out cX8_out 2 (some .int) ({ frames := 3, cells := 0, slots := 0, locals := 70 } : Room) V A [.ref (a 0), .int x1] (kb_W V a σ (.ref (b 0)) (kb_WS V b τ ex)) (some (.int r)) (kb_W V a σ (.ref (b 0)) (kb_WS V b τ ex)) 0 0 := by
  refine kb_start (cc := cX8_out) (nL := 2) (ret := some .int) (own := RX8) (by decide) rfl (Nat.le_of_ble_eq_true rfl) ?_
  intro p e s m args below meth c C
  refine kj_sub [0, 1] (L2 := [(0, .ref (a 0)), (1, .int x1)]) rfl ?_
  refine kj_iload_n (pc := 0) C 1 dX8_out_0 rfl rfl ?_
  refine kj_if_ge (pc := 1) 14 C dX8_out_1 (by decide) (fun _ => ?_) (fun c1 => absurd h1 c1)
  refine kj_aload_n (pc := 14) C 0 dX8_out_14 rfl rfl ?_
  refine kg_X8_shortest (pc := 15) C wf_X8_55 dX8_out_15 ?_
  refine kj_ifnonnull (pc := 18) 25 C dX8_out_18 (by decide) ?_
  refine kj_aload_n (pc := 25) C 0 dX8_out_25 rfl rfl ?_
  refine kg_X8_shortest (pc := 26) C wf_X8_55 dX8_out_26 ?_
  refine kj_iload_n (pc := 29) C 1 dX8_out_29 rfl rfl ?_
  refine kj_perm kb_pKS ?_
  refine kj_callV0 (pc := 30) (as := [.int x1]) (rest := []) (b := b 0) C (ct_X5_byteAt l V A x1 b τ (kb_W V a σ (.ref (b 0)) ex) hf) wd_X5_byteAt wk_X8_155 wi_X5_byteAt ws_X5_byteAt wz_X5 rfl rfl hd_X5_byteAt ⟨by decide, by decide⟩ 0 rfl rfl rfl rfl (Nat.le_of_ble_eq_true rfl) (by decide) dX8_out_30 ?_
  refine kj_perm kb_pKS.symm ?_
  exact kj_iret (pc := 33) C dX8_out_33
set_option maxRecDepth 100000 in
set_option maxHeartbeats 4000000 in
theorem cx_X8_out (l : Launch) (V : kb_V) (A : Nat → Prop) (x1 : Int32) (a : Nat → Nat) (σ : kb_S) (sh : Value) (ex : va_W) (hl : l.stackTraces = false) (hx : ¬ 0 ≤ x1) : kb_TX l yX8_out cX8_out 2 (some .int) ({ frames := 9, cells := 1, slots := 6, locals := 200 } : Room) V A [.ref (a 0), .int x1] (kb_W V a σ sh ex) (kb_EN 1) (kb_W V a σ sh ex) 1 6 := by
  refine kb_startX (cc := cX8_out) (nL := 2) (ret := some .int) (own := RX8) (by decide) rfl (Nat.le_of_ble_eq_true rfl) ?_
  intro p e s m args below meth c C htb
  refine kj_sub [0, 1] (L2 := [(0, .ref (a 0)), (1, .int x1)]) rfl ?_
  refine kj_iload_n (pc := 0) C 1 dX8_out_0 rfl rfl ?_
  refine kj_if_ge (pc := 1) 14 C dX8_out_1 (by decide) (fun c1 => absurd c1 hx) (fun _ => ?_)
  exact kj_throw (pc := 4) (cls := "java/lang/IllegalArgumentException") (text := "i is 0 or more") (names := ["java/lang/RuntimeException", "java/lang/Exception"]) (ik := 48) (is := 153) (ic := 52) (sa := 78) C hl htb (by decide +kernel) (by decide +kernel) wq_X8_48 wz_IllegalArgumentException (by decide +kernel) (kb_hat1 C) kb_hgd1 dX8_out_4 dX8_out_7 dX8_out_8 dX8_out_10 dX8_out_13 (by decide) (Nat.le_of_ble_eq_true rfl) ⟨by decide, by decide⟩ (by decide) (by decide)
set_option maxRecDepth 100000 in
set_option maxHeartbeats 4000000 in
theorem ct_X8_shorten1 (l : Launch) (V : kb_V) (A : Nat → Prop) (x1 : Int32) (a b : Nat → Nat) (σ τ : kb_S) (ex : va_W) {τ9 : kb_S} {r0 r : Int32} (h1 : fn_X8_requireRow x1 σ = some (0, r0)) (hf : fn_X5_tellRow σ x1 τ = some (τ9, r)) : kb_T l yX8_shorten cX8_shorten 2 (some .int) ({ frames := 26, cells := 0, slots := 0, locals := 800 } : Room) V A [.ref (a 0), .int x1] (kb_W V a σ (.ref (b 0)) (kb_WS V b τ ex)) (some (.int r)) (kb_W V a σ (.ref (b 0)) (kb_WS V b τ9 ex)) 0 0 := by
  refine kb_start (cc := cX8_shorten) (nL := 2) (ret := some .int) (own := RX8) (by decide) rfl (Nat.le_of_ble_eq_true rfl) ?_
  intro p e s m args below meth c C
  refine kj_sub [0, 1] (L2 := [(0, .ref (a 0)), (1, .int x1)]) rfl ?_
  refine kj_aload_n (pc := 0) C 0 dX8_shorten_0 rfl rfl ?_
  refine kj_iload_n (pc := 1) C 1 dX8_shorten_1 rfl rfl ?_
  refine kj_callV0 (pc := 2) (as := [.int x1]) (rest := []) (b := a 0) C (ct_X8_requireRow l V A x1 a σ (.ref (b 0)) (kb_WS V b τ ex) h1) wd_X8_requireRow wk_X8_125 wi_X8_requireRow ws_X8_requireRow wz_X8 rfl rfl hd_X8_requireRow ⟨by decide, by decide⟩ 0 rfl rfl rfl rfl (Nat.le_of_ble_eq_true rfl) (by decide) dX8_shorten_2 ?_
  refine kj_aload_n (pc := 5) C 0 dX8_shorten_5 rfl rfl ?_
  refine kg_X8_shortest (pc := 6) C wf_X8_55 dX8_shorten_6 ?_
  refine kj_ifnonnull (pc := 9) 23 C dX8_shorten_9 (by decide) ?_
  refine kj_aload_n (pc := 23) C 0 dX8_shorten_23 rfl rfl ?_
  refine kg_X8_shortest (pc := 24) C wf_X8_55 dX8_shorten_24 ?_
  refine kj_aload_n (pc := 27) C 0 dX8_shorten_27 rfl rfl ?_
  refine kg_X8_fabric (pc := 28) C wf_X8_22 dX8_shorten_28 ?_
  refine kj_iload_n (pc := 31) C 1 dX8_shorten_31 rfl rfl ?_
  refine kj_perm kb_pKS ?_
  refine kj_callV0 (pc := 32) (as := [.ref (a 2), .int x1]) (rest := []) (b := b 0) C (ct_X5_tellRow l V A x1 b τ a σ (.ref (b 0)) ex hf) wd_X5_tellRow wk_X8_149 wi_X5_tellRow ws_X5_tellRow wz_X5 rfl rfl hd_X5_tellRow ⟨by decide, by decide⟩ 0 rfl rfl rfl rfl (Nat.le_of_ble_eq_true rfl) (by decide) dX8_shorten_32 ?_
  refine kj_perm kb_pKS.symm ?_
  exact kj_iret (pc := 35) C dX8_shorten_35
set_option maxRecDepth 100000 in
set_option maxHeartbeats 4000000 in
theorem ct_X8_shorten0 (l : Launch) (V : kb_V) (A : Nat → Prop) (x1 : Int32) (a : Nat → Nat) (σ : kb_S) (ex : va_W) {τ9 : kb_S} {r0 r : Int32} (h1 : fn_X8_requireRow x1 σ = some (0, r0)) (hf : fn_X5_tellRow σ x1 kb_S0 = some (τ9, r)) : kb_TN l yX8_shorten cX8_shorten 2 (some .int) ({ frames := 26, cells := 5, slots := 9446, locals := 800 } : Room) V A [.ref (a 0), .int x1] (kb_W V a σ .null ex) (some (.int r)) (fun b : Nat → Nat => kb_W V a σ (.ref (b 0)) (kb_WS V b τ9 ex)) 5 9446 := by
  refine kb_startN (cc := cX8_shorten) (nL := 2) (ret := some .int) (own := RX8) (by decide) rfl (Nat.le_of_ble_eq_true rfl) ?_
  intro p e s m args below meth c C
  refine kj_sub [0, 1] (L2 := [(0, .ref (a 0)), (1, .int x1)]) rfl ?_
  refine kj_aload_n (pc := 0) C 0 dX8_shorten_0 rfl rfl ?_
  refine kj_iload_n (pc := 1) C 1 dX8_shorten_1 rfl rfl ?_
  refine kj_callV0 (pc := 2) (as := [.int x1]) (rest := []) (b := a 0) C (ct_X8_requireRow l V A x1 a σ .null ex h1) wd_X8_requireRow wk_X8_125 wi_X8_requireRow ws_X8_requireRow wz_X8 rfl rfl hd_X8_requireRow ⟨by decide, by decide⟩ 0 rfl rfl rfl rfl (Nat.le_of_ble_eq_true rfl) (by decide) dX8_shorten_2 ?_
  refine kj_aload_n (pc := 5) C 0 dX8_shorten_5 rfl rfl ?_
  refine kg_X8_shortest (pc := 6) C wf_X8_55 dX8_shorten_6 ?_
  refine kj_ifnonnullN (pc := 9) C dX8_shorten_9 ?_
  refine kj_aload_n (pc := 12) C 0 dX8_shorten_12 rfl rfl ?_
  refine kj_new (pc := 13) (fs := [.null, .null, .null, .null, .int 0, .int 0]) (ci := 4) C hi_X5 tyX5 tyX5_ok wq_X8_60 wn_X5 wz_X5 rfl (by decide) (by decide) dX8_shorten_13 (fun q => ?_)
  refine kj_dup (pc := 16) C dX8_shorten_16 rfl ?_
  refine kj_callIN (pc := 17) (host := "KnitBench") (as := []) (rest := [.ref q, .ref (a 0)]) (b := q) C (ct_X5_init l V A q (kb_W V a σ .null ex)) wd_X5_init (by decide +kernel) wi_X5_init wz_X5 rfl rfl rfl hd_X5_init ⟨by decide, by decide⟩ rfl (Nat.le_of_ble_eq_true rfl) (by decide) dX8_shorten_17 (fun u => ?_)
  refine kj_sel (P := [((u 3), .inl (V.2.1 0, 480, .inl (fun _ => 0))), ((u 2), .inl (V.2.1 0, 80, .inl (fun _ => 0))), ((u 1), .inl (V.2.1 0, 3200, .inl (fun _ => 0))), ((u 0), .inl (V.2.1 0, 5680, .inl (fun _ => 0))), (q, .inr (4, [.ref (u 0), .ref (u 1), .ref (u 2), .ref (u 3), .int 0, .int 0]))]) (P2 := [(q, .inr (4, [.ref (u 0), .ref (u 1), .ref (u 2), .ref (u 3), .int 0, .int 0])), ((u 0), .inl (V.2.1 0, 5680, .inl (fun _ => 0))), ((u 1), .inl (V.2.1 0, 3200, .inl (fun _ => 0))), ((u 2), .inl (V.2.1 0, 80, .inl (fun _ => 0))), ((u 3), .inl (V.2.1 0, 480, .inl (fun _ => 0)))]) [4, 3, 2, 1, 0] (by decide) rfl ?_
  generalize hb : kb_ad [q, u 0, u 1, u 2, u 3] = b
  have e0 : q = b 0 := by rw [← hb]; rfl
  refine kj_w (ws2 := kb_WS V b kb_S0 (kb_W V a σ .null ex)) (by rw [← hb]; rfl) ?_
  refine kj_perm kb_pKS.symm ?_
  rw [e0]
  refine kj_put (pc := 20) (v := .ref (b 0)) (ws2 := kb_W V a σ (.ref (b 0)) (kb_WS V b kb_S0 ex)) C hi_X8 tyX8 tyX8_ok nmX8 0 rfl rfl 4 (by decide) wf_X8_55 rfl rfl rfl rfl rfl (Nat.le_of_ble_eq_true rfl) rfl dX8_shorten_20 ?_
  refine kj_aload_n (pc := 23) C 0 dX8_shorten_23 rfl rfl ?_
  refine kg_X8_shortest (pc := 24) C wf_X8_55 dX8_shorten_24 ?_
  refine kj_aload_n (pc := 27) C 0 dX8_shorten_27 rfl rfl ?_
  refine kg_X8_fabric (pc := 28) C wf_X8_22 dX8_shorten_28 ?_
  refine kj_iload_n (pc := 31) C 1 dX8_shorten_31 rfl rfl ?_
  refine kj_perm kb_pKS ?_
  refine kj_callV0 (pc := 32) (as := [.ref (a 2), .int x1]) (rest := []) (b := b 0) C (ct_X5_tellRow l V A x1 b kb_S0 a σ (.ref (b 0)) ex hf) wd_X5_tellRow wk_X8_149 wi_X5_tellRow ws_X5_tellRow wz_X5 rfl rfl hd_X5_tellRow ⟨by decide, by decide⟩ 0 rfl rfl rfl rfl (Nat.le_of_ble_eq_true rfl) (by decide) dX8_shorten_32 ?_
  refine kj_perm kb_pKS.symm ?_
  exact kj_iretN (pc := 35) (W1 := fun b : Nat → Nat => kb_W V a σ (.ref (b 0)) (kb_WS V b τ9 ex)) b C dX8_shorten_35
set_option maxRecDepth 100000 in
set_option maxHeartbeats 4000000 in
theorem cx_X8_shorten (l : Launch) (V : kb_V) (A : Nat → Prop) (x1 : Int32) (a : Nat → Nat) (σ : kb_S) (sh : Value) (ex : va_W) {r0 : Int32} {ec : Nat} (hl : l.stackTraces = false) (hne : ¬ ec = 0) (h1 : fn_X8_requireRow x1 σ = some (ec, r0)) : kb_TX l yX8_shorten cX8_shorten 2 (some .int) ({ frames := 9, cells := 1, slots := 6, locals := 200 } : Room) V A [.ref (a 0), .int x1] (kb_W V a σ sh ex) (kb_EN ec) (kb_W V a σ sh ex) 1 6 := by
  refine kb_startX (cc := cX8_shorten) (nL := 2) (ret := some .int) (own := RX8) (by decide) rfl (Nat.le_of_ble_eq_true rfl) ?_
  intro p e s m args below meth c C htb
  refine kj_sub [0, 1] (L2 := [(0, .ref (a 0)), (1, .int x1)]) rfl ?_
  refine kj_aload_n (pc := 0) C 0 dX8_shorten_0 rfl rfl ?_
  refine kj_iload_n (pc := 1) C 1 dX8_shorten_1 rfl rfl ?_
  exact kj_callVX (pc := 2) (as := [.int x1]) (rest := []) (b := (a 0)) C htb (cx_X8_requireRow l V A x1 a σ sh ex hl hne h1) wd_X8_requireRow wk_X8_125 wi_X8_requireRow ws_X8_requireRow wz_X8 rfl rfl hd_X8_requireRow ⟨by decide, by decide⟩ 0 rfl rfl rfl rfl (Nat.le_of_ble_eq_true rfl) ⟨by decide, by decide⟩ dX8_shorten_2 (by decide) (by decide)
