/-! the law's helpers: a call of the class, an answer or what was thrown -/
def kb_TH (l : Launch) (y : MethodName) (cc : ByteArray) (nL : Nat) (hh : List (Nat × Nat × Nat × Nat)) (rm : Room) (V : kb_V) (A : Nat → Prop) (as : List Value) (W : va_W) (r : Int32) (W' : va_W) (mc ms : Nat) : Prop :=
  Met l y (Cond.codeWith y cc nL (some .int) hh :: kb_TB) rm (va_Pc as (kb_pre V A W)) (kb_post V A (some (.int r)) W') mc ms A
def kb_THN {α : Type} (l : Launch) (y : MethodName) (cc : ByteArray) (nL : Nat) (hh : List (Nat × Nat × Nat × Nat)) (rm : Room) (V : kb_V) (A : Nat → Prop) (as : List Value) (W : va_W) (r : Int32) (W' : α → va_W) (mc ms : Nat) : Prop :=
  Met l y (Cond.codeWith y cc nL (some .int) hh :: kb_TB) rm (va_Pc as (kb_pre V A W)) (kb_postN V A (some (.int r)) W') mc ms A
theorem kb_ofWH {l : Launch} {y : MethodName} {ws ws' : List Cond} {rm : Room} {Pc : Array Value → State → Prop} {Qc : Array Value → State → Outcome → State → Prop} {mc ms : Nat} {free : Addr → Prop} {cc : ByteArray} {maxL : Nat} {ret : Option FieldType} {hh : List (Nat × Nat × Nat × Nat)}
    (hy : plainName y.cls = true) (hw : ws = Cond.codeWith y cc maxL ret hh :: ws')
    (body : ∀ p e s m args below meth c s₁, BodyLoose p l y (headSpec ws rm) cc maxL ret e s m args below meth c s₁ → c.maxLocals = maxL → Pc args s →
      W p l e (headSpec ws rm).room s m args below meth c s.heap [] 0 0 (MQ below Qc args s mc ms free) (entryFrame m args maxL)) : Met l y ws rm Pc Qc mc ms free := by
  refine MetFree.of_bodyS (code := cc) (maxLocals := maxL) (ret := ret) hy ?_ ?_
  · intro args s m h hn
    obtain ⟨m9, meth, c, hn9, h1, h2, h3, h4, -, h5, h6, -⟩ := Cond.codeWith_spec (atoms_spec (ws := ws) h _ (by rw [hw]; exact List.mem_cons_self))
    cases hn.symm.trans hn9
    exact ⟨meth, c, h1, h2, h3, h4, h5, h6⟩
  · intro p e s m args below meth c s₁ B hml hP _
    have hh0 : s₁.heap = s.heap := by rw [B.state]; rfl
    obtain ⟨t, a1, o, b1, b2, b3⟩ := body p e s m args below meth c s₁ B hml hP s₁ hh0 (Stand.of_body B)
    exact ⟨t, o, a1, b1, b2, ⟨b3.1, b3.2⟩⟩
section KBH
variable {p : Program} {l : Launch} {e : Env} {R : Room} {s : State} {m : MethodId} {args : Array Value} {below : List Frame} {meth : Method} {c : Code} {k n : Nat} {Q : State → Prop}
variable {cc : ByteArray} {nL : Nat} {own : String} {w0 : Cond} {ret : Option FieldType} {V : kb_V} {A : Nat → Prop} {pc : Nat} {L : List (Nat × Value)} {st : List Value} {ws ws2 : va_W}
theorem kb_startH {y : MethodName} {hh : List (Nat × Nat × Nat × Nat)} {rm : Room} {as : List Value} {W0 : va_W} {Qc : Array Value → State → Outcome → State → Prop} {mc ms : Nat} (hy : plainName y.cls = true) (ho : y.cls = own) (hn : (lg_sl as).length ≤ nL)
    (body : ∀ (p : Program) (e : Env) (s : State) (m : MethodId) (args : Array Value) (below : List Frame) (meth : Method) (c : Code), kb_C p s m args meth c cc nL own (Cond.codeWith y cc nL (some .int) hh) (some .int) V A → c.exceptionTable.toList = tableOf hh → kb_J p l e rm s m args below meth c nL V A 0 0 (MQ below Qc args s mc ms A) 0 (lv_args 0 as) [] W0) :
    Met l y (Cond.codeWith y cc nL (some .int) hh :: kb_TB) rm (va_Pc as (kb_pre V A W0)) Qc mc ms A := by
  refine kb_ofWH (cc := cc) (maxL := nL) (ret := some .int) (hh := hh) hy rfl ?_
  intro p e s m args below meth c s₁ B hml hv
  obtain ⟨rfl, hE, hP, hD, hA⟩ := hv
  have hts := atoms_spec (ws := Cond.codeWith y cc nL (some .int) hh :: kb_TB) B.pre
  have hown : s.vm.findClass own = some m.cls := by rw [← ho]; exact findClass_of_methodNamed B.named
  have hl := lv_entry as (n := nL) hn
  rw [lg_entry_eq]
  exact body p e s m _ below meth c ⟨⟨B.exec, B.bytes, hml, hown, hts⟩, hE, hA, B.returns, B.notSynchronized⟩ (vx_table (x := y) B (hts _ List.mem_cons_self)) s.heap [] _ hP hD va_S.rf hl
/-- a callee throws E, and the row x takes it -/
theorem kj_callVC {y : MethodName} {rm : Room} {as rest : List Value} {mc ms index maxL ci b : Nat} {bytes : ByteArray} {ret9 : Option FieldType} {C0 E : String} {fs : List Value} {r0 : vw_C} (C : kb_C p s m args meth c cc nL own w0 ret V A) (hM : kb_TX l y bytes maxL ret9 rm V A (.ref b :: as) ws E ws2 mc ms) (h1 : Cond.code y bytes maxL ret9 ∈ kb_TB) (h2 : Cond.methodLink own index y ∈ kb_TB) (h3 : Cond.instanceMethod y ∈ kb_TB) (h4 : Cond.selects C0 y y ∈ kb_TB) (h5 : Cond.initialized C0 ∈ kb_TB) (hrc : rm.cells = mc) (hrs : rm.slots = ms)
    (hd : y.cls = C0 ∧ y.cls ≠ "java/lang/invoke/MethodHandle" ∧ y.cls ≠ "java/lang/invoke/VarHandle" ∧ (parseMethodDescriptor y.desc).map (fun d => d.parameters.length) = some as.length) (hR : rm.frames + 1 ≤ R.frames ∧ 8 + (maxL + 11) + rm.locals ≤ R.locals) (q0 : Nat) (he : ws[q0]? = some (b, .inr (ci, fs))) (hc : vwCl[ci]? = some r0) (hr0 : r0.1 = C0) (hst : as.reverse ++ .ref b :: rest = st) (hroom : (rest.map fun v => v.category).sum ≤ 8) (hcs : k + mc ≤ R.cells ∧ n + ms ≤ R.slots) (d : decode cc pc = .ok (.invokevirtual index, 3))
    (pre : List ExceptionTableEntry) (x : ExceptionTableEntry) (suf : List ExceptionTableEntry) (hsplit : c.exceptionTable.toList = pre ++ x :: suf) (hpass : ∀ z ∈ pre, covers z pc = false ∨ (z.catchType ≠ 0 ∧ ∃ nm : String, Cond.classLink own z.catchType nm ∈ kb_TB ∧ (E, nm) ∈ kb_ncast)) (hx : covers x pc = true) (h0 : x.catchType ≠ 0) (hlink : Cond.classLink own x.catchType E ∈ kb_TB) (hcast : (E, E) ∈ kb_cast)
    (K : ∀ q : Nat, kb_J p l e R s m args below meth c nL V A (k + mc) (n + ms) Q x.handlerPc L [.ref q] ws2) : kb_J p l e R s m args below meth c nL V A k n Q pc L st ws := by
  intro H locs ls hP hD hS hl
  subst hst
  subst hr0
  have hr := vx_runV C.1 hM (cwV as.length C.1.2.2.2.2 (kb_gV h1 h2 h3 h4 h5) rfl hrc hrs hd hR) ⟨kb_blind, va_recv C.2.1.1 hP hc he, kb_preU C hP hD hS⟩ (p := p) (e := e) (below := below) (meth := meth) (locs := locs) (cells := k) (slots := n) (g := F0 m pc ls (as.reverse ++ .ref b :: rest)) (rest := rest) rfl rfl hl.1 rfl (lv_room hroom) d hcs
  intro T hT X
  rcases hr T hT X with ⟨v, st₀, t, T', L9, h00, X', hL, e1, e2, hf, go⟩ | ⟨q, st₀, t, T', L9, E9, ce, h00, X', hL, e1, e2, ⟨rfl, hp1, hd1, hz, hk⟩, hce, hcv, hcl, go⟩
  · exact hf.elim
  · rw [h00] at hz hk
    have hS2 : va_S A s.heap T'.heap (locs ++ L9) := ⟨Nat.le_trans hS.1 (by rw [e1]; exact hz), fun q h1 h2 => by rw [e1, hk q (Nat.lt_of_lt_of_le h1 hS.1) h2]; exact hS.2.1 q h1 h2, fun q hq => by
      rcases List.mem_append.mp hq with h | h
      · exact hS.2.2 q h
      · exact hL q h⟩
    obtain ⟨t2, a1, b1⟩ := kb_caught (p := p) (l := l) (e := e) (R := R) (m := m) (args := args) (below := below) (pc := pc) (ls := ls) (rest := rest) (H := T'.heap) (Q := Q) C.1.2.2.2.1 pre x suf hsplit
      (fun z hz9 => (hpass z hz9).imp id (fun ⟨a, nm, b, c9⟩ => ⟨a, nm, kb_w C b, C.2.1.2.2.2.2.2.2.2.2.2.2.2.2.2 _ c9⟩)) hx h0 (kb_w C hlink) (va_Nw.use rfl (C.2.1.2.2.2.2.2.2.2.2.2.2.2.2.1 _ hcast)) (by rw [e1]; exact hce) hcv hcl
      (K q T'.heap (locs ++ L9) ls (by rw [e1]; exact hp1) hd1 hS2 hl) T' rfl X'
    exact ⟨t2, go.trans a1, b1⟩
end KBH
abbrev kb_O (V : kb_V) (o9 : Nat) (ov : Nat → Int64) : Nat × va_E := (o9, .inl (V.2.1 1, 1, .inr (.inl ov)))
theorem hd_L_begin : yL_begin.cls ≠ "java/lang/invoke/MethodHandle" ∧ yL_begin.cls ≠ "java/lang/invoke/VarHandle" ∧ (parseMethodDescriptor yL_begin.desc).map (fun d => d.parameters.length) = some 3 := by decide +kernel
set_option maxRecDepth 100000 in
set_option maxHeartbeats 4000000 in
theorem cn_L_begin (l : Launch) (V : kb_V) (A : Nat → Prop) (x1 : Int32) (x2 : Int32) (a : Nat → Nat) (σ : kb_S) (sh : Value) (ex : va_W) (σ9 : kb_S) (sh2 : Value) (ex2 : va_W) {rm : Room} (hrc : rm.cells = 0) (hrs : rm.slots = 0) (hM : kb_T l yX8_begin cX8_begin 3 none rm V A [.ref (a 0), .int x1, .int x2] (kb_W V a σ sh ex) none (kb_W V a σ9 sh2 ex2) 0 0) : kb_TH l yL_begin cL_begin 4 [(0, 6, 9, 13)] ({ frames := rm.frames + 1, cells := rm.cells, slots := rm.slots, locals := rm.locals + 60 } : Room) V A [.ref (a 0), .int x1, .int x2] (kb_W V a σ sh ex) 0 (kb_W V a σ9 sh2 ex2) 0 0 := by
  refine kb_startH (cc := cL_begin) (nL := 4) (own := RL) (by decide) rfl (Nat.le_of_ble_eq_true rfl) ?_
  intro p e s m args below meth c C htb
  refine kj_sub [0, 1, 2] (L2 := [(0, .ref (a 0)), (1, .int x1), (2, .int x2)]) rfl ?_
  refine kj_aload_n (pc := 0) C 0 dL_begin_0 rfl rfl ?_
  refine kj_iload_n (pc := 1) C 1 dL_begin_1 rfl rfl ?_
  refine kj_iload_n (pc := 2) C 2 dL_begin_2 rfl rfl ?_
  refine kj_callV0 (pc := 3) (as := [.int x1, .int x2]) (rest := []) (b := a 0) C hM wd_X8_begin wk_L_7 wi_X8_begin ws_X8_begin wz_X8 hrc hrs hd_X8_begin ⟨Nat.le_refl _, by show 8 + (3 + 11) + rm.locals ≤ rm.locals + 60; omega⟩ 0 rfl rfl rfl rfl (Nat.le_of_ble_eq_true rfl) (by show 0 ≤ rm.cells ∧ 0 ≤ rm.slots; omega) dL_begin_3 ?_
  refine kj_goto (pc := 6) 12 C dL_begin_6 (by decide) ?_
  refine kj_iconst (pc := 12) (v := (0 : Int32)) C dL_begin_12 (by decide) ?_
  exact kj_iret (pc := 13) C dL_begin_13
set_option maxRecDepth 100000 in
set_option maxHeartbeats 4000000 in
theorem cx_L_begin_1 (l : Launch) (V : kb_V) (A : Nat → Prop) (x1 : Int32) (x2 : Int32) (a : Nat → Nat) (σ : kb_S) (sh : Value) (ex : va_W) (σ9 : kb_S) {rm : Room} (hrc : rm.cells = 1) (hrs : rm.slots = 6) (hM : kb_TX l yX8_begin cX8_begin 3 none rm V A [.ref (a 0), .int x1, .int x2] (kb_W V a σ sh ex) (kb_EN 1) (kb_W V a σ9 sh ex) 1 6) : kb_TH l yL_begin cL_begin 4 [(0, 6, 9, 13)] ({ frames := rm.frames + 1, cells := rm.cells, slots := rm.slots, locals := rm.locals + 60 } : Room) V A [.ref (a 0), .int x1, .int x2] (kb_W V a σ sh ex) 1 (kb_W V a σ9 sh ex) 1 6 := by
  refine kb_startH (cc := cL_begin) (nL := 4) (own := RL) (by decide) rfl (Nat.le_of_ble_eq_true rfl) ?_
  intro p e s m args below meth c C htb
  refine kj_sub [0, 1, 2] (L2 := [(0, .ref (a 0)), (1, .int x1), (2, .int x2)]) rfl ?_
  refine kj_aload_n (pc := 0) C 0 dL_begin_0 rfl rfl ?_
  refine kj_iload_n (pc := 1) C 1 dL_begin_1 rfl rfl ?_
  refine kj_iload_n (pc := 2) C 2 dL_begin_2 rfl rfl ?_
  refine kj_callVC (pc := 3) (as := [.int x1, .int x2]) (rest := []) (b := a 0) C hM wd_X8_begin wk_L_7 wi_X8_begin ws_X8_begin wz_X8 hrc hrs hd_X8_begin ⟨Nat.le_refl _, by show 8 + (3 + 11) + rm.locals ≤ rm.locals + 60; omega⟩ 0 rfl rfl rfl rfl (Nat.le_of_ble_eq_true rfl) (by show 0 + 1 ≤ rm.cells ∧ 0 + 6 ≤ rm.slots; omega) dL_begin_3 [] ⟨0, 6, 9, 13⟩ [] (htb.trans rfl) (fun z hz => nomatch hz) (by decide) (by decide) wq_L_13 (by decide +kernel) (fun q => ?_)
  refine kj_astore_n (pc := 9) C [1, 2, 3, 0] (L2 := [(0, .ref (a 0)), (1, .int x1), (2, .int x2), (3, .ref q)]) dL_begin_9 rfl (by decide) rfl ?_
  refine kj_iconst (pc := 10) (v := (1 : Int32)) C dL_begin_10 (by decide) ?_
  exact kj_iret (pc := 11) C dL_begin_11
theorem hd_L_feed : yL_feed.cls ≠ "java/lang/invoke/MethodHandle" ∧ yL_feed.cls ≠ "java/lang/invoke/VarHandle" ∧ (parseMethodDescriptor yL_feed.desc).map (fun d => d.parameters.length) = some 4 := by decide +kernel
set_option maxRecDepth 100000 in
set_option maxHeartbeats 4000000 in
theorem cn_L_feed (l : Launch) (V : kb_V) (A : Nat → Prop) (x1 : Int64) (x3 : Int32) (a : Nat → Nat) (σ : kb_S) (sh : Value) (o9 : Nat) (ov : Nat → Int64) (ex : va_W) (σ9 : kb_S) (r : Int32) {rm : Room} (hrc : rm.cells = 0) (hrs : rm.slots = 0) (hM : kb_T l yX8_feed cX8_feed 4 (some .int) rm V A [.ref (a 0), .long x1, .int x3] (kb_W V a σ sh (kb_O V o9 ov :: ex)) (some (.int r)) (kb_W V a σ9 sh (kb_O V o9 ov :: ex)) 0 0) : kb_TH l yL_feed cL_feed 6 [(0, 11, 14, 13), (0, 11, 18, 19)] ({ frames := rm.frames + 1, cells := rm.cells, slots := rm.slots, locals := rm.locals + 60 } : Room) V A [.ref (a 0), .long x1, .int x3, .ref o9] (kb_W V a σ sh (kb_O V o9 ov :: ex)) 0 (kb_W V a σ9 sh (kb_O V o9 (vp_updL ov 0 r.toInt64) :: ex)) 0 0 := by
  refine kb_startH (cc := cL_feed) (nL := 6) (own := RL) (by decide) rfl (Nat.le_of_ble_eq_true rfl) ?_
  intro p e s m args below meth c C htb
  refine kj_sub [0, 1, 2, 3] (L2 := [(0, .ref (a 0)), (1, .long x1), (3, .int x3), (4, .ref o9)]) rfl ?_
  refine kj_aload (pc := 0) C 3 dL_feed_0 rfl ?_
  refine kj_iconst (pc := 2) (v := (0 : Int32)) C dL_feed_2 (by decide) ?_
  refine kj_aload_n (pc := 3) C 0 dL_feed_3 rfl rfl ?_
  refine kj_lload_n (pc := 4) C 1 dL_feed_4 rfl rfl ?_
  refine kj_iload_n (pc := 5) C 2 dL_feed_5 rfl rfl ?_
  refine kj_callV0 (pc := 6) (as := [.long x1, .int x3]) (rest := [.int (0 : Int32), .ref o9]) (b := a 0) C hM wd_X8_feed wk_L_15 wi_X8_feed ws_X8_feed wz_X8 hrc hrs hd_X8_feed ⟨Nat.le_refl _, by show 8 + (4 + 11) + rm.locals ≤ rm.locals + 60; omega⟩ 0 rfl rfl rfl rfl (Nat.le_of_ble_eq_true rfl) (by show 0 ≤ rm.cells ∧ 0 ≤ rm.slots; omega) dL_feed_6 ?_
  refine kj_i2l (pc := 9) C dL_feed_9 ?_
  refine kj_last (pc := 10) (ws2 := (kb_W V a σ9 sh (kb_O V o9 (vp_updL ov 0 r.toInt64) :: ex))) C 20 rfl (vp_in_nI (n := 0) (N := 1) (by decide) (by decide)) rfl dL_feed_10 ?_
  refine kj_goto (pc := 11) 22 C dL_feed_11 (by decide) ?_
  refine kj_iconst (pc := 22) (v := (0 : Int32)) C dL_feed_22 (by decide) ?_
  exact kj_iret (pc := 23) C dL_feed_23
set_option maxRecDepth 100000 in
set_option maxHeartbeats 4000000 in
theorem cx_L_feed_1 (l : Launch) (V : kb_V) (A : Nat → Prop) (x1 : Int64) (x3 : Int32) (a : Nat → Nat) (σ : kb_S) (sh : Value) (o9 : Nat) (ex : va_W) (σ9 : kb_S) {rm : Room} (hrc : rm.cells = 1) (hrs : rm.slots = 6) (hM : kb_TX l yX8_feed cX8_feed 4 (some .int) rm V A [.ref (a 0), .long x1, .int x3] (kb_W V a σ sh ex) (kb_EN 1) (kb_W V a σ9 sh ex) 1 6) : kb_TH l yL_feed cL_feed 6 [(0, 11, 14, 13), (0, 11, 18, 19)] ({ frames := rm.frames + 1, cells := rm.cells, slots := rm.slots, locals := rm.locals + 60 } : Room) V A [.ref (a 0), .long x1, .int x3, .ref o9] (kb_W V a σ sh ex) 1 (kb_W V a σ9 sh ex) 1 6 := by
  refine kb_startH (cc := cL_feed) (nL := 6) (own := RL) (by decide) rfl (Nat.le_of_ble_eq_true rfl) ?_
  intro p e s m args below meth c C htb
  refine kj_sub [0, 1, 2, 3] (L2 := [(0, .ref (a 0)), (1, .long x1), (3, .int x3), (4, .ref o9)]) rfl ?_
  refine kj_aload (pc := 0) C 3 dL_feed_0 rfl ?_
  refine kj_iconst (pc := 2) (v := (0 : Int32)) C dL_feed_2 (by decide) ?_
  refine kj_aload_n (pc := 3) C 0 dL_feed_3 rfl rfl ?_
  refine kj_lload_n (pc := 4) C 1 dL_feed_4 rfl rfl ?_
  refine kj_iload_n (pc := 5) C 2 dL_feed_5 rfl rfl ?_
  refine kj_callVC (pc := 6) (as := [.long x1, .int x3]) (rest := [.int (0 : Int32), .ref o9]) (b := a 0) C hM wd_X8_feed wk_L_15 wi_X8_feed ws_X8_feed wz_X8 hrc hrs hd_X8_feed ⟨Nat.le_refl _, by show 8 + (4 + 11) + rm.locals ≤ rm.locals + 60; omega⟩ 0 rfl rfl rfl rfl (Nat.le_of_ble_eq_true rfl) (by show 0 + 1 ≤ rm.cells ∧ 0 + 6 ≤ rm.slots; omega) dL_feed_6 [] ⟨0, 11, 14, 13⟩ [⟨0, 11, 18, 19⟩] (htb.trans rfl) (fun z hz => nomatch hz) (by decide) (by decide) wq_L_13 (by decide +kernel) (fun q => ?_)
  refine kj_astore (pc := 14) C [1, 2, 3, 4, 0] (L2 := [(0, .ref (a 0)), (1, .long x1), (3, .int x3), (4, .ref o9), (5, .ref q)]) dL_feed_14 (by decide) rfl ?_
  refine kj_iconst (pc := 16) (v := (1 : Int32)) C dL_feed_16 (by decide) ?_
  exact kj_iret (pc := 17) C dL_feed_17
set_option maxRecDepth 100000 in
set_option maxHeartbeats 4000000 in
theorem cx_L_feed_2 (l : Launch) (V : kb_V) (A : Nat → Prop) (x1 : Int64) (x3 : Int32) (a : Nat → Nat) (σ : kb_S) (sh : Value) (o9 : Nat) (ex : va_W) (σ9 : kb_S) {rm : Room} (hrc : rm.cells = 1) (hrs : rm.slots = 6) (hM : kb_TX l yX8_feed cX8_feed 4 (some .int) rm V A [.ref (a 0), .long x1, .int x3] (kb_W V a σ sh ex) (kb_EN 2) (kb_W V a σ9 sh ex) 1 6) : kb_TH l yL_feed cL_feed 6 [(0, 11, 14, 13), (0, 11, 18, 19)] ({ frames := rm.frames + 1, cells := rm.cells, slots := rm.slots, locals := rm.locals + 60 } : Room) V A [.ref (a 0), .long x1, .int x3, .ref o9] (kb_W V a σ sh ex) 2 (kb_W V a σ9 sh ex) 1 6 := by
  refine kb_startH (cc := cL_feed) (nL := 6) (own := RL) (by decide) rfl (Nat.le_of_ble_eq_true rfl) ?_
  intro p e s m args below meth c C htb
  refine kj_sub [0, 1, 2, 3] (L2 := [(0, .ref (a 0)), (1, .long x1), (3, .int x3), (4, .ref o9)]) rfl ?_
  refine kj_aload (pc := 0) C 3 dL_feed_0 rfl ?_
  refine kj_iconst (pc := 2) (v := (0 : Int32)) C dL_feed_2 (by decide) ?_
  refine kj_aload_n (pc := 3) C 0 dL_feed_3 rfl rfl ?_
  refine kj_lload_n (pc := 4) C 1 dL_feed_4 rfl rfl ?_
  refine kj_iload_n (pc := 5) C 2 dL_feed_5 rfl rfl ?_
  refine kj_callVC (pc := 6) (as := [.long x1, .int x3]) (rest := [.int (0 : Int32), .ref o9]) (b := a 0) C hM wd_X8_feed wk_L_15 wi_X8_feed ws_X8_feed wz_X8 hrc hrs hd_X8_feed ⟨Nat.le_refl _, by show 8 + (4 + 11) + rm.locals ≤ rm.locals + 60; omega⟩ 0 rfl rfl rfl rfl (Nat.le_of_ble_eq_true rfl) (by show 0 + 1 ≤ rm.cells ∧ 0 + 6 ≤ rm.slots; omega) dL_feed_6 [⟨0, 11, 14, 13⟩] ⟨0, 11, 18, 19⟩ [] (htb.trans rfl) (fun z hz => by
    rcases List.mem_singleton.mp hz with rfl
    exact Or.inr ⟨by decide, "java/lang/IllegalArgumentException", wq_L_13, by decide +kernel⟩) (by decide) (by decide) wq_L_19 (by decide +kernel) (fun q => ?_)
  refine kj_astore (pc := 18) C [1, 2, 3, 4, 0] (L2 := [(0, .ref (a 0)), (1, .long x1), (3, .int x3), (4, .ref o9), (5, .ref q)]) dL_feed_18 (by decide) rfl ?_
  refine kj_iconst (pc := 20) (v := (2 : Int32)) C dL_feed_20 (by decide) ?_
  exact kj_iret (pc := 21) C dL_feed_21
theorem hd_L_unravel : yL_unravel.cls ≠ "java/lang/invoke/MethodHandle" ∧ yL_unravel.cls ≠ "java/lang/invoke/VarHandle" ∧ (parseMethodDescriptor yL_unravel.desc).map (fun d => d.parameters.length) = some 3 := by decide +kernel
set_option maxRecDepth 100000 in
set_option maxHeartbeats 4000000 in
theorem cn_L_unravel (l : Launch) (V : kb_V) (A : Nat → Prop) (x1 : Int32) (a : Nat → Nat) (σ : kb_S) (sh : Value) (o9 : Nat) (ov : Nat → Int64) (ex : va_W) (σ9 : kb_S) (r : Int32) {rm : Room} (hrc : rm.cells = 0) (hrs : rm.slots = 0) (hM : kb_T l yX8_unravel cX8_unravel 2 (some .int) rm V A [.ref (a 0), .int x1] (kb_W V a σ sh (kb_O V o9 ov :: ex)) (some (.int r)) (kb_W V a σ9 sh (kb_O V o9 ov :: ex)) 0 0) : kb_TH l yL_unravel cL_unravel 4 [(0, 9, 12, 13)] ({ frames := rm.frames + 1, cells := rm.cells, slots := rm.slots, locals := rm.locals + 60 } : Room) V A [.ref (a 0), .int x1, .ref o9] (kb_W V a σ sh (kb_O V o9 ov :: ex)) 0 (kb_W V a σ9 sh (kb_O V o9 (vp_updL ov 0 r.toInt64) :: ex)) 0 0 := by
  refine kb_startH (cc := cL_unravel) (nL := 4) (own := RL) (by decide) rfl (Nat.le_of_ble_eq_true rfl) ?_
  intro p e s m args below meth c C htb
  refine kj_sub [0, 1, 2] (L2 := [(0, .ref (a 0)), (1, .int x1), (2, .ref o9)]) rfl ?_
  refine kj_aload_n (pc := 0) C 2 dL_unravel_0 rfl rfl ?_
  refine kj_iconst (pc := 1) (v := (0 : Int32)) C dL_unravel_1 (by decide) ?_
  refine kj_aload_n (pc := 2) C 0 dL_unravel_2 rfl rfl ?_
  refine kj_iload_n (pc := 3) C 1 dL_unravel_3 rfl rfl ?_
  refine kj_callV0 (pc := 4) (as := [.int x1]) (rest := [.int (0 : Int32), .ref o9]) (b := a 0) C hM wd_X8_unravel wk_L_21 wi_X8_unravel ws_X8_unravel wz_X8 hrc hrs hd_X8_unravel ⟨Nat.le_refl _, by show 8 + (2 + 11) + rm.locals ≤ rm.locals + 60; omega⟩ 0 rfl rfl rfl rfl (Nat.le_of_ble_eq_true rfl) (by show 0 ≤ rm.cells ∧ 0 ≤ rm.slots; omega) dL_unravel_4 ?_
  refine kj_i2l (pc := 7) C dL_unravel_7 ?_
  refine kj_last (pc := 8) (ws2 := (kb_W V a σ9 sh (kb_O V o9 (vp_updL ov 0 r.toInt64) :: ex))) C 20 rfl (vp_in_nI (n := 0) (N := 1) (by decide) (by decide)) rfl dL_unravel_8 ?_
  refine kj_goto (pc := 9) 15 C dL_unravel_9 (by decide) ?_
  refine kj_iconst (pc := 15) (v := (0 : Int32)) C dL_unravel_15 (by decide) ?_
  exact kj_iret (pc := 16) C dL_unravel_16
set_option maxRecDepth 100000 in
set_option maxHeartbeats 4000000 in
theorem cx_L_unravel_1 (l : Launch) (V : kb_V) (A : Nat → Prop) (x1 : Int32) (a : Nat → Nat) (σ : kb_S) (sh : Value) (o9 : Nat) (ex : va_W) (σ9 : kb_S) {rm : Room} (hrc : rm.cells = 1) (hrs : rm.slots = 6) (hM : kb_TX l yX8_unravel cX8_unravel 2 (some .int) rm V A [.ref (a 0), .int x1] (kb_W V a σ sh ex) (kb_EN 1) (kb_W V a σ9 sh ex) 1 6) : kb_TH l yL_unravel cL_unravel 4 [(0, 9, 12, 13)] ({ frames := rm.frames + 1, cells := rm.cells, slots := rm.slots, locals := rm.locals + 60 } : Room) V A [.ref (a 0), .int x1, .ref o9] (kb_W V a σ sh ex) 1 (kb_W V a σ9 sh ex) 1 6 := by
  refine kb_startH (cc := cL_unravel) (nL := 4) (own := RL) (by decide) rfl (Nat.le_of_ble_eq_true rfl) ?_
  intro p e s m args below meth c C htb
  refine kj_sub [0, 1, 2] (L2 := [(0, .ref (a 0)), (1, .int x1), (2, .ref o9)]) rfl ?_
  refine kj_aload_n (pc := 0) C 2 dL_unravel_0 rfl rfl ?_
  refine kj_iconst (pc := 1) (v := (0 : Int32)) C dL_unravel_1 (by decide) ?_
  refine kj_aload_n (pc := 2) C 0 dL_unravel_2 rfl rfl ?_
  refine kj_iload_n (pc := 3) C 1 dL_unravel_3 rfl rfl ?_
  refine kj_callVC (pc := 4) (as := [.int x1]) (rest := [.int (0 : Int32), .ref o9]) (b := a 0) C hM wd_X8_unravel wk_L_21 wi_X8_unravel ws_X8_unravel wz_X8 hrc hrs hd_X8_unravel ⟨Nat.le_refl _, by show 8 + (2 + 11) + rm.locals ≤ rm.locals + 60; omega⟩ 0 rfl rfl rfl rfl (Nat.le_of_ble_eq_true rfl) (by show 0 + 1 ≤ rm.cells ∧ 0 + 6 ≤ rm.slots; omega) dL_unravel_4 [] ⟨0, 9, 12, 13⟩ [] (htb.trans rfl) (fun z hz => nomatch hz) (by decide) (by decide) wq_L_13 (by decide +kernel) (fun q => ?_)
  refine kj_astore_n (pc := 12) C [1, 2, 3, 0] (L2 := [(0, .ref (a 0)), (1, .int x1), (2, .ref o9), (3, .ref q)]) dL_unravel_12 rfl (by decide) rfl ?_
  refine kj_iconst (pc := 13) (v := (1 : Int32)) C dL_unravel_13 (by decide) ?_
  exact kj_iret (pc := 14) C dL_unravel_14
theorem hd_L_loop : yL_loop.cls ≠ "java/lang/invoke/MethodHandle" ∧ yL_loop.cls ≠ "java/lang/invoke/VarHandle" ∧ (parseMethodDescriptor yL_loop.desc).map (fun d => d.parameters.length) = some 4 := by decide +kernel
set_option maxRecDepth 100000 in
set_option maxHeartbeats 4000000 in
theorem cn_L_loop (l : Launch) (V : kb_V) (A : Nat → Prop) (x1 : Int32) (x2 : Int32) (a : Nat → Nat) (σ : kb_S) (sh : Value) (o9 : Nat) (ov : Nat → Int64) (ex : va_W) (σ9 : kb_S) (r : Int32) {rm : Room} (hrc : rm.cells = 0) (hrs : rm.slots = 0) (hM : kb_T l yX8_loop cX8_loop 3 (some .int) rm V A [.ref (a 0), .int x1, .int x2] (kb_W V a σ sh (kb_O V o9 ov :: ex)) (some (.int r)) (kb_W V a σ9 sh (kb_O V o9 ov :: ex)) 0 0) : kb_TH l yL_loop cL_loop 5 [(0, 10, 13, 13)] ({ frames := rm.frames + 1, cells := rm.cells, slots := rm.slots, locals := rm.locals + 60 } : Room) V A [.ref (a 0), .int x1, .int x2, .ref o9] (kb_W V a σ sh (kb_O V o9 ov :: ex)) 0 (kb_W V a σ9 sh (kb_O V o9 (vp_updL ov 0 r.toInt64) :: ex)) 0 0 := by
  refine kb_startH (cc := cL_loop) (nL := 5) (own := RL) (by decide) rfl (Nat.le_of_ble_eq_true rfl) ?_
  intro p e s m args below meth c C htb
  refine kj_sub [0, 1, 2, 3] (L2 := [(0, .ref (a 0)), (1, .int x1), (2, .int x2), (3, .ref o9)]) rfl ?_
  refine kj_aload_n (pc := 0) C 3 dL_loop_0 rfl rfl ?_
  refine kj_iconst (pc := 1) (v := (0 : Int32)) C dL_loop_1 (by decide) ?_
  refine kj_aload_n (pc := 2) C 0 dL_loop_2 rfl rfl ?_
  refine kj_iload_n (pc := 3) C 1 dL_loop_3 rfl rfl ?_
  refine kj_iload_n (pc := 4) C 2 dL_loop_4 rfl rfl ?_
  refine kj_callV0 (pc := 5) (as := [.int x1, .int x2]) (rest := [.int (0 : Int32), .ref o9]) (b := a 0) C hM wd_X8_loop wk_L_25 wi_X8_loop ws_X8_loop wz_X8 hrc hrs hd_X8_loop ⟨Nat.le_refl _, by show 8 + (3 + 11) + rm.locals ≤ rm.locals + 60; omega⟩ 0 rfl rfl rfl rfl (Nat.le_of_ble_eq_true rfl) (by show 0 ≤ rm.cells ∧ 0 ≤ rm.slots; omega) dL_loop_5 ?_
  refine kj_i2l (pc := 8) C dL_loop_8 ?_
  refine kj_last (pc := 9) (ws2 := (kb_W V a σ9 sh (kb_O V o9 (vp_updL ov 0 r.toInt64) :: ex))) C 20 rfl (vp_in_nI (n := 0) (N := 1) (by decide) (by decide)) rfl dL_loop_9 ?_
  refine kj_goto (pc := 10) 17 C dL_loop_10 (by decide) ?_
  refine kj_iconst (pc := 17) (v := (0 : Int32)) C dL_loop_17 (by decide) ?_
  exact kj_iret (pc := 18) C dL_loop_18
set_option maxRecDepth 100000 in
set_option maxHeartbeats 4000000 in
theorem cx_L_loop_1 (l : Launch) (V : kb_V) (A : Nat → Prop) (x1 : Int32) (x2 : Int32) (a : Nat → Nat) (σ : kb_S) (sh : Value) (o9 : Nat) (ex : va_W) (σ9 : kb_S) {rm : Room} (hrc : rm.cells = 1) (hrs : rm.slots = 6) (hM : kb_TX l yX8_loop cX8_loop 3 (some .int) rm V A [.ref (a 0), .int x1, .int x2] (kb_W V a σ sh ex) (kb_EN 1) (kb_W V a σ9 sh ex) 1 6) : kb_TH l yL_loop cL_loop 5 [(0, 10, 13, 13)] ({ frames := rm.frames + 1, cells := rm.cells, slots := rm.slots, locals := rm.locals + 60 } : Room) V A [.ref (a 0), .int x1, .int x2, .ref o9] (kb_W V a σ sh ex) 1 (kb_W V a σ9 sh ex) 1 6 := by
  refine kb_startH (cc := cL_loop) (nL := 5) (own := RL) (by decide) rfl (Nat.le_of_ble_eq_true rfl) ?_
  intro p e s m args below meth c C htb
  refine kj_sub [0, 1, 2, 3] (L2 := [(0, .ref (a 0)), (1, .int x1), (2, .int x2), (3, .ref o9)]) rfl ?_
  refine kj_aload_n (pc := 0) C 3 dL_loop_0 rfl rfl ?_
  refine kj_iconst (pc := 1) (v := (0 : Int32)) C dL_loop_1 (by decide) ?_
  refine kj_aload_n (pc := 2) C 0 dL_loop_2 rfl rfl ?_
  refine kj_iload_n (pc := 3) C 1 dL_loop_3 rfl rfl ?_
  refine kj_iload_n (pc := 4) C 2 dL_loop_4 rfl rfl ?_
  refine kj_callVC (pc := 5) (as := [.int x1, .int x2]) (rest := [.int (0 : Int32), .ref o9]) (b := a 0) C hM wd_X8_loop wk_L_25 wi_X8_loop ws_X8_loop wz_X8 hrc hrs hd_X8_loop ⟨Nat.le_refl _, by show 8 + (3 + 11) + rm.locals ≤ rm.locals + 60; omega⟩ 0 rfl rfl rfl rfl (Nat.le_of_ble_eq_true rfl) (by show 0 + 1 ≤ rm.cells ∧ 0 + 6 ≤ rm.slots; omega) dL_loop_5 [] ⟨0, 10, 13, 13⟩ [] (htb.trans rfl) (fun z hz => nomatch hz) (by decide) (by decide) wq_L_13 (by decide +kernel) (fun q => ?_)
  refine kj_astore (pc := 13) C [1, 2, 3, 4, 0] (L2 := [(0, .ref (a 0)), (1, .int x1), (2, .int x2), (3, .ref o9), (4, .ref q)]) dL_loop_13 (by decide) rfl ?_
  refine kj_iconst (pc := 15) (v := (1 : Int32)) C dL_loop_15 (by decide) ?_
  exact kj_iret (pc := 16) C dL_loop_16
theorem hd_L_chart : yL_chart.cls ≠ "java/lang/invoke/MethodHandle" ∧ yL_chart.cls ≠ "java/lang/invoke/VarHandle" ∧ (parseMethodDescriptor yL_chart.desc).map (fun d => d.parameters.length) = some 4 := by decide +kernel
set_option maxRecDepth 100000 in
set_option maxHeartbeats 4000000 in
theorem cn_L_chart (l : Launch) (V : kb_V) (A : Nat → Prop) (x1 : Int32) (x2 : Int32) (a : Nat → Nat) (σ : kb_S) (sh : Value) (o9 : Nat) (ov : Nat → Int64) (ex : va_W) (σ9 : kb_S) (r : Int32) {rm : Room} (hrc : rm.cells = 0) (hrs : rm.slots = 0) (hM : kb_T l yX8_chart cX8_chart 3 (some .int) rm V A [.ref (a 0), .int x1, .int x2] (kb_W V a σ sh (kb_O V o9 ov :: ex)) (some (.int r)) (kb_W V a σ9 sh (kb_O V o9 ov :: ex)) 0 0) : kb_TH l yL_chart cL_chart 5 [(0, 10, 13, 13), (0, 10, 17, 32)] ({ frames := rm.frames + 1, cells := rm.cells, slots := rm.slots, locals := rm.locals + 60 } : Room) V A [.ref (a 0), .int x1, .int x2, .ref o9] (kb_W V a σ sh (kb_O V o9 ov :: ex)) 0 (kb_W V a σ9 sh (kb_O V o9 (vp_updL ov 0 r.toInt64) :: ex)) 0 0 := by
  refine kb_startH (cc := cL_chart) (nL := 5) (own := RL) (by decide) rfl (Nat.le_of_ble_eq_true rfl) ?_
  intro p e s m args below meth c C htb
  refine kj_sub [0, 1, 2, 3] (L2 := [(0, .ref (a 0)), (1, .int x1), (2, .int x2), (3, .ref o9)]) rfl ?_
  refine kj_aload_n (pc := 0) C 3 dL_chart_0 rfl rfl ?_
  refine kj_iconst (pc := 1) (v := (0 : Int32)) C dL_chart_1 (by decide) ?_
  refine kj_aload_n (pc := 2) C 0 dL_chart_2 rfl rfl ?_
  refine kj_iload_n (pc := 3) C 1 dL_chart_3 rfl rfl ?_
  refine kj_iload_n (pc := 4) C 2 dL_chart_4 rfl rfl ?_
  refine kj_callV0 (pc := 5) (as := [.int x1, .int x2]) (rest := [.int (0 : Int32), .ref o9]) (b := a 0) C hM wd_X8_chart wk_L_29 wi_X8_chart ws_X8_chart wz_X8 hrc hrs hd_X8_chart ⟨Nat.le_refl _, by show 8 + (3 + 11) + rm.locals ≤ rm.locals + 60; omega⟩ 0 rfl rfl rfl rfl (Nat.le_of_ble_eq_true rfl) (by show 0 ≤ rm.cells ∧ 0 ≤ rm.slots; omega) dL_chart_5 ?_
  refine kj_i2l (pc := 8) C dL_chart_8 ?_
  refine kj_last (pc := 9) (ws2 := (kb_W V a σ9 sh (kb_O V o9 (vp_updL ov 0 r.toInt64) :: ex))) C 20 rfl (vp_in_nI (n := 0) (N := 1) (by decide) (by decide)) rfl dL_chart_9 ?_
  refine kj_goto (pc := 10) 21 C dL_chart_10 (by decide) ?_
  refine kj_iconst (pc := 21) (v := (0 : Int32)) C dL_chart_21 (by decide) ?_
  exact kj_iret (pc := 22) C dL_chart_22
set_option maxRecDepth 100000 in
set_option maxHeartbeats 4000000 in
theorem cx_L_chart_1 (l : Launch) (V : kb_V) (A : Nat → Prop) (x1 : Int32) (x2 : Int32) (a : Nat → Nat) (σ : kb_S) (sh : Value) (o9 : Nat) (ex : va_W) (σ9 : kb_S) {rm : Room} (hrc : rm.cells = 1) (hrs : rm.slots = 6) (hM : kb_TX l yX8_chart cX8_chart 3 (some .int) rm V A [.ref (a 0), .int x1, .int x2] (kb_W V a σ sh ex) (kb_EN 1) (kb_W V a σ9 sh ex) 1 6) : kb_TH l yL_chart cL_chart 5 [(0, 10, 13, 13), (0, 10, 17, 32)] ({ frames := rm.frames + 1, cells := rm.cells, slots := rm.slots, locals := rm.locals + 60 } : Room) V A [.ref (a 0), .int x1, .int x2, .ref o9] (kb_W V a σ sh ex) 1 (kb_W V a σ9 sh ex) 1 6 := by
  refine kb_startH (cc := cL_chart) (nL := 5) (own := RL) (by decide) rfl (Nat.le_of_ble_eq_true rfl) ?_
  intro p e s m args below meth c C htb
  refine kj_sub [0, 1, 2, 3] (L2 := [(0, .ref (a 0)), (1, .int x1), (2, .int x2), (3, .ref o9)]) rfl ?_
  refine kj_aload_n (pc := 0) C 3 dL_chart_0 rfl rfl ?_
  refine kj_iconst (pc := 1) (v := (0 : Int32)) C dL_chart_1 (by decide) ?_
  refine kj_aload_n (pc := 2) C 0 dL_chart_2 rfl rfl ?_
  refine kj_iload_n (pc := 3) C 1 dL_chart_3 rfl rfl ?_
  refine kj_iload_n (pc := 4) C 2 dL_chart_4 rfl rfl ?_
  refine kj_callVC (pc := 5) (as := [.int x1, .int x2]) (rest := [.int (0 : Int32), .ref o9]) (b := a 0) C hM wd_X8_chart wk_L_29 wi_X8_chart ws_X8_chart wz_X8 hrc hrs hd_X8_chart ⟨Nat.le_refl _, by show 8 + (3 + 11) + rm.locals ≤ rm.locals + 60; omega⟩ 0 rfl rfl rfl rfl (Nat.le_of_ble_eq_true rfl) (by show 0 + 1 ≤ rm.cells ∧ 0 + 6 ≤ rm.slots; omega) dL_chart_5 [] ⟨0, 10, 13, 13⟩ [⟨0, 10, 17, 32⟩] (htb.trans rfl) (fun z hz => nomatch hz) (by decide) (by decide) wq_L_13 (by decide +kernel) (fun q => ?_)
  refine kj_astore (pc := 13) C [1, 2, 3, 4, 0] (L2 := [(0, .ref (a 0)), (1, .int x1), (2, .int x2), (3, .ref o9), (4, .ref q)]) dL_chart_13 (by decide) rfl ?_
  refine kj_iconst (pc := 15) (v := (1 : Int32)) C dL_chart_15 (by decide) ?_
  exact kj_iret (pc := 16) C dL_chart_16
set_option maxRecDepth 100000 in
set_option maxHeartbeats 4000000 in
theorem cx_L_chart_3 (l : Launch) (V : kb_V) (A : Nat → Prop) (x1 : Int32) (x2 : Int32) (a : Nat → Nat) (σ : kb_S) (sh : Value) (o9 : Nat) (ex : va_W) (σ9 : kb_S) {rm : Room} (hrc : rm.cells = 1) (hrs : rm.slots = 6) (hM : kb_TX l yX8_chart cX8_chart 3 (some .int) rm V A [.ref (a 0), .int x1, .int x2] (kb_W V a σ sh ex) (kb_EN 3) (kb_W V a σ9 sh ex) 1 6) : kb_TH l yL_chart cL_chart 5 [(0, 10, 13, 13), (0, 10, 17, 32)] ({ frames := rm.frames + 1, cells := rm.cells, slots := rm.slots, locals := rm.locals + 60 } : Room) V A [.ref (a 0), .int x1, .int x2, .ref o9] (kb_W V a σ sh ex) 2 (kb_W V a σ9 sh ex) 1 6 := by
  refine kb_startH (cc := cL_chart) (nL := 5) (own := RL) (by decide) rfl (Nat.le_of_ble_eq_true rfl) ?_
  intro p e s m args below meth c C htb
  refine kj_sub [0, 1, 2, 3] (L2 := [(0, .ref (a 0)), (1, .int x1), (2, .int x2), (3, .ref o9)]) rfl ?_
  refine kj_aload_n (pc := 0) C 3 dL_chart_0 rfl rfl ?_
  refine kj_iconst (pc := 1) (v := (0 : Int32)) C dL_chart_1 (by decide) ?_
  refine kj_aload_n (pc := 2) C 0 dL_chart_2 rfl rfl ?_
  refine kj_iload_n (pc := 3) C 1 dL_chart_3 rfl rfl ?_
  refine kj_iload_n (pc := 4) C 2 dL_chart_4 rfl rfl ?_
  refine kj_callVC (pc := 5) (as := [.int x1, .int x2]) (rest := [.int (0 : Int32), .ref o9]) (b := a 0) C hM wd_X8_chart wk_L_29 wi_X8_chart ws_X8_chart wz_X8 hrc hrs hd_X8_chart ⟨Nat.le_refl _, by show 8 + (3 + 11) + rm.locals ≤ rm.locals + 60; omega⟩ 0 rfl rfl rfl rfl (Nat.le_of_ble_eq_true rfl) (by show 0 + 1 ≤ rm.cells ∧ 0 + 6 ≤ rm.slots; omega) dL_chart_5 [⟨0, 10, 13, 13⟩] ⟨0, 10, 17, 32⟩ [] (htb.trans rfl) (fun z hz => by
    rcases List.mem_singleton.mp hz with rfl
    exact Or.inr ⟨by decide, "java/lang/IllegalArgumentException", wq_L_13, by decide +kernel⟩) (by decide) (by decide) wq_L_32 (by decide +kernel) (fun q => ?_)
  refine kj_astore (pc := 17) C [1, 2, 3, 4, 0] (L2 := [(0, .ref (a 0)), (1, .int x1), (2, .int x2), (3, .ref o9), (4, .ref q)]) dL_chart_17 (by decide) rfl ?_
  refine kj_iconst (pc := 19) (v := (2 : Int32)) C dL_chart_19 (by decide) ?_
  exact kj_iret (pc := 20) C dL_chart_20
theorem hd_L_row : yL_row.cls ≠ "java/lang/invoke/MethodHandle" ∧ yL_row.cls ≠ "java/lang/invoke/VarHandle" ∧ (parseMethodDescriptor yL_row.desc).map (fun d => d.parameters.length) = some 4 := by decide +kernel
set_option maxRecDepth 100000 in
set_option maxHeartbeats 4000000 in
theorem cn_L_row (l : Launch) (V : kb_V) (A : Nat → Prop) (x1 : Int32) (x2 : Int32) (a : Nat → Nat) (σ : kb_S) (sh : Value) (o9 : Nat) (ov : Nat → Int64) (ex : va_W) (σ9 : kb_S) (r : Int32) {rm : Room} (hrc : rm.cells = 0) (hrs : rm.slots = 0) (hM : kb_T l yX8_row cX8_row 3 (some .int) rm V A [.ref (a 0), .int x1, .int x2] (kb_W V a σ sh (kb_O V o9 ov :: ex)) (some (.int r)) (kb_W V a σ9 sh (kb_O V o9 ov :: ex)) 0 0) : kb_TH l yL_row cL_row 5 [(0, 10, 13, 13)] ({ frames := rm.frames + 1, cells := rm.cells, slots := rm.slots, locals := rm.locals + 60 } : Room) V A [.ref (a 0), .int x1, .int x2, .ref o9] (kb_W V a σ sh (kb_O V o9 ov :: ex)) 0 (kb_W V a σ9 sh (kb_O V o9 (vp_updL ov 0 r.toInt64) :: ex)) 0 0 := by
  refine kb_startH (cc := cL_row) (nL := 5) (own := RL) (by decide) rfl (Nat.le_of_ble_eq_true rfl) ?_
  intro p e s m args below meth c C htb
  refine kj_sub [0, 1, 2, 3] (L2 := [(0, .ref (a 0)), (1, .int x1), (2, .int x2), (3, .ref o9)]) rfl ?_
  refine kj_aload_n (pc := 0) C 3 dL_row_0 rfl rfl ?_
  refine kj_iconst (pc := 1) (v := (0 : Int32)) C dL_row_1 (by decide) ?_
  refine kj_aload_n (pc := 2) C 0 dL_row_2 rfl rfl ?_
  refine kj_iload_n (pc := 3) C 1 dL_row_3 rfl rfl ?_
  refine kj_iload_n (pc := 4) C 2 dL_row_4 rfl rfl ?_
  refine kj_callV0 (pc := 5) (as := [.int x1, .int x2]) (rest := [.int (0 : Int32), .ref o9]) (b := a 0) C hM wd_X8_row wk_L_34 wi_X8_row ws_X8_row wz_X8 hrc hrs hd_X8_row ⟨Nat.le_refl _, by show 8 + (3 + 11) + rm.locals ≤ rm.locals + 60; omega⟩ 0 rfl rfl rfl rfl (Nat.le_of_ble_eq_true rfl) (by show 0 ≤ rm.cells ∧ 0 ≤ rm.slots; omega) dL_row_5 ?_
  refine kj_i2l (pc := 8) C dL_row_8 ?_
  refine kj_last (pc := 9) (ws2 := (kb_W V a σ9 sh (kb_O V o9 (vp_updL ov 0 r.toInt64) :: ex))) C 20 rfl (vp_in_nI (n := 0) (N := 1) (by decide) (by decide)) rfl dL_row_9 ?_
  refine kj_goto (pc := 10) 17 C dL_row_10 (by decide) ?_
  refine kj_iconst (pc := 17) (v := (0 : Int32)) C dL_row_17 (by decide) ?_
  exact kj_iret (pc := 18) C dL_row_18
set_option maxRecDepth 100000 in
set_option maxHeartbeats 4000000 in
theorem cx_L_row_1 (l : Launch) (V : kb_V) (A : Nat → Prop) (x1 : Int32) (x2 : Int32) (a : Nat → Nat) (σ : kb_S) (sh : Value) (o9 : Nat) (ex : va_W) (σ9 : kb_S) {rm : Room} (hrc : rm.cells = 1) (hrs : rm.slots = 6) (hM : kb_TX l yX8_row cX8_row 3 (some .int) rm V A [.ref (a 0), .int x1, .int x2] (kb_W V a σ sh ex) (kb_EN 1) (kb_W V a σ9 sh ex) 1 6) : kb_TH l yL_row cL_row 5 [(0, 10, 13, 13)] ({ frames := rm.frames + 1, cells := rm.cells, slots := rm.slots, locals := rm.locals + 60 } : Room) V A [.ref (a 0), .int x1, .int x2, .ref o9] (kb_W V a σ sh ex) 1 (kb_W V a σ9 sh ex) 1 6 := by
  refine kb_startH (cc := cL_row) (nL := 5) (own := RL) (by decide) rfl (Nat.le_of_ble_eq_true rfl) ?_
  intro p e s m args below meth c C htb
  refine kj_sub [0, 1, 2, 3] (L2 := [(0, .ref (a 0)), (1, .int x1), (2, .int x2), (3, .ref o9)]) rfl ?_
  refine kj_aload_n (pc := 0) C 3 dL_row_0 rfl rfl ?_
  refine kj_iconst (pc := 1) (v := (0 : Int32)) C dL_row_1 (by decide) ?_
  refine kj_aload_n (pc := 2) C 0 dL_row_2 rfl rfl ?_
  refine kj_iload_n (pc := 3) C 1 dL_row_3 rfl rfl ?_
  refine kj_iload_n (pc := 4) C 2 dL_row_4 rfl rfl ?_
  refine kj_callVC (pc := 5) (as := [.int x1, .int x2]) (rest := [.int (0 : Int32), .ref o9]) (b := a 0) C hM wd_X8_row wk_L_34 wi_X8_row ws_X8_row wz_X8 hrc hrs hd_X8_row ⟨Nat.le_refl _, by show 8 + (3 + 11) + rm.locals ≤ rm.locals + 60; omega⟩ 0 rfl rfl rfl rfl (Nat.le_of_ble_eq_true rfl) (by show 0 + 1 ≤ rm.cells ∧ 0 + 6 ≤ rm.slots; omega) dL_row_5 [] ⟨0, 10, 13, 13⟩ [] (htb.trans rfl) (fun z hz => nomatch hz) (by decide) (by decide) wq_L_13 (by decide +kernel) (fun q => ?_)
  refine kj_astore (pc := 13) C [1, 2, 3, 4, 0] (L2 := [(0, .ref (a 0)), (1, .int x1), (2, .int x2), (3, .ref o9), (4, .ref q)]) dL_row_13 (by decide) rfl ?_
  refine kj_iconst (pc := 15) (v := (1 : Int32)) C dL_row_15 (by decide) ?_
  exact kj_iret (pc := 16) C dL_row_16
theorem hd_L_shorten : yL_shorten.cls ≠ "java/lang/invoke/MethodHandle" ∧ yL_shorten.cls ≠ "java/lang/invoke/VarHandle" ∧ (parseMethodDescriptor yL_shorten.desc).map (fun d => d.parameters.length) = some 3 := by decide +kernel
set_option maxRecDepth 100000 in
set_option maxHeartbeats 4000000 in
theorem cn_L_shorten (l : Launch) (V : kb_V) (A : Nat → Prop) (x1 : Int32) (a : Nat → Nat) (σ : kb_S) (sh : Value) (o9 : Nat) (ov : Nat → Int64) (ex : va_W) (σ9 : kb_S) (r : Int32) {rm : Room} (hrc : rm.cells = 0) (hrs : rm.slots = 0) (hM : kb_T l yX8_shorten cX8_shorten 2 (some .int) rm V A [.ref (a 0), .int x1] (kb_W V a σ sh (kb_O V o9 ov :: ex)) (some (.int r)) (kb_W V a σ9 sh (kb_O V o9 ov :: ex)) 0 0) : kb_TH l yL_shorten cL_shorten 4 [(0, 9, 12, 13)] ({ frames := rm.frames + 1, cells := rm.cells, slots := rm.slots, locals := rm.locals + 60 } : Room) V A [.ref (a 0), .int x1, .ref o9] (kb_W V a σ sh (kb_O V o9 ov :: ex)) 0 (kb_W V a σ9 sh (kb_O V o9 (vp_updL ov 0 r.toInt64) :: ex)) 0 0 := by
  refine kb_startH (cc := cL_shorten) (nL := 4) (own := RL) (by decide) rfl (Nat.le_of_ble_eq_true rfl) ?_
  intro p e s m args below meth c C htb
  refine kj_sub [0, 1, 2] (L2 := [(0, .ref (a 0)), (1, .int x1), (2, .ref o9)]) rfl ?_
  refine kj_aload_n (pc := 0) C 2 dL_shorten_0 rfl rfl ?_
  refine kj_iconst (pc := 1) (v := (0 : Int32)) C dL_shorten_1 (by decide) ?_
  refine kj_aload_n (pc := 2) C 0 dL_shorten_2 rfl rfl ?_
  refine kj_iload_n (pc := 3) C 1 dL_shorten_3 rfl rfl ?_
  refine kj_callV0 (pc := 4) (as := [.int x1]) (rest := [.int (0 : Int32), .ref o9]) (b := a 0) C hM wd_X8_shorten wk_L_37 wi_X8_shorten ws_X8_shorten wz_X8 hrc hrs hd_X8_shorten ⟨Nat.le_refl _, by show 8 + (2 + 11) + rm.locals ≤ rm.locals + 60; omega⟩ 0 rfl rfl rfl rfl (Nat.le_of_ble_eq_true rfl) (by show 0 ≤ rm.cells ∧ 0 ≤ rm.slots; omega) dL_shorten_4 ?_
  refine kj_i2l (pc := 7) C dL_shorten_7 ?_
  refine kj_last (pc := 8) (ws2 := (kb_W V a σ9 sh (kb_O V o9 (vp_updL ov 0 r.toInt64) :: ex))) C 20 rfl (vp_in_nI (n := 0) (N := 1) (by decide) (by decide)) rfl dL_shorten_8 ?_
  refine kj_goto (pc := 9) 15 C dL_shorten_9 (by decide) ?_
  refine kj_iconst (pc := 15) (v := (0 : Int32)) C dL_shorten_15 (by decide) ?_
  exact kj_iret (pc := 16) C dL_shorten_16
set_option maxRecDepth 100000 in
set_option maxHeartbeats 4000000 in
theorem cx_L_shorten_1 (l : Launch) (V : kb_V) (A : Nat → Prop) (x1 : Int32) (a : Nat → Nat) (σ : kb_S) (sh : Value) (o9 : Nat) (ex : va_W) (σ9 : kb_S) {rm : Room} (hrc : rm.cells = 1) (hrs : rm.slots = 6) (hM : kb_TX l yX8_shorten cX8_shorten 2 (some .int) rm V A [.ref (a 0), .int x1] (kb_W V a σ sh ex) (kb_EN 1) (kb_W V a σ9 sh ex) 1 6) : kb_TH l yL_shorten cL_shorten 4 [(0, 9, 12, 13)] ({ frames := rm.frames + 1, cells := rm.cells, slots := rm.slots, locals := rm.locals + 60 } : Room) V A [.ref (a 0), .int x1, .ref o9] (kb_W V a σ sh ex) 1 (kb_W V a σ9 sh ex) 1 6 := by
  refine kb_startH (cc := cL_shorten) (nL := 4) (own := RL) (by decide) rfl (Nat.le_of_ble_eq_true rfl) ?_
  intro p e s m args below meth c C htb
  refine kj_sub [0, 1, 2] (L2 := [(0, .ref (a 0)), (1, .int x1), (2, .ref o9)]) rfl ?_
  refine kj_aload_n (pc := 0) C 2 dL_shorten_0 rfl rfl ?_
  refine kj_iconst (pc := 1) (v := (0 : Int32)) C dL_shorten_1 (by decide) ?_
  refine kj_aload_n (pc := 2) C 0 dL_shorten_2 rfl rfl ?_
  refine kj_iload_n (pc := 3) C 1 dL_shorten_3 rfl rfl ?_
  refine kj_callVC (pc := 4) (as := [.int x1]) (rest := [.int (0 : Int32), .ref o9]) (b := a 0) C hM wd_X8_shorten wk_L_37 wi_X8_shorten ws_X8_shorten wz_X8 hrc hrs hd_X8_shorten ⟨Nat.le_refl _, by show 8 + (2 + 11) + rm.locals ≤ rm.locals + 60; omega⟩ 0 rfl rfl rfl rfl (Nat.le_of_ble_eq_true rfl) (by show 0 + 1 ≤ rm.cells ∧ 0 + 6 ≤ rm.slots; omega) dL_shorten_4 [] ⟨0, 9, 12, 13⟩ [] (htb.trans rfl) (fun z hz => nomatch hz) (by decide) (by decide) wq_L_13 (by decide +kernel) (fun q => ?_)
  refine kj_astore_n (pc := 12) C [1, 2, 3, 0] (L2 := [(0, .ref (a 0)), (1, .int x1), (2, .ref o9), (3, .ref q)]) dL_shorten_12 rfl (by decide) rfl ?_
  refine kj_iconst (pc := 13) (v := (1 : Int32)) C dL_shorten_13 (by decide) ?_
  exact kj_iret (pc := 14) C dL_shorten_14
theorem hd_L_out : yL_out.cls ≠ "java/lang/invoke/MethodHandle" ∧ yL_out.cls ≠ "java/lang/invoke/VarHandle" ∧ (parseMethodDescriptor yL_out.desc).map (fun d => d.parameters.length) = some 3 := by decide +kernel
set_option maxRecDepth 100000 in
set_option maxHeartbeats 4000000 in
theorem cn_L_out (l : Launch) (V : kb_V) (A : Nat → Prop) (x1 : Int32) (a : Nat → Nat) (σ : kb_S) (sh : Value) (o9 : Nat) (ov : Nat → Int64) (ex : va_W) (σ9 : kb_S) (r : Int32) {rm : Room} (hrc : rm.cells = 0) (hrs : rm.slots = 0) (hM : kb_T l yX8_out cX8_out 2 (some .int) rm V A [.ref (a 0), .int x1] (kb_W V a σ sh (kb_O V o9 ov :: ex)) (some (.int r)) (kb_W V a σ9 sh (kb_O V o9 ov :: ex)) 0 0) : kb_TH l yL_out cL_out 4 [(0, 9, 12, 13)] ({ frames := rm.frames + 1, cells := rm.cells, slots := rm.slots, locals := rm.locals + 60 } : Room) V A [.ref (a 0), .int x1, .ref o9] (kb_W V a σ sh (kb_O V o9 ov :: ex)) 0 (kb_W V a σ9 sh (kb_O V o9 (vp_updL ov 0 r.toInt64) :: ex)) 0 0 := by
  refine kb_startH (cc := cL_out) (nL := 4) (own := RL) (by decide) rfl (Nat.le_of_ble_eq_true rfl) ?_
  intro p e s m args below meth c C htb
  refine kj_sub [0, 1, 2] (L2 := [(0, .ref (a 0)), (1, .int x1), (2, .ref o9)]) rfl ?_
  refine kj_aload_n (pc := 0) C 2 dL_out_0 rfl rfl ?_
  refine kj_iconst (pc := 1) (v := (0 : Int32)) C dL_out_1 (by decide) ?_
  refine kj_aload_n (pc := 2) C 0 dL_out_2 rfl rfl ?_
  refine kj_iload_n (pc := 3) C 1 dL_out_3 rfl rfl ?_
  refine kj_callV0 (pc := 4) (as := [.int x1]) (rest := [.int (0 : Int32), .ref o9]) (b := a 0) C hM wd_X8_out wk_L_40 wi_X8_out ws_X8_out wz_X8 hrc hrs hd_X8_out ⟨Nat.le_refl _, by show 8 + (2 + 11) + rm.locals ≤ rm.locals + 60; omega⟩ 0 rfl rfl rfl rfl (Nat.le_of_ble_eq_true rfl) (by show 0 ≤ rm.cells ∧ 0 ≤ rm.slots; omega) dL_out_4 ?_
  refine kj_i2l (pc := 7) C dL_out_7 ?_
  refine kj_last (pc := 8) (ws2 := (kb_W V a σ9 sh (kb_O V o9 (vp_updL ov 0 r.toInt64) :: ex))) C 20 rfl (vp_in_nI (n := 0) (N := 1) (by decide) (by decide)) rfl dL_out_8 ?_
  refine kj_goto (pc := 9) 15 C dL_out_9 (by decide) ?_
  refine kj_iconst (pc := 15) (v := (0 : Int32)) C dL_out_15 (by decide) ?_
  exact kj_iret (pc := 16) C dL_out_16
set_option maxRecDepth 100000 in
set_option maxHeartbeats 4000000 in
theorem cx_L_out_1 (l : Launch) (V : kb_V) (A : Nat → Prop) (x1 : Int32) (a : Nat → Nat) (σ : kb_S) (sh : Value) (o9 : Nat) (ex : va_W) (σ9 : kb_S) {rm : Room} (hrc : rm.cells = 1) (hrs : rm.slots = 6) (hM : kb_TX l yX8_out cX8_out 2 (some .int) rm V A [.ref (a 0), .int x1] (kb_W V a σ sh ex) (kb_EN 1) (kb_W V a σ9 sh ex) 1 6) : kb_TH l yL_out cL_out 4 [(0, 9, 12, 13)] ({ frames := rm.frames + 1, cells := rm.cells, slots := rm.slots, locals := rm.locals + 60 } : Room) V A [.ref (a 0), .int x1, .ref o9] (kb_W V a σ sh ex) 1 (kb_W V a σ9 sh ex) 1 6 := by
  refine kb_startH (cc := cL_out) (nL := 4) (own := RL) (by decide) rfl (Nat.le_of_ble_eq_true rfl) ?_
  intro p e s m args below meth c C htb
  refine kj_sub [0, 1, 2] (L2 := [(0, .ref (a 0)), (1, .int x1), (2, .ref o9)]) rfl ?_
  refine kj_aload_n (pc := 0) C 2 dL_out_0 rfl rfl ?_
  refine kj_iconst (pc := 1) (v := (0 : Int32)) C dL_out_1 (by decide) ?_
  refine kj_aload_n (pc := 2) C 0 dL_out_2 rfl rfl ?_
  refine kj_iload_n (pc := 3) C 1 dL_out_3 rfl rfl ?_
  refine kj_callVC (pc := 4) (as := [.int x1]) (rest := [.int (0 : Int32), .ref o9]) (b := a 0) C hM wd_X8_out wk_L_40 wi_X8_out ws_X8_out wz_X8 hrc hrs hd_X8_out ⟨Nat.le_refl _, by show 8 + (2 + 11) + rm.locals ≤ rm.locals + 60; omega⟩ 0 rfl rfl rfl rfl (Nat.le_of_ble_eq_true rfl) (by show 0 + 1 ≤ rm.cells ∧ 0 + 6 ≤ rm.slots; omega) dL_out_4 [] ⟨0, 9, 12, 13⟩ [] (htb.trans rfl) (fun z hz => nomatch hz) (by decide) (by decide) wq_L_13 (by decide +kernel) (fun q => ?_)
  refine kj_astore_n (pc := 12) C [1, 2, 3, 0] (L2 := [(0, .ref (a 0)), (1, .int x1), (2, .ref o9), (3, .ref q)]) dL_out_12 rfl (by decide) rfl ?_
  refine kj_iconst (pc := 13) (v := (1 : Int32)) C dL_out_13 (by decide) ?_
  exact kj_iret (pc := 14) C dL_out_14
theorem hd_L_ladder : yL_ladder.cls ≠ "java/lang/invoke/MethodHandle" ∧ yL_ladder.cls ≠ "java/lang/invoke/VarHandle" ∧ (parseMethodDescriptor yL_ladder.desc).map (fun d => d.parameters.length) = some 3 := by decide +kernel
set_option maxRecDepth 100000 in
set_option maxHeartbeats 4000000 in
theorem cn_L_ladder (l : Launch) (V : kb_V) (A : Nat → Prop) (x1 : Int32) (a : Nat → Nat) (σ : kb_S) (sh : Value) (o9 : Nat) (ov : Nat → Int64) (ex : va_W) (σ9 : kb_S) (r : Int32) {rm : Room} (hrc : rm.cells = 0) (hrs : rm.slots = 0) (hM : kb_T l yX8_ladder cX8_ladder 3 (some .int) rm V A [.ref (a 0), .int x1] (kb_W V a σ sh (kb_O V o9 ov :: ex)) (some (.int r)) (kb_W V a σ9 sh (kb_O V o9 ov :: ex)) 0 0) : kb_TH l yL_ladder cL_ladder 4 [(0, 9, 12, 13)] ({ frames := rm.frames + 1, cells := rm.cells, slots := rm.slots, locals := rm.locals + 60 } : Room) V A [.ref (a 0), .int x1, .ref o9] (kb_W V a σ sh (kb_O V o9 ov :: ex)) 0 (kb_W V a σ9 sh (kb_O V o9 (vp_updL ov 0 r.toInt64) :: ex)) 0 0 := by
  refine kb_startH (cc := cL_ladder) (nL := 4) (own := RL) (by decide) rfl (Nat.le_of_ble_eq_true rfl) ?_
  intro p e s m args below meth c C htb
  refine kj_sub [0, 1, 2] (L2 := [(0, .ref (a 0)), (1, .int x1), (2, .ref o9)]) rfl ?_
  refine kj_aload_n (pc := 0) C 2 dL_ladder_0 rfl rfl ?_
  refine kj_iconst (pc := 1) (v := (0 : Int32)) C dL_ladder_1 (by decide) ?_
  refine kj_aload_n (pc := 2) C 0 dL_ladder_2 rfl rfl ?_
  refine kj_iload_n (pc := 3) C 1 dL_ladder_3 rfl rfl ?_
  refine kj_callV0 (pc := 4) (as := [.int x1]) (rest := [.int (0 : Int32), .ref o9]) (b := a 0) C hM wd_X8_ladder wk_L_43 wi_X8_ladder ws_X8_ladder wz_X8 hrc hrs hd_X8_ladder ⟨Nat.le_refl _, by show 8 + (3 + 11) + rm.locals ≤ rm.locals + 60; omega⟩ 0 rfl rfl rfl rfl (Nat.le_of_ble_eq_true rfl) (by show 0 ≤ rm.cells ∧ 0 ≤ rm.slots; omega) dL_ladder_4 ?_
  refine kj_i2l (pc := 7) C dL_ladder_7 ?_
  refine kj_last (pc := 8) (ws2 := (kb_W V a σ9 sh (kb_O V o9 (vp_updL ov 0 r.toInt64) :: ex))) C 20 rfl (vp_in_nI (n := 0) (N := 1) (by decide) (by decide)) rfl dL_ladder_8 ?_
  refine kj_goto (pc := 9) 15 C dL_ladder_9 (by decide) ?_
  refine kj_iconst (pc := 15) (v := (0 : Int32)) C dL_ladder_15 (by decide) ?_
  exact kj_iret (pc := 16) C dL_ladder_16
set_option maxRecDepth 100000 in
set_option maxHeartbeats 4000000 in
theorem cx_L_ladder_1 (l : Launch) (V : kb_V) (A : Nat → Prop) (x1 : Int32) (a : Nat → Nat) (σ : kb_S) (sh : Value) (o9 : Nat) (ex : va_W) (σ9 : kb_S) {rm : Room} (hrc : rm.cells = 1) (hrs : rm.slots = 6) (hM : kb_TX l yX8_ladder cX8_ladder 3 (some .int) rm V A [.ref (a 0), .int x1] (kb_W V a σ sh ex) (kb_EN 1) (kb_W V a σ9 sh ex) 1 6) : kb_TH l yL_ladder cL_ladder 4 [(0, 9, 12, 13)] ({ frames := rm.frames + 1, cells := rm.cells, slots := rm.slots, locals := rm.locals + 60 } : Room) V A [.ref (a 0), .int x1, .ref o9] (kb_W V a σ sh ex) 1 (kb_W V a σ9 sh ex) 1 6 := by
  refine kb_startH (cc := cL_ladder) (nL := 4) (own := RL) (by decide) rfl (Nat.le_of_ble_eq_true rfl) ?_
  intro p e s m args below meth c C htb
  refine kj_sub [0, 1, 2] (L2 := [(0, .ref (a 0)), (1, .int x1), (2, .ref o9)]) rfl ?_
  refine kj_aload_n (pc := 0) C 2 dL_ladder_0 rfl rfl ?_
  refine kj_iconst (pc := 1) (v := (0 : Int32)) C dL_ladder_1 (by decide) ?_
  refine kj_aload_n (pc := 2) C 0 dL_ladder_2 rfl rfl ?_
  refine kj_iload_n (pc := 3) C 1 dL_ladder_3 rfl rfl ?_
  refine kj_callVC (pc := 4) (as := [.int x1]) (rest := [.int (0 : Int32), .ref o9]) (b := a 0) C hM wd_X8_ladder wk_L_43 wi_X8_ladder ws_X8_ladder wz_X8 hrc hrs hd_X8_ladder ⟨Nat.le_refl _, by show 8 + (3 + 11) + rm.locals ≤ rm.locals + 60; omega⟩ 0 rfl rfl rfl rfl (Nat.le_of_ble_eq_true rfl) (by show 0 + 1 ≤ rm.cells ∧ 0 + 6 ≤ rm.slots; omega) dL_ladder_4 [] ⟨0, 9, 12, 13⟩ [] (htb.trans rfl) (fun z hz => nomatch hz) (by decide) (by decide) wq_L_13 (by decide +kernel) (fun q => ?_)
  refine kj_astore_n (pc := 12) C [1, 2, 3, 0] (L2 := [(0, .ref (a 0)), (1, .int x1), (2, .ref o9), (3, .ref q)]) dL_ladder_12 rfl (by decide) rfl ?_
  refine kj_iconst (pc := 13) (v := (1 : Int32)) C dL_ladder_13 (by decide) ?_
  exact kj_iret (pc := 14) C dL_ladder_14
theorem hd_L_total : yL_total.cls ≠ "java/lang/invoke/MethodHandle" ∧ yL_total.cls ≠ "java/lang/invoke/VarHandle" ∧ (parseMethodDescriptor yL_total.desc).map (fun d => d.parameters.length) = some 3 := by decide +kernel
set_option maxRecDepth 100000 in
set_option maxHeartbeats 4000000 in
theorem cn_L_total (l : Launch) (V : kb_V) (A : Nat → Prop) (x1 : Int32) (a : Nat → Nat) (σ : kb_S) (sh : Value) (o9 : Nat) (ov : Nat → Int64) (ex : va_W) (σ9 : kb_S) (r : Int32) {rm : Room} (hrc : rm.cells = 0) (hrs : rm.slots = 0) (hM : kb_T l yX8_total cX8_total 5 (some .int) rm V A [.ref (a 0), .int x1] (kb_W V a σ sh (kb_O V o9 ov :: ex)) (some (.int r)) (kb_W V a σ9 sh (kb_O V o9 ov :: ex)) 0 0) : kb_TH l yL_total cL_total 4 [(0, 9, 12, 13)] ({ frames := rm.frames + 1, cells := rm.cells, slots := rm.slots, locals := rm.locals + 60 } : Room) V A [.ref (a 0), .int x1, .ref o9] (kb_W V a σ sh (kb_O V o9 ov :: ex)) 0 (kb_W V a σ9 sh (kb_O V o9 (vp_updL ov 0 r.toInt64) :: ex)) 0 0 := by
  refine kb_startH (cc := cL_total) (nL := 4) (own := RL) (by decide) rfl (Nat.le_of_ble_eq_true rfl) ?_
  intro p e s m args below meth c C htb
  refine kj_sub [0, 1, 2] (L2 := [(0, .ref (a 0)), (1, .int x1), (2, .ref o9)]) rfl ?_
  refine kj_aload_n (pc := 0) C 2 dL_total_0 rfl rfl ?_
  refine kj_iconst (pc := 1) (v := (0 : Int32)) C dL_total_1 (by decide) ?_
  refine kj_aload_n (pc := 2) C 0 dL_total_2 rfl rfl ?_
  refine kj_iload_n (pc := 3) C 1 dL_total_3 rfl rfl ?_
  refine kj_callV0 (pc := 4) (as := [.int x1]) (rest := [.int (0 : Int32), .ref o9]) (b := a 0) C hM wd_X8_total wk_L_46 wi_X8_total ws_X8_total wz_X8 hrc hrs hd_X8_total ⟨Nat.le_refl _, by show 8 + (5 + 11) + rm.locals ≤ rm.locals + 60; omega⟩ 0 rfl rfl rfl rfl (Nat.le_of_ble_eq_true rfl) (by show 0 ≤ rm.cells ∧ 0 ≤ rm.slots; omega) dL_total_4 ?_
  refine kj_i2l (pc := 7) C dL_total_7 ?_
  refine kj_last (pc := 8) (ws2 := (kb_W V a σ9 sh (kb_O V o9 (vp_updL ov 0 r.toInt64) :: ex))) C 20 rfl (vp_in_nI (n := 0) (N := 1) (by decide) (by decide)) rfl dL_total_8 ?_
  refine kj_goto (pc := 9) 15 C dL_total_9 (by decide) ?_
  refine kj_iconst (pc := 15) (v := (0 : Int32)) C dL_total_15 (by decide) ?_
  exact kj_iret (pc := 16) C dL_total_16
set_option maxRecDepth 100000 in
set_option maxHeartbeats 4000000 in
theorem cx_L_total_1 (l : Launch) (V : kb_V) (A : Nat → Prop) (x1 : Int32) (a : Nat → Nat) (σ : kb_S) (sh : Value) (o9 : Nat) (ex : va_W) (σ9 : kb_S) {rm : Room} (hrc : rm.cells = 1) (hrs : rm.slots = 6) (hM : kb_TX l yX8_total cX8_total 5 (some .int) rm V A [.ref (a 0), .int x1] (kb_W V a σ sh ex) (kb_EN 1) (kb_W V a σ9 sh ex) 1 6) : kb_TH l yL_total cL_total 4 [(0, 9, 12, 13)] ({ frames := rm.frames + 1, cells := rm.cells, slots := rm.slots, locals := rm.locals + 60 } : Room) V A [.ref (a 0), .int x1, .ref o9] (kb_W V a σ sh ex) 1 (kb_W V a σ9 sh ex) 1 6 := by
  refine kb_startH (cc := cL_total) (nL := 4) (own := RL) (by decide) rfl (Nat.le_of_ble_eq_true rfl) ?_
  intro p e s m args below meth c C htb
  refine kj_sub [0, 1, 2] (L2 := [(0, .ref (a 0)), (1, .int x1), (2, .ref o9)]) rfl ?_
  refine kj_aload_n (pc := 0) C 2 dL_total_0 rfl rfl ?_
  refine kj_iconst (pc := 1) (v := (0 : Int32)) C dL_total_1 (by decide) ?_
  refine kj_aload_n (pc := 2) C 0 dL_total_2 rfl rfl ?_
  refine kj_iload_n (pc := 3) C 1 dL_total_3 rfl rfl ?_
  refine kj_callVC (pc := 4) (as := [.int x1]) (rest := [.int (0 : Int32), .ref o9]) (b := a 0) C hM wd_X8_total wk_L_46 wi_X8_total ws_X8_total wz_X8 hrc hrs hd_X8_total ⟨Nat.le_refl _, by show 8 + (5 + 11) + rm.locals ≤ rm.locals + 60; omega⟩ 0 rfl rfl rfl rfl (Nat.le_of_ble_eq_true rfl) (by show 0 + 1 ≤ rm.cells ∧ 0 + 6 ≤ rm.slots; omega) dL_total_4 [] ⟨0, 9, 12, 13⟩ [] (htb.trans rfl) (fun z hz => nomatch hz) (by decide) (by decide) wq_L_13 (by decide +kernel) (fun q => ?_)
  refine kj_astore_n (pc := 12) C [1, 2, 3, 0] (L2 := [(0, .ref (a 0)), (1, .int x1), (2, .ref o9), (3, .ref q)]) dL_total_12 rfl (by decide) rfl ?_
  refine kj_iconst (pc := 13) (v := (1 : Int32)) C dL_total_13 (by decide) ?_
  exact kj_iret (pc := 14) C dL_total_14
