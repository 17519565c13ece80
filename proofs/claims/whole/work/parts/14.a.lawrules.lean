/-! rows for the law's own body -/
theorem kb_Tperm2 {l : Launch} {y : MethodName} {cc : ByteArray} {nL : Nat} {ret : Option FieldType} {rm : Room} {V : kb_V} {A : Nat → Prop} {as : List Value} {o : Option Value} {W1 W2 U1 U2 : va_W} {mc ms : Nat} (h : W2.Perm W1) (h2 : U1.Perm U2) (hM : kb_T l y cc nL ret rm V A as W1 o U1 mc ms) : kb_T l y cc nL ret rm V A as W2 o U2 mc ms := by
  intro p e ha hc hk s m args below hf happ hP hK
  obtain ⟨k, o, h1, h3, h4, hQ, L, hF, hL⟩ := hM p e ha hc hk s m args below hf happ ⟨hP.1, hP.2.1, kb_Pperm h hP.2.2.1, kb_Dperm h hP.2.2.2.1, hP.2.2.2.2⟩ hK
  exact ⟨k, o, h1, h3, h4, ⟨hQ.1, kb_Pperm h2 hQ.2.1, kb_Dperm h2 hQ.2.2.1, hQ.2.2.2⟩, L, hF, hL⟩
section KBL
variable {p : Program} {l : Launch} {e : Env} {R : Room} {s : State} {m : MethodId} {args : Array Value} {below : List Frame} {meth : Method} {c : Code} {k n : Nat} {Q : State → Prop}
variable {cc : ByteArray} {nL : Nat} {own : String} {w0 : Cond} {ret : Option FieldType} {V : kb_V} {A : Nat → Prop} {pc : Nat} {L : List (Nat × Value)} {st : List Value} {ws ws2 : va_W}
theorem kj_goN {α : Type} {W1 : α → va_W} {o9 : Option Value} {a9 : Array Value} {rest st0 : List Value} {mc ms : Nat} {H : Heap} {locs : List Loc} {ls : Array Slot} (hS : va_S A s.heap H locs) (hl : lv_has ls nL L)
    (hr : va_Run p l e R s m args below meth c H locs k n mc ms (F0 m pc ls st0) rest (kb_postN V A o9 W1 a9) A) (K : ∀ u : α, kb_J p l e R s m args below meth c nL V A (k + mc) (n + ms) Q (pc + 3) L (o9.toList ++ rest) (W1 u)) : W p l e R s m args below meth c H locs k n Q (F0 m pc ls st0) := by
  intro T hT X
  obtain ⟨v, st₀, t, T', L9, h0, X', hL, e1, e2, ⟨hv, ⟨u, hp1, hd1⟩, hz, hk⟩, go⟩ := hr T hT X
  cases hv
  rw [h0] at hz hk
  obtain ⟨t2, a1, b1⟩ := K u T'.heap (locs ++ L9) ls (by rw [e1]; exact hp1) hd1
    ⟨Nat.le_trans hS.1 (by rw [e1]; exact hz), fun q h1 h2 => by rw [e1, hk q (Nat.lt_of_lt_of_le h1 hS.1) h2]; exact hS.2.1 q h1 h2, fun q hq => by
      rcases List.mem_append.mp hq with h | h
      · exact hS.2.2 q h
      · exact hL q h⟩ hl T' rfl X'
  exact ⟨t2, go t2 a1, b1⟩
theorem kj_callVN {α : Type} {W1 : α → va_W} {y : MethodName} {rm : Room} {as rest : List Value} {o9 : Option Value} {mc ms index maxL ci b : Nat} {bytes : ByteArray} {ret9 : Option FieldType} {C0 : String} {fs : List Value} {r0 : vw_C} (C : kb_C p s m args meth c cc nL own w0 ret V A) (hM : kb_TN l y bytes maxL ret9 rm V A (.ref b :: as) ws o9 W1 mc ms) (h1 : Cond.code y bytes maxL ret9 ∈ kb_TB) (h2 : Cond.methodLink own index y ∈ kb_TB) (h3 : Cond.instanceMethod y ∈ kb_TB) (h4 : Cond.selects C0 y y ∈ kb_TB) (h5 : Cond.initialized C0 ∈ kb_TB) (hrc : rm.cells = mc) (hrs : rm.slots = ms)
    (hd : y.cls = C0 ∧ y.cls ≠ "java/lang/invoke/MethodHandle" ∧ y.cls ≠ "java/lang/invoke/VarHandle" ∧ (parseMethodDescriptor y.desc).map (fun d => d.parameters.length) = some as.length) (hR : rm.frames + 1 ≤ R.frames ∧ 8 + (maxL + 11) + rm.locals ≤ R.locals) (q0 : Nat) (he : ws[q0]? = some (b, .inr (ci, fs))) (hc : vwCl[ci]? = some r0) (hr0 : r0.1 = C0) (hst : as.reverse ++ .ref b :: rest = st) (hroom : (rest.map fun v => v.category).sum ≤ 8) (hcs : k + mc ≤ R.cells ∧ n + ms ≤ R.slots) (d : decode cc pc = .ok (.invokevirtual index, 3))
    (K : ∀ u : α, kb_J p l e R s m args below meth c nL V A (k + mc) (n + ms) Q (pc + 3) L (o9.toList ++ rest) (W1 u)) : kb_J p l e R s m args below meth c nL V A k n Q pc L st ws := by
  intro H locs ls hP hD hS hl
  subst hst
  subst hr0
  exact kj_goN hS hl (va_runV C.1 hM (cwV as.length C.1.2.2.2.2 (kb_gV h1 h2 h3 h4 h5) rfl hrc hrs hd hR) ⟨kb_blind, va_recv C.2.1.1 hP hc he, kb_preU C hP hD hS⟩ rfl rfl hl.1 rfl (lv_room hroom) d hcs) K
theorem kb_gSH {w0 : Cond} {own : String} {idx maxL : Nat} {y : MethodName} {bytes : ByteArray} {ret : Option FieldType} {hh : List (Nat × Nat × Nat × Nat)} (h1 : Cond.codeWith y bytes maxL ret hh ∈ kb_TB) (h2 : Cond.methodLink own idx y ∈ kb_TB) (h3 : Cond.static y ∈ kb_TB) (h5 : Cond.initialized y.cls ∈ kb_TB) : GoodIn (w0 :: kb_TB) (va_wsS own idx y (Cond.codeWith y bytes maxL ret hh :: kb_TB)) := by
  refine kb_good h1 (fun w hw => ?_)
  simp only [List.mem_cons, List.not_mem_nil, or_false] at hw
  rcases hw with rfl | rfl | rfl
  · exact h2
  · exact h3
  · exact h5
/-- a helper is called -/
theorem kj_callH {y : MethodName} {hh : List (Nat × Nat × Nat × Nat)} {rm : Room} {as rest : List Value} {r : Int32} {mc ms index maxL : Nat} {bytes : ByteArray} (C : kb_C p s m args meth c cc nL own w0 ret V A) (hM : kb_TH l y bytes maxL hh rm V A as ws r ws2 mc ms) (h1 : Cond.codeWith y bytes maxL (some .int) hh ∈ kb_TB) (h2 : Cond.methodLink own index y ∈ kb_TB) (h3 : Cond.static y ∈ kb_TB) (h5 : Cond.initialized y.cls ∈ kb_TB) (hrc : rm.cells = mc) (hrs : rm.slots = ms)
    (hd : y.cls ≠ "java/lang/invoke/MethodHandle" ∧ y.cls ≠ "java/lang/invoke/VarHandle" ∧ (parseMethodDescriptor y.desc).map (fun d => d.parameters.length) = some as.length) (hR : rm.frames + 1 ≤ R.frames ∧ 8 + (maxL + 11) + rm.locals ≤ R.locals) (hst : as.reverse ++ rest = st) (hroom : (rest.map fun v => v.category).sum ≤ 8) (hcs : k + mc ≤ R.cells ∧ n + ms ≤ R.slots) (d : decode cc pc = .ok (.invokestatic index, 3))
    (K : kb_J p l e R s m args below meth c nL V A (k + mc) (n + ms) Q (pc + 3) L (.int r :: rest) ws2) : kb_J p l e R s m args below meth c nL V A k n Q pc L st ws := by
  intro H locs ls hP hD hS hl
  subst hst
  exact kj_go hS hl (vx_runSW C.1 hM (vx_cwSW as.length C.1.2.2.2.2 (kb_gSH h1 h2 h3 h5) rfl hrc hrs hd hR) ⟨kb_blind, kb_preU C hP hD hS⟩ rfl rfl hl.1 rfl (lv_room hroom) d hcs) K
theorem kj_callHN {α : Type} {W1 : α → va_W} {y : MethodName} {hh : List (Nat × Nat × Nat × Nat)} {rm : Room} {as rest : List Value} {r : Int32} {mc ms index maxL : Nat} {bytes : ByteArray} (C : kb_C p s m args meth c cc nL own w0 ret V A) (hM : kb_THN l y bytes maxL hh rm V A as ws r W1 mc ms) (h1 : Cond.codeWith y bytes maxL (some .int) hh ∈ kb_TB) (h2 : Cond.methodLink own index y ∈ kb_TB) (h3 : Cond.static y ∈ kb_TB) (h5 : Cond.initialized y.cls ∈ kb_TB) (hrc : rm.cells = mc) (hrs : rm.slots = ms)
    (hd : y.cls ≠ "java/lang/invoke/MethodHandle" ∧ y.cls ≠ "java/lang/invoke/VarHandle" ∧ (parseMethodDescriptor y.desc).map (fun d => d.parameters.length) = some as.length) (hR : rm.frames + 1 ≤ R.frames ∧ 8 + (maxL + 11) + rm.locals ≤ R.locals) (hst : as.reverse ++ rest = st) (hroom : (rest.map fun v => v.category).sum ≤ 8) (hcs : k + mc ≤ R.cells ∧ n + ms ≤ R.slots) (d : decode cc pc = .ok (.invokestatic index, 3))
    (K : ∀ u : α, kb_J p l e R s m args below meth c nL V A (k + mc) (n + ms) Q (pc + 3) L (.int r :: rest) (W1 u)) : kb_J p l e R s m args below meth c nL V A k n Q pc L st ws := by
  intro H locs ls hP hD hS hl
  subst hst
  exact kj_goN hS hl (vx_runSW C.1 hM (vx_cwSW as.length C.1.2.2.2.2 (kb_gSH h1 h2 h3 h5) rfl hrc hrs hd hR) ⟨kb_blind, kb_preU C hP hD hS⟩ rfl rfl hl.1 rfl (lv_room hroom) d hcs) K
/-- the script is read -/
theorem kj_scr {b Ln : Nat} {xs : Nat → Int32} {i : Int32} (C : kb_C p s m args meth c cc nL own w0 ret V A) (hX : va_X b Ln xs s s.heap) (hbl : b < s.heap.size) (hbA : ¬ A b) (hin : vp_in i Ln) (d : decode cc pc = .ok (.iaload, 1)) {v : Int32} (hv : xs i.toNatClampNeg = v) (K : kb_J p l e R s m args below meth c nL V A k n Q (pc + 1) L (.int v :: st) ws) : kb_J p l e R s m args below meth c nL V A k n Q pc L (.int i :: .ref b :: st) ws := by
  subst hv
  exact fun H locs ls hP hD hS hl => va_sld C.1.1 C.1.2.1 hX hbl hbA hS hin d (K H locs ls hP hD hS hl)
theorem kj_scl {b Ln : Nat} {xs : Nat → Int32} (C : kb_C p s m args meth c cc nL own w0 ret V A) (hX : va_X b Ln xs s s.heap) (hbl : b < s.heap.size) (hbA : ¬ A b) (d : decode cc pc = .ok (.arraylength, 1)) (K : kb_J p l e R s m args below meth c nL V A k n Q (pc + 1) L (.int (Int32.ofNat Ln) :: st) ws) : kb_J p l e R s m args below meth c nL V A k n Q pc L (.ref b :: st) ws :=
  fun H locs ls hP hD hS hl => va_slen C.1.1 C.1.2.1 hX hbl hbA hS d (K H locs ls hP hD hS hl)
end KBL
set_option maxRecDepth 100000 in
set_option maxHeartbeats 4000000 in
theorem cnN_L_shorten (l : Launch) (V : kb_V) (A : Nat → Prop) (x1 : Int32) (a : Nat → Nat) (σ : kb_S) (o9 : Nat) (ov : Nat → Int64) (ex : va_W) (τ9 : kb_S) (r : Int32) {rm : Room} (hrc : rm.cells = 5) (hrs : rm.slots = 9446) (hM : kb_TN l yX8_shorten cX8_shorten 2 (some .int) rm V A [.ref (a 0), .int x1] (kb_W V a σ .null (kb_O V o9 ov :: ex)) (some (.int r)) (fun b : Nat → Nat => kb_W V a σ (.ref (b 0)) (kb_WS V b τ9 (kb_O V o9 ov :: ex))) 5 9446) : kb_THN l yL_shorten cL_shorten 4 [(0, 9, 12, 13)] ({ frames := rm.frames + 1, cells := rm.cells, slots := rm.slots, locals := rm.locals + 60 } : Room) V A [.ref (a 0), .int x1, .ref o9] (kb_W V a σ .null (kb_O V o9 ov :: ex)) 0 (fun b : Nat → Nat => kb_W V a σ (.ref (b 0)) (kb_WS V b τ9 (kb_O V o9 (vp_updL ov 0 r.toInt64) :: ex))) 5 9446 := by
  refine kb_startH (cc := cL_shorten) (nL := 4) (own := RL) (by decide) rfl (Nat.le_of_ble_eq_true rfl) ?_
  intro p e s m args below meth c C htb
  refine kj_sub [0, 1, 2] (L2 := [(0, .ref (a 0)), (1, .int x1), (2, .ref o9)]) rfl ?_
  refine kj_aload_n (pc := 0) C 2 dL_shorten_0 rfl rfl ?_
  refine kj_iconst (pc := 1) (v := (0 : Int32)) C dL_shorten_1 (by decide) ?_
  refine kj_aload_n (pc := 2) C 0 dL_shorten_2 rfl rfl ?_
  refine kj_iload_n (pc := 3) C 1 dL_shorten_3 rfl rfl ?_
  refine kj_callVN (pc := 4) (as := [.int x1]) (rest := [.int (0 : Int32), .ref o9]) (b := a 0) C hM wd_X8_shorten wk_L_37 wi_X8_shorten ws_X8_shorten wz_X8 hrc hrs hd_X8_shorten ⟨Nat.le_refl _, by show 8 + (2 + 11) + rm.locals ≤ rm.locals + 60; omega⟩ 0 rfl rfl rfl rfl (Nat.le_of_ble_eq_true rfl) (by show 0 + 5 ≤ rm.cells ∧ 0 + 9446 ≤ rm.slots; omega) dL_shorten_4 (fun b => ?_)
  refine kj_i2l (pc := 7) C dL_shorten_7 ?_
  refine kj_last (pc := 8) (ws2 := kb_W V a σ (.ref (b 0)) (kb_WS V b τ9 (kb_O V o9 (vp_updL ov 0 r.toInt64) :: ex))) C 25 rfl (vp_in_nI (n := 0) (N := 1) (by decide) (by decide)) rfl dL_shorten_8 ?_
  refine kj_goto (pc := 9) 15 C dL_shorten_9 (by decide) ?_
  refine kj_iconst (pc := 15) (v := (0 : Int32)) C dL_shorten_15 (by decide) ?_
  exact kj_iretN (pc := 16) (W1 := fun b : Nat → Nat => kb_W V a σ (.ref (b 0)) (kb_WS V b τ9 (kb_O V o9 (vp_updL ov 0 r.toInt64) :: ex))) b C dL_shorten_16
/-! the law's world -/
def kb_sh (S : Option ((Nat → Nat) × kb_S)) : Value := match S with
  | none => .null
  | some q => .ref (q.1 0)
def kb_tl (V : kb_V) (S : Option ((Nat → Nat) × kb_S)) (ex : va_W) : va_W := match S with
  | none => ex
  | some q => kb_WS V q.1 q.2 ex
def kb_LW (V : kb_V) (a d : Nat → Nat) (o9 : Nat) (σ : kb_S) (S : Option ((Nat → Nat) × kb_S)) (ov : Nat → Int64) (μ : kb_S) : va_W := kb_W V a σ (kb_sh S) (kb_O V o9 ov :: kb_tl V S (kb_WM V d μ []))
def kb_LM (V : kb_V) (a d : Nat → Nat) (o9 : Nat) (σ : kb_S) (S : Option ((Nat → Nat) × kb_S)) (ov : Nat → Int64) (μ : kb_S) : va_W := kb_WM V d μ (kb_W V a σ (kb_sh S) (kb_O V o9 ov :: kb_tl V S []))
theorem kb_pLM {V : kb_V} {a d : Nat → Nat} {o9 : Nat} {σ : kb_S} {S : Option ((Nat → Nat) × kb_S)} {ov : Nat → Int64} {μ : kb_S} : (kb_LW V a d o9 σ S ov μ).Perm (kb_LM V a d o9 σ S ov μ) := by
  cases S with
  | none => exact List.perm_append_comm_assoc (kb_W V a σ .null [kb_O V o9 ov]) (kb_WM V d μ []) []
  | some q => exact List.perm_append_comm_assoc (kb_W V a σ (.ref (q.1 0)) (kb_O V o9 ov :: kb_WS V q.1 q.2 [])) (kb_WM V d μ []) []
theorem kb_pOS {V : kb_V} {a b : Nat → Nat} {o9 : Nat} {σ τ : kb_S} {sh : Value} {ov : Nat → Int64} {ex : va_W} : (kb_W V a σ sh (kb_O V o9 ov :: kb_WS V b τ ex)).Perm (kb_W V a σ sh (kb_WS V b τ (kb_O V o9 ov :: ex))) :=
  List.Perm.append_left (kb_W V a σ sh []) (List.perm_append_comm_assoc [kb_O V o9 ov] (kb_WS V b τ []) ex)
