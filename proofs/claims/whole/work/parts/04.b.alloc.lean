/-! new cells, constructors, throws -/
theorem kb_Dpw {A : Nat → Prop} {ws : va_W} : va_D A ws ↔ ws.Pairwise (fun p q => p.1 ≠ q.1) ∧ ∀ q ∈ ws, A q.1 := by
  constructor
  · intro h
    refine ⟨List.pairwise_iff_getElem.mpr (fun i j hi hj hij e => ?_), fun q hq => ?_⟩
    · have := h.1 i j ws[i] ws[j] (List.getElem?_eq_getElem hi) (List.getElem?_eq_getElem hj) e
      omega
    · obtain ⟨k, hk⟩ := List.getElem?_of_mem hq
      exact h.2 k q hk
  · intro h
    refine ⟨fun i j p q hp hq e => ?_, fun k q hk => h.2 q (List.mem_of_getElem? hk)⟩
    obtain ⟨hi, rfl⟩ := List.getElem?_eq_some_iff.mp hp
    obtain ⟨hj, rfl⟩ := List.getElem?_eq_some_iff.mp hq
    rcases Nat.lt_trichotomy i j with c | c | c
    · exact absurd e (List.pairwise_iff_getElem.mp h.1 i j hi hj c)
    · exact c
    · exact absurd e.symm (List.pairwise_iff_getElem.mp h.1 j i hj hi c)
theorem kb_Pmem {D : va_G} {cl : List vw_C} {ws : va_W} {H : Heap} : va_P D cl ws H ↔ ∀ q ∈ ws, va_at D cl q H := by
  constructor
  · intro h q hq
    obtain ⟨k, hk⟩ := List.getElem?_of_mem hq
    exact h k q hk
  · intro h k q hk
    exact h q (List.mem_of_getElem? hk)
/-- the same cells in another order -/
theorem kb_Pperm {D : va_G} {cl : List vw_C} {w1 w2 : va_W} {H : Heap} (h : w1.Perm w2) (hP : va_P D cl w1 H) : va_P D cl w2 H := kb_Pmem.mpr fun q hq => kb_Pmem.mp hP q (h.mem_iff.mpr hq)
theorem kb_Dperm {A : Nat → Prop} {w1 w2 : va_W} (h : w1.Perm w2) (hD : va_D A w1) : va_D A w2 := by
  obtain ⟨h1, h2⟩ := kb_Dpw.mp hD
  exact kb_Dpw.mpr ⟨(h.pairwise_iff (fun {x y} q e => q e.symm)).mp h1, fun q hq => h2 q (h.mem_iff.mpr hq)⟩
/-- cells ahead of a tail, picked by their places -/
theorem kb_selm {P P2 : va_W} {ks : List Nat} (hs : ks.map (fun i => P[i]?) = P2.map some) : ∀ q ∈ P2, q ∈ P := by
  intro q hq
  have h1 : some q ∈ P2.map some := List.mem_map.mpr ⟨q, hq, rfl⟩
  rw [← hs] at h1
  obtain ⟨i, -, hi⟩ := List.mem_map.mp h1
  exact List.mem_of_getElem? hi
theorem kb_selP {D : va_G} {cl : List vw_C} {P P2 ex : va_W} {H : Heap} (ks : List Nat) (hs : ks.map (fun i => P[i]?) = P2.map some) (h : va_P D cl (P ++ ex) H) : va_P D cl (P2 ++ ex) H := kb_Pmem.mpr fun q hq => by
  rcases List.mem_append.mp hq with h1 | h1
  · exact kb_Pmem.mp h q (List.mem_append_left _ (kb_selm hs q h1))
  · exact kb_Pmem.mp h q (List.mem_append_right _ h1)
theorem kb_selD {A : Nat → Prop} {P P2 ex : va_W} (ks : List Nat) (hn : va_nd ks = true) (hs : ks.map (fun i => P[i]?) = P2.map some) (h : va_D A (P ++ ex)) : va_D A (P2 ++ ex) := by
  obtain ⟨h1, h2⟩ := kb_Dpw.mp h
  obtain ⟨h3, h4, h5⟩ := List.pairwise_append.mp h1
  have hP : va_D A P := kb_Dpw.mpr ⟨h3, fun q hq => h2 q (List.mem_append_left _ hq)⟩
  obtain ⟨h6, h7⟩ := kb_Dpw.mp (hP.sub ks hn hs)
  refine kb_Dpw.mpr ⟨List.pairwise_append.mpr ⟨h6, h4, fun a ha b hb => h5 a (kb_selm hs a ha) b hb⟩, fun q hq => ?_⟩
  rcases List.mem_append.mp hq with h8 | h8
  · exact h7 q h8
  · exact h2 q (List.mem_append_right _ h8)
/-- a method whose new cells' addresses come with its answer -/
def kb_postE {α : Type} (V : kb_V) (A : Nat → Prop) (W' : α → va_W) : Array Value → State → Outcome → State → Prop := fun _ st oc t => oc = .returned none ∧ (∃ u : α, va_P V.1 vwCl (W' u) t.heap ∧ va_D A (W' u)) ∧ va_F A st t
def kb_TE {α : Type} (l : Launch) (y : MethodName) (cc : ByteArray) (nL : Nat) (rm : Room) (V : kb_V) (A : Nat → Prop) (as : List Value) (W : va_W) (W' : α → va_W) (mc ms : Nat) : Prop :=
  Met l y (Cond.code y cc nL none :: kb_TB) rm (va_Pc as (kb_pre V A W)) (kb_postE V A W') mc ms A
/-- a method that throws E -/
def kb_XC (V : kb_V) (A : Nat → Prop) (E : String) (W' : va_W) : String → State → State → Prop := fun E' st t => E' = E ∧ va_P V.1 vwCl W' t.heap ∧ va_D A W' ∧ va_F A st t
def kb_TX (l : Launch) (y : MethodName) (cc : ByteArray) (nL : Nat) (ret : Option FieldType) (rm : Room) (V : kb_V) (A : Nat → Prop) (as : List Value) (W : va_W) (E : String) (W' : va_W) (mc ms : Nat) : Prop :=
  vx_Met l y (Cond.code y cc nL ret :: kb_TB) rm (va_Pc as (kb_pre V A W)) (fun _ _ _ _ => False) (kb_XC V A E W') mc ms A
section KBA
variable {p : Program} {l : Launch} {e : Env} {R : Room} {s : State} {m : MethodId} {args : Array Value} {below : List Frame} {meth : Method} {c : Code} {k n : Nat} {Q : State → Prop}
variable {cc : ByteArray} {nL : Nat} {own : String} {w0 : Cond} {ret : Option FieldType} {V : kb_V} {A : Nat → Prop} {pc : Nat} {L L2 : List (Nat × Value)} {st : List Value} {ws ws2 P P2 ex : va_W}
theorem kj_perm (h : ws.Perm ws2) (K : kb_J p l e R s m args below meth c nL V A k n Q pc L st ws2) : kb_J p l e R s m args below meth c nL V A k n Q pc L st ws := fun H locs ls hP hD hS hl => K H locs ls (kb_Pperm h hP) (kb_Dperm h hD) hS hl
theorem kj_sel (ks : List Nat) (hn : va_nd ks = true) (hs : ks.map (fun i => P[i]?) = P2.map some) (K : kb_J p l e R s m args below meth c nL V A k n Q pc L st (P2 ++ ex)) : kb_J p l e R s m args below meth c nL V A k n Q pc L st (P ++ ex) := fun H locs ls hP hD hS hl => K H locs ls (kb_selP ks hs hP) (kb_selD ks hn hs hD) hS hl
theorem kb_startE {α : Type} {y : MethodName} {rm : Room} {as : List Value} {W0 : va_W} {W1 : α → va_W} {mc ms : Nat} (hy : plainName y.cls = true) (ho : y.cls = own) (hn : (lg_sl as).length ≤ nL)
    (body : ∀ (p : Program) (e : Env) (s : State) (m : MethodId) (args : Array Value) (below : List Frame) (meth : Method) (c : Code), kb_C p s m args meth c cc nL own (Cond.code y cc nL none) none V A → meth.name = y.name → kb_J p l e rm s m args below meth c nL V A 0 0 (MQ below (kb_postE V A W1) args s mc ms A) 0 (lv_args 0 as) [] W0) :
    kb_TE l y cc nL rm V A as W0 W1 mc ms := by
  refine Met.ofW (cc := cc) (maxL := nL) (ret := none) hy rfl ?_
  intro p e s m args below meth c s₁ B hml hv
  obtain ⟨rfl, hE, hP, hD, hA⟩ := hv
  have hts := atoms_spec (ws := Cond.code y cc nL none :: kb_TB) B.pre
  have hown : s.vm.findClass own = some m.cls := by rw [← ho]; exact findClass_of_methodNamed B.named
  have hl := lv_entry as (n := nL) hn
  rw [lg_entry_eq]
  exact body p e s m _ below meth c ⟨⟨B.exec, B.bytes, hml, hown, hts⟩, hE, hA, B.returns, B.notSynchronized⟩ (name_of_methodNamed B.named B.method).1 s.heap [] _ hP hD va_S.rf hl
theorem kj_vretE {α : Type} {W1 : α → va_W} (u : α) (C : kb_C p s m args meth c cc nL own w0 none V A) (d : decode cc pc = .ok (.return_, 1)) : kb_J p l e R s m args below meth c nL V A k n (MQ below (kb_postE V A W1) args s k n A) pc L [] (W1 u) :=
  fun H locs ls hP hD hS hl => W.vret C.1.1 C.1.2.1 C.2.2.2.1 (fun t ht hW => ⟨rfl, ⟨u, by rw [ht]; exact hP, hD⟩, hS.F ht⟩) hS.2.2 d C.2.2.2.2
theorem kj_objInit {index a : Nat} (C : kb_C p s m args meth c cc nL own w0 ret V A) (h2 : Cond.methodLink own index objectInit ∈ kb_TB) (h3 : Cond.instanceMethod objectInit ∈ kb_TB) (h4 : Cond.code objectInit ⟨#[0xb1]⟩ 1 none ∈ kb_TB) (hfr : 1 ≤ R.frames) (hlo : (st.map fun v => v.category).sum + 12 ≤ R.locals) (d : decode cc pc = .ok (.invokespecial index, 3)) (K : kb_J p l e R s m args below meth c nL V A k n Q (pc + 3) L st ws) : kb_J p l e R s m args below meth c nL V A k n Q pc L (.ref a :: st) ws :=
  fun H locs ls hP hD hS hl => W.objInit C.1.1 C.1.2.1 C.1.2.2.2.1 (kb_w C h2) (kb_w C h3) (kb_w C h4) rfl (hl.1.trans C.1.2.2.1.symm) rfl d hfr (by show 2 * 0 + _ + 12 ≤ _; omega) (K H locs ls hP hD hS hl)
theorem kj_putF {C0 ref : String} {T0 : u_T} {N ci index a : Nat} {fs : List Value} {v : Value} {ty : FieldType} (C : kb_C p s m args meth c cc nL own w0 ret V A) (hI : meth.name = "<init>") (hin : ∀ w ∈ u_ws C0 T0 N, w ∈ kb_TB) (ty0 : Nat → FieldType) (hty : ∀ f, f < N → parseFieldDescriptor (T0 f).2.2.1 = some (ty0 f)) (hnm : ∀ a, a < N → ∀ b, b < N → a ≠ b → (T0 a).2.1 ≠ (T0 b).2.1) (q0 : Nat) (he : ws[q0]? = some (a, .inr (ci, fs))) (hc : vwCl[ci]? = some (C0, T0, N)) (f : Nat) (hk : f < N) (hlink : Cond.fieldLink own index ref (T0 f).2.1 (T0 f).2.2.1 ∈ kb_TB) (hsame : (T0 f).1 = ref) (hfin : (T0 f).2.2.2 = true) (hdecl : (T0 f).1 = own) (hd : parseFieldDescriptor (T0 f).2.2.1 = some ty) (hn : narrow ty v = v) (hfit : fits ty v = true) (hlen : f < fs.length) (hw2 : ws.set q0 (a, .inr (ci, fs.set f v)) = ws2) (d : decode cc pc = .ok (.putfield index, 3)) (K : kb_J p l e R s m args below meth c nL V A k n Q (pc + 3) L st ws2) : kb_J p l e R s m args below meth c nL V A k n Q pc L (v :: .ref a :: st) ws := by
  intro H locs ls hP hD hS hl
  subst hw2
  exact va_putF C.1.1 C.1.2.1 C.1.2.2.2.2 (fun w h => List.mem_cons_of_mem _ (hin w h)) ty0 hty hnm C.1.2.2.2.1 C.2.1.1 hP hD hS q0 he hc f hk (kb_w C hlink) (fun x hx => hsame ▸ hx) hfin hI hdecl hd hn hfit hlen d (fun H1 locs1 hP1 hD1 hS1 => K H1 locs1 ls hP1 hD1 hS1 hl)
theorem kj_new {C0 : String} {T0 : u_T} {N ci index : Nat} {fs : List Value} (C : kb_C p s m args meth c cc nL own w0 ret V A) (hin : ∀ w ∈ u_ws C0 T0 N, w ∈ kb_TB) (ty : Nat → FieldType) (hty : ∀ f, f < N → parseFieldDescriptor (T0 f).2.2.1 = some (ty f)) (h1 : Cond.classLink own index C0 ∈ kb_TB) (h2 : Cond.instantiable C0 N ∈ kb_TB) (h3 : Cond.initialized C0 ∈ kb_TB) (hc : vwCl[ci]? = some (C0, T0, N)) (hfs : ∀ j, j < N → defaultValue (ty j) = vp_V fs j) (hcs : k + 1 ≤ R.cells ∧ n + N ≤ R.slots) (d : decode cc pc = .ok (.new index, 3)) (K : ∀ q : Nat, kb_J p l e R s m args below meth c nL V A (k + 1) (n + N) Q (pc + 3) L (.ref q :: st) ((q, .inr (ci, fs)) :: ws)) : kb_J p l e R s m args below meth c nL V A k n Q pc L st ws :=
  fun H locs ls hP hD hS hl => va_new C.1.1 C.1.2.1 C.1.2.2.2.2 (fun w h => List.mem_cons_of_mem _ (hin w h)) ty hty C.1.2.2.2.1 (kb_w C h1) (kb_w C h2) (kb_w C h3) C.2.1.1 hP hD hS C.2.2.1 hc hfs hcs.1 hcs.2 d (fun q H1 hP1 hD1 hS1 => K q H1 locs ls (kb_Pperm (List.perm_append_singleton _ _) hP1) (kb_Dperm (List.perm_append_singleton _ _) hD1) hS1 hl)
theorem kj_newI {len : Int32} {N : Nat} (C : kb_C p s m args meth c cc nL own w0 ret V A) (hw : Cond.arrayClass .int ∈ kb_TB) (hn : ¬ len < 0) (hN : len.toNatClampNeg = N) (hb : N * componentBytes .int ≤ 536870912) (hcs : k + 1 ≤ R.cells ∧ n + N ≤ R.slots) (d : decode cc pc = .ok (.newarray .int, 2)) (K : ∀ q : Nat, kb_J p l e R s m args below meth c nL V A (k + 1) (n + N) Q (pc + 2) L (.ref q :: st) ((q, .inl (V.2.1 0, N, .inl (fun _ => 0))) :: ws)) : kb_J p l e R s m args below meth c nL V A k n Q pc L (.int len :: st) ws :=
  fun H locs ls hP hD hS hl => va_newa C.1.1 C.1.2.1 (atype := .int) (ty := .int) (a0 := (N, .inl (fun _ => 0))) (kb_w C hw) rfl C.2.1.1 hP hD hS C.2.2.1 (fun _ => rfl) hn hN hb hcs.1 hcs.2 d (fun q cA H1 hK1 hP1 hD1 hS1 => by
    have e1 : s.vm.findClass ("[" ++ (FieldType.int).toString) = some cA := (hK1.2 3 (cA, .int) rfl).2
    have e2 : s.vm.findClass ("[" ++ (FieldType.int).toString) = some (V.2.1 0) := (C.2.1.1.2 0 (V.2.1 0, .int) rfl).2
    cases Option.some.inj (e1.symm.trans e2)
    exact K q H1 locs ls (kb_Pperm (List.perm_append_singleton _ _) hP1) (kb_Dperm (List.perm_append_singleton _ _) hD1) hS1 hl)
theorem kj_newJ {len : Int32} {N : Nat} (C : kb_C p s m args meth c cc nL own w0 ret V A) (hw : Cond.arrayClass .long ∈ kb_TB) (hn : ¬ len < 0) (hN : len.toNatClampNeg = N) (hb : N * componentBytes .long ≤ 536870912) (hcs : k + 1 ≤ R.cells ∧ n + N ≤ R.slots) (d : decode cc pc = .ok (.newarray .long, 2)) (K : ∀ q : Nat, kb_J p l e R s m args below meth c nL V A (k + 1) (n + N) Q (pc + 2) L (.ref q :: st) ((q, .inl (V.2.1 1, N, .inr (.inl (fun _ => 0)))) :: ws)) : kb_J p l e R s m args below meth c nL V A k n Q pc L (.int len :: st) ws :=
  fun H locs ls hP hD hS hl => va_newa C.1.1 C.1.2.1 (atype := .long) (ty := .long) (a0 := (N, .inr (.inl (fun _ => 0)))) (kb_w C hw) rfl C.2.1.1 hP hD hS C.2.2.1 (fun _ => rfl) hn hN hb hcs.1 hcs.2 d (fun q cA H1 hK1 hP1 hD1 hS1 => by
    have e1 : s.vm.findClass ("[" ++ (FieldType.long).toString) = some cA := (hK1.2 3 (cA, .long) rfl).2
    have e2 : s.vm.findClass ("[" ++ (FieldType.long).toString) = some (V.2.1 1) := (C.2.1.1.2 1 (V.2.1 1, .long) rfl).2
    cases Option.some.inj (e1.symm.trans e2)
    exact K q H1 locs ls (kb_Pperm (List.perm_append_singleton _ _) hP1) (kb_Dperm (List.perm_append_singleton _ _) hD1) hS1 hl)
theorem kj_newZ {len : Int32} {N : Nat} (C : kb_C p s m args meth c cc nL own w0 ret V A) (hw : Cond.arrayClass .boolean ∈ kb_TB) (hn : ¬ len < 0) (hN : len.toNatClampNeg = N) (hb : N * componentBytes .boolean ≤ 536870912) (hcs : k + 1 ≤ R.cells ∧ n + N ≤ R.slots) (d : decode cc pc = .ok (.newarray .boolean, 2)) (K : ∀ q : Nat, kb_J p l e R s m args below meth c nL V A (k + 1) (n + N) Q (pc + 2) L (.ref q :: st) ((q, .inl (V.2.1 2, N, .inl (fun _ => 0))) :: ws)) : kb_J p l e R s m args below meth c nL V A k n Q pc L (.int len :: st) ws :=
  fun H locs ls hP hD hS hl => va_newa C.1.1 C.1.2.1 (atype := .boolean) (ty := .boolean) (a0 := (N, .inl (fun _ => 0))) (kb_w C hw) rfl C.2.1.1 hP hD hS C.2.2.1 (fun _ => rfl) hn hN hb hcs.1 hcs.2 d (fun q cA H1 hK1 hP1 hD1 hS1 => by
    have e1 : s.vm.findClass ("[" ++ (FieldType.boolean).toString) = some cA := (hK1.2 3 (cA, .boolean) rfl).2
    have e2 : s.vm.findClass ("[" ++ (FieldType.boolean).toString) = some (V.2.1 2) := (C.2.1.1.2 2 (V.2.1 2, .boolean) rfl).2
    cases Option.some.inj (e1.symm.trans e2)
    exact K q H1 locs ls (kb_Pperm (List.perm_append_singleton _ _) hP1) (kb_Dperm (List.perm_append_singleton _ _) hD1) hS1 hl)
/-- behind a call that brings new addresses -/
theorem kj_goE {α : Type} {W1 : α → va_W} {a9 : Array Value} {rest st0 : List Value} {mc ms : Nat} {H : Heap} {locs : List Loc} {ls : Array Slot} (hS : va_S A s.heap H locs) (hl : lv_has ls nL L)
    (hr : va_Run p l e R s m args below meth c H locs k n mc ms (F0 m pc ls st0) rest (kb_postE V A W1 a9) A) (K : ∀ u : α, kb_J p l e R s m args below meth c nL V A (k + mc) (n + ms) Q (pc + 3) L rest (W1 u)) : W p l e R s m args below meth c H locs k n Q (F0 m pc ls st0) := by
  intro T hT X
  obtain ⟨v, st₀, t, T', L9, h0, X', hL, e1, e2, ⟨hv, ⟨u, hp1, hd1⟩, hz, hk⟩, go⟩ := hr T hT X
  cases hv
  rw [h0] at hz hk
  obtain ⟨t2, a1, b1⟩ := K u T'.heap (locs ++ L9) ls (by rw [e1]; exact hp1) hd1
    ⟨Nat.le_trans hS.1 (by rw [e1]; exact hz), fun q h1 h2 => by rw [e1, hk q (Nat.lt_of_lt_of_le h1 hS.1) h2]; exact hS.2.1 q h1 h2, fun q hq => by
      rcases List.mem_append.mp hq with h | h
      · exact hS.2.2 q h
      · exact hL q h⟩ hl T' rfl X'
  exact ⟨t2, go t2 a1, b1⟩
theorem kj_callI {α : Type} {W1 : α → va_W} {y : MethodName} {rm : Room} {as rest : List Value} {mc ms index maxL b : Nat} {bytes : ByteArray} (C : kb_C p s m args meth c cc nL own w0 ret V A) (hM : kb_TE l y bytes maxL rm V A (.ref b :: as) ws W1 mc ms) (h1 : Cond.code y bytes maxL none ∈ kb_TB) (h2 : Cond.methodLink own index y ∈ kb_TB) (h3 : Cond.instanceMethod y ∈ kb_TB) (h5 : Cond.initialized y.cls ∈ kb_TB) (hrc : rm.cells = mc) (hrs : rm.slots = ms) (hy1 : y.name = "<init>")
    (hd : y.cls ≠ "java/lang/invoke/MethodHandle" ∧ y.cls ≠ "java/lang/invoke/VarHandle" ∧ (parseMethodDescriptor y.desc).map (fun d => d.parameters.length) = some as.length) (hR : rm.frames + 1 ≤ R.frames ∧ 8 + (maxL + 11) + rm.locals ≤ R.locals) (hst : as.reverse ++ .ref b :: rest = st) (hroom : (rest.map fun v => v.category).sum ≤ 8) (hcs : k + mc ≤ R.cells ∧ n + ms ≤ R.slots) (d : decode cc pc = .ok (.invokespecial index, 3))
    (K : ∀ u : α, kb_J p l e R s m args below meth c nL V A (k + mc) (n + ms) Q (pc + 3) L rest (W1 u)) : kb_J p l e R s m args below meth c nL V A k n Q pc L st ws := by
  intro H locs ls hP hD hS hl
  subst hst
  exact kj_goE hS hl (va_runI C.1 hM (cwI as.length C.1.2.2.2.2 (kb_good (ws := []) h1 (fun _ h => nomatch h)) rfl hrc hrs (kb_w C h5) (kb_w C h2) (kb_w C h3) hy1 hd hR) ⟨kb_blind, kb_preU C hP hD hS⟩ rfl rfl hl.1 rfl (lv_room hroom) d hcs) K
theorem kj_callIN {α : Type} {W1 : α → va_W} {y : MethodName} {host : String} {rm : Room} {as rest : List Value} {mc ms index maxL b : Nat} {bytes : ByteArray} (C : kb_C p s m args meth c cc nL own w0 ret V A) (hM : kb_TE l y bytes maxL rm V A (.ref b :: as) ws W1 mc ms) (h1 : Cond.code y bytes maxL none ∈ kb_TB) (h2 : (own, index, y, host) ∈ kb_nest) (h3 : Cond.instanceMethod y ∈ kb_TB) (h5 : Cond.initialized y.cls ∈ kb_TB) (hrc : rm.cells = mc) (hrs : rm.slots = ms) (hy1 : y.name = "<init>")
    (hd : y.cls ≠ "java/lang/invoke/MethodHandle" ∧ y.cls ≠ "java/lang/invoke/VarHandle" ∧ (parseMethodDescriptor y.desc).map (fun d => d.parameters.length) = some as.length) (hR : rm.frames + 1 ≤ R.frames ∧ 8 + (maxL + 11) + rm.locals ≤ R.locals) (hst : as.reverse ++ .ref b :: rest = st) (hroom : (rest.map fun v => v.category).sum ≤ 8) (hcs : k + mc ≤ R.cells ∧ n + ms ≤ R.slots) (d : decode cc pc = .ok (.invokespecial index, 3))
    (K : ∀ u : α, kb_J p l e R s m args below meth c nL V A (k + mc) (n + ms) Q (pc + 3) L rest (W1 u)) : kb_J p l e R s m args below meth c nL V A k n Q pc L st ws := by
  intro H locs ls hP hD hS hl
  subst hst
  exact kj_goE hS hl (va_runIN C.1 hM ⟨va_cnB as.length C.1.2.2.2.2 (kb_good (ws := []) h1 (fun _ h => nomatch h)) rfl hrc hrs (C.2.1.2.2.2.2.2.2.2.2.2.2.1 _ h2) (kb_w C h5) hd hR, hy1, kb_w C h3⟩ ⟨kb_blind, kb_preU C hP hD hS⟩ rfl rfl hl.1 rfl (lv_room hroom) d hcs) K
/-- a body that throws -/
theorem kb_startX {y : MethodName} {rm : Room} {as : List Value} {W0 W1 : va_W} {E : String} {mc ms : Nat} (hy : plainName y.cls = true) (ho : y.cls = own) (hn : (lg_sl as).length ≤ nL)
    (body : ∀ (p : Program) (e : Env) (s : State) (m : MethodId) (args : Array Value) (below : List Frame) (meth : Method) (c : Code), kb_C p s m args meth c cc nL own (Cond.code y cc nL ret) ret V A → (∀ x ∈ c.exceptionTable.toList, False) → kb_J p l e rm s m args below meth c nL V A 0 0 (vx_MQ below (fun _ _ _ _ => False) (kb_XC V A E W1) args s mc ms A) 0 (lv_args 0 as) [] W0) :
    kb_TX l y cc nL ret rm V A as W0 E W1 mc ms := by
  refine vx_ofW (cc := cc) (maxL := nL) (ret := ret) hy rfl ?_
  intro p e s m args below meth c s₁ B hml htb hv
  obtain ⟨rfl, hE, hP, hD, hA⟩ := hv
  have hts := atoms_spec (ws := Cond.code y cc nL ret :: kb_TB) B.pre
  have hown : s.vm.findClass own = some m.cls := by rw [← ho]; exact findClass_of_methodNamed B.named
  have hl := lv_entry as (n := nL) hn
  rw [lg_entry_eq]
  exact body p e s m _ below meth c ⟨⟨B.exec, B.bytes, hml, hown, hts⟩, hE, hA, B.returns, B.notSynchronized⟩ htb s.heap [] _ hP hD va_S.rf hl
/-- a new exception with a constant text is thrown, and not caught here -/
theorem kj_throw {cls text : String} {names : List String} {ik is ic sa mc ms : Nat} {Qc : Array Value → State → Outcome → State → Prop} (C : kb_C p s m args meth c cc nL own w0 ret V A) (hl : l.stackTraces = false) (htb : ∀ x ∈ c.exceptionTable.toList, False) (hcls : Bundle.fit cls = true) (hnames : ∀ n ∈ names, Bundle.fit n = true) (hk : Cond.classLink own ik cls ∈ kb_TB) (hini : Cond.initialized cls ∈ kb_TB) (hstr : (own, is, text, sa) ∈ kb_refs)
    (hat : ∀ w ∈ vx_atS own ic cls names, w.before args s = true) (hgood : ∀ w ∈ Cond.classLink own ik cls :: Cond.initialized cls :: vx_atS own ic cls names, vx_ot w = true) (d0 : decode cc pc = .ok (.new ik, 3)) (d3 : decode cc (pc + 3) = .ok (.dup, 1)) (d4 : decode cc (pc + 4) = .ok (.ldc is, 2)) (d6 : decode cc (pc + 6) = .ok (.invokespecial ic, 3)) (d9 : decode cc (pc + 9) = .ok (.athrow, 1))
    (hfr : names.length + 3 < R.frames) (hlo : (st.map fun v => v.category).sum + (13 * (names.length + 1) + 43) ≤ R.locals) (hcs : k + 1 ≤ R.cells ∧ n + 6 ≤ R.slots) (hc : k + 1 ≤ mc) (hs : n + 6 ≤ ms) : kb_J p l e R s m args below meth c nL V A k n (vx_MQ below Qc (kb_XC V A cls ws) args s mc ms A) pc L st ws := fun H locs ls hP hD hS hl9 =>
  vx_throwS C.1.1 C.1.2.1 hl C.1.2.2.2.1 hcls hnames (kb_w C hk) (kb_w C hini) (C.2.1.2.2.2.2.2.1 _ hstr) hat hgood C.2.1.2.2.2.2.2.2.2.2.1 C.2.1.2.2.2.2.2.2.2.2.2.1 hS (hl9.1.trans C.1.2.2.1.symm) d0 d3 d4 d6 d9 (fun x hx => (htb x hx).elim) hfr hlo hcs.1 hcs.2 C.2.2.2.2
    (fun t hvm hsz hq => ⟨rfl, kb_Pmem.mpr (fun q hq9 => by
      have h1 := kb_Pmem.mp hP q hq9
      exact h1.kept (hq _ h1.lt)), hD, Nat.le_trans hS.1 hsz, fun q h1 h2 => by rw [hq q (Nat.lt_of_lt_of_le h1 hS.1)]; exact hS.2.1 q h1 h2⟩) hS.2.2 hc hs
/-- a callee throws, and it isn't caught here -/
theorem kj_callVX {y : MethodName} {rm : Room} {as rest : List Value} {mc ms mc2 ms2 index maxL ci b : Nat} {bytes : ByteArray} {ret9 : Option FieldType} {C0 E : String} {fs : List Value} {r0 : vw_C} {Qc : Array Value → State → Outcome → State → Prop} (C : kb_C p s m args meth c cc nL own w0 ret V A) (htb : ∀ x ∈ c.exceptionTable.toList, False) (hM : kb_TX l y bytes maxL ret9 rm V A (.ref b :: as) ws E ws2 mc ms) (h1 : Cond.code y bytes maxL ret9 ∈ kb_TB) (h2 : Cond.methodLink own index y ∈ kb_TB) (h3 : Cond.instanceMethod y ∈ kb_TB) (h4 : Cond.selects C0 y y ∈ kb_TB) (h5 : Cond.initialized C0 ∈ kb_TB) (hrc : rm.cells = mc) (hrs : rm.slots = ms)
    (hd : y.cls = C0 ∧ y.cls ≠ "java/lang/invoke/MethodHandle" ∧ y.cls ≠ "java/lang/invoke/VarHandle" ∧ (parseMethodDescriptor y.desc).map (fun d => d.parameters.length) = some as.length) (hR : rm.frames + 1 ≤ R.frames ∧ 8 + (maxL + 11) + rm.locals ≤ R.locals) (q0 : Nat) (he : ws[q0]? = some (b, .inr (ci, fs))) (hc : vwCl[ci]? = some r0) (hr0 : r0.1 = C0) (hst : as.reverse ++ .ref b :: rest = st) (hroom : (rest.map fun v => v.category).sum ≤ 8) (hcs : k + mc ≤ R.cells ∧ n + ms ≤ R.slots) (d : decode cc pc = .ok (.invokevirtual index, 3)) (hmc : k + mc ≤ mc2) (hms : n + ms ≤ ms2) :
    kb_J p l e R s m args below meth c nL V A k n (vx_MQ below Qc (kb_XC V A E ws2) args s mc2 ms2 A) pc L st ws := by
  intro H locs ls hP hD hS hl
  subst hst
  subst hr0
  have hr := vx_runV C.1 hM (cwV as.length C.1.2.2.2.2 (kb_gV h1 h2 h3 h4 h5) rfl hrc hrs hd hR) ⟨kb_blind, va_recv C.2.1.1 hP hc he, kb_preU C hP hD hS⟩ (p := p) (e := e) (below := below) (meth := meth) (locs := locs) (cells := k) (slots := n) (g := F0 m pc ls (as.reverse ++ .ref b :: rest)) (rest := rest) rfl rfl hl.1 rfl (lv_room hroom) d hcs
  intro T hT X
  rcases hr T hT X with ⟨v, st₀, t, T', L9, h0, X', hL, e1, e2, hf, go⟩ | ⟨q, st₀, t, T', L9, E9, ce, h0, X', hL, e1, e2, ⟨rfl, hp1, hd1, hz, hk⟩, hce, hcv, hcl, go⟩
  · exact hf.elim
  · rw [h0] at hz hk
    have hS2 : va_S A s.heap T'.heap (locs ++ L9) := ⟨Nat.le_trans hS.1 (by rw [e1]; exact hz), fun q h1 h2 => by rw [e1, hk q (Nat.lt_of_lt_of_le h1 hS.1) h2]; exact hS.2.1 q h1 h2, fun q hq => by
      rcases List.mem_append.mp hq with h | h
      · exact hS.2.2 q h
      · exact hL q h⟩
    obtain ⟨t2, a1, b1⟩ := vx_out (p := p) (l := l) (e := e) (R := R) (m := m) (args := args) (below := below) (pc := pc) (ls := ls) (rest := rest) (Qc := Qc) (XC := kb_XC V A E9 ws2) (mc := mc2) (ms := ms2) (free := A) (fun x hx => (htb x hx).elim) C.2.2.2.2 (H := T'.heap) (by rw [e1]; exact hce) hcv hcl
      (fun t9 ht9 hvm9 => ⟨rfl, by rw [ht9, e1]; exact hp1, hd1, hS2.F ht9⟩) hS2.2.2 hmc hms T' rfl X'
    exact ⟨t2, go.trans a1, b1⟩
/-- the same contract, the cells in another order -/
theorem kb_Tperm {y : MethodName} {rm : Room} {as : List Value} {o : Option Value} {W1 W2 : va_W} {mc ms : Nat} (h : W2.Perm W1) (hM : kb_T l y cc nL ret rm V A as W1 o W1 mc ms) : kb_T l y cc nL ret rm V A as W2 o W2 mc ms := by
  intro p e ha hc hk s m args below hf happ hP hK
  obtain ⟨k, o, h1, h2, h3, hQ, L, hF, hL⟩ := hM p e ha hc hk s m args below hf happ ⟨hP.1, hP.2.1, kb_Pperm h hP.2.2.1, kb_Dperm h hP.2.2.2.1, hP.2.2.2.2⟩ hK
  exact ⟨k, o, h1, h2, h3, ⟨hQ.1, kb_Pperm h.symm hQ.2.1, kb_Dperm h.symm hQ.2.2.1, hQ.2.2.2⟩, L, hF, hL⟩
end KBA
