/-! an exception that a callee threw is caught by a row of this method's table; entries that aren't resolved yet are resolved by the search -/
section KBX
variable {Q : Handler → Pre} {E : CtlPost} {e : Env} {d : Bool} {acts : List Action}
/-- one row that covers the place and names a class: it takes the object, or the search goes on; the class is noted -/
theorem kb_row {S : State} {f : JFrame} {a : Addr} {x : ExceptionTableEntry} {t : List ExceptionTableEntry} {cx : ClassId} {cell : Cell} (hcov : covers x f.pc = true) (hct : x.catchType ≠ 0)
    (hlk : S.vm.ClassLinks e.platform f.method.cls x.catchType cx) (hce : S.heap[a]? = some cell) (hob : ∀ z, cell.vm ≠ .statics z) (k1 : ∃ z, S.vm.classes[cell.cls]? = some z) (k2 : ∃ z, S.vm.classes[cx]? = some z) :
    wp (findHandler.go f a (x :: t)) Q E e d acts S ↔ if S.vm.assignable cell.cls cx = true then Q (.found x.handlerPc) d acts (S.setVm (S.vm.noted f.method.cls x.catchType (.cls cx))) else wp (findHandler.go f a t) Q E e d acts (S.setVm (S.vm.noted f.method.cls x.catchType (.cls cx))) := by
  have al : S.vm.Alike (S.vm.noted f.method.cls x.catchType (.cls cx)) := (Vm.Alike.refl S.vm).noted _ _ _
  obtain ⟨z1, e1⟩ := k1
  obtain ⟨z2, e2⟩ := k2
  obtain ⟨w1, f1, -⟩ := al.2.2 _ _ e1
  obtain ⟨w2, f2, -⟩ := al.2.2 _ _ e2
  obtain ⟨ra, rt⟩ := (resolveClass_links e.toSetting hlk).op (op := VmOp.resolveClass f.method.cls x.catchType) rfl
  have as := al.assignable cell.cls cx
  unfold covers at hcov
  cases hfit : S.vm.assignable cell.cls cx with
  | true =>
    rw [hfit] at as
    simp [findHandler.go, hcov, hct, ra, rt, hce, hob, f1, f2, as, VmOp.dirties, VmOp.acts]
  | false =>
    rw [hfit] at as
    simp [findHandler.go, hcov, hct, ra, rt, hce, hob, f1, f2, as, VmOp.dirties, VmOp.acts]
/-- a table's row against the thrown object: it doesn't cover the place, or it names a class that doesn't take the object -/
def kb_pass (pl : Platform) (s0 : State) (own : ClassId) (pc : Nat) (thrown : ClassId) (y : ExceptionTableEntry) : Prop := covers y pc = false ∨ (y.catchType ≠ 0 ∧ ∃ cy, s0.vm.ClassLinks pl own y.catchType cy ∧ s0.vm.assignable thrown cy = false)
theorem kb_find {s0 : State} {f : JFrame} {a : Addr} {cell : Cell} (hob : ∀ z, cell.vm ≠ .statics z) (k0 : ∃ z, s0.vm.classes[cell.cls]? = some z) (x : ExceptionTableEntry) (suf : List ExceptionTableEntry) (hcov : covers x f.pc = true) (hct : x.catchType ≠ 0) {cx : ClassId} (hlk : s0.vm.ClassLinks e.platform f.method.cls x.catchType cx) (hfit : s0.vm.assignable cell.cls cx = true) :
    ∀ (pre : List ExceptionTableEntry) (S : State), s0.WarmedH S.vm → S.heap[a]? = some cell → (∀ y ∈ pre, kb_pass e.platform s0 f.method.cls f.pc cell.cls y) →
      ∃ vm2, s0.WarmedH vm2 ∧ ∀ (Q : Handler → Pre) (E : CtlPost) (d : Bool) (acts : List Action), wp (findHandler.go f a (pre ++ x :: suf)) Q E e d acts S ↔ Q (.found x.handlerPc) d acts (S.setVm vm2)
  | [], S, hW, hce, _ => by
    obtain ⟨z0, e0⟩ := k0
    obtain ⟨z1, e1, -⟩ := hW.alike.2.2 _ _ e0
    obtain ⟨dk, _, _, kt, hd, _, _, _, _, hkt, _, hopen⟩ := hlk.here
    obtain ⟨z2, e2, -⟩ := hW.alike.2.2 _ _ hkt
    refine ⟨_, hW.noted hd hopen (State.rightAt_cls hlk), fun Q E d acts => ?_⟩
    rw [List.nil_append, kb_row hcov hct (hW.classLinks hlk) hce hob ⟨z1, e1⟩ ⟨z2, e2⟩, if_pos (by rw [hW.alike.assignable]; exact hfit)]
  | y :: pre, S, hW, hce, hp => by
    have hp2 : ∀ z ∈ pre, kb_pass e.platform s0 f.method.cls f.pc cell.cls z := fun z hz => hp z (List.mem_cons_of_mem _ hz)
    cases hcy : covers y f.pc with
    | false =>
      obtain ⟨vm2, h1, h2⟩ := kb_find hob k0 x suf hcov hct hlk hfit pre S hW hce hp2
      exact ⟨vm2, h1, fun Q E d acts => by rw [List.cons_append, Jvm.W.findHandler_go_skip hcy]; exact h2 Q E d acts⟩
    | true =>
      rcases hp y List.mem_cons_self with h | ⟨hy0, cy, hly, hno⟩
      · rw [h] at hcy; cases hcy
      · obtain ⟨z0, e0⟩ := k0
        obtain ⟨z1, e1, -⟩ := hW.alike.2.2 _ _ e0
        obtain ⟨dk, _, _, kt, hd, _, _, _, _, hkt, _, hopen⟩ := hly.here
        obtain ⟨z2, e2, -⟩ := hW.alike.2.2 _ _ hkt
        obtain ⟨vm2, h1, h2⟩ := kb_find hob ⟨z0, e0⟩ x suf hcov hct hlk hfit pre (S.setVm (S.vm.noted f.method.cls y.catchType (.cls cy))) (hW.noted hd hopen (State.rightAt_cls hly)) hce hp2
        refine ⟨vm2, h1, fun Q E d acts => ?_⟩
        rw [List.cons_append, kb_row hcy hy0 (hW.classLinks hly) hce hob ⟨z1, e1⟩ ⟨z2, e2⟩, if_neg (by rw [hW.alike.assignable, hno]; decide)]
        exact h2 Q E d acts
end KBX
section KBY
variable {p : Program} {l : Launch} {e : Env} {R : Room} {s : State} {m : MethodId} {args : Array Value} {below : List Frame} {meth : Method} {c : Code} {H : Heap} {locs : List Loc} {cells slots : Nat} {Q : State → Prop} {ls : Array Slot} {rest : List Value} {pc : Nat}
/-- the object q, thrown over this method's frame, is caught by the row x -/
theorem kb_caught {own E name : String} {ce : Cell} {q : Addr} (hown : s.vm.findClass own = some m.cls) (pre : List ExceptionTableEntry) (x : ExceptionTableEntry) (suf : List ExceptionTableEntry) (hsplit : c.exceptionTable.toList = pre ++ x :: suf)
    (hpass : ∀ z ∈ pre, covers z pc = false ∨ (z.catchType ≠ 0 ∧ ∃ nm : String, (Cond.classLink own z.catchType nm).before args s = true ∧ va_Nc E nm s)) (hx : covers x pc = true) (h0 : x.catchType ≠ 0)
    (hlink : (Cond.classLink own x.catchType name).before args s = true) (hcast : (Cond.castable E name).before args s = true) (hcell : H[q]? = some ce) (hv : ce.vm = .none) (hcl : s.vm.findClass E = some ce.cls)
    (kk : W p l e R s m args below meth c H locs cells slots Q (F0 m x.handlerPc ls [.ref q])) : vx_W p l e R s m args below meth c H locs cells slots Q (F0 m pc ls rest) q := by
  intro T hT X
  have hpl : e.platform.magicAccessors = ({} : Platform).magicAccessors := by rw [X.admits.platform]
  obtain ⟨c3, c4, hc3, hc4, hasg⟩ := Cond.castable_spec hcast
  cases Option.some.inj (hc3.symm.trans hcl)
  obtain ⟨c5, hc5, hcl5⟩ := Cond.classLink_spec hown hlink e.platform hpl
  cases Option.some.inj (hc4.symm.trans hc5)
  have hk0 : ∃ z, s.vm.classes[ce.cls]? = some z := by obtain ⟨k9, h9, -⟩ := Vm.findClass_spec hcl; exact ⟨k9, h9⟩
  have hcell2 : ((T.setTop (F0 m pc ls rest)).pushFrame (.throwing q)).heap[q]? = some ce := by
    rw [Stand.throwing_heap, hT]; exact hcell
  have hW2 : s.WarmedH ((T.setTop (F0 m pc ls rest)).pushFrame (.throwing q)).vm := by rw [Stand.throwing_vm]; exact X.warmed
  obtain ⟨vm2, hWv, hq⟩ := kb_find (e := e) (s0 := s) (f := F0 m pc ls rest) (a := q) (cell := ce) (fun z h => by rw [hv] at h; cases h) hk0 x suf hx h0 hcl5 hasg pre _ hW2 hcell2 (fun z hz => by
    rcases hpass z hz with h | ⟨hz0, nm, hl1, hn1⟩
    · exact Or.inl h
    · obtain ⟨c6, hc6, hcl6⟩ := Cond.classLink_spec hown hl1 e.platform hpl
      obtain ⟨a8, b8, h1, h2, h3⟩ := hn1
      cases Option.some.inj (h1.symm.trans hcl)
      cases Option.some.inj (h2.symm.trans hc6)
      exact Or.inr ⟨hz0, _, hcl6, h3⟩)
  have hmeth : ((T.setTop (F0 m pc ls rest)).pushFrame (.throwing q)).vm.method? m = some meth := by rw [Stand.throwing_vm]; exact X.method'
  obtain ⟨t, a1, b1⟩ := kk (T.setVm vm2) hT (X.noted hWv)
  refine ⟨t, ?_, b1⟩
  have hA : At T m c below := X.here
  obtain ⟨hgo, hw⟩ := hA.throwing (g := F0 m pc ls rest) q
  refine Steps.head hgo hw ?_
  obtain ⟨g₀, hg⟩ := Option.isSome_iff_exists.mp hA.top
  obtain ⟨r, hr⟩ := State.topJava?_eq_some.mp hg
  have hF : ∀ (Q : Handler → Pre) (E : CtlPost) (d : Bool) (acts : List Action), wp (findHandler (F0 m pc ls rest) q) Q E e d acts ((T.setTop (F0 m pc ls rest)).pushFrame (.throwing q)) ↔ Q (.found x.handlerPc) d acts (((T.setTop (F0 m pc ls rest)).pushFrame (.throwing q)).setVm vm2) := fun Q E d acts => by
    rw [Jvm.W.findHandler_eq (f := F0 m pc ls rest) hmeth X.code, hsplit]
    exact hq Q E d acts
  have hstep : (stepThrowing e ((T.setTop (F0 m pc ls rest)).pushFrame (.throwing q)) q (.java (F0 m pc ls rest) :: r)).Is ((((T.setTop (F0 m pc ls rest)).pushFrame (.throwing q)).setVm vm2).setFrames (.java { (F0 m pc ls rest) with pc := x.handlerPc, stack := [.ref q] } :: r)) [] := by
    simp only [stepThrowing, searchFrame, vmDo]
    generalize hrr : Sem.go _ e false [] _ = res
    obtain ⟨as, rfl, ha⟩ := Sem.eq_ok_of hrr (a := Handler.found x.handlerPc) (s' := ((T.setTop (F0 m pc ls rest)).pushFrame (.throwing q)).setVm vm2) (acts' := []) (by simp [hF _ _ _ _])
    exact ⟨rfl, ha⟩
  rw [stepThread_throwing (frames_entered hA.top _), hr, List.tail_cons, hstep.1]
  have e9 : (((T.setTop (F0 m pc ls rest)).pushFrame (.throwing q)).setVm vm2).setFrames (.java { (F0 m pc ls rest) with pc := x.handlerPc, stack := [.ref q] } :: r) = (T.setVm vm2).setTop (F0 m x.handlerPc ls [.ref q]) := by
    have hr2 : (T.setVm vm2).frames = .java g₀ :: r := hr
    rw [State.setTop_of_frames _ hr2, State.pushFrame, State.setTop_of_frames _ hr]
    have h1 : ∀ (F G : List Frame), ((T.setFrames F).setVm vm2).setFrames G = (T.setVm vm2).setFrames G := fun F G => by
      rw [show (T.setFrames F).setVm vm2 = (T.setVm vm2).setFrames F from rfl, State.setFrames_setFrames]
    rw [State.setFrames_setFrames, h1]
  rw [e9]
  exact a1
end KBY
