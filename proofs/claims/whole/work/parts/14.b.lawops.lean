/-! what the two sides owe each other, call by call (Inv: class memory, Shortest's memory if made, reference memory) -/
abbrev kb_I : Type := kb_S → Option kb_S → kb_S → Prop
def ok_begin (I : kb_I) : Prop := ∀ σ T μ (x z : Int32), I σ T μ → (z = 0 ∨ z = 1) → ∃ μ2, fn_X9_begin x z μ = some μ2 ∧ (((x < 1 ∨ ¬ x ≤ 40) ∧ fn_X9_thrown μ2 = 1 ∧ I σ T μ2) ∨ (¬ x < 1 ∧ x ≤ 40 ∧ fn_X9_thrown μ2 = 0 ∧ ∃ σ2, fn_X0_castOn x z σ = some σ2 ∧ ((T = none ∧ I σ2 none μ2) ∨ ∃ τ τ2, T = some τ ∧ fn_X5_forget τ = some τ2 ∧ I σ2 (some τ2) μ2)))
def ok_feed (I : kb_I) : Prop := ∀ σ T μ (x : Int64) (y : Int32), I σ T μ → ∃ σ2 μ2 ec r b, fn_X8_feed x y σ = some (σ2, (ec, r)) ∧ fn_X9_feed x y μ = some (μ2, b) ∧ I σ2 T μ2 ∧ ((ec = 0 ∧ fn_X9_thrown μ2 = 0 ∧ r = b) ∨ (ec = 1 ∧ fn_X9_thrown μ2 = 1) ∨ (ec = 2 ∧ fn_X9_thrown μ2 = 2))
def ok_work (I : kb_I) : Prop := ∀ σ T μ, I σ T μ → ∃ σ2 μ2 r, fn_X8_work σ = some (σ2, r) ∧ fn_X9_work μ = some (μ2, r) ∧ I σ2 T μ2
def ok_rows (I : kb_I) : Prop := ∀ σ T μ, I σ T μ → ∃ μ2, fn_X9_rows μ = some (μ2, fn_X8_rows σ) ∧ I σ T μ2
def ok_unravel (I : kb_I) : Prop := ∀ σ T μ (x : Int32), I σ T μ → ∃ σ2 μ2 ec r b, fn_X8_unravel x σ = some (σ2, (ec, r)) ∧ fn_X9_unravel x μ = some (μ2, b) ∧ I σ2 T μ2 ∧ ((ec = 0 ∧ fn_X9_thrown μ2 = 0 ∧ r = b) ∨ (ec = 1 ∧ fn_X9_thrown μ2 = 1))
def ok_live (I : kb_I) : Prop := ∀ σ T μ (x : Int32), I σ T μ → ∃ μ2, fn_X9_live x μ = some (μ2, fn_X8_live x σ) ∧ I σ T μ2
def ok_loop (I : kb_I) : Prop := ∀ σ T μ (x y : Int32), I σ T μ → ∃ μ2 ec r b, fn_X8_loop x y σ = some (ec, r) ∧ fn_X9_loop x y μ = some (μ2, b) ∧ I σ T μ2 ∧ ((ec = 0 ∧ fn_X9_thrown μ2 = 0 ∧ r = b) ∨ (ec = 1 ∧ fn_X9_thrown μ2 = 1))
def ok_chart (I : kb_I) : Prop := ∀ σ T μ (x y : Int32), I σ T μ → ∃ μ2 ec r b, fn_X8_chart x y σ = some (ec, r) ∧ fn_X9_chart x y μ = some (μ2, b) ∧ I σ T μ2 ∧ ((ec = 0 ∧ fn_X9_thrown μ2 = 0 ∧ r = b) ∨ (ec = 1 ∧ fn_X9_thrown μ2 = 1) ∨ (ec = 3 ∧ fn_X9_thrown μ2 = 2))
def ok_row (I : kb_I) : Prop := ∀ σ T μ (x y : Int32), I σ T μ → ∃ μ2 ec r b, fn_X8_row x y σ = some (ec, r) ∧ fn_X9_row x y μ = some (μ2, b) ∧ I σ T μ2 ∧ ((ec = 0 ∧ fn_X9_thrown μ2 = 0 ∧ r = b) ∨ (ec = 1 ∧ fn_X9_thrown μ2 = 1))
def ok_shorten (I : kb_I) : Prop := ∀ σ T μ (x : Int32), I σ T μ → ∃ μ2 b, fn_X9_shorten x μ = some (μ2, b) ∧ ((∃ r0, fn_X8_requireRow x σ = some (1, r0) ∧ fn_X9_thrown μ2 = 1 ∧ I σ T μ2) ∨ (∃ r0 τ2, fn_X8_requireRow x σ = some (0, r0) ∧ fn_X5_tellRow σ x (T.getD kb_S0) = some (τ2, b) ∧ fn_X9_thrown μ2 = 0 ∧ I σ (some τ2) μ2))
def ok_out (I : kb_I) : Prop := ∀ σ T μ (x : Int32), I σ T μ → ∃ μ2 b, fn_X9_out x μ = some (μ2, b) ∧ I σ T μ2 ∧ ((¬ 0 ≤ x ∧ fn_X9_thrown μ2 = 1) ∨ (0 ≤ x ∧ fn_X9_thrown μ2 = 0 ∧ ((T = none ∧ b = -1) ∨ ∃ τ, T = some τ ∧ fn_X5_byteAt x τ = some b)))
def ok_ladder (I : kb_I) : Prop := ∀ σ T μ (x : Int32), I σ T μ → ∃ μ2 ec r b, fn_X8_ladder x σ = some (ec, r) ∧ fn_X9_ladder x μ = some (μ2, b) ∧ I σ T μ2 ∧ ((ec = 0 ∧ fn_X9_thrown μ2 = 0 ∧ r = b) ∨ (ec = 1 ∧ fn_X9_thrown μ2 = 1))
def ok_total (I : kb_I) : Prop := ∀ σ T μ (x : Int32), I σ T μ → ∃ μ2 ec r b, fn_X8_total x σ = some (ec, r) ∧ fn_X9_total x μ = some (μ2, b) ∧ I σ T μ2 ∧ ((ec = 0 ∧ fn_X9_thrown μ2 = 0 ∧ r = b) ∨ (ec = 1 ∧ fn_X9_thrown μ2 = 1))
theorem kb_cmp0 (x : Int64) : lg_cmp x x = 0 := by unfold lg_cmp; simp
theorem kb_ml {S : Option ((Nat → Nat) × kb_S)} (h : S.map (fun q => q.2) = none) : S = none := by cases S with
  | none => rfl
  | some q => cases h
theorem kb_ms {S : Option ((Nat → Nat) × kb_S)} {τ : kb_S} (h : S.map (fun q => q.2) = some τ) : ∃ b, S = some (b, τ) := by cases S with
  | none => cases h
  | some q => exact ⟨q.1, by cases h; rfl⟩
set_option maxRecDepth 100000 in
set_option maxHeartbeats 4000000 in
theorem cnS_L_shorten (l : Launch) (V : kb_V) (A : Nat → Prop) (x1 : Int32) (a : Nat → Nat) (σ : kb_S) (sh : Value) (o9 : Nat) (ov : Nat → Int64) (ex ex2 : va_W) (r : Int32) {rm : Room} (hrc : rm.cells = 0) (hrs : rm.slots = 0) (hM : kb_T l yX8_shorten cX8_shorten 2 (some .int) rm V A [.ref (a 0), .int x1] (kb_W V a σ sh (kb_O V o9 ov :: ex)) (some (.int r)) (kb_W V a σ sh (kb_O V o9 ov :: ex2)) 0 0) : kb_TH l yL_shorten cL_shorten 4 [(0, 9, 12, 13)] ({ frames := rm.frames + 1, cells := rm.cells, slots := rm.slots, locals := rm.locals + 60 } : Room) V A [.ref (a 0), .int x1, .ref o9] (kb_W V a σ sh (kb_O V o9 ov :: ex)) 0 (kb_W V a σ sh (kb_O V o9 (vp_updL ov 0 r.toInt64) :: ex2)) 0 0 := by
  refine kb_startH (cc := cL_shorten) (nL := 4) (own := RL) (by decide) rfl (Nat.le_of_ble_eq_true rfl) ?_
  intro p e s m args below meth c C htb
  refine kj_sub [0, 1, 2] (L2 := [(0, .ref (a 0)), (1, .int x1), (2, .ref o9)]) rfl ?_
  refine kj_aload_n (pc := 0) C 2 dL_shorten_0 rfl rfl ?_
  refine kj_iconst (pc := 1) (v := (0 : Int32)) C dL_shorten_1 (by decide) ?_
  refine kj_aload_n (pc := 2) C 0 dL_shorten_2 rfl rfl ?_
  refine kj_iload_n (pc := 3) C 1 dL_shorten_3 rfl rfl ?_
  refine kj_callV0 (pc := 4) (as := [.int x1]) (rest := [.int (0 : Int32), .ref o9]) (b := a 0) C hM wd_X8_shorten wk_L_37 wi_X8_shorten ws_X8_shorten wz_X8 hrc hrs hd_X8_shorten ⟨Nat.le_refl _, by show 8 + (2 + 11) + rm.locals ≤ rm.locals + 60; omega⟩ 0 rfl rfl rfl rfl (Nat.le_of_ble_eq_true rfl) (by show 0 ≤ rm.cells ∧ 0 ≤ rm.slots; omega) dL_shorten_4 ?_
  refine kj_i2l (pc := 7) C dL_shorten_7 ?_
  refine kj_last (pc := 8) (ws2 := (kb_W V a σ sh (kb_O V o9 (vp_updL ov 0 r.toInt64) :: ex2))) C 20 rfl (vp_in_nI (n := 0) (N := 1) (by decide) (by decide)) rfl dL_shorten_8 ?_
  refine kj_goto (pc := 9) 15 C dL_shorten_9 (by decide) ?_
  refine kj_iconst (pc := 15) (v := (0 : Int32)) C dL_shorten_15 (by decide) ?_
  exact kj_iret (pc := 16) C dL_shorten_16
section KBO
variable {p : Program} {l : Launch} {e : Env} {R : Room} {s : State} {m : MethodId} {args : Array Value} {below : List Frame} {meth : Method} {c : Code} {k n : Nat} {Q : State → Prop} {w0 : Cond} {ret : Option FieldType} {V : kb_V} {A : Nat → Prop} {bs Ln : Nat} {xs : Nat → Int32} {a d : Nat → Nat} {o9 : Nat} {ii : Int32} {σ : kb_S} {S : Option ((Nat → Nat) × kb_S)} {ov : Nat → Int64} {μ : kb_S} {I : kb_I}

set_option maxRecDepth 100000 in
set_option maxHeartbeats 4000000 in
theorem lo_work (C : kb_C p s m args meth c cL_law 7 RL w0 ret V A) (hRf : 60 ≤ R.frames) (hRl : 2000 ≤ R.locals) (hcs : k + 5 ≤ R.cells ∧ n + 9446 ≤ R.slots) (hX : va_X bs Ln xs s s.heap) (hbl : bs < s.heap.size) (hbA : ¬ A bs) (hl : l.stackTraces = false) (h1 : vp_in (ii + (1 : Int32)) Ln) (h2 : vp_in (ii + (2 : Int32)) Ln) (h3 : vp_in (ii + (3 : Int32)) Ln) (hI : I σ (S.map (fun q => q.2)) μ) (hO : ok_work I) (K : ∀ σ2 S2 ov2 μ2, I σ2 (S2.map (fun q => q.2)) μ2 → kb_J p l e R s m args below meth c 7 V A (k + 5) (n + 9446) Q 803 [(0, .ref bs), (1, .ref (a 0)), (2, .ref (d 0)), (3, .ref o9), (4, .int ii)] [] (kb_LW V a d o9 σ2 S2 ov2 μ2)) : kb_J p l e R s m args below meth c 7 V A k n Q 268 [(0, .ref bs), (1, .ref (a 0)), (2, .ref (d 0)), (3, .ref o9), (4, .int ii)] [] (kb_LW V a d o9 σ S ov μ) := by
  obtain ⟨σ2, μ2, r, e1, e2, e3⟩ := hO _ _ _ hI
  refine kj_aload_n (pc := 268) C 1 dL_law_268 rfl rfl ?_
  refine kj_callV0 (pc := 269) (ws2 := (kb_LW V a d o9 σ2 S ov μ)) (as := []) (rest := []) (b := a 0) C (ct_X8_work l V A  a σ (kb_sh S) (kb_O V o9 ov :: kb_tl V S (kb_WM V d μ [])) e1) wd_X8_work wk_L_69 wi_X8_work ws_X8_work wz_X8 rfl rfl hd_X8_work ⟨Nat.le_trans (by decide) hRf, Nat.le_trans (by decide) hRl⟩ 0 rfl rfl rfl rfl (Nat.le_of_ble_eq_true rfl) (by omega) dL_law_269 ?_
  refine kj_aload_n (pc := 272) C 2 dL_law_272 rfl rfl ?_
  refine kj_perm kb_pLM ?_
  refine kj_callV0 (pc := 273) (ws2 := (kb_LM V a d o9 σ2 S ov μ2)) (as := []) (rest := [.int r]) (b := d 0) C (ct_X9_work l V A  d μ (kb_W V a σ2 (kb_sh S) (kb_O V o9 ov :: kb_tl V S [])) e2) wd_X9_work wk_L_72 wi_X9_work ws_X9_work wz_X9 rfl rfl hd_X9_work ⟨Nat.le_trans (by decide) hRf, Nat.le_trans (by decide) hRl⟩ 0 rfl rfl rfl rfl (Nat.le_of_ble_eq_true rfl) (by omega) dL_law_273 ?_
  refine kj_perm kb_pLM.symm ?_
  refine kj_icmp_eq (pc := 276) 803 C dL_law_276 (by decide) (fun _ => ?_) (fun c9 => absurd (rfl) c9)
  refine kj_widen (k2 := k + 5) (n2 := n + 9446) (by omega) (by omega) ?_
  exact K σ2 S ov μ2 e3
set_option maxRecDepth 100000 in
set_option maxHeartbeats 4000000 in
theorem lo_rows (C : kb_C p s m args meth c cL_law 7 RL w0 ret V A) (hRf : 60 ≤ R.frames) (hRl : 2000 ≤ R.locals) (hcs : k + 5 ≤ R.cells ∧ n + 9446 ≤ R.slots) (hX : va_X bs Ln xs s s.heap) (hbl : bs < s.heap.size) (hbA : ¬ A bs) (hl : l.stackTraces = false) (h1 : vp_in (ii + (1 : Int32)) Ln) (h2 : vp_in (ii + (2 : Int32)) Ln) (h3 : vp_in (ii + (3 : Int32)) Ln) (hI : I σ (S.map (fun q => q.2)) μ) (hO : ok_rows I) (K : ∀ σ2 S2 ov2 μ2, I σ2 (S2.map (fun q => q.2)) μ2 → kb_J p l e R s m args below meth c 7 V A (k + 5) (n + 9446) Q 803 [(0, .ref bs), (1, .ref (a 0)), (2, .ref (d 0)), (3, .ref o9), (4, .int ii)] [] (kb_LW V a d o9 σ2 S2 ov2 μ2)) : kb_J p l e R s m args below meth c 7 V A k n Q 281 [(0, .ref bs), (1, .ref (a 0)), (2, .ref (d 0)), (3, .ref o9), (4, .int ii)] [] (kb_LW V a d o9 σ S ov μ) := by
  obtain ⟨μ2, e2, e3⟩ := hO _ _ _ hI
  refine kj_aload_n (pc := 281) C 1 dL_law_281 rfl rfl ?_
  refine kj_callV0 (pc := 282) (ws2 := (kb_LW V a d o9 σ S ov μ)) (as := []) (rest := []) (b := a 0) C (ct_X8_rows l V A  a σ (kb_sh S) (kb_O V o9 ov :: kb_tl V S (kb_WM V d μ [])) rfl) wd_X8_rows wk_L_73 wi_X8_rows ws_X8_rows wz_X8 rfl rfl hd_X8_rows ⟨Nat.le_trans (by decide) hRf, Nat.le_trans (by decide) hRl⟩ 0 rfl rfl rfl rfl (Nat.le_of_ble_eq_true rfl) (by omega) dL_law_282 ?_
  refine kj_aload_n (pc := 285) C 2 dL_law_285 rfl rfl ?_
  refine kj_perm kb_pLM ?_
  refine kj_callV0 (pc := 286) (ws2 := (kb_LM V a d o9 σ S ov μ2)) (as := []) (rest := [.int (fn_X8_rows σ)]) (b := d 0) C (ct_X9_rows l V A  d μ (kb_W V a σ (kb_sh S) (kb_O V o9 ov :: kb_tl V S [])) e2) wd_X9_rows wk_L_76 wi_X9_rows ws_X9_rows wz_X9 rfl rfl hd_X9_rows ⟨Nat.le_trans (by decide) hRf, Nat.le_trans (by decide) hRl⟩ 0 rfl rfl rfl rfl (Nat.le_of_ble_eq_true rfl) (by omega) dL_law_286 ?_
  refine kj_perm kb_pLM.symm ?_
  refine kj_icmp_eq (pc := 289) 803 C dL_law_289 (by decide) (fun _ => ?_) (fun c9 => absurd (rfl) c9)
  refine kj_widen (k2 := k + 5) (n2 := n + 9446) (by omega) (by omega) ?_
  exact K σ S ov μ2 e3
set_option maxRecDepth 100000 in
set_option maxHeartbeats 4000000 in
theorem lo_live (C : kb_C p s m args meth c cL_law 7 RL w0 ret V A) (hRf : 60 ≤ R.frames) (hRl : 2000 ≤ R.locals) (hcs : k + 5 ≤ R.cells ∧ n + 9446 ≤ R.slots) (hX : va_X bs Ln xs s s.heap) (hbl : bs < s.heap.size) (hbA : ¬ A bs) (hl : l.stackTraces = false) (h1 : vp_in (ii + (1 : Int32)) Ln) (h2 : vp_in (ii + (2 : Int32)) Ln) (h3 : vp_in (ii + (3 : Int32)) Ln) (hI : I σ (S.map (fun q => q.2)) μ) (hO : ok_live I) (K : ∀ σ2 S2 ov2 μ2, I σ2 (S2.map (fun q => q.2)) μ2 → kb_J p l e R s m args below meth c 7 V A (k + 5) (n + 9446) Q 803 [(0, .ref bs), (1, .ref (a 0)), (2, .ref (d 0)), (3, .ref o9), (4, .int ii)] [] (kb_LW V a d o9 σ2 S2 ov2 μ2)) : kb_J p l e R s m args below meth c 7 V A k n Q 350 [(0, .ref bs), (1, .ref (a 0)), (2, .ref (d 0)), (3, .ref o9), (4, .int ii)] [] (kb_LW V a d o9 σ S ov μ) := by
  obtain ⟨μ2, e2, e3⟩ := hO _ _ _ (xs (ii + (1 : Int32)).toNatClampNeg) hI
  refine kj_aload_n (pc := 350) C 1 dL_law_350 rfl rfl ?_
  refine kj_aload_n (pc := 351) C 0 dL_law_351 rfl rfl ?_
  refine kj_iload (pc := 352) C 4 dL_law_352 rfl ?_
  refine kj_iconst (pc := 354) (v := (1 : Int32)) C dL_law_354 (by decide) ?_
  refine kj_iadd (pc := 355) C dL_law_355 ?_
  refine kj_scr (pc := 356) C hX hbl hbA h1 dL_law_356 rfl ?_
  refine kj_callV0 (pc := 357) (ws2 := (kb_LW V a d o9 σ S ov μ)) (as := [.int (xs (ii + (1 : Int32)).toNatClampNeg)]) (rest := []) (b := a 0) C (ct_X8_live l V A ((xs (ii + (1 : Int32)).toNatClampNeg)) a σ (kb_sh S) (kb_O V o9 ov :: kb_tl V S (kb_WM V d μ [])) rfl) wd_X8_live wk_L_81 wi_X8_live ws_X8_live wz_X8 rfl rfl hd_X8_live ⟨Nat.le_trans (by decide) hRf, Nat.le_trans (by decide) hRl⟩ 0 rfl rfl rfl rfl (Nat.le_of_ble_eq_true rfl) (by omega) dL_law_357 ?_
  refine kj_aload_n (pc := 360) C 2 dL_law_360 rfl rfl ?_
  refine kj_aload_n (pc := 361) C 0 dL_law_361 rfl rfl ?_
  refine kj_iload (pc := 362) C 4 dL_law_362 rfl ?_
  refine kj_iconst (pc := 364) (v := (1 : Int32)) C dL_law_364 (by decide) ?_
  refine kj_iadd (pc := 365) C dL_law_365 ?_
  refine kj_scr (pc := 366) C hX hbl hbA h1 dL_law_366 rfl ?_
  refine kj_perm kb_pLM ?_
  refine kj_callV0 (pc := 367) (ws2 := (kb_LM V a d o9 σ S ov μ2)) (as := [.int (xs (ii + (1 : Int32)).toNatClampNeg)]) (rest := [.int (fn_X8_live (xs (ii + (1 : Int32)).toNatClampNeg) σ)]) (b := d 0) C (ct_X9_live l V A ((xs (ii + (1 : Int32)).toNatClampNeg)) d μ (kb_W V a σ (kb_sh S) (kb_O V o9 ov :: kb_tl V S [])) e2) wd_X9_live wk_L_84 wi_X9_live ws_X9_live wz_X9 rfl rfl hd_X9_live ⟨Nat.le_trans (by decide) hRf, Nat.le_trans (by decide) hRl⟩ 0 rfl rfl rfl rfl (Nat.le_of_ble_eq_true rfl) (by omega) dL_law_367 ?_
  refine kj_perm kb_pLM.symm ?_
  refine kj_icmp_eq (pc := 370) 803 C dL_law_370 (by decide) (fun _ => ?_) (fun c9 => absurd (rfl) c9)
  refine kj_widen (k2 := k + 5) (n2 := n + 9446) (by omega) (by omega) ?_
  exact K σ S ov μ2 e3
set_option maxRecDepth 100000 in
set_option maxHeartbeats 4000000 in
theorem lo_feed (C : kb_C p s m args meth c cL_law 7 RL w0 ret V A) (hRf : 60 ≤ R.frames) (hRl : 2000 ≤ R.locals) (hcs : k + 5 ≤ R.cells ∧ n + 9446 ≤ R.slots) (hX : va_X bs Ln xs s s.heap) (hbl : bs < s.heap.size) (hbA : ¬ A bs) (hl : l.stackTraces = false) (h1 : vp_in (ii + (1 : Int32)) Ln) (h2 : vp_in (ii + (2 : Int32)) Ln) (h3 : vp_in (ii + (3 : Int32)) Ln) (hI : I σ (S.map (fun q => q.2)) μ) (hO : ok_feed I) (K : ∀ σ2 S2 ov2 μ2, I σ2 (S2.map (fun q => q.2)) μ2 → kb_J p l e R s m args below meth c 7 V A (k + 5) (n + 9446) Q 803 [(0, .ref bs), (1, .ref (a 0)), (2, .ref (d 0)), (3, .ref o9), (4, .int ii)] [] (kb_LW V a d o9 σ2 S2 ov2 μ2)) : kb_J p l e R s m args below meth c 7 V A k n Q 168 [(0, .ref bs), (1, .ref (a 0)), (2, .ref (d 0)), (3, .ref o9), (4, .int ii)] [] (kb_LW V a d o9 σ S ov μ) := by
  obtain ⟨σ2, μ2, ec, r, b, e1, e2, e3, e4⟩ := hO _ _ _ ((((xs (ii + (1 : Int32)).toNatClampNeg)).toInt64 <<< ((32 : Int32).toInt64 &&& 63)) ||| (((xs (ii + (2 : Int32)).toNatClampNeg)).toInt64 &&& (4294967295 : Int64))) (xs (ii + (3 : Int32)).toNatClampNeg) hI
  rcases e4 with ⟨rfl, e5, rfl⟩ | ⟨rfl, e5⟩ | ⟨rfl, e5⟩
  · refine kj_aload_n (pc := 168) C 1 dL_law_168 rfl rfl ?_
    refine kj_aload_n (pc := 169) C 0 dL_law_169 rfl rfl ?_
    refine kj_iload (pc := 170) C 4 dL_law_170 rfl ?_
    refine kj_iconst (pc := 172) (v := (1 : Int32)) C dL_law_172 (by decide) ?_
    refine kj_iadd (pc := 173) C dL_law_173 ?_
    refine kj_scr (pc := 174) C hX hbl hbA h1 dL_law_174 rfl ?_
    refine kj_i2l (pc := 175) C dL_law_175 ?_
    refine kj_bipush (pc := 176) (v := (32 : Int32)) C dL_law_176 (by decide) ?_
    refine kj_lshl (pc := 178) C dL_law_178 ?_
    refine kj_aload_n (pc := 179) C 0 dL_law_179 rfl rfl ?_
    refine kj_iload (pc := 180) C 4 dL_law_180 rfl ?_
    refine kj_iconst (pc := 182) (v := (2 : Int32)) C dL_law_182 (by decide) ?_
    refine kj_iadd (pc := 183) C dL_law_183 ?_
    refine kj_scr (pc := 184) C hX hbl hbA h2 dL_law_184 rfl ?_
    refine kj_i2l (pc := 185) C dL_law_185 ?_
    refine kj_ldc2 (pc := 186) (v := (4294967295 : Int64)) C dL_law_186 wl_L_63 ?_
    refine kj_land (pc := 189) C dL_law_189 ?_
    refine kj_lor (pc := 190) C dL_law_190 ?_
    refine kj_aload_n (pc := 191) C 0 dL_law_191 rfl rfl ?_
    refine kj_iload (pc := 192) C 4 dL_law_192 rfl ?_
    refine kj_iconst (pc := 194) (v := (3 : Int32)) C dL_law_194 (by decide) ?_
    refine kj_iadd (pc := 195) C dL_law_195 ?_
    refine kj_scr (pc := 196) C hX hbl hbA h3 dL_law_196 rfl ?_
    refine kj_aload_n (pc := 197) C 3 dL_law_197 rfl rfl ?_
    refine kj_callH (pc := 198) (ws2 := (kb_LW V a d o9 σ2 S (vp_updL ov 0 r.toInt64) μ)) (as := [.ref (a 0), .long ((((xs (ii + (1 : Int32)).toNatClampNeg)).toInt64 <<< ((32 : Int32).toInt64 &&& 63)) ||| (((xs (ii + (2 : Int32)).toNatClampNeg)).toInt64 &&& (4294967295 : Int64))), .int (xs (ii + (3 : Int32)).toNatClampNeg), .ref o9]) (rest := []) C (cn_L_feed l V A ((((xs (ii + (1 : Int32)).toNatClampNeg)).toInt64 <<< ((32 : Int32).toInt64 &&& 63)) ||| (((xs (ii + (2 : Int32)).toNatClampNeg)).toInt64 &&& (4294967295 : Int64))) (xs (ii + (3 : Int32)).toNatClampNeg) a σ (kb_sh S) o9 ov (kb_tl V S (kb_WM V d μ [])) σ2 r rfl rfl (ct_X8_feed l V A ((((xs (ii + (1 : Int32)).toNatClampNeg)).toInt64 <<< ((32 : Int32).toInt64 &&& 63)) ||| (((xs (ii + (2 : Int32)).toNatClampNeg)).toInt64 &&& (4294967295 : Int64))) (xs (ii + (3 : Int32)).toNatClampNeg) a σ (kb_sh S) (kb_O V o9 ov :: (kb_tl V S (kb_WM V d μ []))) e1)) wh_L_feed wk_L_65 wi_L_feed wz_L rfl rfl hd_L_feed ⟨Nat.le_trans (by decide) hRf, Nat.le_trans (by decide) hRl⟩ rfl (Nat.le_of_ble_eq_true rfl) (by omega) dL_law_198 ?_
    refine kj_widen (k2 := k + 5) (n2 := n + 9446) (by omega) (by omega) ?_
    refine kj_istore (pc := 201) C [1, 2, 3, 4, 5, 0] (L2 := [(0, .ref bs), (1, .ref (a 0)), (2, .ref (d 0)), (3, .ref o9), (4, .int ii), (5, .int (0 : Int32))]) dL_law_201 (by decide) rfl ?_
    refine kj_aload_n (pc := 203) C 2 dL_law_203 rfl rfl ?_
    refine kj_aload_n (pc := 204) C 0 dL_law_204 rfl rfl ?_
    refine kj_iload (pc := 205) C 4 dL_law_205 rfl ?_
    refine kj_iconst (pc := 207) (v := (1 : Int32)) C dL_law_207 (by decide) ?_
    refine kj_iadd (pc := 208) C dL_law_208 ?_
    refine kj_scr (pc := 209) C hX hbl hbA h1 dL_law_209 rfl ?_
    refine kj_i2l (pc := 210) C dL_law_210 ?_
    refine kj_bipush (pc := 211) (v := (32 : Int32)) C dL_law_211 (by decide) ?_
    refine kj_lshl (pc := 213) C dL_law_213 ?_
    refine kj_aload_n (pc := 214) C 0 dL_law_214 rfl rfl ?_
    refine kj_iload (pc := 215) C 4 dL_law_215 rfl ?_
    refine kj_iconst (pc := 217) (v := (2 : Int32)) C dL_law_217 (by decide) ?_
    refine kj_iadd (pc := 218) C dL_law_218 ?_
    refine kj_scr (pc := 219) C hX hbl hbA h2 dL_law_219 rfl ?_
    refine kj_i2l (pc := 220) C dL_law_220 ?_
    refine kj_ldc2 (pc := 221) (v := (4294967295 : Int64)) C dL_law_221 wl_L_63 ?_
    refine kj_land (pc := 224) C dL_law_224 ?_
    refine kj_lor (pc := 225) C dL_law_225 ?_
    refine kj_aload_n (pc := 226) C 0 dL_law_226 rfl rfl ?_
    refine kj_iload (pc := 227) C 4 dL_law_227 rfl ?_
    refine kj_iconst (pc := 229) (v := (3 : Int32)) C dL_law_229 (by decide) ?_
    refine kj_iadd (pc := 230) C dL_law_230 ?_
    refine kj_scr (pc := 231) C hX hbl hbA h3 dL_law_231 rfl ?_
    refine kj_perm kb_pLM ?_
    refine kj_callV0 (pc := 232) (ws2 := (kb_LM V a d o9 σ2 S (vp_updL ov 0 r.toInt64) μ2)) (as := [.long ((((xs (ii + (1 : Int32)).toNatClampNeg)).toInt64 <<< ((32 : Int32).toInt64 &&& 63)) ||| (((xs (ii + (2 : Int32)).toNatClampNeg)).toInt64 &&& (4294967295 : Int64))), .int (xs (ii + (3 : Int32)).toNatClampNeg)]) (rest := []) (b := d 0) C (ct_X9_feed l V A (((((xs (ii + (1 : Int32)).toNatClampNeg)).toInt64 <<< ((32 : Int32).toInt64 &&& 63)) ||| (((xs (ii + (2 : Int32)).toNatClampNeg)).toInt64 &&& (4294967295 : Int64)))) ((xs (ii + (3 : Int32)).toNatClampNeg)) d μ (kb_W V a σ2 (kb_sh S) (kb_O V o9 (vp_updL ov 0 r.toInt64) :: kb_tl V S [])) e2) wd_X9_feed wk_L_68 wi_X9_feed ws_X9_feed wz_X9 rfl rfl hd_X9_feed ⟨Nat.le_trans (by decide) hRf, Nat.le_trans (by decide) hRl⟩ 0 rfl rfl rfl rfl (Nat.le_of_ble_eq_true rfl) (by omega) dL_law_232 ?_
    refine kj_perm kb_pLM.symm ?_
    refine kj_istore (pc := 235) C [1, 2, 3, 4, 5, 6, 0] (L2 := [(0, .ref bs), (1, .ref (a 0)), (2, .ref (d 0)), (3, .ref o9), (4, .int ii), (5, .int (0 : Int32)), (6, .int r)]) dL_law_235 (by decide) rfl ?_
    refine kj_aload_n (pc := 237) C 2 dL_law_237 rfl rfl ?_
    refine kj_perm kb_pLM ?_
    refine kj_callV0 (pc := 238) (ws2 := (kb_LM V a d o9 σ2 S (vp_updL ov 0 r.toInt64) μ2)) (as := []) (rest := []) (b := d 0) C (ct_X9_thrown l V A  d μ2 (kb_W V a σ2 (kb_sh S) (kb_O V o9 (vp_updL ov 0 r.toInt64) :: kb_tl V S [])) e5) wd_X9_thrown wk_L_59 wi_X9_thrown ws_X9_thrown wz_X9 rfl rfl hd_X9_thrown ⟨Nat.le_trans (by decide) hRf, Nat.le_trans (by decide) hRl⟩ 0 rfl rfl rfl rfl (Nat.le_of_ble_eq_true rfl) (by omega) dL_law_238 ?_
    refine kj_perm kb_pLM.symm ?_
    refine kj_iload (pc := 241) C 5 dL_law_241 rfl ?_
    refine kj_icmp_eq (pc := 243) 248 C dL_law_243 (by decide) (fun _ => ?_) (fun c9 => absurd (rfl) c9)
    refine kj_iload (pc := 248) C 5 dL_law_248 rfl ?_
    refine kj_if_ne (pc := 250) 265 C dL_law_250 (by decide) (fun c9 => absurd (rfl) c9) (fun _ => ?_)
    refine kj_aload_n (pc := 253) C 3 dL_law_253 rfl rfl ?_
    refine kj_iconst (pc := 254) (v := (0 : Int32)) C dL_law_254 (by decide) ?_
    refine kj_lald (pc := 255) (f := (vp_updL ov 0 r.toInt64)) C 20 rfl (vp_in_nI (n := 0) (N := 1) (by decide) (by decide)) dL_law_255 ?_
    refine kj_iload (pc := 256) C 6 dL_law_256 rfl ?_
    refine kj_i2l (pc := 258) C dL_law_258 ?_
    refine kj_lcmp (pc := 259) C dL_law_259 ?_
    refine kj_if_eq (pc := 260) 265 C dL_law_260 (by decide) (fun _ => ?_) (fun c9 => absurd (by rw [show vp_updL ov 0 r.toInt64 (0 : Int32).toNatClampNeg = r.toInt64 from rfl]; exact kb_cmp0 _) c9)
    refine kj_goto (pc := 265) 803 C dL_law_265 (by decide) ?_
    refine kj_sub [0, 1, 2, 3, 4] (L2 := [(0, .ref bs), (1, .ref (a 0)), (2, .ref (d 0)), (3, .ref o9), (4, .int ii)]) rfl ?_
    exact K σ2 S (vp_updL ov 0 r.toInt64) μ2 e3
  · refine kj_aload_n (pc := 168) C 1 dL_law_168 rfl rfl ?_
    refine kj_aload_n (pc := 169) C 0 dL_law_169 rfl rfl ?_
    refine kj_iload (pc := 170) C 4 dL_law_170 rfl ?_
    refine kj_iconst (pc := 172) (v := (1 : Int32)) C dL_law_172 (by decide) ?_
    refine kj_iadd (pc := 173) C dL_law_173 ?_
    refine kj_scr (pc := 174) C hX hbl hbA h1 dL_law_174 rfl ?_
    refine kj_i2l (pc := 175) C dL_law_175 ?_
    refine kj_bipush (pc := 176) (v := (32 : Int32)) C dL_law_176 (by decide) ?_
    refine kj_lshl (pc := 178) C dL_law_178 ?_
    refine kj_aload_n (pc := 179) C 0 dL_law_179 rfl rfl ?_
    refine kj_iload (pc := 180) C 4 dL_law_180 rfl ?_
    refine kj_iconst (pc := 182) (v := (2 : Int32)) C dL_law_182 (by decide) ?_
    refine kj_iadd (pc := 183) C dL_law_183 ?_
    refine kj_scr (pc := 184) C hX hbl hbA h2 dL_law_184 rfl ?_
    refine kj_i2l (pc := 185) C dL_law_185 ?_
    refine kj_ldc2 (pc := 186) (v := (4294967295 : Int64)) C dL_law_186 wl_L_63 ?_
    refine kj_land (pc := 189) C dL_law_189 ?_
    refine kj_lor (pc := 190) C dL_law_190 ?_
    refine kj_aload_n (pc := 191) C 0 dL_law_191 rfl rfl ?_
    refine kj_iload (pc := 192) C 4 dL_law_192 rfl ?_
    refine kj_iconst (pc := 194) (v := (3 : Int32)) C dL_law_194 (by decide) ?_
    refine kj_iadd (pc := 195) C dL_law_195 ?_
    refine kj_scr (pc := 196) C hX hbl hbA h3 dL_law_196 rfl ?_
    refine kj_aload_n (pc := 197) C 3 dL_law_197 rfl rfl ?_
    refine kj_callH (pc := 198) (ws2 := (kb_LW V a d o9 σ2 S ov μ)) (as := [.ref (a 0), .long ((((xs (ii + (1 : Int32)).toNatClampNeg)).toInt64 <<< ((32 : Int32).toInt64 &&& 63)) ||| (((xs (ii + (2 : Int32)).toNatClampNeg)).toInt64 &&& (4294967295 : Int64))), .int (xs (ii + (3 : Int32)).toNatClampNeg), .ref o9]) (rest := []) C (cx_L_feed_1 l V A ((((xs (ii + (1 : Int32)).toNatClampNeg)).toInt64 <<< ((32 : Int32).toInt64 &&& 63)) ||| (((xs (ii + (2 : Int32)).toNatClampNeg)).toInt64 &&& (4294967295 : Int64))) (xs (ii + (3 : Int32)).toNatClampNeg) a σ (kb_sh S) o9 (kb_O V o9 ov :: (kb_tl V S (kb_WM V d μ []))) σ2 rfl rfl (cx_X8_feed l V A ((((xs (ii + (1 : Int32)).toNatClampNeg)).toInt64 <<< ((32 : Int32).toInt64 &&& 63)) ||| (((xs (ii + (2 : Int32)).toNatClampNeg)).toInt64 &&& (4294967295 : Int64))) (xs (ii + (3 : Int32)).toNatClampNeg) a σ (kb_sh S) (kb_O V o9 ov :: (kb_tl V S (kb_WM V d μ []))) hl (by decide) e1)) wh_L_feed wk_L_65 wi_L_feed wz_L rfl rfl hd_L_feed ⟨Nat.le_trans (by decide) hRf, Nat.le_trans (by decide) hRl⟩ rfl (Nat.le_of_ble_eq_true rfl) (by omega) dL_law_198 ?_
    refine kj_widen (k2 := k + 5) (n2 := n + 9446) (by omega) (by omega) ?_
    refine kj_istore (pc := 201) C [1, 2, 3, 4, 5, 0] (L2 := [(0, .ref bs), (1, .ref (a 0)), (2, .ref (d 0)), (3, .ref o9), (4, .int ii), (5, .int (1 : Int32))]) dL_law_201 (by decide) rfl ?_
    refine kj_aload_n (pc := 203) C 2 dL_law_203 rfl rfl ?_
    refine kj_aload_n (pc := 204) C 0 dL_law_204 rfl rfl ?_
    refine kj_iload (pc := 205) C 4 dL_law_205 rfl ?_
    refine kj_iconst (pc := 207) (v := (1 : Int32)) C dL_law_207 (by decide) ?_
    refine kj_iadd (pc := 208) C dL_law_208 ?_
    refine kj_scr (pc := 209) C hX hbl hbA h1 dL_law_209 rfl ?_
    refine kj_i2l (pc := 210) C dL_law_210 ?_
    refine kj_bipush (pc := 211) (v := (32 : Int32)) C dL_law_211 (by decide) ?_
    refine kj_lshl (pc := 213) C dL_law_213 ?_
    refine kj_aload_n (pc := 214) C 0 dL_law_214 rfl rfl ?_
    refine kj_iload (pc := 215) C 4 dL_law_215 rfl ?_
    refine kj_iconst (pc := 217) (v := (2 : Int32)) C dL_law_217 (by decide) ?_
    refine kj_iadd (pc := 218) C dL_law_218 ?_
    refine kj_scr (pc := 219) C hX hbl hbA h2 dL_law_219 rfl ?_
    refine kj_i2l (pc := 220) C dL_law_220 ?_
    refine kj_ldc2 (pc := 221) (v := (4294967295 : Int64)) C dL_law_221 wl_L_63 ?_
    refine kj_land (pc := 224) C dL_law_224 ?_
    refine kj_lor (pc := 225) C dL_law_225 ?_
    refine kj_aload_n (pc := 226) C 0 dL_law_226 rfl rfl ?_
    refine kj_iload (pc := 227) C 4 dL_law_227 rfl ?_
    refine kj_iconst (pc := 229) (v := (3 : Int32)) C dL_law_229 (by decide) ?_
    refine kj_iadd (pc := 230) C dL_law_230 ?_
    refine kj_scr (pc := 231) C hX hbl hbA h3 dL_law_231 rfl ?_
    refine kj_perm kb_pLM ?_
    refine kj_callV0 (pc := 232) (ws2 := (kb_LM V a d o9 σ2 S ov μ2)) (as := [.long ((((xs (ii + (1 : Int32)).toNatClampNeg)).toInt64 <<< ((32 : Int32).toInt64 &&& 63)) ||| (((xs (ii + (2 : Int32)).toNatClampNeg)).toInt64 &&& (4294967295 : Int64))), .int (xs (ii + (3 : Int32)).toNatClampNeg)]) (rest := []) (b := d 0) C (ct_X9_feed l V A (((((xs (ii + (1 : Int32)).toNatClampNeg)).toInt64 <<< ((32 : Int32).toInt64 &&& 63)) ||| (((xs (ii + (2 : Int32)).toNatClampNeg)).toInt64 &&& (4294967295 : Int64)))) ((xs (ii + (3 : Int32)).toNatClampNeg)) d μ (kb_W V a σ2 (kb_sh S) (kb_O V o9 ov :: kb_tl V S [])) e2) wd_X9_feed wk_L_68 wi_X9_feed ws_X9_feed wz_X9 rfl rfl hd_X9_feed ⟨Nat.le_trans (by decide) hRf, Nat.le_trans (by decide) hRl⟩ 0 rfl rfl rfl rfl (Nat.le_of_ble_eq_true rfl) (by omega) dL_law_232 ?_
    refine kj_perm kb_pLM.symm ?_
    refine kj_istore (pc := 235) C [1, 2, 3, 4, 5, 6, 0] (L2 := [(0, .ref bs), (1, .ref (a 0)), (2, .ref (d 0)), (3, .ref o9), (4, .int ii), (5, .int (1 : Int32)), (6, .int b)]) dL_law_235 (by decide) rfl ?_
    refine kj_aload_n (pc := 237) C 2 dL_law_237 rfl rfl ?_
    refine kj_perm kb_pLM ?_
    refine kj_callV0 (pc := 238) (ws2 := (kb_LM V a d o9 σ2 S ov μ2)) (as := []) (rest := []) (b := d 0) C (ct_X9_thrown l V A  d μ2 (kb_W V a σ2 (kb_sh S) (kb_O V o9 ov :: kb_tl V S [])) e5) wd_X9_thrown wk_L_59 wi_X9_thrown ws_X9_thrown wz_X9 rfl rfl hd_X9_thrown ⟨Nat.le_trans (by decide) hRf, Nat.le_trans (by decide) hRl⟩ 0 rfl rfl rfl rfl (Nat.le_of_ble_eq_true rfl) (by omega) dL_law_238 ?_
    refine kj_perm kb_pLM.symm ?_
    refine kj_iload (pc := 241) C 5 dL_law_241 rfl ?_
    refine kj_icmp_eq (pc := 243) 248 C dL_law_243 (by decide) (fun _ => ?_) (fun c9 => absurd (rfl) c9)
    refine kj_iload (pc := 248) C 5 dL_law_248 rfl ?_
    refine kj_if_ne (pc := 250) 265 C dL_law_250 (by decide) (fun _ => ?_) (fun c9 => absurd c9 (by decide))
    refine kj_goto (pc := 265) 803 C dL_law_265 (by decide) ?_
    refine kj_sub [0, 1, 2, 3, 4] (L2 := [(0, .ref bs), (1, .ref (a 0)), (2, .ref (d 0)), (3, .ref o9), (4, .int ii)]) rfl ?_
    exact K σ2 S ov μ2 e3
  · refine kj_aload_n (pc := 168) C 1 dL_law_168 rfl rfl ?_
    refine kj_aload_n (pc := 169) C 0 dL_law_169 rfl rfl ?_
    refine kj_iload (pc := 170) C 4 dL_law_170 rfl ?_
    refine kj_iconst (pc := 172) (v := (1 : Int32)) C dL_law_172 (by decide) ?_
    refine kj_iadd (pc := 173) C dL_law_173 ?_
    refine kj_scr (pc := 174) C hX hbl hbA h1 dL_law_174 rfl ?_
    refine kj_i2l (pc := 175) C dL_law_175 ?_
    refine kj_bipush (pc := 176) (v := (32 : Int32)) C dL_law_176 (by decide) ?_
    refine kj_lshl (pc := 178) C dL_law_178 ?_
    refine kj_aload_n (pc := 179) C 0 dL_law_179 rfl rfl ?_
    refine kj_iload (pc := 180) C 4 dL_law_180 rfl ?_
    refine kj_iconst (pc := 182) (v := (2 : Int32)) C dL_law_182 (by decide) ?_
    refine kj_iadd (pc := 183) C dL_law_183 ?_
    refine kj_scr (pc := 184) C hX hbl hbA h2 dL_law_184 rfl ?_
    refine kj_i2l (pc := 185) C dL_law_185 ?_
    refine kj_ldc2 (pc := 186) (v := (4294967295 : Int64)) C dL_law_186 wl_L_63 ?_
    refine kj_land (pc := 189) C dL_law_189 ?_
    refine kj_lor (pc := 190) C dL_law_190 ?_
    refine kj_aload_n (pc := 191) C 0 dL_law_191 rfl rfl ?_
    refine kj_iload (pc := 192) C 4 dL_law_192 rfl ?_
    refine kj_iconst (pc := 194) (v := (3 : Int32)) C dL_law_194 (by decide) ?_
    refine kj_iadd (pc := 195) C dL_law_195 ?_
    refine kj_scr (pc := 196) C hX hbl hbA h3 dL_law_196 rfl ?_
    refine kj_aload_n (pc := 197) C 3 dL_law_197 rfl rfl ?_
    refine kj_callH (pc := 198) (ws2 := (kb_LW V a d o9 σ2 S ov μ)) (as := [.ref (a 0), .long ((((xs (ii + (1 : Int32)).toNatClampNeg)).toInt64 <<< ((32 : Int32).toInt64 &&& 63)) ||| (((xs (ii + (2 : Int32)).toNatClampNeg)).toInt64 &&& (4294967295 : Int64))), .int (xs (ii + (3 : Int32)).toNatClampNeg), .ref o9]) (rest := []) C (cx_L_feed_2 l V A ((((xs (ii + (1 : Int32)).toNatClampNeg)).toInt64 <<< ((32 : Int32).toInt64 &&& 63)) ||| (((xs (ii + (2 : Int32)).toNatClampNeg)).toInt64 &&& (4294967295 : Int64))) (xs (ii + (3 : Int32)).toNatClampNeg) a σ (kb_sh S) o9 (kb_O V o9 ov :: (kb_tl V S (kb_WM V d μ []))) σ2 rfl rfl (cx_X8_feed l V A ((((xs (ii + (1 : Int32)).toNatClampNeg)).toInt64 <<< ((32 : Int32).toInt64 &&& 63)) ||| (((xs (ii + (2 : Int32)).toNatClampNeg)).toInt64 &&& (4294967295 : Int64))) (xs (ii + (3 : Int32)).toNatClampNeg) a σ (kb_sh S) (kb_O V o9 ov :: (kb_tl V S (kb_WM V d μ []))) hl (by decide) e1)) wh_L_feed wk_L_65 wi_L_feed wz_L rfl rfl hd_L_feed ⟨Nat.le_trans (by decide) hRf, Nat.le_trans (by decide) hRl⟩ rfl (Nat.le_of_ble_eq_true rfl) (by omega) dL_law_198 ?_
    refine kj_widen (k2 := k + 5) (n2 := n + 9446) (by omega) (by omega) ?_
    refine kj_istore (pc := 201) C [1, 2, 3, 4, 5, 0] (L2 := [(0, .ref bs), (1, .ref (a 0)), (2, .ref (d 0)), (3, .ref o9), (4, .int ii), (5, .int (2 : Int32))]) dL_law_201 (by decide) rfl ?_
    refine kj_aload_n (pc := 203) C 2 dL_law_203 rfl rfl ?_
    refine kj_aload_n (pc := 204) C 0 dL_law_204 rfl rfl ?_
    refine kj_iload (pc := 205) C 4 dL_law_205 rfl ?_
    refine kj_iconst (pc := 207) (v := (1 : Int32)) C dL_law_207 (by decide) ?_
    refine kj_iadd (pc := 208) C dL_law_208 ?_
    refine kj_scr (pc := 209) C hX hbl hbA h1 dL_law_209 rfl ?_
    refine kj_i2l (pc := 210) C dL_law_210 ?_
    refine kj_bipush (pc := 211) (v := (32 : Int32)) C dL_law_211 (by decide) ?_
    refine kj_lshl (pc := 213) C dL_law_213 ?_
    refine kj_aload_n (pc := 214) C 0 dL_law_214 rfl rfl ?_
    refine kj_iload (pc := 215) C 4 dL_law_215 rfl ?_
    refine kj_iconst (pc := 217) (v := (2 : Int32)) C dL_law_217 (by decide) ?_
    refine kj_iadd (pc := 218) C dL_law_218 ?_
    refine kj_scr (pc := 219) C hX hbl hbA h2 dL_law_219 rfl ?_
    refine kj_i2l (pc := 220) C dL_law_220 ?_
    refine kj_ldc2 (pc := 221) (v := (4294967295 : Int64)) C dL_law_221 wl_L_63 ?_
    refine kj_land (pc := 224) C dL_law_224 ?_
    refine kj_lor (pc := 225) C dL_law_225 ?_
    refine kj_aload_n (pc := 226) C 0 dL_law_226 rfl rfl ?_
    refine kj_iload (pc := 227) C 4 dL_law_227 rfl ?_
    refine kj_iconst (pc := 229) (v := (3 : Int32)) C dL_law_229 (by decide) ?_
    refine kj_iadd (pc := 230) C dL_law_230 ?_
    refine kj_scr (pc := 231) C hX hbl hbA h3 dL_law_231 rfl ?_
    refine kj_perm kb_pLM ?_
    refine kj_callV0 (pc := 232) (ws2 := (kb_LM V a d o9 σ2 S ov μ2)) (as := [.long ((((xs (ii + (1 : Int32)).toNatClampNeg)).toInt64 <<< ((32 : Int32).toInt64 &&& 63)) ||| (((xs (ii + (2 : Int32)).toNatClampNeg)).toInt64 &&& (4294967295 : Int64))), .int (xs (ii + (3 : Int32)).toNatClampNeg)]) (rest := []) (b := d 0) C (ct_X9_feed l V A (((((xs (ii + (1 : Int32)).toNatClampNeg)).toInt64 <<< ((32 : Int32).toInt64 &&& 63)) ||| (((xs (ii + (2 : Int32)).toNatClampNeg)).toInt64 &&& (4294967295 : Int64)))) ((xs (ii + (3 : Int32)).toNatClampNeg)) d μ (kb_W V a σ2 (kb_sh S) (kb_O V o9 ov :: kb_tl V S [])) e2) wd_X9_feed wk_L_68 wi_X9_feed ws_X9_feed wz_X9 rfl rfl hd_X9_feed ⟨Nat.le_trans (by decide) hRf, Nat.le_trans (by decide) hRl⟩ 0 rfl rfl rfl rfl (Nat.le_of_ble_eq_true rfl) (by omega) dL_law_232 ?_
    refine kj_perm kb_pLM.symm ?_
    refine kj_istore (pc := 235) C [1, 2, 3, 4, 5, 6, 0] (L2 := [(0, .ref bs), (1, .ref (a 0)), (2, .ref (d 0)), (3, .ref o9), (4, .int ii), (5, .int (2 : Int32)), (6, .int b)]) dL_law_235 (by decide) rfl ?_
    refine kj_aload_n (pc := 237) C 2 dL_law_237 rfl rfl ?_
    refine kj_perm kb_pLM ?_
    refine kj_callV0 (pc := 238) (ws2 := (kb_LM V a d o9 σ2 S ov μ2)) (as := []) (rest := []) (b := d 0) C (ct_X9_thrown l V A  d μ2 (kb_W V a σ2 (kb_sh S) (kb_O V o9 ov :: kb_tl V S [])) e5) wd_X9_thrown wk_L_59 wi_X9_thrown ws_X9_thrown wz_X9 rfl rfl hd_X9_thrown ⟨Nat.le_trans (by decide) hRf, Nat.le_trans (by decide) hRl⟩ 0 rfl rfl rfl rfl (Nat.le_of_ble_eq_true rfl) (by omega) dL_law_238 ?_
    refine kj_perm kb_pLM.symm ?_
    refine kj_iload (pc := 241) C 5 dL_law_241 rfl ?_
    refine kj_icmp_eq (pc := 243) 248 C dL_law_243 (by decide) (fun _ => ?_) (fun c9 => absurd (rfl) c9)
    refine kj_iload (pc := 248) C 5 dL_law_248 rfl ?_
    refine kj_if_ne (pc := 250) 265 C dL_law_250 (by decide) (fun _ => ?_) (fun c9 => absurd c9 (by decide))
    refine kj_goto (pc := 265) 803 C dL_law_265 (by decide) ?_
    refine kj_sub [0, 1, 2, 3, 4] (L2 := [(0, .ref bs), (1, .ref (a 0)), (2, .ref (d 0)), (3, .ref o9), (4, .int ii)]) rfl ?_
    exact K σ2 S ov μ2 e3
set_option maxRecDepth 100000 in
set_option maxHeartbeats 4000000 in
theorem lo_unravel (C : kb_C p s m args meth c cL_law 7 RL w0 ret V A) (hRf : 60 ≤ R.frames) (hRl : 2000 ≤ R.locals) (hcs : k + 5 ≤ R.cells ∧ n + 9446 ≤ R.slots) (hX : va_X bs Ln xs s s.heap) (hbl : bs < s.heap.size) (hbA : ¬ A bs) (hl : l.stackTraces = false) (h1 : vp_in (ii + (1 : Int32)) Ln) (h2 : vp_in (ii + (2 : Int32)) Ln) (h3 : vp_in (ii + (3 : Int32)) Ln) (hI : I σ (S.map (fun q => q.2)) μ) (hO : ok_unravel I) (K : ∀ σ2 S2 ov2 μ2, I σ2 (S2.map (fun q => q.2)) μ2 → kb_J p l e R s m args below meth c 7 V A (k + 5) (n + 9446) Q 803 [(0, .ref bs), (1, .ref (a 0)), (2, .ref (d 0)), (3, .ref o9), (4, .int ii)] [] (kb_LW V a d o9 σ2 S2 ov2 μ2)) : kb_J p l e R s m args below meth c 7 V A k n Q 294 [(0, .ref bs), (1, .ref (a 0)), (2, .ref (d 0)), (3, .ref o9), (4, .int ii)] [] (kb_LW V a d o9 σ S ov μ) := by
  obtain ⟨σ2, μ2, ec, r, b, e1, e2, e3, e4⟩ := hO _ _ _ (xs (ii + (1 : Int32)).toNatClampNeg) hI
  rcases e4 with ⟨rfl, e5, rfl⟩ | ⟨rfl, e5⟩
  · refine kj_aload_n (pc := 294) C 1 dL_law_294 rfl rfl ?_
    refine kj_aload_n (pc := 295) C 0 dL_law_295 rfl rfl ?_
    refine kj_iload (pc := 296) C 4 dL_law_296 rfl ?_
    refine kj_iconst (pc := 298) (v := (1 : Int32)) C dL_law_298 (by decide) ?_
    refine kj_iadd (pc := 299) C dL_law_299 ?_
    refine kj_scr (pc := 300) C hX hbl hbA h1 dL_law_300 rfl ?_
    refine kj_aload_n (pc := 301) C 3 dL_law_301 rfl rfl ?_
    refine kj_callH (pc := 302) (ws2 := (kb_LW V a d o9 σ2 S (vp_updL ov 0 r.toInt64) μ)) (as := [.ref (a 0), .int (xs (ii + (1 : Int32)).toNatClampNeg), .ref o9]) (rest := []) C (cn_L_unravel l V A (xs (ii + (1 : Int32)).toNatClampNeg) a σ (kb_sh S) o9 ov (kb_tl V S (kb_WM V d μ [])) σ2 r rfl rfl (ct_X8_unravel l V A (xs (ii + (1 : Int32)).toNatClampNeg) a σ (kb_sh S) (kb_O V o9 ov :: (kb_tl V S (kb_WM V d μ []))) e1)) wh_L_unravel wk_L_77 wi_L_unravel wz_L rfl rfl hd_L_unravel ⟨Nat.le_trans (by decide) hRf, Nat.le_trans (by decide) hRl⟩ rfl (Nat.le_of_ble_eq_true rfl) (by omega) dL_law_302 ?_
    refine kj_widen (k2 := k + 5) (n2 := n + 9446) (by omega) (by omega) ?_
    refine kj_istore (pc := 305) C [1, 2, 3, 4, 5, 0] (L2 := [(0, .ref bs), (1, .ref (a 0)), (2, .ref (d 0)), (3, .ref o9), (4, .int ii), (5, .int (0 : Int32))]) dL_law_305 (by decide) rfl ?_
    refine kj_aload_n (pc := 307) C 2 dL_law_307 rfl rfl ?_
    refine kj_aload_n (pc := 308) C 0 dL_law_308 rfl rfl ?_
    refine kj_iload (pc := 309) C 4 dL_law_309 rfl ?_
    refine kj_iconst (pc := 311) (v := (1 : Int32)) C dL_law_311 (by decide) ?_
    refine kj_iadd (pc := 312) C dL_law_312 ?_
    refine kj_scr (pc := 313) C hX hbl hbA h1 dL_law_313 rfl ?_
    refine kj_perm kb_pLM ?_
    refine kj_callV0 (pc := 314) (ws2 := (kb_LM V a d o9 σ2 S (vp_updL ov 0 r.toInt64) μ2)) (as := [.int (xs (ii + (1 : Int32)).toNatClampNeg)]) (rest := []) (b := d 0) C (ct_X9_unravel l V A ((xs (ii + (1 : Int32)).toNatClampNeg)) d μ (kb_W V a σ2 (kb_sh S) (kb_O V o9 (vp_updL ov 0 r.toInt64) :: kb_tl V S [])) e2) wd_X9_unravel wk_L_80 wi_X9_unravel ws_X9_unravel wz_X9 rfl rfl hd_X9_unravel ⟨Nat.le_trans (by decide) hRf, Nat.le_trans (by decide) hRl⟩ 0 rfl rfl rfl rfl (Nat.le_of_ble_eq_true rfl) (by omega) dL_law_314 ?_
    refine kj_perm kb_pLM.symm ?_
    refine kj_istore (pc := 317) C [1, 2, 3, 4, 5, 6, 0] (L2 := [(0, .ref bs), (1, .ref (a 0)), (2, .ref (d 0)), (3, .ref o9), (4, .int ii), (5, .int (0 : Int32)), (6, .int r)]) dL_law_317 (by decide) rfl ?_
    refine kj_aload_n (pc := 319) C 2 dL_law_319 rfl rfl ?_
    refine kj_perm kb_pLM ?_
    refine kj_callV0 (pc := 320) (ws2 := (kb_LM V a d o9 σ2 S (vp_updL ov 0 r.toInt64) μ2)) (as := []) (rest := []) (b := d 0) C (ct_X9_thrown l V A  d μ2 (kb_W V a σ2 (kb_sh S) (kb_O V o9 (vp_updL ov 0 r.toInt64) :: kb_tl V S [])) e5) wd_X9_thrown wk_L_59 wi_X9_thrown ws_X9_thrown wz_X9 rfl rfl hd_X9_thrown ⟨Nat.le_trans (by decide) hRf, Nat.le_trans (by decide) hRl⟩ 0 rfl rfl rfl rfl (Nat.le_of_ble_eq_true rfl) (by omega) dL_law_320 ?_
    refine kj_perm kb_pLM.symm ?_
    refine kj_iload (pc := 323) C 5 dL_law_323 rfl ?_
    refine kj_icmp_eq (pc := 325) 330 C dL_law_325 (by decide) (fun _ => ?_) (fun c9 => absurd (rfl) c9)
    refine kj_iload (pc := 330) C 5 dL_law_330 rfl ?_
    refine kj_if_ne (pc := 332) 347 C dL_law_332 (by decide) (fun c9 => absurd (rfl) c9) (fun _ => ?_)
    refine kj_aload_n (pc := 335) C 3 dL_law_335 rfl rfl ?_
    refine kj_iconst (pc := 336) (v := (0 : Int32)) C dL_law_336 (by decide) ?_
    refine kj_lald (pc := 337) (f := (vp_updL ov 0 r.toInt64)) C 20 rfl (vp_in_nI (n := 0) (N := 1) (by decide) (by decide)) dL_law_337 ?_
    refine kj_iload (pc := 338) C 6 dL_law_338 rfl ?_
    refine kj_i2l (pc := 340) C dL_law_340 ?_
    refine kj_lcmp (pc := 341) C dL_law_341 ?_
    refine kj_if_eq (pc := 342) 347 C dL_law_342 (by decide) (fun _ => ?_) (fun c9 => absurd (by rw [show vp_updL ov 0 r.toInt64 (0 : Int32).toNatClampNeg = r.toInt64 from rfl]; exact kb_cmp0 _) c9)
    refine kj_goto (pc := 347) 803 C dL_law_347 (by decide) ?_
    refine kj_sub [0, 1, 2, 3, 4] (L2 := [(0, .ref bs), (1, .ref (a 0)), (2, .ref (d 0)), (3, .ref o9), (4, .int ii)]) rfl ?_
    exact K σ2 S (vp_updL ov 0 r.toInt64) μ2 e3
  · refine kj_aload_n (pc := 294) C 1 dL_law_294 rfl rfl ?_
    refine kj_aload_n (pc := 295) C 0 dL_law_295 rfl rfl ?_
    refine kj_iload (pc := 296) C 4 dL_law_296 rfl ?_
    refine kj_iconst (pc := 298) (v := (1 : Int32)) C dL_law_298 (by decide) ?_
    refine kj_iadd (pc := 299) C dL_law_299 ?_
    refine kj_scr (pc := 300) C hX hbl hbA h1 dL_law_300 rfl ?_
    refine kj_aload_n (pc := 301) C 3 dL_law_301 rfl rfl ?_
    refine kj_callH (pc := 302) (ws2 := (kb_LW V a d o9 σ2 S ov μ)) (as := [.ref (a 0), .int (xs (ii + (1 : Int32)).toNatClampNeg), .ref o9]) (rest := []) C (cx_L_unravel_1 l V A (xs (ii + (1 : Int32)).toNatClampNeg) a σ (kb_sh S) o9 (kb_O V o9 ov :: (kb_tl V S (kb_WM V d μ []))) σ2 rfl rfl (cx_X8_unravel l V A (xs (ii + (1 : Int32)).toNatClampNeg) a σ (kb_sh S) (kb_O V o9 ov :: (kb_tl V S (kb_WM V d μ []))) hl (by decide) e1)) wh_L_unravel wk_L_77 wi_L_unravel wz_L rfl rfl hd_L_unravel ⟨Nat.le_trans (by decide) hRf, Nat.le_trans (by decide) hRl⟩ rfl (Nat.le_of_ble_eq_true rfl) (by omega) dL_law_302 ?_
    refine kj_widen (k2 := k + 5) (n2 := n + 9446) (by omega) (by omega) ?_
    refine kj_istore (pc := 305) C [1, 2, 3, 4, 5, 0] (L2 := [(0, .ref bs), (1, .ref (a 0)), (2, .ref (d 0)), (3, .ref o9), (4, .int ii), (5, .int (1 : Int32))]) dL_law_305 (by decide) rfl ?_
    refine kj_aload_n (pc := 307) C 2 dL_law_307 rfl rfl ?_
    refine kj_aload_n (pc := 308) C 0 dL_law_308 rfl rfl ?_
    refine kj_iload (pc := 309) C 4 dL_law_309 rfl ?_
    refine kj_iconst (pc := 311) (v := (1 : Int32)) C dL_law_311 (by decide) ?_
    refine kj_iadd (pc := 312) C dL_law_312 ?_
    refine kj_scr (pc := 313) C hX hbl hbA h1 dL_law_313 rfl ?_
    refine kj_perm kb_pLM ?_
    refine kj_callV0 (pc := 314) (ws2 := (kb_LM V a d o9 σ2 S ov μ2)) (as := [.int (xs (ii + (1 : Int32)).toNatClampNeg)]) (rest := []) (b := d 0) C (ct_X9_unravel l V A ((xs (ii + (1 : Int32)).toNatClampNeg)) d μ (kb_W V a σ2 (kb_sh S) (kb_O V o9 ov :: kb_tl V S [])) e2) wd_X9_unravel wk_L_80 wi_X9_unravel ws_X9_unravel wz_X9 rfl rfl hd_X9_unravel ⟨Nat.le_trans (by decide) hRf, Nat.le_trans (by decide) hRl⟩ 0 rfl rfl rfl rfl (Nat.le_of_ble_eq_true rfl) (by omega) dL_law_314 ?_
    refine kj_perm kb_pLM.symm ?_
    refine kj_istore (pc := 317) C [1, 2, 3, 4, 5, 6, 0] (L2 := [(0, .ref bs), (1, .ref (a 0)), (2, .ref (d 0)), (3, .ref o9), (4, .int ii), (5, .int (1 : Int32)), (6, .int b)]) dL_law_317 (by decide) rfl ?_
    refine kj_aload_n (pc := 319) C 2 dL_law_319 rfl rfl ?_
    refine kj_perm kb_pLM ?_
    refine kj_callV0 (pc := 320) (ws2 := (kb_LM V a d o9 σ2 S ov μ2)) (as := []) (rest := []) (b := d 0) C (ct_X9_thrown l V A  d μ2 (kb_W V a σ2 (kb_sh S) (kb_O V o9 ov :: kb_tl V S [])) e5) wd_X9_thrown wk_L_59 wi_X9_thrown ws_X9_thrown wz_X9 rfl rfl hd_X9_thrown ⟨Nat.le_trans (by decide) hRf, Nat.le_trans (by decide) hRl⟩ 0 rfl rfl rfl rfl (Nat.le_of_ble_eq_true rfl) (by omega) dL_law_320 ?_
    refine kj_perm kb_pLM.symm ?_
    refine kj_iload (pc := 323) C 5 dL_law_323 rfl ?_
    refine kj_icmp_eq (pc := 325) 330 C dL_law_325 (by decide) (fun _ => ?_) (fun c9 => absurd (rfl) c9)
    refine kj_iload (pc := 330) C 5 dL_law_330 rfl ?_
    refine kj_if_ne (pc := 332) 347 C dL_law_332 (by decide) (fun _ => ?_) (fun c9 => absurd c9 (by decide))
    refine kj_goto (pc := 347) 803 C dL_law_347 (by decide) ?_
    refine kj_sub [0, 1, 2, 3, 4] (L2 := [(0, .ref bs), (1, .ref (a 0)), (2, .ref (d 0)), (3, .ref o9), (4, .int ii)]) rfl ?_
    exact K σ2 S ov μ2 e3
set_option maxRecDepth 100000 in
set_option maxHeartbeats 4000000 in
theorem lo_loop (C : kb_C p s m args meth c cL_law 7 RL w0 ret V A) (hRf : 60 ≤ R.frames) (hRl : 2000 ≤ R.locals) (hcs : k + 5 ≤ R.cells ∧ n + 9446 ≤ R.slots) (hX : va_X bs Ln xs s s.heap) (hbl : bs < s.heap.size) (hbA : ¬ A bs) (hl : l.stackTraces = false) (h1 : vp_in (ii + (1 : Int32)) Ln) (h2 : vp_in (ii + (2 : Int32)) Ln) (h3 : vp_in (ii + (3 : Int32)) Ln) (hI : I σ (S.map (fun q => q.2)) μ) (hO : ok_loop I) (K : ∀ σ2 S2 ov2 μ2, I σ2 (S2.map (fun q => q.2)) μ2 → kb_J p l e R s m args below meth c 7 V A (k + 5) (n + 9446) Q 803 [(0, .ref bs), (1, .ref (a 0)), (2, .ref (d 0)), (3, .ref o9), (4, .int ii)] [] (kb_LW V a d o9 σ2 S2 ov2 μ2)) : kb_J p l e R s m args below meth c 7 V A k n Q 375 [(0, .ref bs), (1, .ref (a 0)), (2, .ref (d 0)), (3, .ref o9), (4, .int ii)] [] (kb_LW V a d o9 σ S ov μ) := by
  obtain ⟨μ2, ec, r, b, e1, e2, e3, e4⟩ := hO _ _ _ (xs (ii + (1 : Int32)).toNatClampNeg) (xs (ii + (2 : Int32)).toNatClampNeg) hI
  rcases e4 with ⟨rfl, e5, rfl⟩ | ⟨rfl, e5⟩
  · refine kj_aload_n (pc := 375) C 1 dL_law_375 rfl rfl ?_
    refine kj_aload_n (pc := 376) C 0 dL_law_376 rfl rfl ?_
    refine kj_iload (pc := 377) C 4 dL_law_377 rfl ?_
    refine kj_iconst (pc := 379) (v := (1 : Int32)) C dL_law_379 (by decide) ?_
    refine kj_iadd (pc := 380) C dL_law_380 ?_
    refine kj_scr (pc := 381) C hX hbl hbA h1 dL_law_381 rfl ?_
    refine kj_aload_n (pc := 382) C 0 dL_law_382 rfl rfl ?_
    refine kj_iload (pc := 383) C 4 dL_law_383 rfl ?_
    refine kj_iconst (pc := 385) (v := (2 : Int32)) C dL_law_385 (by decide) ?_
    refine kj_iadd (pc := 386) C dL_law_386 ?_
    refine kj_scr (pc := 387) C hX hbl hbA h2 dL_law_387 rfl ?_
    refine kj_aload_n (pc := 388) C 3 dL_law_388 rfl rfl ?_
    refine kj_callH (pc := 389) (ws2 := (kb_LW V a d o9 σ S (vp_updL ov 0 r.toInt64) μ)) (as := [.ref (a 0), .int (xs (ii + (1 : Int32)).toNatClampNeg), .int (xs (ii + (2 : Int32)).toNatClampNeg), .ref o9]) (rest := []) C (cn_L_loop l V A (xs (ii + (1 : Int32)).toNatClampNeg) (xs (ii + (2 : Int32)).toNatClampNeg) a σ (kb_sh S) o9 ov (kb_tl V S (kb_WM V d μ [])) σ r rfl rfl (ct_X8_loop l V A (xs (ii + (1 : Int32)).toNatClampNeg) (xs (ii + (2 : Int32)).toNatClampNeg) a σ (kb_sh S) (kb_O V o9 ov :: (kb_tl V S (kb_WM V d μ []))) e1)) wh_L_loop wk_L_85 wi_L_loop wz_L rfl rfl hd_L_loop ⟨Nat.le_trans (by decide) hRf, Nat.le_trans (by decide) hRl⟩ rfl (Nat.le_of_ble_eq_true rfl) (by omega) dL_law_389 ?_
    refine kj_widen (k2 := k + 5) (n2 := n + 9446) (by omega) (by omega) ?_
    refine kj_istore (pc := 392) C [1, 2, 3, 4, 5, 0] (L2 := [(0, .ref bs), (1, .ref (a 0)), (2, .ref (d 0)), (3, .ref o9), (4, .int ii), (5, .int (0 : Int32))]) dL_law_392 (by decide) rfl ?_
    refine kj_aload_n (pc := 394) C 2 dL_law_394 rfl rfl ?_
    refine kj_aload_n (pc := 395) C 0 dL_law_395 rfl rfl ?_
    refine kj_iload (pc := 396) C 4 dL_law_396 rfl ?_
    refine kj_iconst (pc := 398) (v := (1 : Int32)) C dL_law_398 (by decide) ?_
    refine kj_iadd (pc := 399) C dL_law_399 ?_
    refine kj_scr (pc := 400) C hX hbl hbA h1 dL_law_400 rfl ?_
    refine kj_aload_n (pc := 401) C 0 dL_law_401 rfl rfl ?_
    refine kj_iload (pc := 402) C 4 dL_law_402 rfl ?_
    refine kj_iconst (pc := 404) (v := (2 : Int32)) C dL_law_404 (by decide) ?_
    refine kj_iadd (pc := 405) C dL_law_405 ?_
    refine kj_scr (pc := 406) C hX hbl hbA h2 dL_law_406 rfl ?_
    refine kj_perm kb_pLM ?_
    refine kj_callV0 (pc := 407) (ws2 := (kb_LM V a d o9 σ S (vp_updL ov 0 r.toInt64) μ2)) (as := [.int (xs (ii + (1 : Int32)).toNatClampNeg), .int (xs (ii + (2 : Int32)).toNatClampNeg)]) (rest := []) (b := d 0) C (ct_X9_loop l V A ((xs (ii + (1 : Int32)).toNatClampNeg)) ((xs (ii + (2 : Int32)).toNatClampNeg)) d μ (kb_W V a σ (kb_sh S) (kb_O V o9 (vp_updL ov 0 r.toInt64) :: kb_tl V S [])) e2) wd_X9_loop wk_L_88 wi_X9_loop ws_X9_loop wz_X9 rfl rfl hd_X9_loop ⟨Nat.le_trans (by decide) hRf, Nat.le_trans (by decide) hRl⟩ 0 rfl rfl rfl rfl (Nat.le_of_ble_eq_true rfl) (by omega) dL_law_407 ?_
    refine kj_perm kb_pLM.symm ?_
    refine kj_istore (pc := 410) C [1, 2, 3, 4, 5, 6, 0] (L2 := [(0, .ref bs), (1, .ref (a 0)), (2, .ref (d 0)), (3, .ref o9), (4, .int ii), (5, .int (0 : Int32)), (6, .int r)]) dL_law_410 (by decide) rfl ?_
    refine kj_aload_n (pc := 412) C 2 dL_law_412 rfl rfl ?_
    refine kj_perm kb_pLM ?_
    refine kj_callV0 (pc := 413) (ws2 := (kb_LM V a d o9 σ S (vp_updL ov 0 r.toInt64) μ2)) (as := []) (rest := []) (b := d 0) C (ct_X9_thrown l V A  d μ2 (kb_W V a σ (kb_sh S) (kb_O V o9 (vp_updL ov 0 r.toInt64) :: kb_tl V S [])) e5) wd_X9_thrown wk_L_59 wi_X9_thrown ws_X9_thrown wz_X9 rfl rfl hd_X9_thrown ⟨Nat.le_trans (by decide) hRf, Nat.le_trans (by decide) hRl⟩ 0 rfl rfl rfl rfl (Nat.le_of_ble_eq_true rfl) (by omega) dL_law_413 ?_
    refine kj_perm kb_pLM.symm ?_
    refine kj_iload (pc := 416) C 5 dL_law_416 rfl ?_
    refine kj_icmp_eq (pc := 418) 423 C dL_law_418 (by decide) (fun _ => ?_) (fun c9 => absurd (rfl) c9)
    refine kj_iload (pc := 423) C 5 dL_law_423 rfl ?_
    refine kj_if_ne (pc := 425) 440 C dL_law_425 (by decide) (fun c9 => absurd (rfl) c9) (fun _ => ?_)
    refine kj_aload_n (pc := 428) C 3 dL_law_428 rfl rfl ?_
    refine kj_iconst (pc := 429) (v := (0 : Int32)) C dL_law_429 (by decide) ?_
    refine kj_lald (pc := 430) (f := (vp_updL ov 0 r.toInt64)) C 20 rfl (vp_in_nI (n := 0) (N := 1) (by decide) (by decide)) dL_law_430 ?_
    refine kj_iload (pc := 431) C 6 dL_law_431 rfl ?_
    refine kj_i2l (pc := 433) C dL_law_433 ?_
    refine kj_lcmp (pc := 434) C dL_law_434 ?_
    refine kj_if_eq (pc := 435) 440 C dL_law_435 (by decide) (fun _ => ?_) (fun c9 => absurd (by rw [show vp_updL ov 0 r.toInt64 (0 : Int32).toNatClampNeg = r.toInt64 from rfl]; exact kb_cmp0 _) c9)
    refine kj_goto (pc := 440) 803 C dL_law_440 (by decide) ?_
    refine kj_sub [0, 1, 2, 3, 4] (L2 := [(0, .ref bs), (1, .ref (a 0)), (2, .ref (d 0)), (3, .ref o9), (4, .int ii)]) rfl ?_
    exact K σ S (vp_updL ov 0 r.toInt64) μ2 e3
  · refine kj_aload_n (pc := 375) C 1 dL_law_375 rfl rfl ?_
    refine kj_aload_n (pc := 376) C 0 dL_law_376 rfl rfl ?_
    refine kj_iload (pc := 377) C 4 dL_law_377 rfl ?_
    refine kj_iconst (pc := 379) (v := (1 : Int32)) C dL_law_379 (by decide) ?_
    refine kj_iadd (pc := 380) C dL_law_380 ?_
    refine kj_scr (pc := 381) C hX hbl hbA h1 dL_law_381 rfl ?_
    refine kj_aload_n (pc := 382) C 0 dL_law_382 rfl rfl ?_
    refine kj_iload (pc := 383) C 4 dL_law_383 rfl ?_
    refine kj_iconst (pc := 385) (v := (2 : Int32)) C dL_law_385 (by decide) ?_
    refine kj_iadd (pc := 386) C dL_law_386 ?_
    refine kj_scr (pc := 387) C hX hbl hbA h2 dL_law_387 rfl ?_
    refine kj_aload_n (pc := 388) C 3 dL_law_388 rfl rfl ?_
    refine kj_callH (pc := 389) (ws2 := (kb_LW V a d o9 σ S ov μ)) (as := [.ref (a 0), .int (xs (ii + (1 : Int32)).toNatClampNeg), .int (xs (ii + (2 : Int32)).toNatClampNeg), .ref o9]) (rest := []) C (cx_L_loop_1 l V A (xs (ii + (1 : Int32)).toNatClampNeg) (xs (ii + (2 : Int32)).toNatClampNeg) a σ (kb_sh S) o9 (kb_O V o9 ov :: (kb_tl V S (kb_WM V d μ []))) σ rfl rfl (cx_X8_loop l V A (xs (ii + (1 : Int32)).toNatClampNeg) (xs (ii + (2 : Int32)).toNatClampNeg) a σ (kb_sh S) (kb_O V o9 ov :: (kb_tl V S (kb_WM V d μ []))) hl (by decide) e1)) wh_L_loop wk_L_85 wi_L_loop wz_L rfl rfl hd_L_loop ⟨Nat.le_trans (by decide) hRf, Nat.le_trans (by decide) hRl⟩ rfl (Nat.le_of_ble_eq_true rfl) (by omega) dL_law_389 ?_
    refine kj_widen (k2 := k + 5) (n2 := n + 9446) (by omega) (by omega) ?_
    refine kj_istore (pc := 392) C [1, 2, 3, 4, 5, 0] (L2 := [(0, .ref bs), (1, .ref (a 0)), (2, .ref (d 0)), (3, .ref o9), (4, .int ii), (5, .int (1 : Int32))]) dL_law_392 (by decide) rfl ?_
    refine kj_aload_n (pc := 394) C 2 dL_law_394 rfl rfl ?_
    refine kj_aload_n (pc := 395) C 0 dL_law_395 rfl rfl ?_
    refine kj_iload (pc := 396) C 4 dL_law_396 rfl ?_
    refine kj_iconst (pc := 398) (v := (1 : Int32)) C dL_law_398 (by decide) ?_
    refine kj_iadd (pc := 399) C dL_law_399 ?_
    refine kj_scr (pc := 400) C hX hbl hbA h1 dL_law_400 rfl ?_
    refine kj_aload_n (pc := 401) C 0 dL_law_401 rfl rfl ?_
    refine kj_iload (pc := 402) C 4 dL_law_402 rfl ?_
    refine kj_iconst (pc := 404) (v := (2 : Int32)) C dL_law_404 (by decide) ?_
    refine kj_iadd (pc := 405) C dL_law_405 ?_
    refine kj_scr (pc := 406) C hX hbl hbA h2 dL_law_406 rfl ?_
    refine kj_perm kb_pLM ?_
    refine kj_callV0 (pc := 407) (ws2 := (kb_LM V a d o9 σ S ov μ2)) (as := [.int (xs (ii + (1 : Int32)).toNatClampNeg), .int (xs (ii + (2 : Int32)).toNatClampNeg)]) (rest := []) (b := d 0) C (ct_X9_loop l V A ((xs (ii + (1 : Int32)).toNatClampNeg)) ((xs (ii + (2 : Int32)).toNatClampNeg)) d μ (kb_W V a σ (kb_sh S) (kb_O V o9 ov :: kb_tl V S [])) e2) wd_X9_loop wk_L_88 wi_X9_loop ws_X9_loop wz_X9 rfl rfl hd_X9_loop ⟨Nat.le_trans (by decide) hRf, Nat.le_trans (by decide) hRl⟩ 0 rfl rfl rfl rfl (Nat.le_of_ble_eq_true rfl) (by omega) dL_law_407 ?_
    refine kj_perm kb_pLM.symm ?_
    refine kj_istore (pc := 410) C [1, 2, 3, 4, 5, 6, 0] (L2 := [(0, .ref bs), (1, .ref (a 0)), (2, .ref (d 0)), (3, .ref o9), (4, .int ii), (5, .int (1 : Int32)), (6, .int b)]) dL_law_410 (by decide) rfl ?_
    refine kj_aload_n (pc := 412) C 2 dL_law_412 rfl rfl ?_
    refine kj_perm kb_pLM ?_
    refine kj_callV0 (pc := 413) (ws2 := (kb_LM V a d o9 σ S ov μ2)) (as := []) (rest := []) (b := d 0) C (ct_X9_thrown l V A  d μ2 (kb_W V a σ (kb_sh S) (kb_O V o9 ov :: kb_tl V S [])) e5) wd_X9_thrown wk_L_59 wi_X9_thrown ws_X9_thrown wz_X9 rfl rfl hd_X9_thrown ⟨Nat.le_trans (by decide) hRf, Nat.le_trans (by decide) hRl⟩ 0 rfl rfl rfl rfl (Nat.le_of_ble_eq_true rfl) (by omega) dL_law_413 ?_
    refine kj_perm kb_pLM.symm ?_
    refine kj_iload (pc := 416) C 5 dL_law_416 rfl ?_
    refine kj_icmp_eq (pc := 418) 423 C dL_law_418 (by decide) (fun _ => ?_) (fun c9 => absurd (rfl) c9)
    refine kj_iload (pc := 423) C 5 dL_law_423 rfl ?_
    refine kj_if_ne (pc := 425) 440 C dL_law_425 (by decide) (fun _ => ?_) (fun c9 => absurd c9 (by decide))
    refine kj_goto (pc := 440) 803 C dL_law_440 (by decide) ?_
    refine kj_sub [0, 1, 2, 3, 4] (L2 := [(0, .ref bs), (1, .ref (a 0)), (2, .ref (d 0)), (3, .ref o9), (4, .int ii)]) rfl ?_
    exact K σ S ov μ2 e3
set_option maxRecDepth 100000 in
set_option maxHeartbeats 4000000 in
theorem lo_chart (C : kb_C p s m args meth c cL_law 7 RL w0 ret V A) (hRf : 60 ≤ R.frames) (hRl : 2000 ≤ R.locals) (hcs : k + 5 ≤ R.cells ∧ n + 9446 ≤ R.slots) (hX : va_X bs Ln xs s s.heap) (hbl : bs < s.heap.size) (hbA : ¬ A bs) (hl : l.stackTraces = false) (h1 : vp_in (ii + (1 : Int32)) Ln) (h2 : vp_in (ii + (2 : Int32)) Ln) (h3 : vp_in (ii + (3 : Int32)) Ln) (hI : I σ (S.map (fun q => q.2)) μ) (hO : ok_chart I) (K : ∀ σ2 S2 ov2 μ2, I σ2 (S2.map (fun q => q.2)) μ2 → kb_J p l e R s m args below meth c 7 V A (k + 5) (n + 9446) Q 803 [(0, .ref bs), (1, .ref (a 0)), (2, .ref (d 0)), (3, .ref o9), (4, .int ii)] [] (kb_LW V a d o9 σ2 S2 ov2 μ2)) : kb_J p l e R s m args below meth c 7 V A k n Q 443 [(0, .ref bs), (1, .ref (a 0)), (2, .ref (d 0)), (3, .ref o9), (4, .int ii)] [] (kb_LW V a d o9 σ S ov μ) := by
  obtain ⟨μ2, ec, r, b, e1, e2, e3, e4⟩ := hO _ _ _ (xs (ii + (1 : Int32)).toNatClampNeg) (xs (ii + (2 : Int32)).toNatClampNeg) hI
  rcases e4 with ⟨rfl, e5, rfl⟩ | ⟨rfl, e5⟩ | ⟨rfl, e5⟩
  · refine kj_aload_n (pc := 443) C 1 dL_law_443 rfl rfl ?_
    refine kj_aload_n (pc := 444) C 0 dL_law_444 rfl rfl ?_
    refine kj_iload (pc := 445) C 4 dL_law_445 rfl ?_
    refine kj_iconst (pc := 447) (v := (1 : Int32)) C dL_law_447 (by decide) ?_
    refine kj_iadd (pc := 448) C dL_law_448 ?_
    refine kj_scr (pc := 449) C hX hbl hbA h1 dL_law_449 rfl ?_
    refine kj_aload_n (pc := 450) C 0 dL_law_450 rfl rfl ?_
    refine kj_iload (pc := 451) C 4 dL_law_451 rfl ?_
    refine kj_iconst (pc := 453) (v := (2 : Int32)) C dL_law_453 (by decide) ?_
    refine kj_iadd (pc := 454) C dL_law_454 ?_
    refine kj_scr (pc := 455) C hX hbl hbA h2 dL_law_455 rfl ?_
    refine kj_aload_n (pc := 456) C 3 dL_law_456 rfl rfl ?_
    refine kj_callH (pc := 457) (ws2 := (kb_LW V a d o9 σ S (vp_updL ov 0 r.toInt64) μ)) (as := [.ref (a 0), .int (xs (ii + (1 : Int32)).toNatClampNeg), .int (xs (ii + (2 : Int32)).toNatClampNeg), .ref o9]) (rest := []) C (cn_L_chart l V A (xs (ii + (1 : Int32)).toNatClampNeg) (xs (ii + (2 : Int32)).toNatClampNeg) a σ (kb_sh S) o9 ov (kb_tl V S (kb_WM V d μ [])) σ r rfl rfl (ct_X8_chart l V A (xs (ii + (1 : Int32)).toNatClampNeg) (xs (ii + (2 : Int32)).toNatClampNeg) a σ (kb_sh S) (kb_O V o9 ov :: (kb_tl V S (kb_WM V d μ []))) e1)) wh_L_chart wk_L_89 wi_L_chart wz_L rfl rfl hd_L_chart ⟨Nat.le_trans (by decide) hRf, Nat.le_trans (by decide) hRl⟩ rfl (Nat.le_of_ble_eq_true rfl) (by omega) dL_law_457 ?_
    refine kj_widen (k2 := k + 5) (n2 := n + 9446) (by omega) (by omega) ?_
    refine kj_istore (pc := 460) C [1, 2, 3, 4, 5, 0] (L2 := [(0, .ref bs), (1, .ref (a 0)), (2, .ref (d 0)), (3, .ref o9), (4, .int ii), (5, .int (0 : Int32))]) dL_law_460 (by decide) rfl ?_
    refine kj_aload_n (pc := 462) C 2 dL_law_462 rfl rfl ?_
    refine kj_aload_n (pc := 463) C 0 dL_law_463 rfl rfl ?_
    refine kj_iload (pc := 464) C 4 dL_law_464 rfl ?_
    refine kj_iconst (pc := 466) (v := (1 : Int32)) C dL_law_466 (by decide) ?_
    refine kj_iadd (pc := 467) C dL_law_467 ?_
    refine kj_scr (pc := 468) C hX hbl hbA h1 dL_law_468 rfl ?_
    refine kj_aload_n (pc := 469) C 0 dL_law_469 rfl rfl ?_
    refine kj_iload (pc := 470) C 4 dL_law_470 rfl ?_
    refine kj_iconst (pc := 472) (v := (2 : Int32)) C dL_law_472 (by decide) ?_
    refine kj_iadd (pc := 473) C dL_law_473 ?_
    refine kj_scr (pc := 474) C hX hbl hbA h2 dL_law_474 rfl ?_
    refine kj_perm kb_pLM ?_
    refine kj_callV0 (pc := 475) (ws2 := (kb_LM V a d o9 σ S (vp_updL ov 0 r.toInt64) μ2)) (as := [.int (xs (ii + (1 : Int32)).toNatClampNeg), .int (xs (ii + (2 : Int32)).toNatClampNeg)]) (rest := []) (b := d 0) C (ct_X9_chart l V A ((xs (ii + (1 : Int32)).toNatClampNeg)) ((xs (ii + (2 : Int32)).toNatClampNeg)) d μ (kb_W V a σ (kb_sh S) (kb_O V o9 (vp_updL ov 0 r.toInt64) :: kb_tl V S [])) e2) wd_X9_chart wk_L_91 wi_X9_chart ws_X9_chart wz_X9 rfl rfl hd_X9_chart ⟨Nat.le_trans (by decide) hRf, Nat.le_trans (by decide) hRl⟩ 0 rfl rfl rfl rfl (Nat.le_of_ble_eq_true rfl) (by omega) dL_law_475 ?_
    refine kj_perm kb_pLM.symm ?_
    refine kj_istore (pc := 478) C [1, 2, 3, 4, 5, 6, 0] (L2 := [(0, .ref bs), (1, .ref (a 0)), (2, .ref (d 0)), (3, .ref o9), (4, .int ii), (5, .int (0 : Int32)), (6, .int r)]) dL_law_478 (by decide) rfl ?_
    refine kj_aload_n (pc := 480) C 2 dL_law_480 rfl rfl ?_
    refine kj_perm kb_pLM ?_
    refine kj_callV0 (pc := 481) (ws2 := (kb_LM V a d o9 σ S (vp_updL ov 0 r.toInt64) μ2)) (as := []) (rest := []) (b := d 0) C (ct_X9_thrown l V A  d μ2 (kb_W V a σ (kb_sh S) (kb_O V o9 (vp_updL ov 0 r.toInt64) :: kb_tl V S [])) e5) wd_X9_thrown wk_L_59 wi_X9_thrown ws_X9_thrown wz_X9 rfl rfl hd_X9_thrown ⟨Nat.le_trans (by decide) hRf, Nat.le_trans (by decide) hRl⟩ 0 rfl rfl rfl rfl (Nat.le_of_ble_eq_true rfl) (by omega) dL_law_481 ?_
    refine kj_perm kb_pLM.symm ?_
    refine kj_iload (pc := 484) C 5 dL_law_484 rfl ?_
    refine kj_icmp_eq (pc := 486) 491 C dL_law_486 (by decide) (fun _ => ?_) (fun c9 => absurd (rfl) c9)
    refine kj_iload (pc := 491) C 5 dL_law_491 rfl ?_
    refine kj_if_ne (pc := 493) 508 C dL_law_493 (by decide) (fun c9 => absurd (rfl) c9) (fun _ => ?_)
    refine kj_aload_n (pc := 496) C 3 dL_law_496 rfl rfl ?_
    refine kj_iconst (pc := 497) (v := (0 : Int32)) C dL_law_497 (by decide) ?_
    refine kj_lald (pc := 498) (f := (vp_updL ov 0 r.toInt64)) C 20 rfl (vp_in_nI (n := 0) (N := 1) (by decide) (by decide)) dL_law_498 ?_
    refine kj_iload (pc := 499) C 6 dL_law_499 rfl ?_
    refine kj_i2l (pc := 501) C dL_law_501 ?_
    refine kj_lcmp (pc := 502) C dL_law_502 ?_
    refine kj_if_eq (pc := 503) 508 C dL_law_503 (by decide) (fun _ => ?_) (fun c9 => absurd (by rw [show vp_updL ov 0 r.toInt64 (0 : Int32).toNatClampNeg = r.toInt64 from rfl]; exact kb_cmp0 _) c9)
    refine kj_goto (pc := 508) 803 C dL_law_508 (by decide) ?_
    refine kj_sub [0, 1, 2, 3, 4] (L2 := [(0, .ref bs), (1, .ref (a 0)), (2, .ref (d 0)), (3, .ref o9), (4, .int ii)]) rfl ?_
    exact K σ S (vp_updL ov 0 r.toInt64) μ2 e3
  · refine kj_aload_n (pc := 443) C 1 dL_law_443 rfl rfl ?_
    refine kj_aload_n (pc := 444) C 0 dL_law_444 rfl rfl ?_
    refine kj_iload (pc := 445) C 4 dL_law_445 rfl ?_
    refine kj_iconst (pc := 447) (v := (1 : Int32)) C dL_law_447 (by decide) ?_
    refine kj_iadd (pc := 448) C dL_law_448 ?_
    refine kj_scr (pc := 449) C hX hbl hbA h1 dL_law_449 rfl ?_
    refine kj_aload_n (pc := 450) C 0 dL_law_450 rfl rfl ?_
    refine kj_iload (pc := 451) C 4 dL_law_451 rfl ?_
    refine kj_iconst (pc := 453) (v := (2 : Int32)) C dL_law_453 (by decide) ?_
    refine kj_iadd (pc := 454) C dL_law_454 ?_
    refine kj_scr (pc := 455) C hX hbl hbA h2 dL_law_455 rfl ?_
    refine kj_aload_n (pc := 456) C 3 dL_law_456 rfl rfl ?_
    refine kj_callH (pc := 457) (ws2 := (kb_LW V a d o9 σ S ov μ)) (as := [.ref (a 0), .int (xs (ii + (1 : Int32)).toNatClampNeg), .int (xs (ii + (2 : Int32)).toNatClampNeg), .ref o9]) (rest := []) C (cx_L_chart_1 l V A (xs (ii + (1 : Int32)).toNatClampNeg) (xs (ii + (2 : Int32)).toNatClampNeg) a σ (kb_sh S) o9 (kb_O V o9 ov :: (kb_tl V S (kb_WM V d μ []))) σ rfl rfl (cx_X8_chart l V A (xs (ii + (1 : Int32)).toNatClampNeg) (xs (ii + (2 : Int32)).toNatClampNeg) a σ (kb_sh S) (kb_O V o9 ov :: (kb_tl V S (kb_WM V d μ []))) hl (by decide) e1)) wh_L_chart wk_L_89 wi_L_chart wz_L rfl rfl hd_L_chart ⟨Nat.le_trans (by decide) hRf, Nat.le_trans (by decide) hRl⟩ rfl (Nat.le_of_ble_eq_true rfl) (by omega) dL_law_457 ?_
    refine kj_widen (k2 := k + 5) (n2 := n + 9446) (by omega) (by omega) ?_
    refine kj_istore (pc := 460) C [1, 2, 3, 4, 5, 0] (L2 := [(0, .ref bs), (1, .ref (a 0)), (2, .ref (d 0)), (3, .ref o9), (4, .int ii), (5, .int (1 : Int32))]) dL_law_460 (by decide) rfl ?_
    refine kj_aload_n (pc := 462) C 2 dL_law_462 rfl rfl ?_
    refine kj_aload_n (pc := 463) C 0 dL_law_463 rfl rfl ?_
    refine kj_iload (pc := 464) C 4 dL_law_464 rfl ?_
    refine kj_iconst (pc := 466) (v := (1 : Int32)) C dL_law_466 (by decide) ?_
    refine kj_iadd (pc := 467) C dL_law_467 ?_
    refine kj_scr (pc := 468) C hX hbl hbA h1 dL_law_468 rfl ?_
    refine kj_aload_n (pc := 469) C 0 dL_law_469 rfl rfl ?_
    refine kj_iload (pc := 470) C 4 dL_law_470 rfl ?_
    refine kj_iconst (pc := 472) (v := (2 : Int32)) C dL_law_472 (by decide) ?_
    refine kj_iadd (pc := 473) C dL_law_473 ?_
    refine kj_scr (pc := 474) C hX hbl hbA h2 dL_law_474 rfl ?_
    refine kj_perm kb_pLM ?_
    refine kj_callV0 (pc := 475) (ws2 := (kb_LM V a d o9 σ S ov μ2)) (as := [.int (xs (ii + (1 : Int32)).toNatClampNeg), .int (xs (ii + (2 : Int32)).toNatClampNeg)]) (rest := []) (b := d 0) C (ct_X9_chart l V A ((xs (ii + (1 : Int32)).toNatClampNeg)) ((xs (ii + (2 : Int32)).toNatClampNeg)) d μ (kb_W V a σ (kb_sh S) (kb_O V o9 ov :: kb_tl V S [])) e2) wd_X9_chart wk_L_91 wi_X9_chart ws_X9_chart wz_X9 rfl rfl hd_X9_chart ⟨Nat.le_trans (by decide) hRf, Nat.le_trans (by decide) hRl⟩ 0 rfl rfl rfl rfl (Nat.le_of_ble_eq_true rfl) (by omega) dL_law_475 ?_
    refine kj_perm kb_pLM.symm ?_
    refine kj_istore (pc := 478) C [1, 2, 3, 4, 5, 6, 0] (L2 := [(0, .ref bs), (1, .ref (a 0)), (2, .ref (d 0)), (3, .ref o9), (4, .int ii), (5, .int (1 : Int32)), (6, .int b)]) dL_law_478 (by decide) rfl ?_
    refine kj_aload_n (pc := 480) C 2 dL_law_480 rfl rfl ?_
    refine kj_perm kb_pLM ?_
    refine kj_callV0 (pc := 481) (ws2 := (kb_LM V a d o9 σ S ov μ2)) (as := []) (rest := []) (b := d 0) C (ct_X9_thrown l V A  d μ2 (kb_W V a σ (kb_sh S) (kb_O V o9 ov :: kb_tl V S [])) e5) wd_X9_thrown wk_L_59 wi_X9_thrown ws_X9_thrown wz_X9 rfl rfl hd_X9_thrown ⟨Nat.le_trans (by decide) hRf, Nat.le_trans (by decide) hRl⟩ 0 rfl rfl rfl rfl (Nat.le_of_ble_eq_true rfl) (by omega) dL_law_481 ?_
    refine kj_perm kb_pLM.symm ?_
    refine kj_iload (pc := 484) C 5 dL_law_484 rfl ?_
    refine kj_icmp_eq (pc := 486) 491 C dL_law_486 (by decide) (fun _ => ?_) (fun c9 => absurd (rfl) c9)
    refine kj_iload (pc := 491) C 5 dL_law_491 rfl ?_
    refine kj_if_ne (pc := 493) 508 C dL_law_493 (by decide) (fun _ => ?_) (fun c9 => absurd c9 (by decide))
    refine kj_goto (pc := 508) 803 C dL_law_508 (by decide) ?_
    refine kj_sub [0, 1, 2, 3, 4] (L2 := [(0, .ref bs), (1, .ref (a 0)), (2, .ref (d 0)), (3, .ref o9), (4, .int ii)]) rfl ?_
    exact K σ S ov μ2 e3
  · refine kj_aload_n (pc := 443) C 1 dL_law_443 rfl rfl ?_
    refine kj_aload_n (pc := 444) C 0 dL_law_444 rfl rfl ?_
    refine kj_iload (pc := 445) C 4 dL_law_445 rfl ?_
    refine kj_iconst (pc := 447) (v := (1 : Int32)) C dL_law_447 (by decide) ?_
    refine kj_iadd (pc := 448) C dL_law_448 ?_
    refine kj_scr (pc := 449) C hX hbl hbA h1 dL_law_449 rfl ?_
    refine kj_aload_n (pc := 450) C 0 dL_law_450 rfl rfl ?_
    refine kj_iload (pc := 451) C 4 dL_law_451 rfl ?_
    refine kj_iconst (pc := 453) (v := (2 : Int32)) C dL_law_453 (by decide) ?_
    refine kj_iadd (pc := 454) C dL_law_454 ?_
    refine kj_scr (pc := 455) C hX hbl hbA h2 dL_law_455 rfl ?_
    refine kj_aload_n (pc := 456) C 3 dL_law_456 rfl rfl ?_
    refine kj_callH (pc := 457) (ws2 := (kb_LW V a d o9 σ S ov μ)) (as := [.ref (a 0), .int (xs (ii + (1 : Int32)).toNatClampNeg), .int (xs (ii + (2 : Int32)).toNatClampNeg), .ref o9]) (rest := []) C (cx_L_chart_3 l V A (xs (ii + (1 : Int32)).toNatClampNeg) (xs (ii + (2 : Int32)).toNatClampNeg) a σ (kb_sh S) o9 (kb_O V o9 ov :: (kb_tl V S (kb_WM V d μ []))) σ rfl rfl (cx_X8_chart l V A (xs (ii + (1 : Int32)).toNatClampNeg) (xs (ii + (2 : Int32)).toNatClampNeg) a σ (kb_sh S) (kb_O V o9 ov :: (kb_tl V S (kb_WM V d μ []))) hl (by decide) e1)) wh_L_chart wk_L_89 wi_L_chart wz_L rfl rfl hd_L_chart ⟨Nat.le_trans (by decide) hRf, Nat.le_trans (by decide) hRl⟩ rfl (Nat.le_of_ble_eq_true rfl) (by omega) dL_law_457 ?_
    refine kj_widen (k2 := k + 5) (n2 := n + 9446) (by omega) (by omega) ?_
    refine kj_istore (pc := 460) C [1, 2, 3, 4, 5, 0] (L2 := [(0, .ref bs), (1, .ref (a 0)), (2, .ref (d 0)), (3, .ref o9), (4, .int ii), (5, .int (2 : Int32))]) dL_law_460 (by decide) rfl ?_
    refine kj_aload_n (pc := 462) C 2 dL_law_462 rfl rfl ?_
    refine kj_aload_n (pc := 463) C 0 dL_law_463 rfl rfl ?_
    refine kj_iload (pc := 464) C 4 dL_law_464 rfl ?_
    refine kj_iconst (pc := 466) (v := (1 : Int32)) C dL_law_466 (by decide) ?_
    refine kj_iadd (pc := 467) C dL_law_467 ?_
    refine kj_scr (pc := 468) C hX hbl hbA h1 dL_law_468 rfl ?_
    refine kj_aload_n (pc := 469) C 0 dL_law_469 rfl rfl ?_
    refine kj_iload (pc := 470) C 4 dL_law_470 rfl ?_
    refine kj_iconst (pc := 472) (v := (2 : Int32)) C dL_law_472 (by decide) ?_
    refine kj_iadd (pc := 473) C dL_law_473 ?_
    refine kj_scr (pc := 474) C hX hbl hbA h2 dL_law_474 rfl ?_
    refine kj_perm kb_pLM ?_
    refine kj_callV0 (pc := 475) (ws2 := (kb_LM V a d o9 σ S ov μ2)) (as := [.int (xs (ii + (1 : Int32)).toNatClampNeg), .int (xs (ii + (2 : Int32)).toNatClampNeg)]) (rest := []) (b := d 0) C (ct_X9_chart l V A ((xs (ii + (1 : Int32)).toNatClampNeg)) ((xs (ii + (2 : Int32)).toNatClampNeg)) d μ (kb_W V a σ (kb_sh S) (kb_O V o9 ov :: kb_tl V S [])) e2) wd_X9_chart wk_L_91 wi_X9_chart ws_X9_chart wz_X9 rfl rfl hd_X9_chart ⟨Nat.le_trans (by decide) hRf, Nat.le_trans (by decide) hRl⟩ 0 rfl rfl rfl rfl (Nat.le_of_ble_eq_true rfl) (by omega) dL_law_475 ?_
    refine kj_perm kb_pLM.symm ?_
    refine kj_istore (pc := 478) C [1, 2, 3, 4, 5, 6, 0] (L2 := [(0, .ref bs), (1, .ref (a 0)), (2, .ref (d 0)), (3, .ref o9), (4, .int ii), (5, .int (2 : Int32)), (6, .int b)]) dL_law_478 (by decide) rfl ?_
    refine kj_aload_n (pc := 480) C 2 dL_law_480 rfl rfl ?_
    refine kj_perm kb_pLM ?_
    refine kj_callV0 (pc := 481) (ws2 := (kb_LM V a d o9 σ S ov μ2)) (as := []) (rest := []) (b := d 0) C (ct_X9_thrown l V A  d μ2 (kb_W V a σ (kb_sh S) (kb_O V o9 ov :: kb_tl V S [])) e5) wd_X9_thrown wk_L_59 wi_X9_thrown ws_X9_thrown wz_X9 rfl rfl hd_X9_thrown ⟨Nat.le_trans (by decide) hRf, Nat.le_trans (by decide) hRl⟩ 0 rfl rfl rfl rfl (Nat.le_of_ble_eq_true rfl) (by omega) dL_law_481 ?_
    refine kj_perm kb_pLM.symm ?_
    refine kj_iload (pc := 484) C 5 dL_law_484 rfl ?_
    refine kj_icmp_eq (pc := 486) 491 C dL_law_486 (by decide) (fun _ => ?_) (fun c9 => absurd (rfl) c9)
    refine kj_iload (pc := 491) C 5 dL_law_491 rfl ?_
    refine kj_if_ne (pc := 493) 508 C dL_law_493 (by decide) (fun _ => ?_) (fun c9 => absurd c9 (by decide))
    refine kj_goto (pc := 508) 803 C dL_law_508 (by decide) ?_
    refine kj_sub [0, 1, 2, 3, 4] (L2 := [(0, .ref bs), (1, .ref (a 0)), (2, .ref (d 0)), (3, .ref o9), (4, .int ii)]) rfl ?_
    exact K σ S ov μ2 e3
set_option maxRecDepth 100000 in
set_option maxHeartbeats 4000000 in
theorem lo_row (C : kb_C p s m args meth c cL_law 7 RL w0 ret V A) (hRf : 60 ≤ R.frames) (hRl : 2000 ≤ R.locals) (hcs : k + 5 ≤ R.cells ∧ n + 9446 ≤ R.slots) (hX : va_X bs Ln xs s s.heap) (hbl : bs < s.heap.size) (hbA : ¬ A bs) (hl : l.stackTraces = false) (h1 : vp_in (ii + (1 : Int32)) Ln) (h2 : vp_in (ii + (2 : Int32)) Ln) (h3 : vp_in (ii + (3 : Int32)) Ln) (hI : I σ (S.map (fun q => q.2)) μ) (hO : ok_row I) (K : ∀ σ2 S2 ov2 μ2, I σ2 (S2.map (fun q => q.2)) μ2 → kb_J p l e R s m args below meth c 7 V A (k + 5) (n + 9446) Q 803 [(0, .ref bs), (1, .ref (a 0)), (2, .ref (d 0)), (3, .ref o9), (4, .int ii)] [] (kb_LW V a d o9 σ2 S2 ov2 μ2)) : kb_J p l e R s m args below meth c 7 V A k n Q 511 [(0, .ref bs), (1, .ref (a 0)), (2, .ref (d 0)), (3, .ref o9), (4, .int ii)] [] (kb_LW V a d o9 σ S ov μ) := by
  obtain ⟨μ2, ec, r, b, e1, e2, e3, e4⟩ := hO _ _ _ (xs (ii + (1 : Int32)).toNatClampNeg) (xs (ii + (2 : Int32)).toNatClampNeg) hI
  rcases e4 with ⟨rfl, e5, rfl⟩ | ⟨rfl, e5⟩
  · refine kj_aload_n (pc := 511) C 1 dL_law_511 rfl rfl ?_
    refine kj_aload_n (pc := 512) C 0 dL_law_512 rfl rfl ?_
    refine kj_iload (pc := 513) C 4 dL_law_513 rfl ?_
    refine kj_iconst (pc := 515) (v := (1 : Int32)) C dL_law_515 (by decide) ?_
    refine kj_iadd (pc := 516) C dL_law_516 ?_
    refine kj_scr (pc := 517) C hX hbl hbA h1 dL_law_517 rfl ?_
    refine kj_aload_n (pc := 518) C 0 dL_law_518 rfl rfl ?_
    refine kj_iload (pc := 519) C 4 dL_law_519 rfl ?_
    refine kj_iconst (pc := 521) (v := (2 : Int32)) C dL_law_521 (by decide) ?_
    refine kj_iadd (pc := 522) C dL_law_522 ?_
    refine kj_scr (pc := 523) C hX hbl hbA h2 dL_law_523 rfl ?_
    refine kj_aload_n (pc := 524) C 3 dL_law_524 rfl rfl ?_
    refine kj_callH (pc := 525) (ws2 := (kb_LW V a d o9 σ S (vp_updL ov 0 r.toInt64) μ)) (as := [.ref (a 0), .int (xs (ii + (1 : Int32)).toNatClampNeg), .int (xs (ii + (2 : Int32)).toNatClampNeg), .ref o9]) (rest := []) C (cn_L_row l V A (xs (ii + (1 : Int32)).toNatClampNeg) (xs (ii + (2 : Int32)).toNatClampNeg) a σ (kb_sh S) o9 ov (kb_tl V S (kb_WM V d μ [])) σ r rfl rfl (ct_X8_row l V A (xs (ii + (1 : Int32)).toNatClampNeg) (xs (ii + (2 : Int32)).toNatClampNeg) a σ (kb_sh S) (kb_O V o9 ov :: (kb_tl V S (kb_WM V d μ []))) e1)) wh_L_row wk_L_92 wi_L_row wz_L rfl rfl hd_L_row ⟨Nat.le_trans (by decide) hRf, Nat.le_trans (by decide) hRl⟩ rfl (Nat.le_of_ble_eq_true rfl) (by omega) dL_law_525 ?_
    refine kj_widen (k2 := k + 5) (n2 := n + 9446) (by omega) (by omega) ?_
    refine kj_istore (pc := 528) C [1, 2, 3, 4, 5, 0] (L2 := [(0, .ref bs), (1, .ref (a 0)), (2, .ref (d 0)), (3, .ref o9), (4, .int ii), (5, .int (0 : Int32))]) dL_law_528 (by decide) rfl ?_
    refine kj_aload_n (pc := 530) C 2 dL_law_530 rfl rfl ?_
    refine kj_aload_n (pc := 531) C 0 dL_law_531 rfl rfl ?_
    refine kj_iload (pc := 532) C 4 dL_law_532 rfl ?_
    refine kj_iconst (pc := 534) (v := (1 : Int32)) C dL_law_534 (by decide) ?_
    refine kj_iadd (pc := 535) C dL_law_535 ?_
    refine kj_scr (pc := 536) C hX hbl hbA h1 dL_law_536 rfl ?_
    refine kj_aload_n (pc := 537) C 0 dL_law_537 rfl rfl ?_
    refine kj_iload (pc := 538) C 4 dL_law_538 rfl ?_
    refine kj_iconst (pc := 540) (v := (2 : Int32)) C dL_law_540 (by decide) ?_
    refine kj_iadd (pc := 541) C dL_law_541 ?_
    refine kj_scr (pc := 542) C hX hbl hbA h2 dL_law_542 rfl ?_
    refine kj_perm kb_pLM ?_
    refine kj_callV0 (pc := 543) (ws2 := (kb_LM V a d o9 σ S (vp_updL ov 0 r.toInt64) μ2)) (as := [.int (xs (ii + (1 : Int32)).toNatClampNeg), .int (xs (ii + (2 : Int32)).toNatClampNeg)]) (rest := []) (b := d 0) C (ct_X9_row l V A ((xs (ii + (1 : Int32)).toNatClampNeg)) ((xs (ii + (2 : Int32)).toNatClampNeg)) d μ (kb_W V a σ (kb_sh S) (kb_O V o9 (vp_updL ov 0 r.toInt64) :: kb_tl V S [])) e2) wd_X9_row wk_L_94 wi_X9_row ws_X9_row wz_X9 rfl rfl hd_X9_row ⟨Nat.le_trans (by decide) hRf, Nat.le_trans (by decide) hRl⟩ 0 rfl rfl rfl rfl (Nat.le_of_ble_eq_true rfl) (by omega) dL_law_543 ?_
    refine kj_perm kb_pLM.symm ?_
    refine kj_istore (pc := 546) C [1, 2, 3, 4, 5, 6, 0] (L2 := [(0, .ref bs), (1, .ref (a 0)), (2, .ref (d 0)), (3, .ref o9), (4, .int ii), (5, .int (0 : Int32)), (6, .int r)]) dL_law_546 (by decide) rfl ?_
    refine kj_aload_n (pc := 548) C 2 dL_law_548 rfl rfl ?_
    refine kj_perm kb_pLM ?_
    refine kj_callV0 (pc := 549) (ws2 := (kb_LM V a d o9 σ S (vp_updL ov 0 r.toInt64) μ2)) (as := []) (rest := []) (b := d 0) C (ct_X9_thrown l V A  d μ2 (kb_W V a σ (kb_sh S) (kb_O V o9 (vp_updL ov 0 r.toInt64) :: kb_tl V S [])) e5) wd_X9_thrown wk_L_59 wi_X9_thrown ws_X9_thrown wz_X9 rfl rfl hd_X9_thrown ⟨Nat.le_trans (by decide) hRf, Nat.le_trans (by decide) hRl⟩ 0 rfl rfl rfl rfl (Nat.le_of_ble_eq_true rfl) (by omega) dL_law_549 ?_
    refine kj_perm kb_pLM.symm ?_
    refine kj_iload (pc := 552) C 5 dL_law_552 rfl ?_
    refine kj_icmp_eq (pc := 554) 559 C dL_law_554 (by decide) (fun _ => ?_) (fun c9 => absurd (rfl) c9)
    refine kj_iload (pc := 559) C 5 dL_law_559 rfl ?_
    refine kj_if_ne (pc := 561) 576 C dL_law_561 (by decide) (fun c9 => absurd (rfl) c9) (fun _ => ?_)
    refine kj_aload_n (pc := 564) C 3 dL_law_564 rfl rfl ?_
    refine kj_iconst (pc := 565) (v := (0 : Int32)) C dL_law_565 (by decide) ?_
    refine kj_lald (pc := 566) (f := (vp_updL ov 0 r.toInt64)) C 20 rfl (vp_in_nI (n := 0) (N := 1) (by decide) (by decide)) dL_law_566 ?_
    refine kj_iload (pc := 567) C 6 dL_law_567 rfl ?_
    refine kj_i2l (pc := 569) C dL_law_569 ?_
    refine kj_lcmp (pc := 570) C dL_law_570 ?_
    refine kj_if_eq (pc := 571) 576 C dL_law_571 (by decide) (fun _ => ?_) (fun c9 => absurd (by rw [show vp_updL ov 0 r.toInt64 (0 : Int32).toNatClampNeg = r.toInt64 from rfl]; exact kb_cmp0 _) c9)
    refine kj_goto (pc := 576) 803 C dL_law_576 (by decide) ?_
    refine kj_sub [0, 1, 2, 3, 4] (L2 := [(0, .ref bs), (1, .ref (a 0)), (2, .ref (d 0)), (3, .ref o9), (4, .int ii)]) rfl ?_
    exact K σ S (vp_updL ov 0 r.toInt64) μ2 e3
  · refine kj_aload_n (pc := 511) C 1 dL_law_511 rfl rfl ?_
    refine kj_aload_n (pc := 512) C 0 dL_law_512 rfl rfl ?_
    refine kj_iload (pc := 513) C 4 dL_law_513 rfl ?_
    refine kj_iconst (pc := 515) (v := (1 : Int32)) C dL_law_515 (by decide) ?_
    refine kj_iadd (pc := 516) C dL_law_516 ?_
    refine kj_scr (pc := 517) C hX hbl hbA h1 dL_law_517 rfl ?_
    refine kj_aload_n (pc := 518) C 0 dL_law_518 rfl rfl ?_
    refine kj_iload (pc := 519) C 4 dL_law_519 rfl ?_
    refine kj_iconst (pc := 521) (v := (2 : Int32)) C dL_law_521 (by decide) ?_
    refine kj_iadd (pc := 522) C dL_law_522 ?_
    refine kj_scr (pc := 523) C hX hbl hbA h2 dL_law_523 rfl ?_
    refine kj_aload_n (pc := 524) C 3 dL_law_524 rfl rfl ?_
    refine kj_callH (pc := 525) (ws2 := (kb_LW V a d o9 σ S ov μ)) (as := [.ref (a 0), .int (xs (ii + (1 : Int32)).toNatClampNeg), .int (xs (ii + (2 : Int32)).toNatClampNeg), .ref o9]) (rest := []) C (cx_L_row_1 l V A (xs (ii + (1 : Int32)).toNatClampNeg) (xs (ii + (2 : Int32)).toNatClampNeg) a σ (kb_sh S) o9 (kb_O V o9 ov :: (kb_tl V S (kb_WM V d μ []))) σ rfl rfl (cx_X8_row l V A (xs (ii + (1 : Int32)).toNatClampNeg) (xs (ii + (2 : Int32)).toNatClampNeg) a σ (kb_sh S) (kb_O V o9 ov :: (kb_tl V S (kb_WM V d μ []))) hl (by decide) e1)) wh_L_row wk_L_92 wi_L_row wz_L rfl rfl hd_L_row ⟨Nat.le_trans (by decide) hRf, Nat.le_trans (by decide) hRl⟩ rfl (Nat.le_of_ble_eq_true rfl) (by omega) dL_law_525 ?_
    refine kj_widen (k2 := k + 5) (n2 := n + 9446) (by omega) (by omega) ?_
    refine kj_istore (pc := 528) C [1, 2, 3, 4, 5, 0] (L2 := [(0, .ref bs), (1, .ref (a 0)), (2, .ref (d 0)), (3, .ref o9), (4, .int ii), (5, .int (1 : Int32))]) dL_law_528 (by decide) rfl ?_
    refine kj_aload_n (pc := 530) C 2 dL_law_530 rfl rfl ?_
    refine kj_aload_n (pc := 531) C 0 dL_law_531 rfl rfl ?_
    refine kj_iload (pc := 532) C 4 dL_law_532 rfl ?_
    refine kj_iconst (pc := 534) (v := (1 : Int32)) C dL_law_534 (by decide) ?_
    refine kj_iadd (pc := 535) C dL_law_535 ?_
    refine kj_scr (pc := 536) C hX hbl hbA h1 dL_law_536 rfl ?_
    refine kj_aload_n (pc := 537) C 0 dL_law_537 rfl rfl ?_
    refine kj_iload (pc := 538) C 4 dL_law_538 rfl ?_
    refine kj_iconst (pc := 540) (v := (2 : Int32)) C dL_law_540 (by decide) ?_
    refine kj_iadd (pc := 541) C dL_law_541 ?_
    refine kj_scr (pc := 542) C hX hbl hbA h2 dL_law_542 rfl ?_
    refine kj_perm kb_pLM ?_
    refine kj_callV0 (pc := 543) (ws2 := (kb_LM V a d o9 σ S ov μ2)) (as := [.int (xs (ii + (1 : Int32)).toNatClampNeg), .int (xs (ii + (2 : Int32)).toNatClampNeg)]) (rest := []) (b := d 0) C (ct_X9_row l V A ((xs (ii + (1 : Int32)).toNatClampNeg)) ((xs (ii + (2 : Int32)).toNatClampNeg)) d μ (kb_W V a σ (kb_sh S) (kb_O V o9 ov :: kb_tl V S [])) e2) wd_X9_row wk_L_94 wi_X9_row ws_X9_row wz_X9 rfl rfl hd_X9_row ⟨Nat.le_trans (by decide) hRf, Nat.le_trans (by decide) hRl⟩ 0 rfl rfl rfl rfl (Nat.le_of_ble_eq_true rfl) (by omega) dL_law_543 ?_
    refine kj_perm kb_pLM.symm ?_
    refine kj_istore (pc := 546) C [1, 2, 3, 4, 5, 6, 0] (L2 := [(0, .ref bs), (1, .ref (a 0)), (2, .ref (d 0)), (3, .ref o9), (4, .int ii), (5, .int (1 : Int32)), (6, .int b)]) dL_law_546 (by decide) rfl ?_
    refine kj_aload_n (pc := 548) C 2 dL_law_548 rfl rfl ?_
    refine kj_perm kb_pLM ?_
    refine kj_callV0 (pc := 549) (ws2 := (kb_LM V a d o9 σ S ov μ2)) (as := []) (rest := []) (b := d 0) C (ct_X9_thrown l V A  d μ2 (kb_W V a σ (kb_sh S) (kb_O V o9 ov :: kb_tl V S [])) e5) wd_X9_thrown wk_L_59 wi_X9_thrown ws_X9_thrown wz_X9 rfl rfl hd_X9_thrown ⟨Nat.le_trans (by decide) hRf, Nat.le_trans (by decide) hRl⟩ 0 rfl rfl rfl rfl (Nat.le_of_ble_eq_true rfl) (by omega) dL_law_549 ?_
    refine kj_perm kb_pLM.symm ?_
    refine kj_iload (pc := 552) C 5 dL_law_552 rfl ?_
    refine kj_icmp_eq (pc := 554) 559 C dL_law_554 (by decide) (fun _ => ?_) (fun c9 => absurd (rfl) c9)
    refine kj_iload (pc := 559) C 5 dL_law_559 rfl ?_
    refine kj_if_ne (pc := 561) 576 C dL_law_561 (by decide) (fun _ => ?_) (fun c9 => absurd c9 (by decide))
    refine kj_goto (pc := 576) 803 C dL_law_576 (by decide) ?_
    refine kj_sub [0, 1, 2, 3, 4] (L2 := [(0, .ref bs), (1, .ref (a 0)), (2, .ref (d 0)), (3, .ref o9), (4, .int ii)]) rfl ?_
    exact K σ S ov μ2 e3
set_option maxRecDepth 100000 in
set_option maxHeartbeats 4000000 in
theorem lo_ladder (C : kb_C p s m args meth c cL_law 7 RL w0 ret V A) (hRf : 60 ≤ R.frames) (hRl : 2000 ≤ R.locals) (hcs : k + 5 ≤ R.cells ∧ n + 9446 ≤ R.slots) (hX : va_X bs Ln xs s s.heap) (hbl : bs < s.heap.size) (hbA : ¬ A bs) (hl : l.stackTraces = false) (h1 : vp_in (ii + (1 : Int32)) Ln) (h2 : vp_in (ii + (2 : Int32)) Ln) (h3 : vp_in (ii + (3 : Int32)) Ln) (hI : I σ (S.map (fun q => q.2)) μ) (hO : ok_ladder I) (K : ∀ σ2 S2 ov2 μ2, I σ2 (S2.map (fun q => q.2)) μ2 → kb_J p l e R s m args below meth c 7 V A (k + 5) (n + 9446) Q 803 [(0, .ref bs), (1, .ref (a 0)), (2, .ref (d 0)), (3, .ref o9), (4, .int ii)] [] (kb_LW V a d o9 σ2 S2 ov2 μ2)) : kb_J p l e R s m args below meth c 7 V A k n Q 691 [(0, .ref bs), (1, .ref (a 0)), (2, .ref (d 0)), (3, .ref o9), (4, .int ii)] [] (kb_LW V a d o9 σ S ov μ) := by
  obtain ⟨μ2, ec, r, b, e1, e2, e3, e4⟩ := hO _ _ _ (xs (ii + (1 : Int32)).toNatClampNeg) hI
  rcases e4 with ⟨rfl, e5, rfl⟩ | ⟨rfl, e5⟩
  · refine kj_aload_n (pc := 691) C 1 dL_law_691 rfl rfl ?_
    refine kj_aload_n (pc := 692) C 0 dL_law_692 rfl rfl ?_
    refine kj_iload (pc := 693) C 4 dL_law_693 rfl ?_
    refine kj_iconst (pc := 695) (v := (1 : Int32)) C dL_law_695 (by decide) ?_
    refine kj_iadd (pc := 696) C dL_law_696 ?_
    refine kj_scr (pc := 697) C hX hbl hbA h1 dL_law_697 rfl ?_
    refine kj_aload_n (pc := 698) C 3 dL_law_698 rfl rfl ?_
    refine kj_callH (pc := 699) (ws2 := (kb_LW V a d o9 σ S (vp_updL ov 0 r.toInt64) μ)) (as := [.ref (a 0), .int (xs (ii + (1 : Int32)).toNatClampNeg), .ref o9]) (rest := []) C (cn_L_ladder l V A (xs (ii + (1 : Int32)).toNatClampNeg) a σ (kb_sh S) o9 ov (kb_tl V S (kb_WM V d μ [])) σ r rfl rfl (ct_X8_ladder l V A (xs (ii + (1 : Int32)).toNatClampNeg) a σ (kb_sh S) (kb_O V o9 ov :: (kb_tl V S (kb_WM V d μ []))) e1)) wh_L_ladder wk_L_101 wi_L_ladder wz_L rfl rfl hd_L_ladder ⟨Nat.le_trans (by decide) hRf, Nat.le_trans (by decide) hRl⟩ rfl (Nat.le_of_ble_eq_true rfl) (by omega) dL_law_699 ?_
    refine kj_widen (k2 := k + 5) (n2 := n + 9446) (by omega) (by omega) ?_
    refine kj_istore (pc := 702) C [1, 2, 3, 4, 5, 0] (L2 := [(0, .ref bs), (1, .ref (a 0)), (2, .ref (d 0)), (3, .ref o9), (4, .int ii), (5, .int (0 : Int32))]) dL_law_702 (by decide) rfl ?_
    refine kj_aload_n (pc := 704) C 2 dL_law_704 rfl rfl ?_
    refine kj_aload_n (pc := 705) C 0 dL_law_705 rfl rfl ?_
    refine kj_iload (pc := 706) C 4 dL_law_706 rfl ?_
    refine kj_iconst (pc := 708) (v := (1 : Int32)) C dL_law_708 (by decide) ?_
    refine kj_iadd (pc := 709) C dL_law_709 ?_
    refine kj_scr (pc := 710) C hX hbl hbA h1 dL_law_710 rfl ?_
    refine kj_perm kb_pLM ?_
    refine kj_callV0 (pc := 711) (ws2 := (kb_LM V a d o9 σ S (vp_updL ov 0 r.toInt64) μ2)) (as := [.int (xs (ii + (1 : Int32)).toNatClampNeg)]) (rest := []) (b := d 0) C (ct_X9_ladder l V A ((xs (ii + (1 : Int32)).toNatClampNeg)) d μ (kb_W V a σ (kb_sh S) (kb_O V o9 (vp_updL ov 0 r.toInt64) :: kb_tl V S [])) e2) wd_X9_ladder wk_L_103 wi_X9_ladder ws_X9_ladder wz_X9 rfl rfl hd_X9_ladder ⟨Nat.le_trans (by decide) hRf, Nat.le_trans (by decide) hRl⟩ 0 rfl rfl rfl rfl (Nat.le_of_ble_eq_true rfl) (by omega) dL_law_711 ?_
    refine kj_perm kb_pLM.symm ?_
    refine kj_istore (pc := 714) C [1, 2, 3, 4, 5, 6, 0] (L2 := [(0, .ref bs), (1, .ref (a 0)), (2, .ref (d 0)), (3, .ref o9), (4, .int ii), (5, .int (0 : Int32)), (6, .int r)]) dL_law_714 (by decide) rfl ?_
    refine kj_aload_n (pc := 716) C 2 dL_law_716 rfl rfl ?_
    refine kj_perm kb_pLM ?_
    refine kj_callV0 (pc := 717) (ws2 := (kb_LM V a d o9 σ S (vp_updL ov 0 r.toInt64) μ2)) (as := []) (rest := []) (b := d 0) C (ct_X9_thrown l V A  d μ2 (kb_W V a σ (kb_sh S) (kb_O V o9 (vp_updL ov 0 r.toInt64) :: kb_tl V S [])) e5) wd_X9_thrown wk_L_59 wi_X9_thrown ws_X9_thrown wz_X9 rfl rfl hd_X9_thrown ⟨Nat.le_trans (by decide) hRf, Nat.le_trans (by decide) hRl⟩ 0 rfl rfl rfl rfl (Nat.le_of_ble_eq_true rfl) (by omega) dL_law_717 ?_
    refine kj_perm kb_pLM.symm ?_
    refine kj_iload (pc := 720) C 5 dL_law_720 rfl ?_
    refine kj_icmp_eq (pc := 722) 727 C dL_law_722 (by decide) (fun _ => ?_) (fun c9 => absurd (rfl) c9)
    refine kj_iload (pc := 727) C 5 dL_law_727 rfl ?_
    refine kj_if_ne (pc := 729) 744 C dL_law_729 (by decide) (fun c9 => absurd (rfl) c9) (fun _ => ?_)
    refine kj_aload_n (pc := 732) C 3 dL_law_732 rfl rfl ?_
    refine kj_iconst (pc := 733) (v := (0 : Int32)) C dL_law_733 (by decide) ?_
    refine kj_lald (pc := 734) (f := (vp_updL ov 0 r.toInt64)) C 20 rfl (vp_in_nI (n := 0) (N := 1) (by decide) (by decide)) dL_law_734 ?_
    refine kj_iload (pc := 735) C 6 dL_law_735 rfl ?_
    refine kj_i2l (pc := 737) C dL_law_737 ?_
    refine kj_lcmp (pc := 738) C dL_law_738 ?_
    refine kj_if_eq (pc := 739) 744 C dL_law_739 (by decide) (fun _ => ?_) (fun c9 => absurd (by rw [show vp_updL ov 0 r.toInt64 (0 : Int32).toNatClampNeg = r.toInt64 from rfl]; exact kb_cmp0 _) c9)
    refine kj_goto (pc := 744) 803 C dL_law_744 (by decide) ?_
    refine kj_sub [0, 1, 2, 3, 4] (L2 := [(0, .ref bs), (1, .ref (a 0)), (2, .ref (d 0)), (3, .ref o9), (4, .int ii)]) rfl ?_
    exact K σ S (vp_updL ov 0 r.toInt64) μ2 e3
  · refine kj_aload_n (pc := 691) C 1 dL_law_691 rfl rfl ?_
    refine kj_aload_n (pc := 692) C 0 dL_law_692 rfl rfl ?_
    refine kj_iload (pc := 693) C 4 dL_law_693 rfl ?_
    refine kj_iconst (pc := 695) (v := (1 : Int32)) C dL_law_695 (by decide) ?_
    refine kj_iadd (pc := 696) C dL_law_696 ?_
    refine kj_scr (pc := 697) C hX hbl hbA h1 dL_law_697 rfl ?_
    refine kj_aload_n (pc := 698) C 3 dL_law_698 rfl rfl ?_
    refine kj_callH (pc := 699) (ws2 := (kb_LW V a d o9 σ S ov μ)) (as := [.ref (a 0), .int (xs (ii + (1 : Int32)).toNatClampNeg), .ref o9]) (rest := []) C (cx_L_ladder_1 l V A (xs (ii + (1 : Int32)).toNatClampNeg) a σ (kb_sh S) o9 (kb_O V o9 ov :: (kb_tl V S (kb_WM V d μ []))) σ rfl rfl (cx_X8_ladder l V A (xs (ii + (1 : Int32)).toNatClampNeg) a σ (kb_sh S) (kb_O V o9 ov :: (kb_tl V S (kb_WM V d μ []))) hl (by decide) e1)) wh_L_ladder wk_L_101 wi_L_ladder wz_L rfl rfl hd_L_ladder ⟨Nat.le_trans (by decide) hRf, Nat.le_trans (by decide) hRl⟩ rfl (Nat.le_of_ble_eq_true rfl) (by omega) dL_law_699 ?_
    refine kj_widen (k2 := k + 5) (n2 := n + 9446) (by omega) (by omega) ?_
    refine kj_istore (pc := 702) C [1, 2, 3, 4, 5, 0] (L2 := [(0, .ref bs), (1, .ref (a 0)), (2, .ref (d 0)), (3, .ref o9), (4, .int ii), (5, .int (1 : Int32))]) dL_law_702 (by decide) rfl ?_
    refine kj_aload_n (pc := 704) C 2 dL_law_704 rfl rfl ?_
    refine kj_aload_n (pc := 705) C 0 dL_law_705 rfl rfl ?_
    refine kj_iload (pc := 706) C 4 dL_law_706 rfl ?_
    refine kj_iconst (pc := 708) (v := (1 : Int32)) C dL_law_708 (by decide) ?_
    refine kj_iadd (pc := 709) C dL_law_709 ?_
    refine kj_scr (pc := 710) C hX hbl hbA h1 dL_law_710 rfl ?_
    refine kj_perm kb_pLM ?_
    refine kj_callV0 (pc := 711) (ws2 := (kb_LM V a d o9 σ S ov μ2)) (as := [.int (xs (ii + (1 : Int32)).toNatClampNeg)]) (rest := []) (b := d 0) C (ct_X9_ladder l V A ((xs (ii + (1 : Int32)).toNatClampNeg)) d μ (kb_W V a σ (kb_sh S) (kb_O V o9 ov :: kb_tl V S [])) e2) wd_X9_ladder wk_L_103 wi_X9_ladder ws_X9_ladder wz_X9 rfl rfl hd_X9_ladder ⟨Nat.le_trans (by decide) hRf, Nat.le_trans (by decide) hRl⟩ 0 rfl rfl rfl rfl (Nat.le_of_ble_eq_true rfl) (by omega) dL_law_711 ?_
    refine kj_perm kb_pLM.symm ?_
    refine kj_istore (pc := 714) C [1, 2, 3, 4, 5, 6, 0] (L2 := [(0, .ref bs), (1, .ref (a 0)), (2, .ref (d 0)), (3, .ref o9), (4, .int ii), (5, .int (1 : Int32)), (6, .int b)]) dL_law_714 (by decide) rfl ?_
    refine kj_aload_n (pc := 716) C 2 dL_law_716 rfl rfl ?_
    refine kj_perm kb_pLM ?_
    refine kj_callV0 (pc := 717) (ws2 := (kb_LM V a d o9 σ S ov μ2)) (as := []) (rest := []) (b := d 0) C (ct_X9_thrown l V A  d μ2 (kb_W V a σ (kb_sh S) (kb_O V o9 ov :: kb_tl V S [])) e5) wd_X9_thrown wk_L_59 wi_X9_thrown ws_X9_thrown wz_X9 rfl rfl hd_X9_thrown ⟨Nat.le_trans (by decide) hRf, Nat.le_trans (by decide) hRl⟩ 0 rfl rfl rfl rfl (Nat.le_of_ble_eq_true rfl) (by omega) dL_law_717 ?_
    refine kj_perm kb_pLM.symm ?_
    refine kj_iload (pc := 720) C 5 dL_law_720 rfl ?_
    refine kj_icmp_eq (pc := 722) 727 C dL_law_722 (by decide) (fun _ => ?_) (fun c9 => absurd (rfl) c9)
    refine kj_iload (pc := 727) C 5 dL_law_727 rfl ?_
    refine kj_if_ne (pc := 729) 744 C dL_law_729 (by decide) (fun _ => ?_) (fun c9 => absurd c9 (by decide))
    refine kj_goto (pc := 744) 803 C dL_law_744 (by decide) ?_
    refine kj_sub [0, 1, 2, 3, 4] (L2 := [(0, .ref bs), (1, .ref (a 0)), (2, .ref (d 0)), (3, .ref o9), (4, .int ii)]) rfl ?_
    exact K σ S ov μ2 e3
set_option maxRecDepth 100000 in
set_option maxHeartbeats 4000000 in
theorem lo_total (C : kb_C p s m args meth c cL_law 7 RL w0 ret V A) (hRf : 60 ≤ R.frames) (hRl : 2000 ≤ R.locals) (hcs : k + 5 ≤ R.cells ∧ n + 9446 ≤ R.slots) (hX : va_X bs Ln xs s s.heap) (hbl : bs < s.heap.size) (hbA : ¬ A bs) (hl : l.stackTraces = false) (h1 : vp_in (ii + (1 : Int32)) Ln) (h2 : vp_in (ii + (2 : Int32)) Ln) (h3 : vp_in (ii + (3 : Int32)) Ln) (hI : I σ (S.map (fun q => q.2)) μ) (hO : ok_total I) (K : ∀ σ2 S2 ov2 μ2, I σ2 (S2.map (fun q => q.2)) μ2 → kb_J p l e R s m args below meth c 7 V A (k + 5) (n + 9446) Q 803 [(0, .ref bs), (1, .ref (a 0)), (2, .ref (d 0)), (3, .ref o9), (4, .int ii)] [] (kb_LW V a d o9 σ2 S2 ov2 μ2)) : kb_J p l e R s m args below meth c 7 V A k n Q 747 [(0, .ref bs), (1, .ref (a 0)), (2, .ref (d 0)), (3, .ref o9), (4, .int ii)] [] (kb_LW V a d o9 σ S ov μ) := by
  obtain ⟨μ2, ec, r, b, e1, e2, e3, e4⟩ := hO _ _ _ (xs (ii + (1 : Int32)).toNatClampNeg) hI
  rcases e4 with ⟨rfl, e5, rfl⟩ | ⟨rfl, e5⟩
  · refine kj_aload_n (pc := 747) C 1 dL_law_747 rfl rfl ?_
    refine kj_aload_n (pc := 748) C 0 dL_law_748 rfl rfl ?_
    refine kj_iload (pc := 749) C 4 dL_law_749 rfl ?_
    refine kj_iconst (pc := 751) (v := (1 : Int32)) C dL_law_751 (by decide) ?_
    refine kj_iadd (pc := 752) C dL_law_752 ?_
    refine kj_scr (pc := 753) C hX hbl hbA h1 dL_law_753 rfl ?_
    refine kj_aload_n (pc := 754) C 3 dL_law_754 rfl rfl ?_
    refine kj_callH (pc := 755) (ws2 := (kb_LW V a d o9 σ S (vp_updL ov 0 r.toInt64) μ)) (as := [.ref (a 0), .int (xs (ii + (1 : Int32)).toNatClampNeg), .ref o9]) (rest := []) C (cn_L_total l V A (xs (ii + (1 : Int32)).toNatClampNeg) a σ (kb_sh S) o9 ov (kb_tl V S (kb_WM V d μ [])) σ r rfl rfl (ct_X8_total l V A (xs (ii + (1 : Int32)).toNatClampNeg) a σ (kb_sh S) (kb_O V o9 ov :: (kb_tl V S (kb_WM V d μ []))) e1)) wh_L_total wk_L_104 wi_L_total wz_L rfl rfl hd_L_total ⟨Nat.le_trans (by decide) hRf, Nat.le_trans (by decide) hRl⟩ rfl (Nat.le_of_ble_eq_true rfl) (by omega) dL_law_755 ?_
    refine kj_widen (k2 := k + 5) (n2 := n + 9446) (by omega) (by omega) ?_
    refine kj_istore (pc := 758) C [1, 2, 3, 4, 5, 0] (L2 := [(0, .ref bs), (1, .ref (a 0)), (2, .ref (d 0)), (3, .ref o9), (4, .int ii), (5, .int (0 : Int32))]) dL_law_758 (by decide) rfl ?_
    refine kj_aload_n (pc := 760) C 2 dL_law_760 rfl rfl ?_
    refine kj_aload_n (pc := 761) C 0 dL_law_761 rfl rfl ?_
    refine kj_iload (pc := 762) C 4 dL_law_762 rfl ?_
    refine kj_iconst (pc := 764) (v := (1 : Int32)) C dL_law_764 (by decide) ?_
    refine kj_iadd (pc := 765) C dL_law_765 ?_
    refine kj_scr (pc := 766) C hX hbl hbA h1 dL_law_766 rfl ?_
    refine kj_perm kb_pLM ?_
    refine kj_callV0 (pc := 767) (ws2 := (kb_LM V a d o9 σ S (vp_updL ov 0 r.toInt64) μ2)) (as := [.int (xs (ii + (1 : Int32)).toNatClampNeg)]) (rest := []) (b := d 0) C (ct_X9_total l V A ((xs (ii + (1 : Int32)).toNatClampNeg)) d μ (kb_W V a σ (kb_sh S) (kb_O V o9 (vp_updL ov 0 r.toInt64) :: kb_tl V S [])) e2) wd_X9_total wk_L_106 wi_X9_total ws_X9_total wz_X9 rfl rfl hd_X9_total ⟨Nat.le_trans (by decide) hRf, Nat.le_trans (by decide) hRl⟩ 0 rfl rfl rfl rfl (Nat.le_of_ble_eq_true rfl) (by omega) dL_law_767 ?_
    refine kj_perm kb_pLM.symm ?_
    refine kj_istore (pc := 770) C [1, 2, 3, 4, 5, 6, 0] (L2 := [(0, .ref bs), (1, .ref (a 0)), (2, .ref (d 0)), (3, .ref o9), (4, .int ii), (5, .int (0 : Int32)), (6, .int r)]) dL_law_770 (by decide) rfl ?_
    refine kj_aload_n (pc := 772) C 2 dL_law_772 rfl rfl ?_
    refine kj_perm kb_pLM ?_
    refine kj_callV0 (pc := 773) (ws2 := (kb_LM V a d o9 σ S (vp_updL ov 0 r.toInt64) μ2)) (as := []) (rest := []) (b := d 0) C (ct_X9_thrown l V A  d μ2 (kb_W V a σ (kb_sh S) (kb_O V o9 (vp_updL ov 0 r.toInt64) :: kb_tl V S [])) e5) wd_X9_thrown wk_L_59 wi_X9_thrown ws_X9_thrown wz_X9 rfl rfl hd_X9_thrown ⟨Nat.le_trans (by decide) hRf, Nat.le_trans (by decide) hRl⟩ 0 rfl rfl rfl rfl (Nat.le_of_ble_eq_true rfl) (by omega) dL_law_773 ?_
    refine kj_perm kb_pLM.symm ?_
    refine kj_iload (pc := 776) C 5 dL_law_776 rfl ?_
    refine kj_icmp_eq (pc := 778) 783 C dL_law_778 (by decide) (fun _ => ?_) (fun c9 => absurd (rfl) c9)
    refine kj_iload (pc := 783) C 5 dL_law_783 rfl ?_
    refine kj_if_ne (pc := 785) 800 C dL_law_785 (by decide) (fun c9 => absurd (rfl) c9) (fun _ => ?_)
    refine kj_aload_n (pc := 788) C 3 dL_law_788 rfl rfl ?_
    refine kj_iconst (pc := 789) (v := (0 : Int32)) C dL_law_789 (by decide) ?_
    refine kj_lald (pc := 790) (f := (vp_updL ov 0 r.toInt64)) C 20 rfl (vp_in_nI (n := 0) (N := 1) (by decide) (by decide)) dL_law_790 ?_
    refine kj_iload (pc := 791) C 6 dL_law_791 rfl ?_
    refine kj_i2l (pc := 793) C dL_law_793 ?_
    refine kj_lcmp (pc := 794) C dL_law_794 ?_
    refine kj_if_eq (pc := 795) 800 C dL_law_795 (by decide) (fun _ => ?_) (fun c9 => absurd (by rw [show vp_updL ov 0 r.toInt64 (0 : Int32).toNatClampNeg = r.toInt64 from rfl]; exact kb_cmp0 _) c9)
    refine kj_goto (pc := 800) 803 C dL_law_800 (by decide) ?_
    refine kj_sub [0, 1, 2, 3, 4] (L2 := [(0, .ref bs), (1, .ref (a 0)), (2, .ref (d 0)), (3, .ref o9), (4, .int ii)]) rfl ?_
    exact K σ S (vp_updL ov 0 r.toInt64) μ2 e3
  · refine kj_aload_n (pc := 747) C 1 dL_law_747 rfl rfl ?_
    refine kj_aload_n (pc := 748) C 0 dL_law_748 rfl rfl ?_
    refine kj_iload (pc := 749) C 4 dL_law_749 rfl ?_
    refine kj_iconst (pc := 751) (v := (1 : Int32)) C dL_law_751 (by decide) ?_
    refine kj_iadd (pc := 752) C dL_law_752 ?_
    refine kj_scr (pc := 753) C hX hbl hbA h1 dL_law_753 rfl ?_
    refine kj_aload_n (pc := 754) C 3 dL_law_754 rfl rfl ?_
    refine kj_callH (pc := 755) (ws2 := (kb_LW V a d o9 σ S ov μ)) (as := [.ref (a 0), .int (xs (ii + (1 : Int32)).toNatClampNeg), .ref o9]) (rest := []) C (cx_L_total_1 l V A (xs (ii + (1 : Int32)).toNatClampNeg) a σ (kb_sh S) o9 (kb_O V o9 ov :: (kb_tl V S (kb_WM V d μ []))) σ rfl rfl (cx_X8_total l V A (xs (ii + (1 : Int32)).toNatClampNeg) a σ (kb_sh S) (kb_O V o9 ov :: (kb_tl V S (kb_WM V d μ []))) hl (by decide) e1)) wh_L_total wk_L_104 wi_L_total wz_L rfl rfl hd_L_total ⟨Nat.le_trans (by decide) hRf, Nat.le_trans (by decide) hRl⟩ rfl (Nat.le_of_ble_eq_true rfl) (by omega) dL_law_755 ?_
    refine kj_widen (k2 := k + 5) (n2 := n + 9446) (by omega) (by omega) ?_
    refine kj_istore (pc := 758) C [1, 2, 3, 4, 5, 0] (L2 := [(0, .ref bs), (1, .ref (a 0)), (2, .ref (d 0)), (3, .ref o9), (4, .int ii), (5, .int (1 : Int32))]) dL_law_758 (by decide) rfl ?_
    refine kj_aload_n (pc := 760) C 2 dL_law_760 rfl rfl ?_
    refine kj_aload_n (pc := 761) C 0 dL_law_761 rfl rfl ?_
    refine kj_iload (pc := 762) C 4 dL_law_762 rfl ?_
    refine kj_iconst (pc := 764) (v := (1 : Int32)) C dL_law_764 (by decide) ?_
    refine kj_iadd (pc := 765) C dL_law_765 ?_
    refine kj_scr (pc := 766) C hX hbl hbA h1 dL_law_766 rfl ?_
    refine kj_perm kb_pLM ?_
    refine kj_callV0 (pc := 767) (ws2 := (kb_LM V a d o9 σ S ov μ2)) (as := [.int (xs (ii + (1 : Int32)).toNatClampNeg)]) (rest := []) (b := d 0) C (ct_X9_total l V A ((xs (ii + (1 : Int32)).toNatClampNeg)) d μ (kb_W V a σ (kb_sh S) (kb_O V o9 ov :: kb_tl V S [])) e2) wd_X9_total wk_L_106 wi_X9_total ws_X9_total wz_X9 rfl rfl hd_X9_total ⟨Nat.le_trans (by decide) hRf, Nat.le_trans (by decide) hRl⟩ 0 rfl rfl rfl rfl (Nat.le_of_ble_eq_true rfl) (by omega) dL_law_767 ?_
    refine kj_perm kb_pLM.symm ?_
    refine kj_istore (pc := 770) C [1, 2, 3, 4, 5, 6, 0] (L2 := [(0, .ref bs), (1, .ref (a 0)), (2, .ref (d 0)), (3, .ref o9), (4, .int ii), (5, .int (1 : Int32)), (6, .int b)]) dL_law_770 (by decide) rfl ?_
    refine kj_aload_n (pc := 772) C 2 dL_law_772 rfl rfl ?_
    refine kj_perm kb_pLM ?_
    refine kj_callV0 (pc := 773) (ws2 := (kb_LM V a d o9 σ S ov μ2)) (as := []) (rest := []) (b := d 0) C (ct_X9_thrown l V A  d μ2 (kb_W V a σ (kb_sh S) (kb_O V o9 ov :: kb_tl V S [])) e5) wd_X9_thrown wk_L_59 wi_X9_thrown ws_X9_thrown wz_X9 rfl rfl hd_X9_thrown ⟨Nat.le_trans (by decide) hRf, Nat.le_trans (by decide) hRl⟩ 0 rfl rfl rfl rfl (Nat.le_of_ble_eq_true rfl) (by omega) dL_law_773 ?_
    refine kj_perm kb_pLM.symm ?_
    refine kj_iload (pc := 776) C 5 dL_law_776 rfl ?_
    refine kj_icmp_eq (pc := 778) 783 C dL_law_778 (by decide) (fun _ => ?_) (fun c9 => absurd (rfl) c9)
    refine kj_iload (pc := 783) C 5 dL_law_783 rfl ?_
    refine kj_if_ne (pc := 785) 800 C dL_law_785 (by decide) (fun _ => ?_) (fun c9 => absurd c9 (by decide))
    refine kj_goto (pc := 800) 803 C dL_law_800 (by decide) ?_
    refine kj_sub [0, 1, 2, 3, 4] (L2 := [(0, .ref bs), (1, .ref (a 0)), (2, .ref (d 0)), (3, .ref o9), (4, .int ii)]) rfl ?_
    exact K σ S ov μ2 e3
set_option maxRecDepth 100000 in
set_option maxHeartbeats 4000000 in
theorem lo_out (C : kb_C p s m args meth c cL_law 7 RL w0 ret V A) (hRf : 60 ≤ R.frames) (hRl : 2000 ≤ R.locals) (hcs : k + 5 ≤ R.cells ∧ n + 9446 ≤ R.slots) (hX : va_X bs Ln xs s s.heap) (hbl : bs < s.heap.size) (hbA : ¬ A bs) (hl : l.stackTraces = false) (h1 : vp_in (ii + (1 : Int32)) Ln) (h2 : vp_in (ii + (2 : Int32)) Ln) (h3 : vp_in (ii + (3 : Int32)) Ln) (hI : I σ (S.map (fun q => q.2)) μ) (hO : ok_out I) (K : ∀ σ2 S2 ov2 μ2, I σ2 (S2.map (fun q => q.2)) μ2 → kb_J p l e R s m args below meth c 7 V A (k + 5) (n + 9446) Q 803 [(0, .ref bs), (1, .ref (a 0)), (2, .ref (d 0)), (3, .ref o9), (4, .int ii)] [] (kb_LW V a d o9 σ2 S2 ov2 μ2)) : kb_J p l e R s m args below meth c 7 V A k n Q 635 [(0, .ref bs), (1, .ref (a 0)), (2, .ref (d 0)), (3, .ref o9), (4, .int ii)] [] (kb_LW V a d o9 σ S ov μ) := by
  obtain ⟨μ2, r, e2, e3, e4⟩ := hO _ _ _ (xs (ii + (1 : Int32)).toNatClampNeg) hI
  rcases e4 with ⟨e6, e5⟩ | ⟨e6, e5, e7⟩
  · refine kj_aload_n (pc := 635) C 1 dL_law_635 rfl rfl ?_
    refine kj_aload_n (pc := 636) C 0 dL_law_636 rfl rfl ?_
    refine kj_iload (pc := 637) C 4 dL_law_637 rfl ?_
    refine kj_iconst (pc := 639) (v := (1 : Int32)) C dL_law_639 (by decide) ?_
    refine kj_iadd (pc := 640) C dL_law_640 ?_
    refine kj_scr (pc := 641) C hX hbl hbA h1 dL_law_641 rfl ?_
    refine kj_aload_n (pc := 642) C 3 dL_law_642 rfl rfl ?_
    refine kj_callH (pc := 643) (ws2 := (kb_LW V a d o9 σ S ov μ)) (as := [.ref (a 0), .int (xs (ii + (1 : Int32)).toNatClampNeg), .ref o9]) (rest := []) C (cx_L_out_1 l V A (xs (ii + (1 : Int32)).toNatClampNeg) a σ (kb_sh S) o9 (kb_O V o9 ov :: (kb_tl V S (kb_WM V d μ []))) σ rfl rfl (cx_X8_out l V A (xs (ii + (1 : Int32)).toNatClampNeg) a σ (kb_sh S) (kb_O V o9 ov :: (kb_tl V S (kb_WM V d μ []))) hl e6)) wh_L_out wk_L_98 wi_L_out wz_L rfl rfl hd_L_out ⟨Nat.le_trans (by decide) hRf, Nat.le_trans (by decide) hRl⟩ rfl (Nat.le_of_ble_eq_true rfl) (by omega) dL_law_643 ?_
    refine kj_widen (k2 := k + 5) (n2 := n + 9446) (by omega) (by omega) ?_
    refine kj_istore (pc := 646) C [1, 2, 3, 4, 5, 0] (L2 := [(0, .ref bs), (1, .ref (a 0)), (2, .ref (d 0)), (3, .ref o9), (4, .int ii), (5, .int (1 : Int32))]) dL_law_646 (by decide) rfl ?_
    refine kj_aload_n (pc := 648) C 2 dL_law_648 rfl rfl ?_
    refine kj_aload_n (pc := 649) C 0 dL_law_649 rfl rfl ?_
    refine kj_iload (pc := 650) C 4 dL_law_650 rfl ?_
    refine kj_iconst (pc := 652) (v := (1 : Int32)) C dL_law_652 (by decide) ?_
    refine kj_iadd (pc := 653) C dL_law_653 ?_
    refine kj_scr (pc := 654) C hX hbl hbA h1 dL_law_654 rfl ?_
    refine kj_perm kb_pLM ?_
    refine kj_callV0 (pc := 655) (ws2 := (kb_LM V a d o9 σ S ov μ2)) (as := [.int (xs (ii + (1 : Int32)).toNatClampNeg)]) (rest := []) (b := d 0) C (ct_X9_out l V A ((xs (ii + (1 : Int32)).toNatClampNeg)) d μ (kb_W V a σ (kb_sh S) (kb_O V o9 ov :: kb_tl V S [])) e2) wd_X9_out wk_L_100 wi_X9_out ws_X9_out wz_X9 rfl rfl hd_X9_out ⟨Nat.le_trans (by decide) hRf, Nat.le_trans (by decide) hRl⟩ 0 rfl rfl rfl rfl (Nat.le_of_ble_eq_true rfl) (by omega) dL_law_655 ?_
    refine kj_perm kb_pLM.symm ?_
    refine kj_istore (pc := 658) C [1, 2, 3, 4, 5, 6, 0] (L2 := [(0, .ref bs), (1, .ref (a 0)), (2, .ref (d 0)), (3, .ref o9), (4, .int ii), (5, .int (1 : Int32)), (6, .int r)]) dL_law_658 (by decide) rfl ?_
    refine kj_aload_n (pc := 660) C 2 dL_law_660 rfl rfl ?_
    refine kj_perm kb_pLM ?_
    refine kj_callV0 (pc := 661) (ws2 := (kb_LM V a d o9 σ S ov μ2)) (as := []) (rest := []) (b := d 0) C (ct_X9_thrown l V A  d μ2 (kb_W V a σ (kb_sh S) (kb_O V o9 ov :: kb_tl V S [])) e5) wd_X9_thrown wk_L_59 wi_X9_thrown ws_X9_thrown wz_X9 rfl rfl hd_X9_thrown ⟨Nat.le_trans (by decide) hRf, Nat.le_trans (by decide) hRl⟩ 0 rfl rfl rfl rfl (Nat.le_of_ble_eq_true rfl) (by omega) dL_law_661 ?_
    refine kj_perm kb_pLM.symm ?_
    refine kj_iload (pc := 664) C 5 dL_law_664 rfl ?_
    refine kj_icmp_eq (pc := 666) 671 C dL_law_666 (by decide) (fun _ => ?_) (fun c9 => absurd (rfl) c9)
    refine kj_iload (pc := 671) C 5 dL_law_671 rfl ?_
    refine kj_if_ne (pc := 673) 688 C dL_law_673 (by decide) (fun _ => ?_) (fun c9 => absurd c9 (by decide))
    refine kj_goto (pc := 688) 803 C dL_law_688 (by decide) ?_
    refine kj_sub [0, 1, 2, 3, 4] (L2 := [(0, .ref bs), (1, .ref (a 0)), (2, .ref (d 0)), (3, .ref o9), (4, .int ii)]) rfl ?_
    exact K σ S ov μ2 e3
  · rcases e7 with ⟨e8, rfl⟩ | ⟨τ, e8, e9⟩
    · cases kb_ml e8
      refine kj_aload_n (pc := 635) C 1 dL_law_635 rfl rfl ?_
      refine kj_aload_n (pc := 636) C 0 dL_law_636 rfl rfl ?_
      refine kj_iload (pc := 637) C 4 dL_law_637 rfl ?_
      refine kj_iconst (pc := 639) (v := (1 : Int32)) C dL_law_639 (by decide) ?_
      refine kj_iadd (pc := 640) C dL_law_640 ?_
      refine kj_scr (pc := 641) C hX hbl hbA h1 dL_law_641 rfl ?_
      refine kj_aload_n (pc := 642) C 3 dL_law_642 rfl rfl ?_
      refine kj_callH (pc := 643) (ws2 := (kb_LW V a d o9 σ none (vp_updL ov 0 (-1 : Int32).toInt64) μ)) (as := [.ref (a 0), .int (xs (ii + (1 : Int32)).toNatClampNeg), .ref o9]) (rest := []) C (cn_L_out l V A (xs (ii + (1 : Int32)).toNatClampNeg) a σ .null o9 ov (kb_WM V d μ []) σ (-1) rfl rfl (ct_X8_out0 l V A (xs (ii + (1 : Int32)).toNatClampNeg) a σ (kb_O V o9 ov :: kb_WM V d μ []) e6)) wh_L_out wk_L_98 wi_L_out wz_L rfl rfl hd_L_out ⟨Nat.le_trans (by decide) hRf, Nat.le_trans (by decide) hRl⟩ rfl (Nat.le_of_ble_eq_true rfl) (by omega) dL_law_643 ?_
      refine kj_widen (k2 := k + 5) (n2 := n + 9446) (by omega) (by omega) ?_
      refine kj_istore (pc := 646) C [1, 2, 3, 4, 5, 0] (L2 := [(0, .ref bs), (1, .ref (a 0)), (2, .ref (d 0)), (3, .ref o9), (4, .int ii), (5, .int (0 : Int32))]) dL_law_646 (by decide) rfl ?_
      refine kj_aload_n (pc := 648) C 2 dL_law_648 rfl rfl ?_
      refine kj_aload_n (pc := 649) C 0 dL_law_649 rfl rfl ?_
      refine kj_iload (pc := 650) C 4 dL_law_650 rfl ?_
      refine kj_iconst (pc := 652) (v := (1 : Int32)) C dL_law_652 (by decide) ?_
      refine kj_iadd (pc := 653) C dL_law_653 ?_
      refine kj_scr (pc := 654) C hX hbl hbA h1 dL_law_654 rfl ?_
      refine kj_perm kb_pLM ?_
      refine kj_callV0 (pc := 655) (ws2 := (kb_LM V a d o9 σ none (vp_updL ov 0 (-1 : Int32).toInt64) μ2)) (as := [.int (xs (ii + (1 : Int32)).toNatClampNeg)]) (rest := []) (b := d 0) C (ct_X9_out l V A ((xs (ii + (1 : Int32)).toNatClampNeg)) d μ (kb_W V a σ (kb_sh none) (kb_O V o9 (vp_updL ov 0 (-1 : Int32).toInt64) :: kb_tl V none [])) e2) wd_X9_out wk_L_100 wi_X9_out ws_X9_out wz_X9 rfl rfl hd_X9_out ⟨Nat.le_trans (by decide) hRf, Nat.le_trans (by decide) hRl⟩ 0 rfl rfl rfl rfl (Nat.le_of_ble_eq_true rfl) (by omega) dL_law_655 ?_
      refine kj_perm kb_pLM.symm ?_
      refine kj_istore (pc := 658) C [1, 2, 3, 4, 5, 6, 0] (L2 := [(0, .ref bs), (1, .ref (a 0)), (2, .ref (d 0)), (3, .ref o9), (4, .int ii), (5, .int (0 : Int32)), (6, .int (-1 : Int32))]) dL_law_658 (by decide) rfl ?_
      refine kj_aload_n (pc := 660) C 2 dL_law_660 rfl rfl ?_
      refine kj_perm kb_pLM ?_
      refine kj_callV0 (pc := 661) (ws2 := (kb_LM V a d o9 σ none (vp_updL ov 0 (-1 : Int32).toInt64) μ2)) (as := []) (rest := []) (b := d 0) C (ct_X9_thrown l V A  d μ2 (kb_W V a σ (kb_sh none) (kb_O V o9 (vp_updL ov 0 (-1 : Int32).toInt64) :: kb_tl V none [])) e5) wd_X9_thrown wk_L_59 wi_X9_thrown ws_X9_thrown wz_X9 rfl rfl hd_X9_thrown ⟨Nat.le_trans (by decide) hRf, Nat.le_trans (by decide) hRl⟩ 0 rfl rfl rfl rfl (Nat.le_of_ble_eq_true rfl) (by omega) dL_law_661 ?_
      refine kj_perm kb_pLM.symm ?_
      refine kj_iload (pc := 664) C 5 dL_law_664 rfl ?_
      refine kj_icmp_eq (pc := 666) 671 C dL_law_666 (by decide) (fun _ => ?_) (fun c9 => absurd (rfl) c9)
      refine kj_iload (pc := 671) C 5 dL_law_671 rfl ?_
      refine kj_if_ne (pc := 673) 688 C dL_law_673 (by decide) (fun c9 => absurd (rfl) c9) (fun _ => ?_)
      refine kj_aload_n (pc := 676) C 3 dL_law_676 rfl rfl ?_
      refine kj_iconst (pc := 677) (v := (0 : Int32)) C dL_law_677 (by decide) ?_
      refine kj_lald (pc := 678) (f := (vp_updL ov 0 (-1 : Int32).toInt64)) C 20 rfl (vp_in_nI (n := 0) (N := 1) (by decide) (by decide)) dL_law_678 ?_
      refine kj_iload (pc := 679) C 6 dL_law_679 rfl ?_
      refine kj_i2l (pc := 681) C dL_law_681 ?_
      refine kj_lcmp (pc := 682) C dL_law_682 ?_
      refine kj_if_eq (pc := 683) 688 C dL_law_683 (by decide) (fun _ => ?_) (fun c9 => absurd (by rw [show vp_updL ov 0 (-1 : Int32).toInt64 (0 : Int32).toNatClampNeg = (-1 : Int32).toInt64 from rfl]; exact kb_cmp0 _) c9)
      refine kj_goto (pc := 688) 803 C dL_law_688 (by decide) ?_
      refine kj_sub [0, 1, 2, 3, 4] (L2 := [(0, .ref bs), (1, .ref (a 0)), (2, .ref (d 0)), (3, .ref o9), (4, .int ii)]) rfl ?_
      exact K σ none (vp_updL ov 0 (-1 : Int32).toInt64) μ2 e3
    · obtain ⟨b, rfl⟩ := kb_ms e8
      refine kj_aload_n (pc := 635) C 1 dL_law_635 rfl rfl ?_
      refine kj_aload_n (pc := 636) C 0 dL_law_636 rfl rfl ?_
      refine kj_iload (pc := 637) C 4 dL_law_637 rfl ?_
      refine kj_iconst (pc := 639) (v := (1 : Int32)) C dL_law_639 (by decide) ?_
      refine kj_iadd (pc := 640) C dL_law_640 ?_
      refine kj_scr (pc := 641) C hX hbl hbA h1 dL_law_641 rfl ?_
      refine kj_aload_n (pc := 642) C 3 dL_law_642 rfl rfl ?_
      refine kj_callH (pc := 643) (ws2 := (kb_LW V a d o9 σ (some (b, τ)) (vp_updL ov 0 r.toInt64) μ)) (as := [.ref (a 0), .int (xs (ii + (1 : Int32)).toNatClampNeg), .ref o9]) (rest := []) C (cn_L_out l V A (xs (ii + (1 : Int32)).toNatClampNeg) a σ (.ref (b 0)) o9 ov (kb_WS V b τ (kb_WM V d μ [])) σ r rfl rfl (kb_Tperm kb_pOS (ct_X8_out1 l V A (xs (ii + (1 : Int32)).toNatClampNeg) a b σ τ (kb_O V o9 ov :: kb_WM V d μ []) e6 e9))) wh_L_out wk_L_98 wi_L_out wz_L rfl rfl hd_L_out ⟨Nat.le_trans (by decide) hRf, Nat.le_trans (by decide) hRl⟩ rfl (Nat.le_of_ble_eq_true rfl) (by omega) dL_law_643 ?_
      refine kj_widen (k2 := k + 5) (n2 := n + 9446) (by omega) (by omega) ?_
      refine kj_istore (pc := 646) C [1, 2, 3, 4, 5, 0] (L2 := [(0, .ref bs), (1, .ref (a 0)), (2, .ref (d 0)), (3, .ref o9), (4, .int ii), (5, .int (0 : Int32))]) dL_law_646 (by decide) rfl ?_
      refine kj_aload_n (pc := 648) C 2 dL_law_648 rfl rfl ?_
      refine kj_aload_n (pc := 649) C 0 dL_law_649 rfl rfl ?_
      refine kj_iload (pc := 650) C 4 dL_law_650 rfl ?_
      refine kj_iconst (pc := 652) (v := (1 : Int32)) C dL_law_652 (by decide) ?_
      refine kj_iadd (pc := 653) C dL_law_653 ?_
      refine kj_scr (pc := 654) C hX hbl hbA h1 dL_law_654 rfl ?_
      refine kj_perm kb_pLM ?_
      refine kj_callV0 (pc := 655) (ws2 := (kb_LM V a d o9 σ (some (b, τ)) (vp_updL ov 0 r.toInt64) μ2)) (as := [.int (xs (ii + (1 : Int32)).toNatClampNeg)]) (rest := []) (b := d 0) C (ct_X9_out l V A ((xs (ii + (1 : Int32)).toNatClampNeg)) d μ (kb_W V a σ (kb_sh (some (b, τ))) (kb_O V o9 (vp_updL ov 0 r.toInt64) :: kb_tl V (some (b, τ)) [])) e2) wd_X9_out wk_L_100 wi_X9_out ws_X9_out wz_X9 rfl rfl hd_X9_out ⟨Nat.le_trans (by decide) hRf, Nat.le_trans (by decide) hRl⟩ 0 rfl rfl rfl rfl (Nat.le_of_ble_eq_true rfl) (by omega) dL_law_655 ?_
      refine kj_perm kb_pLM.symm ?_
      refine kj_istore (pc := 658) C [1, 2, 3, 4, 5, 6, 0] (L2 := [(0, .ref bs), (1, .ref (a 0)), (2, .ref (d 0)), (3, .ref o9), (4, .int ii), (5, .int (0 : Int32)), (6, .int r)]) dL_law_658 (by decide) rfl ?_
      refine kj_aload_n (pc := 660) C 2 dL_law_660 rfl rfl ?_
      refine kj_perm kb_pLM ?_
      refine kj_callV0 (pc := 661) (ws2 := (kb_LM V a d o9 σ (some (b, τ)) (vp_updL ov 0 r.toInt64) μ2)) (as := []) (rest := []) (b := d 0) C (ct_X9_thrown l V A  d μ2 (kb_W V a σ (kb_sh (some (b, τ))) (kb_O V o9 (vp_updL ov 0 r.toInt64) :: kb_tl V (some (b, τ)) [])) e5) wd_X9_thrown wk_L_59 wi_X9_thrown ws_X9_thrown wz_X9 rfl rfl hd_X9_thrown ⟨Nat.le_trans (by decide) hRf, Nat.le_trans (by decide) hRl⟩ 0 rfl rfl rfl rfl (Nat.le_of_ble_eq_true rfl) (by omega) dL_law_661 ?_
      refine kj_perm kb_pLM.symm ?_
      refine kj_iload (pc := 664) C 5 dL_law_664 rfl ?_
      refine kj_icmp_eq (pc := 666) 671 C dL_law_666 (by decide) (fun _ => ?_) (fun c9 => absurd (rfl) c9)
      refine kj_iload (pc := 671) C 5 dL_law_671 rfl ?_
      refine kj_if_ne (pc := 673) 688 C dL_law_673 (by decide) (fun c9 => absurd (rfl) c9) (fun _ => ?_)
      refine kj_aload_n (pc := 676) C 3 dL_law_676 rfl rfl ?_
      refine kj_iconst (pc := 677) (v := (0 : Int32)) C dL_law_677 (by decide) ?_
      refine kj_lald (pc := 678) (f := (vp_updL ov 0 r.toInt64)) C 20 rfl (vp_in_nI (n := 0) (N := 1) (by decide) (by decide)) dL_law_678 ?_
      refine kj_iload (pc := 679) C 6 dL_law_679 rfl ?_
      refine kj_i2l (pc := 681) C dL_law_681 ?_
      refine kj_lcmp (pc := 682) C dL_law_682 ?_
      refine kj_if_eq (pc := 683) 688 C dL_law_683 (by decide) (fun _ => ?_) (fun c9 => absurd (by rw [show vp_updL ov 0 r.toInt64 (0 : Int32).toNatClampNeg = r.toInt64 from rfl]; exact kb_cmp0 _) c9)
      refine kj_goto (pc := 688) 803 C dL_law_688 (by decide) ?_
      refine kj_sub [0, 1, 2, 3, 4] (L2 := [(0, .ref bs), (1, .ref (a 0)), (2, .ref (d 0)), (3, .ref o9), (4, .int ii)]) rfl ?_
      exact K σ (some (b, τ)) (vp_updL ov 0 r.toInt64) μ2 e3
set_option maxRecDepth 100000 in
set_option maxHeartbeats 4000000 in
theorem lo_shorten (C : kb_C p s m args meth c cL_law 7 RL w0 ret V A) (hRf : 60 ≤ R.frames) (hRl : 2000 ≤ R.locals) (hcs : k + 5 ≤ R.cells ∧ n + 9446 ≤ R.slots) (hX : va_X bs Ln xs s s.heap) (hbl : bs < s.heap.size) (hbA : ¬ A bs) (hl : l.stackTraces = false) (h1 : vp_in (ii + (1 : Int32)) Ln) (h2 : vp_in (ii + (2 : Int32)) Ln) (h3 : vp_in (ii + (3 : Int32)) Ln) (hI : I σ (S.map (fun q => q.2)) μ) (hO : ok_shorten I) (K : ∀ σ2 S2 ov2 μ2, I σ2 (S2.map (fun q => q.2)) μ2 → kb_J p l e R s m args below meth c 7 V A (k + 5) (n + 9446) Q 803 [(0, .ref bs), (1, .ref (a 0)), (2, .ref (d 0)), (3, .ref o9), (4, .int ii)] [] (kb_LW V a d o9 σ2 S2 ov2 μ2)) : kb_J p l e R s m args below meth c 7 V A k n Q 579 [(0, .ref bs), (1, .ref (a 0)), (2, .ref (d 0)), (3, .ref o9), (4, .int ii)] [] (kb_LW V a d o9 σ S ov μ) := by
  obtain ⟨μ2, r, e2, e4⟩ := hO _ _ _ (xs (ii + (1 : Int32)).toNatClampNeg) hI
  rcases e4 with ⟨r0, e6, e5, e3⟩ | ⟨r0, τ2, e6, e7, e5, e3⟩
  · refine kj_aload_n (pc := 579) C 1 dL_law_579 rfl rfl ?_
    refine kj_aload_n (pc := 580) C 0 dL_law_580 rfl rfl ?_
    refine kj_iload (pc := 581) C 4 dL_law_581 rfl ?_
    refine kj_iconst (pc := 583) (v := (1 : Int32)) C dL_law_583 (by decide) ?_
    refine kj_iadd (pc := 584) C dL_law_584 ?_
    refine kj_scr (pc := 585) C hX hbl hbA h1 dL_law_585 rfl ?_
    refine kj_aload_n (pc := 586) C 3 dL_law_586 rfl rfl ?_
    refine kj_callH (pc := 587) (ws2 := (kb_LW V a d o9 σ S ov μ)) (as := [.ref (a 0), .int (xs (ii + (1 : Int32)).toNatClampNeg), .ref o9]) (rest := []) C (cx_L_shorten_1 l V A (xs (ii + (1 : Int32)).toNatClampNeg) a σ (kb_sh S) o9 (kb_O V o9 ov :: (kb_tl V S (kb_WM V d μ []))) σ rfl rfl (cx_X8_shorten l V A (xs (ii + (1 : Int32)).toNatClampNeg) a σ (kb_sh S) (kb_O V o9 ov :: (kb_tl V S (kb_WM V d μ []))) hl (by decide) e6)) wh_L_shorten wk_L_95 wi_L_shorten wz_L rfl rfl hd_L_shorten ⟨Nat.le_trans (by decide) hRf, Nat.le_trans (by decide) hRl⟩ rfl (Nat.le_of_ble_eq_true rfl) (by omega) dL_law_587 ?_
    refine kj_widen (k2 := k + 5) (n2 := n + 9446) (by omega) (by omega) ?_
    refine kj_istore (pc := 590) C [1, 2, 3, 4, 5, 0] (L2 := [(0, .ref bs), (1, .ref (a 0)), (2, .ref (d 0)), (3, .ref o9), (4, .int ii), (5, .int (1 : Int32))]) dL_law_590 (by decide) rfl ?_
    refine kj_aload_n (pc := 592) C 2 dL_law_592 rfl rfl ?_
    refine kj_aload_n (pc := 593) C 0 dL_law_593 rfl rfl ?_
    refine kj_iload (pc := 594) C 4 dL_law_594 rfl ?_
    refine kj_iconst (pc := 596) (v := (1 : Int32)) C dL_law_596 (by decide) ?_
    refine kj_iadd (pc := 597) C dL_law_597 ?_
    refine kj_scr (pc := 598) C hX hbl hbA h1 dL_law_598 rfl ?_
    refine kj_perm kb_pLM ?_
    refine kj_callV0 (pc := 599) (ws2 := (kb_LM V a d o9 σ S ov μ2)) (as := [.int (xs (ii + (1 : Int32)).toNatClampNeg)]) (rest := []) (b := d 0) C (ct_X9_shorten l V A ((xs (ii + (1 : Int32)).toNatClampNeg)) d μ (kb_W V a σ (kb_sh S) (kb_O V o9 ov :: kb_tl V S [])) e2) wd_X9_shorten wk_L_97 wi_X9_shorten ws_X9_shorten wz_X9 rfl rfl hd_X9_shorten ⟨Nat.le_trans (by decide) hRf, Nat.le_trans (by decide) hRl⟩ 0 rfl rfl rfl rfl (Nat.le_of_ble_eq_true rfl) (by omega) dL_law_599 ?_
    refine kj_perm kb_pLM.symm ?_
    refine kj_istore (pc := 602) C [1, 2, 3, 4, 5, 6, 0] (L2 := [(0, .ref bs), (1, .ref (a 0)), (2, .ref (d 0)), (3, .ref o9), (4, .int ii), (5, .int (1 : Int32)), (6, .int r)]) dL_law_602 (by decide) rfl ?_
    refine kj_aload_n (pc := 604) C 2 dL_law_604 rfl rfl ?_
    refine kj_perm kb_pLM ?_
    refine kj_callV0 (pc := 605) (ws2 := (kb_LM V a d o9 σ S ov μ2)) (as := []) (rest := []) (b := d 0) C (ct_X9_thrown l V A  d μ2 (kb_W V a σ (kb_sh S) (kb_O V o9 ov :: kb_tl V S [])) e5) wd_X9_thrown wk_L_59 wi_X9_thrown ws_X9_thrown wz_X9 rfl rfl hd_X9_thrown ⟨Nat.le_trans (by decide) hRf, Nat.le_trans (by decide) hRl⟩ 0 rfl rfl rfl rfl (Nat.le_of_ble_eq_true rfl) (by omega) dL_law_605 ?_
    refine kj_perm kb_pLM.symm ?_
    refine kj_iload (pc := 608) C 5 dL_law_608 rfl ?_
    refine kj_icmp_eq (pc := 610) 615 C dL_law_610 (by decide) (fun _ => ?_) (fun c9 => absurd (rfl) c9)
    refine kj_iload (pc := 615) C 5 dL_law_615 rfl ?_
    refine kj_if_ne (pc := 617) 632 C dL_law_617 (by decide) (fun _ => ?_) (fun c9 => absurd c9 (by decide))
    refine kj_goto (pc := 632) 803 C dL_law_632 (by decide) ?_
    refine kj_sub [0, 1, 2, 3, 4] (L2 := [(0, .ref bs), (1, .ref (a 0)), (2, .ref (d 0)), (3, .ref o9), (4, .int ii)]) rfl ?_
    exact K σ S ov μ2 e3
  · cases S with
    | none =>
      refine kj_aload_n (pc := 579) C 1 dL_law_579 rfl rfl ?_
      refine kj_aload_n (pc := 580) C 0 dL_law_580 rfl rfl ?_
      refine kj_iload (pc := 581) C 4 dL_law_581 rfl ?_
      refine kj_iconst (pc := 583) (v := (1 : Int32)) C dL_law_583 (by decide) ?_
      refine kj_iadd (pc := 584) C dL_law_584 ?_
      refine kj_scr (pc := 585) C hX hbl hbA h1 dL_law_585 rfl ?_
      refine kj_aload_n (pc := 586) C 3 dL_law_586 rfl rfl ?_
      refine kj_callHN (pc := 587)  (as := [.ref (a 0), .int (xs (ii + (1 : Int32)).toNatClampNeg), .ref o9]) (rest := []) C (cnN_L_shorten l V A (xs (ii + (1 : Int32)).toNatClampNeg) a σ o9 ov (kb_WM V d μ []) τ2 r rfl rfl (ct_X8_shorten0 l V A (xs (ii + (1 : Int32)).toNatClampNeg) a σ (kb_O V o9 ov :: kb_WM V d μ []) e6 e7)) wh_L_shorten wk_L_95 wi_L_shorten wz_L rfl rfl hd_L_shorten ⟨Nat.le_trans (by decide) hRf, Nat.le_trans (by decide) hRl⟩ rfl (Nat.le_of_ble_eq_true rfl) (by omega) dL_law_587 (fun b => ?_)
      refine kj_perm (ws2 := (kb_LW V a d o9 σ (some (b, τ2)) (vp_updL ov 0 r.toInt64) μ)) kb_pOS.symm ?_
      refine kj_istore (pc := 590) C [1, 2, 3, 4, 5, 0] (L2 := [(0, .ref bs), (1, .ref (a 0)), (2, .ref (d 0)), (3, .ref o9), (4, .int ii), (5, .int (0 : Int32))]) dL_law_590 (by decide) rfl ?_
      refine kj_aload_n (pc := 592) C 2 dL_law_592 rfl rfl ?_
      refine kj_aload_n (pc := 593) C 0 dL_law_593 rfl rfl ?_
      refine kj_iload (pc := 594) C 4 dL_law_594 rfl ?_
      refine kj_iconst (pc := 596) (v := (1 : Int32)) C dL_law_596 (by decide) ?_
      refine kj_iadd (pc := 597) C dL_law_597 ?_
      refine kj_scr (pc := 598) C hX hbl hbA h1 dL_law_598 rfl ?_
      refine kj_perm kb_pLM ?_
      refine kj_callV0 (pc := 599) (ws2 := (kb_LM V a d o9 σ (some (b, τ2)) (vp_updL ov 0 r.toInt64) μ2)) (as := [.int (xs (ii + (1 : Int32)).toNatClampNeg)]) (rest := []) (b := d 0) C (ct_X9_shorten l V A ((xs (ii + (1 : Int32)).toNatClampNeg)) d μ (kb_W V a σ (kb_sh (some (b, τ2))) (kb_O V o9 (vp_updL ov 0 r.toInt64) :: kb_tl V (some (b, τ2)) [])) e2) wd_X9_shorten wk_L_97 wi_X9_shorten ws_X9_shorten wz_X9 rfl rfl hd_X9_shorten ⟨Nat.le_trans (by decide) hRf, Nat.le_trans (by decide) hRl⟩ 0 rfl rfl rfl rfl (Nat.le_of_ble_eq_true rfl) (by omega) dL_law_599 ?_
      refine kj_perm kb_pLM.symm ?_
      refine kj_istore (pc := 602) C [1, 2, 3, 4, 5, 6, 0] (L2 := [(0, .ref bs), (1, .ref (a 0)), (2, .ref (d 0)), (3, .ref o9), (4, .int ii), (5, .int (0 : Int32)), (6, .int r)]) dL_law_602 (by decide) rfl ?_
      refine kj_aload_n (pc := 604) C 2 dL_law_604 rfl rfl ?_
      refine kj_perm kb_pLM ?_
      refine kj_callV0 (pc := 605) (ws2 := (kb_LM V a d o9 σ (some (b, τ2)) (vp_updL ov 0 r.toInt64) μ2)) (as := []) (rest := []) (b := d 0) C (ct_X9_thrown l V A  d μ2 (kb_W V a σ (kb_sh (some (b, τ2))) (kb_O V o9 (vp_updL ov 0 r.toInt64) :: kb_tl V (some (b, τ2)) [])) e5) wd_X9_thrown wk_L_59 wi_X9_thrown ws_X9_thrown wz_X9 rfl rfl hd_X9_thrown ⟨Nat.le_trans (by decide) hRf, Nat.le_trans (by decide) hRl⟩ 0 rfl rfl rfl rfl (Nat.le_of_ble_eq_true rfl) (by omega) dL_law_605 ?_
      refine kj_perm kb_pLM.symm ?_
      refine kj_iload (pc := 608) C 5 dL_law_608 rfl ?_
      refine kj_icmp_eq (pc := 610) 615 C dL_law_610 (by decide) (fun _ => ?_) (fun c9 => absurd (rfl) c9)
      refine kj_iload (pc := 615) C 5 dL_law_615 rfl ?_
      refine kj_if_ne (pc := 617) 632 C dL_law_617 (by decide) (fun c9 => absurd (rfl) c9) (fun _ => ?_)
      refine kj_aload_n (pc := 620) C 3 dL_law_620 rfl rfl ?_
      refine kj_iconst (pc := 621) (v := (0 : Int32)) C dL_law_621 (by decide) ?_
      refine kj_lald (pc := 622) (f := (vp_updL ov 0 r.toInt64)) C 20 rfl (vp_in_nI (n := 0) (N := 1) (by decide) (by decide)) dL_law_622 ?_
      refine kj_iload (pc := 623) C 6 dL_law_623 rfl ?_
      refine kj_i2l (pc := 625) C dL_law_625 ?_
      refine kj_lcmp (pc := 626) C dL_law_626 ?_
      refine kj_if_eq (pc := 627) 632 C dL_law_627 (by decide) (fun _ => ?_) (fun c9 => absurd (by rw [show vp_updL ov 0 r.toInt64 (0 : Int32).toNatClampNeg = r.toInt64 from rfl]; exact kb_cmp0 _) c9)
      refine kj_goto (pc := 632) 803 C dL_law_632 (by decide) ?_
      refine kj_sub [0, 1, 2, 3, 4] (L2 := [(0, .ref bs), (1, .ref (a 0)), (2, .ref (d 0)), (3, .ref o9), (4, .int ii)]) rfl ?_
      exact K σ (some (b, τ2)) (vp_updL ov 0 r.toInt64) μ2 e3
    | some q =>
      obtain ⟨b, τ⟩ := q
      refine kj_aload_n (pc := 579) C 1 dL_law_579 rfl rfl ?_
      refine kj_aload_n (pc := 580) C 0 dL_law_580 rfl rfl ?_
      refine kj_iload (pc := 581) C 4 dL_law_581 rfl ?_
      refine kj_iconst (pc := 583) (v := (1 : Int32)) C dL_law_583 (by decide) ?_
      refine kj_iadd (pc := 584) C dL_law_584 ?_
      refine kj_scr (pc := 585) C hX hbl hbA h1 dL_law_585 rfl ?_
      refine kj_aload_n (pc := 586) C 3 dL_law_586 rfl rfl ?_
      refine kj_callH (pc := 587) (ws2 := (kb_LW V a d o9 σ (some (b, τ2)) (vp_updL ov 0 r.toInt64) μ)) (as := [.ref (a 0), .int (xs (ii + (1 : Int32)).toNatClampNeg), .ref o9]) (rest := []) C (cnS_L_shorten l V A (xs (ii + (1 : Int32)).toNatClampNeg) a σ (.ref (b 0)) o9 ov (kb_WS V b τ (kb_WM V d μ [])) (kb_WS V b τ2 (kb_WM V d μ [])) r rfl rfl (kb_Tperm2 kb_pOS kb_pOS.symm (ct_X8_shorten1 l V A (xs (ii + (1 : Int32)).toNatClampNeg) a b σ τ (kb_O V o9 ov :: kb_WM V d μ []) e6 e7))) wh_L_shorten wk_L_95 wi_L_shorten wz_L rfl rfl hd_L_shorten ⟨Nat.le_trans (by decide) hRf, Nat.le_trans (by decide) hRl⟩ rfl (Nat.le_of_ble_eq_true rfl) (by omega) dL_law_587 ?_
      refine kj_widen (k2 := k + 5) (n2 := n + 9446) (by omega) (by omega) ?_
      refine kj_istore (pc := 590) C [1, 2, 3, 4, 5, 0] (L2 := [(0, .ref bs), (1, .ref (a 0)), (2, .ref (d 0)), (3, .ref o9), (4, .int ii), (5, .int (0 : Int32))]) dL_law_590 (by decide) rfl ?_
      refine kj_aload_n (pc := 592) C 2 dL_law_592 rfl rfl ?_
      refine kj_aload_n (pc := 593) C 0 dL_law_593 rfl rfl ?_
      refine kj_iload (pc := 594) C 4 dL_law_594 rfl ?_
      refine kj_iconst (pc := 596) (v := (1 : Int32)) C dL_law_596 (by decide) ?_
      refine kj_iadd (pc := 597) C dL_law_597 ?_
      refine kj_scr (pc := 598) C hX hbl hbA h1 dL_law_598 rfl ?_
      refine kj_perm kb_pLM ?_
      refine kj_callV0 (pc := 599) (ws2 := (kb_LM V a d o9 σ (some (b, τ2)) (vp_updL ov 0 r.toInt64) μ2)) (as := [.int (xs (ii + (1 : Int32)).toNatClampNeg)]) (rest := []) (b := d 0) C (ct_X9_shorten l V A ((xs (ii + (1 : Int32)).toNatClampNeg)) d μ (kb_W V a σ (kb_sh (some (b, τ2))) (kb_O V o9 (vp_updL ov 0 r.toInt64) :: kb_tl V (some (b, τ2)) [])) e2) wd_X9_shorten wk_L_97 wi_X9_shorten ws_X9_shorten wz_X9 rfl rfl hd_X9_shorten ⟨Nat.le_trans (by decide) hRf, Nat.le_trans (by decide) hRl⟩ 0 rfl rfl rfl rfl (Nat.le_of_ble_eq_true rfl) (by omega) dL_law_599 ?_
      refine kj_perm kb_pLM.symm ?_
      refine kj_istore (pc := 602) C [1, 2, 3, 4, 5, 6, 0] (L2 := [(0, .ref bs), (1, .ref (a 0)), (2, .ref (d 0)), (3, .ref o9), (4, .int ii), (5, .int (0 : Int32)), (6, .int r)]) dL_law_602 (by decide) rfl ?_
      refine kj_aload_n (pc := 604) C 2 dL_law_604 rfl rfl ?_
      refine kj_perm kb_pLM ?_
      refine kj_callV0 (pc := 605) (ws2 := (kb_LM V a d o9 σ (some (b, τ2)) (vp_updL ov 0 r.toInt64) μ2)) (as := []) (rest := []) (b := d 0) C (ct_X9_thrown l V A  d μ2 (kb_W V a σ (kb_sh (some (b, τ2))) (kb_O V o9 (vp_updL ov 0 r.toInt64) :: kb_tl V (some (b, τ2)) [])) e5) wd_X9_thrown wk_L_59 wi_X9_thrown ws_X9_thrown wz_X9 rfl rfl hd_X9_thrown ⟨Nat.le_trans (by decide) hRf, Nat.le_trans (by decide) hRl⟩ 0 rfl rfl rfl rfl (Nat.le_of_ble_eq_true rfl) (by omega) dL_law_605 ?_
      refine kj_perm kb_pLM.symm ?_
      refine kj_iload (pc := 608) C 5 dL_law_608 rfl ?_
      refine kj_icmp_eq (pc := 610) 615 C dL_law_610 (by decide) (fun _ => ?_) (fun c9 => absurd (rfl) c9)
      refine kj_iload (pc := 615) C 5 dL_law_615 rfl ?_
      refine kj_if_ne (pc := 617) 632 C dL_law_617 (by decide) (fun c9 => absurd (rfl) c9) (fun _ => ?_)
      refine kj_aload_n (pc := 620) C 3 dL_law_620 rfl rfl ?_
      refine kj_iconst (pc := 621) (v := (0 : Int32)) C dL_law_621 (by decide) ?_
      refine kj_lald (pc := 622) (f := (vp_updL ov 0 r.toInt64)) C 20 rfl (vp_in_nI (n := 0) (N := 1) (by decide) (by decide)) dL_law_622 ?_
      refine kj_iload (pc := 623) C 6 dL_law_623 rfl ?_
      refine kj_i2l (pc := 625) C dL_law_625 ?_
      refine kj_lcmp (pc := 626) C dL_law_626 ?_
      refine kj_if_eq (pc := 627) 632 C dL_law_627 (by decide) (fun _ => ?_) (fun c9 => absurd (by rw [show vp_updL ov 0 r.toInt64 (0 : Int32).toNatClampNeg = r.toInt64 from rfl]; exact kb_cmp0 _) c9)
      refine kj_goto (pc := 632) 803 C dL_law_632 (by decide) ?_
      refine kj_sub [0, 1, 2, 3, 4] (L2 := [(0, .ref bs), (1, .ref (a 0)), (2, .ref (d 0)), (3, .ref o9), (4, .int ii)]) rfl ?_
      exact K σ (some (b, τ2)) (vp_updL ov 0 r.toInt64) μ2 e3
set_option maxRecDepth 100000 in
set_option maxHeartbeats 4000000 in
theorem lo_begin (C : kb_C p s m args meth c cL_law 7 RL w0 ret V A) (hRf : 60 ≤ R.frames) (hRl : 2000 ≤ R.locals) (hcs : k + 5 ≤ R.cells ∧ n + 9446 ≤ R.slots) (hX : va_X bs Ln xs s s.heap) (hbl : bs < s.heap.size) (hbA : ¬ A bs) (hl : l.stackTraces = false) (h1 : vp_in (ii + (1 : Int32)) Ln) (h2 : vp_in (ii + (2 : Int32)) Ln) (h3 : vp_in (ii + (3 : Int32)) Ln) (hI : I σ (S.map (fun q => q.2)) μ) (hO : ok_begin I) (K : ∀ σ2 S2 ov2 μ2, I σ2 (S2.map (fun q => q.2)) μ2 → kb_J p l e R s m args below meth c 7 V A (k + 5) (n + 9446) Q 803 [(0, .ref bs), (1, .ref (a 0)), (2, .ref (d 0)), (3, .ref o9), (4, .int ii)] [] (kb_LW V a d o9 σ2 S2 ov2 μ2)) : kb_J p l e R s m args below meth c 7 V A k n Q 104 [(0, .ref bs), (1, .ref (a 0)), (2, .ref (d 0)), (3, .ref o9), (4, .int ii)] [] (kb_LW V a d o9 σ S ov μ) := by
  by_cases hz : (xs (ii + (2 : Int32)).toNatClampNeg) = 0
  · obtain ⟨μ2, e2, e4⟩ := hO _ _ _ (xs (ii + (1 : Int32)).toNatClampNeg) (0 : Int32) hI (Or.inl rfl)
    rcases e4 with ⟨e6, e5, e3⟩ | ⟨e6, e7, e5, σ2, e8, e9⟩
    · refine kj_aload_n (pc := 104) C 1 dL_law_104 rfl rfl ?_
      refine kj_aload_n (pc := 105) C 0 dL_law_105 rfl rfl ?_
      refine kj_iload (pc := 106) C 4 dL_law_106 rfl ?_
      refine kj_iconst (pc := 108) (v := (1 : Int32)) C dL_law_108 (by decide) ?_
      refine kj_iadd (pc := 109) C dL_law_109 ?_
      refine kj_scr (pc := 110) C hX hbl hbA h1 dL_law_110 rfl ?_
      refine kj_aload_n (pc := 111) C 0 dL_law_111 rfl rfl ?_
      refine kj_iload (pc := 112) C 4 dL_law_112 rfl ?_
      refine kj_iconst (pc := 114) (v := (2 : Int32)) C dL_law_114 (by decide) ?_
      refine kj_iadd (pc := 115) C dL_law_115 ?_
      refine kj_scr (pc := 116) C hX hbl hbA h2 dL_law_116 rfl ?_
      refine kj_if_eq (pc := 117) 124 C dL_law_117 (by decide) (fun _ => ?_) (fun c9 => absurd (hz) c9)
      refine kj_iconst (pc := 124) (v := (0 : Int32)) C dL_law_124 (by decide) ?_
      refine kj_callH (pc := 125) (ws2 := (kb_LW V a d o9 σ S ov μ)) (as := [.ref (a 0), .int (xs (ii + (1 : Int32)).toNatClampNeg), .int (0 : Int32)]) (rest := []) C (cx_L_begin_1 l V A (xs (ii + (1 : Int32)).toNatClampNeg) (0 : Int32) a σ (kb_sh S) (kb_O V o9 ov :: kb_tl V S (kb_WM V d μ [])) σ rfl rfl (cx_X8_begin l V A (xs (ii + (1 : Int32)).toNatClampNeg) (0 : Int32) a σ (kb_sh S) (kb_O V o9 ov :: kb_tl V S (kb_WM V d μ [])) hl e6)) wh_L_begin wk_L_53 wi_L_begin wz_L rfl rfl hd_L_begin ⟨Nat.le_trans (by decide) hRf, Nat.le_trans (by decide) hRl⟩ rfl (Nat.le_of_ble_eq_true rfl) (by omega) dL_law_125 ?_
      refine kj_widen (k2 := k + 5) (n2 := n + 9446) (by omega) (by omega) ?_
      refine kj_istore (pc := 128) C [1, 2, 3, 4, 5, 0] (L2 := [(0, .ref bs), (1, .ref (a 0)), (2, .ref (d 0)), (3, .ref o9), (4, .int ii), (5, .int (1 : Int32))]) dL_law_128 (by decide) rfl ?_
      refine kj_aload_n (pc := 130) C 2 dL_law_130 rfl rfl ?_
      refine kj_aload_n (pc := 131) C 0 dL_law_131 rfl rfl ?_
      refine kj_iload (pc := 132) C 4 dL_law_132 rfl ?_
      refine kj_iconst (pc := 134) (v := (1 : Int32)) C dL_law_134 (by decide) ?_
      refine kj_iadd (pc := 135) C dL_law_135 ?_
      refine kj_scr (pc := 136) C hX hbl hbA h1 dL_law_136 rfl ?_
      refine kj_aload_n (pc := 137) C 0 dL_law_137 rfl rfl ?_
      refine kj_iload (pc := 138) C 4 dL_law_138 rfl ?_
      refine kj_iconst (pc := 140) (v := (2 : Int32)) C dL_law_140 (by decide) ?_
      refine kj_iadd (pc := 141) C dL_law_141 ?_
      refine kj_scr (pc := 142) C hX hbl hbA h2 dL_law_142 rfl ?_
      refine kj_if_eq (pc := 143) 150 C dL_law_143 (by decide) (fun _ => ?_) (fun c9 => absurd (hz) c9)
      refine kj_iconst (pc := 150) (v := (0 : Int32)) C dL_law_150 (by decide) ?_
      refine kj_perm kb_pLM ?_
      refine kj_callV0 (pc := 151) (ws2 := (kb_LM V a d o9 σ S ov μ2)) (as := [.int (xs (ii + (1 : Int32)).toNatClampNeg), .int (0 : Int32)]) (rest := []) (b := d 0) C (ct_X9_begin l V A ((xs (ii + (1 : Int32)).toNatClampNeg)) ((0 : Int32)) d μ (kb_W V a σ (kb_sh S) (kb_O V o9 ov :: kb_tl V S [])) e2) wd_X9_begin wk_L_58 wi_X9_begin ws_X9_begin wz_X9 rfl rfl hd_X9_begin ⟨Nat.le_trans (by decide) hRf, Nat.le_trans (by decide) hRl⟩ 0 rfl rfl rfl rfl (Nat.le_of_ble_eq_true rfl) (by omega) dL_law_151 ?_
      refine kj_perm kb_pLM.symm ?_
      refine kj_aload_n (pc := 154) C 2 dL_law_154 rfl rfl ?_
      refine kj_perm kb_pLM ?_
      refine kj_callV0 (pc := 155) (ws2 := (kb_LM V a d o9 σ S ov μ2)) (as := []) (rest := []) (b := d 0) C (ct_X9_thrown l V A  d μ2 (kb_W V a σ (kb_sh S) (kb_O V o9 ov :: kb_tl V S [])) e5) wd_X9_thrown wk_L_59 wi_X9_thrown ws_X9_thrown wz_X9 rfl rfl hd_X9_thrown ⟨Nat.le_trans (by decide) hRf, Nat.le_trans (by decide) hRl⟩ 0 rfl rfl rfl rfl (Nat.le_of_ble_eq_true rfl) (by omega) dL_law_155 ?_
      refine kj_perm kb_pLM.symm ?_
      refine kj_iload (pc := 158) C 5 dL_law_158 rfl ?_
      refine kj_icmp_eq (pc := 160) 165 C dL_law_160 (by decide) (fun _ => ?_) (fun c9 => absurd (rfl) c9)
      refine kj_goto (pc := 165) 803 C dL_law_165 (by decide) ?_
      refine kj_sub [0, 1, 2, 3, 4] (L2 := [(0, .ref bs), (1, .ref (a 0)), (2, .ref (d 0)), (3, .ref o9), (4, .int ii)]) rfl ?_
      exact K σ S ov μ2 e3
    · rcases e9 with ⟨e10, e3⟩ | ⟨τ, τ2, e10, e11, e3⟩
      · cases kb_ml e10
        refine kj_aload_n (pc := 104) C 1 dL_law_104 rfl rfl ?_
        refine kj_aload_n (pc := 105) C 0 dL_law_105 rfl rfl ?_
        refine kj_iload (pc := 106) C 4 dL_law_106 rfl ?_
        refine kj_iconst (pc := 108) (v := (1 : Int32)) C dL_law_108 (by decide) ?_
        refine kj_iadd (pc := 109) C dL_law_109 ?_
        refine kj_scr (pc := 110) C hX hbl hbA h1 dL_law_110 rfl ?_
        refine kj_aload_n (pc := 111) C 0 dL_law_111 rfl rfl ?_
        refine kj_iload (pc := 112) C 4 dL_law_112 rfl ?_
        refine kj_iconst (pc := 114) (v := (2 : Int32)) C dL_law_114 (by decide) ?_
        refine kj_iadd (pc := 115) C dL_law_115 ?_
        refine kj_scr (pc := 116) C hX hbl hbA h2 dL_law_116 rfl ?_
        refine kj_if_eq (pc := 117) 124 C dL_law_117 (by decide) (fun _ => ?_) (fun c9 => absurd (hz) c9)
        refine kj_iconst (pc := 124) (v := (0 : Int32)) C dL_law_124 (by decide) ?_
        refine kj_callH (pc := 125) (ws2 := (kb_LW V a d o9 σ2 none ov μ)) (as := [.ref (a 0), .int (xs (ii + (1 : Int32)).toNatClampNeg), .int (0 : Int32)]) (rest := []) C (cn_L_begin l V A (xs (ii + (1 : Int32)).toNatClampNeg) (0 : Int32) a σ .null (kb_O V o9 ov :: kb_WM V d μ []) σ2 .null (kb_O V o9 ov :: kb_WM V d μ []) rfl rfl (ct_X8_begin0 l V A (xs (ii + (1 : Int32)).toNatClampNeg) (0 : Int32) a σ (kb_O V o9 ov :: kb_WM V d μ []) e6 e7 e8)) wh_L_begin wk_L_53 wi_L_begin wz_L rfl rfl hd_L_begin ⟨Nat.le_trans (by decide) hRf, Nat.le_trans (by decide) hRl⟩ rfl (Nat.le_of_ble_eq_true rfl) (by omega) dL_law_125 ?_
        refine kj_widen (k2 := k + 5) (n2 := n + 9446) (by omega) (by omega) ?_
        refine kj_istore (pc := 128) C [1, 2, 3, 4, 5, 0] (L2 := [(0, .ref bs), (1, .ref (a 0)), (2, .ref (d 0)), (3, .ref o9), (4, .int ii), (5, .int (0 : Int32))]) dL_law_128 (by decide) rfl ?_
        refine kj_aload_n (pc := 130) C 2 dL_law_130 rfl rfl ?_
        refine kj_aload_n (pc := 131) C 0 dL_law_131 rfl rfl ?_
        refine kj_iload (pc := 132) C 4 dL_law_132 rfl ?_
        refine kj_iconst (pc := 134) (v := (1 : Int32)) C dL_law_134 (by decide) ?_
        refine kj_iadd (pc := 135) C dL_law_135 ?_
        refine kj_scr (pc := 136) C hX hbl hbA h1 dL_law_136 rfl ?_
        refine kj_aload_n (pc := 137) C 0 dL_law_137 rfl rfl ?_
        refine kj_iload (pc := 138) C 4 dL_law_138 rfl ?_
        refine kj_iconst (pc := 140) (v := (2 : Int32)) C dL_law_140 (by decide) ?_
        refine kj_iadd (pc := 141) C dL_law_141 ?_
        refine kj_scr (pc := 142) C hX hbl hbA h2 dL_law_142 rfl ?_
        refine kj_if_eq (pc := 143) 150 C dL_law_143 (by decide) (fun _ => ?_) (fun c9 => absurd (hz) c9)
        refine kj_iconst (pc := 150) (v := (0 : Int32)) C dL_law_150 (by decide) ?_
        refine kj_perm kb_pLM ?_
        refine kj_callV0 (pc := 151) (ws2 := (kb_LM V a d o9 σ2 none ov μ2)) (as := [.int (xs (ii + (1 : Int32)).toNatClampNeg), .int (0 : Int32)]) (rest := []) (b := d 0) C (ct_X9_begin l V A ((xs (ii + (1 : Int32)).toNatClampNeg)) ((0 : Int32)) d μ (kb_W V a σ2 (kb_sh none) (kb_O V o9 ov :: kb_tl V none [])) e2) wd_X9_begin wk_L_58 wi_X9_begin ws_X9_begin wz_X9 rfl rfl hd_X9_begin ⟨Nat.le_trans (by decide) hRf, Nat.le_trans (by decide) hRl⟩ 0 rfl rfl rfl rfl (Nat.le_of_ble_eq_true rfl) (by omega) dL_law_151 ?_
        refine kj_perm kb_pLM.symm ?_
        refine kj_aload_n (pc := 154) C 2 dL_law_154 rfl rfl ?_
        refine kj_perm kb_pLM ?_
        refine kj_callV0 (pc := 155) (ws2 := (kb_LM V a d o9 σ2 none ov μ2)) (as := []) (rest := []) (b := d 0) C (ct_X9_thrown l V A  d μ2 (kb_W V a σ2 (kb_sh none) (kb_O V o9 ov :: kb_tl V none [])) e5) wd_X9_thrown wk_L_59 wi_X9_thrown ws_X9_thrown wz_X9 rfl rfl hd_X9_thrown ⟨Nat.le_trans (by decide) hRf, Nat.le_trans (by decide) hRl⟩ 0 rfl rfl rfl rfl (Nat.le_of_ble_eq_true rfl) (by omega) dL_law_155 ?_
        refine kj_perm kb_pLM.symm ?_
        refine kj_iload (pc := 158) C 5 dL_law_158 rfl ?_
        refine kj_icmp_eq (pc := 160) 165 C dL_law_160 (by decide) (fun _ => ?_) (fun c9 => absurd (rfl) c9)
        refine kj_goto (pc := 165) 803 C dL_law_165 (by decide) ?_
        refine kj_sub [0, 1, 2, 3, 4] (L2 := [(0, .ref bs), (1, .ref (a 0)), (2, .ref (d 0)), (3, .ref o9), (4, .int ii)]) rfl ?_
        exact K σ2 none ov μ2 e3
      · obtain ⟨b, rfl⟩ := kb_ms e10
        refine kj_aload_n (pc := 104) C 1 dL_law_104 rfl rfl ?_
        refine kj_aload_n (pc := 105) C 0 dL_law_105 rfl rfl ?_
        refine kj_iload (pc := 106) C 4 dL_law_106 rfl ?_
        refine kj_iconst (pc := 108) (v := (1 : Int32)) C dL_law_108 (by decide) ?_
        refine kj_iadd (pc := 109) C dL_law_109 ?_
        refine kj_scr (pc := 110) C hX hbl hbA h1 dL_law_110 rfl ?_
        refine kj_aload_n (pc := 111) C 0 dL_law_111 rfl rfl ?_
        refine kj_iload (pc := 112) C 4 dL_law_112 rfl ?_
        refine kj_iconst (pc := 114) (v := (2 : Int32)) C dL_law_114 (by decide) ?_
        refine kj_iadd (pc := 115) C dL_law_115 ?_
        refine kj_scr (pc := 116) C hX hbl hbA h2 dL_law_116 rfl ?_
        refine kj_if_eq (pc := 117) 124 C dL_law_117 (by decide) (fun _ => ?_) (fun c9 => absurd (hz) c9)
        refine kj_iconst (pc := 124) (v := (0 : Int32)) C dL_law_124 (by decide) ?_
        refine kj_callH (pc := 125) (ws2 := (kb_LW V a d o9 σ2 (some (b, τ2)) ov μ)) (as := [.ref (a 0), .int (xs (ii + (1 : Int32)).toNatClampNeg), .int (0 : Int32)]) (rest := []) C (cn_L_begin l V A (xs (ii + (1 : Int32)).toNatClampNeg) (0 : Int32) a σ (.ref (b 0)) (kb_O V o9 ov :: kb_WS V b τ (kb_WM V d μ [])) σ2 (.ref (b 0)) (kb_O V o9 ov :: kb_WS V b τ2 (kb_WM V d μ [])) rfl rfl (kb_Tperm2 kb_pOS kb_pOS.symm (ct_X8_begin1 l V A (xs (ii + (1 : Int32)).toNatClampNeg) (0 : Int32) a b σ τ (kb_O V o9 ov :: kb_WM V d μ []) e6 e7 e8 e11))) wh_L_begin wk_L_53 wi_L_begin wz_L rfl rfl hd_L_begin ⟨Nat.le_trans (by decide) hRf, Nat.le_trans (by decide) hRl⟩ rfl (Nat.le_of_ble_eq_true rfl) (by omega) dL_law_125 ?_
        refine kj_widen (k2 := k + 5) (n2 := n + 9446) (by omega) (by omega) ?_
        refine kj_istore (pc := 128) C [1, 2, 3, 4, 5, 0] (L2 := [(0, .ref bs), (1, .ref (a 0)), (2, .ref (d 0)), (3, .ref o9), (4, .int ii), (5, .int (0 : Int32))]) dL_law_128 (by decide) rfl ?_
        refine kj_aload_n (pc := 130) C 2 dL_law_130 rfl rfl ?_
        refine kj_aload_n (pc := 131) C 0 dL_law_131 rfl rfl ?_
        refine kj_iload (pc := 132) C 4 dL_law_132 rfl ?_
        refine kj_iconst (pc := 134) (v := (1 : Int32)) C dL_law_134 (by decide) ?_
        refine kj_iadd (pc := 135) C dL_law_135 ?_
        refine kj_scr (pc := 136) C hX hbl hbA h1 dL_law_136 rfl ?_
        refine kj_aload_n (pc := 137) C 0 dL_law_137 rfl rfl ?_
        refine kj_iload (pc := 138) C 4 dL_law_138 rfl ?_
        refine kj_iconst (pc := 140) (v := (2 : Int32)) C dL_law_140 (by decide) ?_
        refine kj_iadd (pc := 141) C dL_law_141 ?_
        refine kj_scr (pc := 142) C hX hbl hbA h2 dL_law_142 rfl ?_
        refine kj_if_eq (pc := 143) 150 C dL_law_143 (by decide) (fun _ => ?_) (fun c9 => absurd (hz) c9)
        refine kj_iconst (pc := 150) (v := (0 : Int32)) C dL_law_150 (by decide) ?_
        refine kj_perm kb_pLM ?_
        refine kj_callV0 (pc := 151) (ws2 := (kb_LM V a d o9 σ2 (some (b, τ2)) ov μ2)) (as := [.int (xs (ii + (1 : Int32)).toNatClampNeg), .int (0 : Int32)]) (rest := []) (b := d 0) C (ct_X9_begin l V A ((xs (ii + (1 : Int32)).toNatClampNeg)) ((0 : Int32)) d μ (kb_W V a σ2 (kb_sh (some (b, τ2))) (kb_O V o9 ov :: kb_tl V (some (b, τ2)) [])) e2) wd_X9_begin wk_L_58 wi_X9_begin ws_X9_begin wz_X9 rfl rfl hd_X9_begin ⟨Nat.le_trans (by decide) hRf, Nat.le_trans (by decide) hRl⟩ 0 rfl rfl rfl rfl (Nat.le_of_ble_eq_true rfl) (by omega) dL_law_151 ?_
        refine kj_perm kb_pLM.symm ?_
        refine kj_aload_n (pc := 154) C 2 dL_law_154 rfl rfl ?_
        refine kj_perm kb_pLM ?_
        refine kj_callV0 (pc := 155) (ws2 := (kb_LM V a d o9 σ2 (some (b, τ2)) ov μ2)) (as := []) (rest := []) (b := d 0) C (ct_X9_thrown l V A  d μ2 (kb_W V a σ2 (kb_sh (some (b, τ2))) (kb_O V o9 ov :: kb_tl V (some (b, τ2)) [])) e5) wd_X9_thrown wk_L_59 wi_X9_thrown ws_X9_thrown wz_X9 rfl rfl hd_X9_thrown ⟨Nat.le_trans (by decide) hRf, Nat.le_trans (by decide) hRl⟩ 0 rfl rfl rfl rfl (Nat.le_of_ble_eq_true rfl) (by omega) dL_law_155 ?_
        refine kj_perm kb_pLM.symm ?_
        refine kj_iload (pc := 158) C 5 dL_law_158 rfl ?_
        refine kj_icmp_eq (pc := 160) 165 C dL_law_160 (by decide) (fun _ => ?_) (fun c9 => absurd (rfl) c9)
        refine kj_goto (pc := 165) 803 C dL_law_165 (by decide) ?_
        refine kj_sub [0, 1, 2, 3, 4] (L2 := [(0, .ref bs), (1, .ref (a 0)), (2, .ref (d 0)), (3, .ref o9), (4, .int ii)]) rfl ?_
        exact K σ2 (some (b, τ2)) ov μ2 e3
  · obtain ⟨μ2, e2, e4⟩ := hO _ _ _ (xs (ii + (1 : Int32)).toNatClampNeg) (1 : Int32) hI (Or.inr rfl)
    rcases e4 with ⟨e6, e5, e3⟩ | ⟨e6, e7, e5, σ2, e8, e9⟩
    · refine kj_aload_n (pc := 104) C 1 dL_law_104 rfl rfl ?_
      refine kj_aload_n (pc := 105) C 0 dL_law_105 rfl rfl ?_
      refine kj_iload (pc := 106) C 4 dL_law_106 rfl ?_
      refine kj_iconst (pc := 108) (v := (1 : Int32)) C dL_law_108 (by decide) ?_
      refine kj_iadd (pc := 109) C dL_law_109 ?_
      refine kj_scr (pc := 110) C hX hbl hbA h1 dL_law_110 rfl ?_
      refine kj_aload_n (pc := 111) C 0 dL_law_111 rfl rfl ?_
      refine kj_iload (pc := 112) C 4 dL_law_112 rfl ?_
      refine kj_iconst (pc := 114) (v := (2 : Int32)) C dL_law_114 (by decide) ?_
      refine kj_iadd (pc := 115) C dL_law_115 ?_
      refine kj_scr (pc := 116) C hX hbl hbA h2 dL_law_116 rfl ?_
      refine kj_if_eq (pc := 117) 124 C dL_law_117 (by decide) (fun c9 => absurd c9 (hz)) (fun _ => ?_)
      refine kj_iconst (pc := 120) (v := (1 : Int32)) C dL_law_120 (by decide) ?_
      refine kj_goto (pc := 121) 125 C dL_law_121 (by decide) ?_
      refine kj_callH (pc := 125) (ws2 := (kb_LW V a d o9 σ S ov μ)) (as := [.ref (a 0), .int (xs (ii + (1 : Int32)).toNatClampNeg), .int (1 : Int32)]) (rest := []) C (cx_L_begin_1 l V A (xs (ii + (1 : Int32)).toNatClampNeg) (1 : Int32) a σ (kb_sh S) (kb_O V o9 ov :: kb_tl V S (kb_WM V d μ [])) σ rfl rfl (cx_X8_begin l V A (xs (ii + (1 : Int32)).toNatClampNeg) (1 : Int32) a σ (kb_sh S) (kb_O V o9 ov :: kb_tl V S (kb_WM V d μ [])) hl e6)) wh_L_begin wk_L_53 wi_L_begin wz_L rfl rfl hd_L_begin ⟨Nat.le_trans (by decide) hRf, Nat.le_trans (by decide) hRl⟩ rfl (Nat.le_of_ble_eq_true rfl) (by omega) dL_law_125 ?_
      refine kj_widen (k2 := k + 5) (n2 := n + 9446) (by omega) (by omega) ?_
      refine kj_istore (pc := 128) C [1, 2, 3, 4, 5, 0] (L2 := [(0, .ref bs), (1, .ref (a 0)), (2, .ref (d 0)), (3, .ref o9), (4, .int ii), (5, .int (1 : Int32))]) dL_law_128 (by decide) rfl ?_
      refine kj_aload_n (pc := 130) C 2 dL_law_130 rfl rfl ?_
      refine kj_aload_n (pc := 131) C 0 dL_law_131 rfl rfl ?_
      refine kj_iload (pc := 132) C 4 dL_law_132 rfl ?_
      refine kj_iconst (pc := 134) (v := (1 : Int32)) C dL_law_134 (by decide) ?_
      refine kj_iadd (pc := 135) C dL_law_135 ?_
      refine kj_scr (pc := 136) C hX hbl hbA h1 dL_law_136 rfl ?_
      refine kj_aload_n (pc := 137) C 0 dL_law_137 rfl rfl ?_
      refine kj_iload (pc := 138) C 4 dL_law_138 rfl ?_
      refine kj_iconst (pc := 140) (v := (2 : Int32)) C dL_law_140 (by decide) ?_
      refine kj_iadd (pc := 141) C dL_law_141 ?_
      refine kj_scr (pc := 142) C hX hbl hbA h2 dL_law_142 rfl ?_
      refine kj_if_eq (pc := 143) 150 C dL_law_143 (by decide) (fun c9 => absurd c9 (hz)) (fun _ => ?_)
      refine kj_iconst (pc := 146) (v := (1 : Int32)) C dL_law_146 (by decide) ?_
      refine kj_goto (pc := 147) 151 C dL_law_147 (by decide) ?_
      refine kj_perm kb_pLM ?_
      refine kj_callV0 (pc := 151) (ws2 := (kb_LM V a d o9 σ S ov μ2)) (as := [.int (xs (ii + (1 : Int32)).toNatClampNeg), .int (1 : Int32)]) (rest := []) (b := d 0) C (ct_X9_begin l V A ((xs (ii + (1 : Int32)).toNatClampNeg)) ((1 : Int32)) d μ (kb_W V a σ (kb_sh S) (kb_O V o9 ov :: kb_tl V S [])) e2) wd_X9_begin wk_L_58 wi_X9_begin ws_X9_begin wz_X9 rfl rfl hd_X9_begin ⟨Nat.le_trans (by decide) hRf, Nat.le_trans (by decide) hRl⟩ 0 rfl rfl rfl rfl (Nat.le_of_ble_eq_true rfl) (by omega) dL_law_151 ?_
      refine kj_perm kb_pLM.symm ?_
      refine kj_aload_n (pc := 154) C 2 dL_law_154 rfl rfl ?_
      refine kj_perm kb_pLM ?_
      refine kj_callV0 (pc := 155) (ws2 := (kb_LM V a d o9 σ S ov μ2)) (as := []) (rest := []) (b := d 0) C (ct_X9_thrown l V A  d μ2 (kb_W V a σ (kb_sh S) (kb_O V o9 ov :: kb_tl V S [])) e5) wd_X9_thrown wk_L_59 wi_X9_thrown ws_X9_thrown wz_X9 rfl rfl hd_X9_thrown ⟨Nat.le_trans (by decide) hRf, Nat.le_trans (by decide) hRl⟩ 0 rfl rfl rfl rfl (Nat.le_of_ble_eq_true rfl) (by omega) dL_law_155 ?_
      refine kj_perm kb_pLM.symm ?_
      refine kj_iload (pc := 158) C 5 dL_law_158 rfl ?_
      refine kj_icmp_eq (pc := 160) 165 C dL_law_160 (by decide) (fun _ => ?_) (fun c9 => absurd (rfl) c9)
      refine kj_goto (pc := 165) 803 C dL_law_165 (by decide) ?_
      refine kj_sub [0, 1, 2, 3, 4] (L2 := [(0, .ref bs), (1, .ref (a 0)), (2, .ref (d 0)), (3, .ref o9), (4, .int ii)]) rfl ?_
      exact K σ S ov μ2 e3
    · rcases e9 with ⟨e10, e3⟩ | ⟨τ, τ2, e10, e11, e3⟩
      · cases kb_ml e10
        refine kj_aload_n (pc := 104) C 1 dL_law_104 rfl rfl ?_
        refine kj_aload_n (pc := 105) C 0 dL_law_105 rfl rfl ?_
        refine kj_iload (pc := 106) C 4 dL_law_106 rfl ?_
        refine kj_iconst (pc := 108) (v := (1 : Int32)) C dL_law_108 (by decide) ?_
        refine kj_iadd (pc := 109) C dL_law_109 ?_
        refine kj_scr (pc := 110) C hX hbl hbA h1 dL_law_110 rfl ?_
        refine kj_aload_n (pc := 111) C 0 dL_law_111 rfl rfl ?_
        refine kj_iload (pc := 112) C 4 dL_law_112 rfl ?_
        refine kj_iconst (pc := 114) (v := (2 : Int32)) C dL_law_114 (by decide) ?_
        refine kj_iadd (pc := 115) C dL_law_115 ?_
        refine kj_scr (pc := 116) C hX hbl hbA h2 dL_law_116 rfl ?_
        refine kj_if_eq (pc := 117) 124 C dL_law_117 (by decide) (fun c9 => absurd c9 (hz)) (fun _ => ?_)
        refine kj_iconst (pc := 120) (v := (1 : Int32)) C dL_law_120 (by decide) ?_
        refine kj_goto (pc := 121) 125 C dL_law_121 (by decide) ?_
        refine kj_callH (pc := 125) (ws2 := (kb_LW V a d o9 σ2 none ov μ)) (as := [.ref (a 0), .int (xs (ii + (1 : Int32)).toNatClampNeg), .int (1 : Int32)]) (rest := []) C (cn_L_begin l V A (xs (ii + (1 : Int32)).toNatClampNeg) (1 : Int32) a σ .null (kb_O V o9 ov :: kb_WM V d μ []) σ2 .null (kb_O V o9 ov :: kb_WM V d μ []) rfl rfl (ct_X8_begin0 l V A (xs (ii + (1 : Int32)).toNatClampNeg) (1 : Int32) a σ (kb_O V o9 ov :: kb_WM V d μ []) e6 e7 e8)) wh_L_begin wk_L_53 wi_L_begin wz_L rfl rfl hd_L_begin ⟨Nat.le_trans (by decide) hRf, Nat.le_trans (by decide) hRl⟩ rfl (Nat.le_of_ble_eq_true rfl) (by omega) dL_law_125 ?_
        refine kj_widen (k2 := k + 5) (n2 := n + 9446) (by omega) (by omega) ?_
        refine kj_istore (pc := 128) C [1, 2, 3, 4, 5, 0] (L2 := [(0, .ref bs), (1, .ref (a 0)), (2, .ref (d 0)), (3, .ref o9), (4, .int ii), (5, .int (0 : Int32))]) dL_law_128 (by decide) rfl ?_
        refine kj_aload_n (pc := 130) C 2 dL_law_130 rfl rfl ?_
        refine kj_aload_n (pc := 131) C 0 dL_law_131 rfl rfl ?_
        refine kj_iload (pc := 132) C 4 dL_law_132 rfl ?_
        refine kj_iconst (pc := 134) (v := (1 : Int32)) C dL_law_134 (by decide) ?_
        refine kj_iadd (pc := 135) C dL_law_135 ?_
        refine kj_scr (pc := 136) C hX hbl hbA h1 dL_law_136 rfl ?_
        refine kj_aload_n (pc := 137) C 0 dL_law_137 rfl rfl ?_
        refine kj_iload (pc := 138) C 4 dL_law_138 rfl ?_
        refine kj_iconst (pc := 140) (v := (2 : Int32)) C dL_law_140 (by decide) ?_
        refine kj_iadd (pc := 141) C dL_law_141 ?_
        refine kj_scr (pc := 142) C hX hbl hbA h2 dL_law_142 rfl ?_
        refine kj_if_eq (pc := 143) 150 C dL_law_143 (by decide) (fun c9 => absurd c9 (hz)) (fun _ => ?_)
        refine kj_iconst (pc := 146) (v := (1 : Int32)) C dL_law_146 (by decide) ?_
        refine kj_goto (pc := 147) 151 C dL_law_147 (by decide) ?_
        refine kj_perm kb_pLM ?_
        refine kj_callV0 (pc := 151) (ws2 := (kb_LM V a d o9 σ2 none ov μ2)) (as := [.int (xs (ii + (1 : Int32)).toNatClampNeg), .int (1 : Int32)]) (rest := []) (b := d 0) C (ct_X9_begin l V A ((xs (ii + (1 : Int32)).toNatClampNeg)) ((1 : Int32)) d μ (kb_W V a σ2 (kb_sh none) (kb_O V o9 ov :: kb_tl V none [])) e2) wd_X9_begin wk_L_58 wi_X9_begin ws_X9_begin wz_X9 rfl rfl hd_X9_begin ⟨Nat.le_trans (by decide) hRf, Nat.le_trans (by decide) hRl⟩ 0 rfl rfl rfl rfl (Nat.le_of_ble_eq_true rfl) (by omega) dL_law_151 ?_
        refine kj_perm kb_pLM.symm ?_
        refine kj_aload_n (pc := 154) C 2 dL_law_154 rfl rfl ?_
        refine kj_perm kb_pLM ?_
        refine kj_callV0 (pc := 155) (ws2 := (kb_LM V a d o9 σ2 none ov μ2)) (as := []) (rest := []) (b := d 0) C (ct_X9_thrown l V A  d μ2 (kb_W V a σ2 (kb_sh none) (kb_O V o9 ov :: kb_tl V none [])) e5) wd_X9_thrown wk_L_59 wi_X9_thrown ws_X9_thrown wz_X9 rfl rfl hd_X9_thrown ⟨Nat.le_trans (by decide) hRf, Nat.le_trans (by decide) hRl⟩ 0 rfl rfl rfl rfl (Nat.le_of_ble_eq_true rfl) (by omega) dL_law_155 ?_
        refine kj_perm kb_pLM.symm ?_
        refine kj_iload (pc := 158) C 5 dL_law_158 rfl ?_
        refine kj_icmp_eq (pc := 160) 165 C dL_law_160 (by decide) (fun _ => ?_) (fun c9 => absurd (rfl) c9)
        refine kj_goto (pc := 165) 803 C dL_law_165 (by decide) ?_
        refine kj_sub [0, 1, 2, 3, 4] (L2 := [(0, .ref bs), (1, .ref (a 0)), (2, .ref (d 0)), (3, .ref o9), (4, .int ii)]) rfl ?_
        exact K σ2 none ov μ2 e3
      · obtain ⟨b, rfl⟩ := kb_ms e10
        refine kj_aload_n (pc := 104) C 1 dL_law_104 rfl rfl ?_
        refine kj_aload_n (pc := 105) C 0 dL_law_105 rfl rfl ?_
        refine kj_iload (pc := 106) C 4 dL_law_106 rfl ?_
        refine kj_iconst (pc := 108) (v := (1 : Int32)) C dL_law_108 (by decide) ?_
        refine kj_iadd (pc := 109) C dL_law_109 ?_
        refine kj_scr (pc := 110) C hX hbl hbA h1 dL_law_110 rfl ?_
        refine kj_aload_n (pc := 111) C 0 dL_law_111 rfl rfl ?_
        refine kj_iload (pc := 112) C 4 dL_law_112 rfl ?_
        refine kj_iconst (pc := 114) (v := (2 : Int32)) C dL_law_114 (by decide) ?_
        refine kj_iadd (pc := 115) C dL_law_115 ?_
        refine kj_scr (pc := 116) C hX hbl hbA h2 dL_law_116 rfl ?_
        refine kj_if_eq (pc := 117) 124 C dL_law_117 (by decide) (fun c9 => absurd c9 (hz)) (fun _ => ?_)
        refine kj_iconst (pc := 120) (v := (1 : Int32)) C dL_law_120 (by decide) ?_
        refine kj_goto (pc := 121) 125 C dL_law_121 (by decide) ?_
        refine kj_callH (pc := 125) (ws2 := (kb_LW V a d o9 σ2 (some (b, τ2)) ov μ)) (as := [.ref (a 0), .int (xs (ii + (1 : Int32)).toNatClampNeg), .int (1 : Int32)]) (rest := []) C (cn_L_begin l V A (xs (ii + (1 : Int32)).toNatClampNeg) (1 : Int32) a σ (.ref (b 0)) (kb_O V o9 ov :: kb_WS V b τ (kb_WM V d μ [])) σ2 (.ref (b 0)) (kb_O V o9 ov :: kb_WS V b τ2 (kb_WM V d μ [])) rfl rfl (kb_Tperm2 kb_pOS kb_pOS.symm (ct_X8_begin1 l V A (xs (ii + (1 : Int32)).toNatClampNeg) (1 : Int32) a b σ τ (kb_O V o9 ov :: kb_WM V d μ []) e6 e7 e8 e11))) wh_L_begin wk_L_53 wi_L_begin wz_L rfl rfl hd_L_begin ⟨Nat.le_trans (by decide) hRf, Nat.le_trans (by decide) hRl⟩ rfl (Nat.le_of_ble_eq_true rfl) (by omega) dL_law_125 ?_
        refine kj_widen (k2 := k + 5) (n2 := n + 9446) (by omega) (by omega) ?_
        refine kj_istore (pc := 128) C [1, 2, 3, 4, 5, 0] (L2 := [(0, .ref bs), (1, .ref (a 0)), (2, .ref (d 0)), (3, .ref o9), (4, .int ii), (5, .int (0 : Int32))]) dL_law_128 (by decide) rfl ?_
        refine kj_aload_n (pc := 130) C 2 dL_law_130 rfl rfl ?_
        refine kj_aload_n (pc := 131) C 0 dL_law_131 rfl rfl ?_
        refine kj_iload (pc := 132) C 4 dL_law_132 rfl ?_
        refine kj_iconst (pc := 134) (v := (1 : Int32)) C dL_law_134 (by decide) ?_
        refine kj_iadd (pc := 135) C dL_law_135 ?_
        refine kj_scr (pc := 136) C hX hbl hbA h1 dL_law_136 rfl ?_
        refine kj_aload_n (pc := 137) C 0 dL_law_137 rfl rfl ?_
        refine kj_iload (pc := 138) C 4 dL_law_138 rfl ?_
        refine kj_iconst (pc := 140) (v := (2 : Int32)) C dL_law_140 (by decide) ?_
        refine kj_iadd (pc := 141) C dL_law_141 ?_
        refine kj_scr (pc := 142) C hX hbl hbA h2 dL_law_142 rfl ?_
        refine kj_if_eq (pc := 143) 150 C dL_law_143 (by decide) (fun c9 => absurd c9 (hz)) (fun _ => ?_)
        refine kj_iconst (pc := 146) (v := (1 : Int32)) C dL_law_146 (by decide) ?_
        refine kj_goto (pc := 147) 151 C dL_law_147 (by decide) ?_
        refine kj_perm kb_pLM ?_
        refine kj_callV0 (pc := 151) (ws2 := (kb_LM V a d o9 σ2 (some (b, τ2)) ov μ2)) (as := [.int (xs (ii + (1 : Int32)).toNatClampNeg), .int (1 : Int32)]) (rest := []) (b := d 0) C (ct_X9_begin l V A ((xs (ii + (1 : Int32)).toNatClampNeg)) ((1 : Int32)) d μ (kb_W V a σ2 (kb_sh (some (b, τ2))) (kb_O V o9 ov :: kb_tl V (some (b, τ2)) [])) e2) wd_X9_begin wk_L_58 wi_X9_begin ws_X9_begin wz_X9 rfl rfl hd_X9_begin ⟨Nat.le_trans (by decide) hRf, Nat.le_trans (by decide) hRl⟩ 0 rfl rfl rfl rfl (Nat.le_of_ble_eq_true rfl) (by omega) dL_law_151 ?_
        refine kj_perm kb_pLM.symm ?_
        refine kj_aload_n (pc := 154) C 2 dL_law_154 rfl rfl ?_
        refine kj_perm kb_pLM ?_
        refine kj_callV0 (pc := 155) (ws2 := (kb_LM V a d o9 σ2 (some (b, τ2)) ov μ2)) (as := []) (rest := []) (b := d 0) C (ct_X9_thrown l V A  d μ2 (kb_W V a σ2 (kb_sh (some (b, τ2))) (kb_O V o9 ov :: kb_tl V (some (b, τ2)) [])) e5) wd_X9_thrown wk_L_59 wi_X9_thrown ws_X9_thrown wz_X9 rfl rfl hd_X9_thrown ⟨Nat.le_trans (by decide) hRf, Nat.le_trans (by decide) hRl⟩ 0 rfl rfl rfl rfl (Nat.le_of_ble_eq_true rfl) (by omega) dL_law_155 ?_
        refine kj_perm kb_pLM.symm ?_
        refine kj_iload (pc := 158) C 5 dL_law_158 rfl ?_
        refine kj_icmp_eq (pc := 160) 165 C dL_law_160 (by decide) (fun _ => ?_) (fun c9 => absurd (rfl) c9)
        refine kj_goto (pc := 165) 803 C dL_law_165 (by decide) ?_
        refine kj_sub [0, 1, 2, 3, 4] (L2 := [(0, .ref bs), (1, .ref (a 0)), (2, .ref (d 0)), (3, .ref o9), (4, .int ii)]) rfl ?_
        exact K σ2 (some (b, τ2)) ov μ2 e3
end KBO
