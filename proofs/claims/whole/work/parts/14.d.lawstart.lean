/-! the law from its first instruction on -/
theorem kb_p0 {V : kb_V} {a d : Nat → Nat} {o9 : Nat} {σ μ : kb_S} : (kb_O V o9 (fun _ => 0) :: kb_WM V d μ (kb_W V a σ .null [])).Perm (kb_LW V a d o9 σ none (fun _ => 0) μ) := List.perm_append_comm (l₁ := kb_O V o9 (fun _ => 0) :: kb_WM V d μ []) (l₂ := kb_W V a σ .null [])
def ok_init (I : kb_I) : Prop := ∃ σ μ, fn_X0_castOn (1 : Int32) (0 : Int32) kb_S0 = some σ ∧ fn_X9_castOn (1 : Int32) (0 : Int32) kb_S0 = some μ ∧ I σ none μ
section KBQ
variable {p : Program} {l : Launch} {e : Env} {s : State} {m : MethodId} {args : Array Value} {below : List Frame} {meth : Method} {c : Code} {Q : State → Prop} {w0 : Cond} {ret : Option FieldType} {V : kb_V} {A : Nat → Prop} {bs Ln : Nat} {xs : Nat → Int32} {I : kb_I}
set_option maxRecDepth 100000 in
set_option maxHeartbeats 8000000 in
theorem lo_start (C : kb_C p s m args meth c cL_law 7 RL w0 ret V A) (hX : va_X bs Ln xs s s.heap) (hbl : bs < s.heap.size) (hbA : ¬ A bs) (hl : l.stackTraces = false) (hL : Ln ≤ 2048) (hO : kb_OK I) (hI : ok_init I)
    (X : ∀ (a d : Nat → Nat) (o9 i : Nat) (σ : kb_S) (S : Option ((Nat → Nat) × kb_S)) (ov : Nat → Int64) (μ : kb_S), i ≤ 512 → kb_J p l e room_1 s m args below meth c 7 V A (60 + 5 * i) (120000 + 9446 * i) Q 809 [(0, .ref bs), (1, .ref (a 0)), (2, .ref (d 0)), (3, .ref o9), (4, .int (nI (4 * i)))] [] (kb_LW V a d o9 σ S ov μ)) :
    kb_J p l e room_1 s m args below meth c 7 V A 0 0 Q 0 [(0, .ref bs)] [] [] := by
  obtain ⟨σ, μ, hσ, hμ, hI⟩ := hI
  refine kj_new (pc := 0) (fs := [.null, .null, .null, .null, .null]) (ci := 6) C hi_X8 tyX8 tyX8_ok wq_L_8 wn_X8 wz_X8 rfl (by decide) (by decide) dL_law_0 (fun q8 => ?_)
  refine kj_dup (pc := 3) C dL_law_3 rfl ?_
  refine kj_callI (pc := 4) (as := []) (rest := [.ref q8]) (b := q8) C (ct_X8_init l V A q8 [] hσ) wd_X8_init wk_L_49 wi_X8_init wz_X8 rfl rfl rfl hd_X8_init ⟨by decide, by decide⟩ rfl (Nat.le_of_ble_eq_true rfl) (by decide) dL_law_4 (fun u => ?_)
  generalize ha : va_up u 0 q8 = a
  have ea : q8 = a 0 := by rw [← ha]; rfl
  rw [ea]
  refine kj_astore_n (pc := 7) C [1, 0] (L2 := [(0, .ref bs), (1, .ref (a 0))]) dL_law_7 rfl (by decide) rfl ?_
  refine kj_new (pc := 8) (fs := [.int 0, .int 0, .null, .int 0, .int 0, .null, .null, .null, .null, .null, .int 0, .null, .null, .null, .int 0, .int 0, .int 0, .int 0, .int 0, .null, .null, .null, .null, .int 0, .null, .int 0, .null, .null, .null, .null, .null, .null]) (ci := 7) C hi_X9 tyX9 tyX9_ok wq_L_50 wn_X9 wz_X9 rfl (by decide) (by decide) dL_law_8 (fun q9 => ?_)
  refine kj_dup (pc := 11) C dL_law_11 rfl ?_
  refine kj_callI (pc := 12) (as := []) (rest := [.ref q9]) (b := q9) C (ct_X9_init l V A q9 (kb_W V a σ .null []) hμ) wd_X9_init wk_L_52 wi_X9_init wz_X9 rfl rfl rfl hd_X9_init ⟨by decide, by decide⟩ rfl (Nat.le_of_ble_eq_true rfl) (by decide) dL_law_12 (fun v => ?_)
  generalize hd : va_up v 0 q9 = d
  have ed : q9 = d 0 := by rw [← hd]; rfl
  rw [ed]
  refine kj_astore_n (pc := 15) C [1, 2, 0] (L2 := [(0, .ref bs), (1, .ref (a 0)), (2, .ref (d 0))]) dL_law_15 rfl (by decide) rfl ?_
  refine kj_iconst (pc := 16) (v := 1) C dL_law_16 (by decide) ?_
  refine kj_newJ (pc := 17) (N := 1) C wr_long (by decide) (by decide) (by decide) (by decide) dL_law_17 (fun o9 => ?_)
  refine kj_astore_n (pc := 19) C [1, 2, 3, 0] (L2 := [(0, .ref bs), (1, .ref (a 0)), (2, .ref (d 0)), (3, .ref o9)]) dL_law_19 rfl (by decide) rfl ?_
  refine kj_iconst (pc := 20) (v := 0) C dL_law_20 (by decide) ?_
  refine kj_istore (pc := 21) C [1, 2, 3, 4, 0] (L2 := [(0, .ref bs), (1, .ref (a 0)), (2, .ref (d 0)), (3, .ref o9), (4, .int (nI (4 * 0)))]) dL_law_21 (by decide) rfl ?_
  refine kj_perm kb_p0 ?_
  refine kj_widen (k2 := 60 + 5 * 0) (n2 := 120000 + 9446 * 0) (by decide) (by decide) ?_
  exact lo_all C hX hbl hbA hl hL hO (X a d o9) 513 0 σ none (fun _ => 0) μ (by omega) (by omega) hI
end KBQ
