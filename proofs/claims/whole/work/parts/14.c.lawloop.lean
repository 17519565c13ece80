/-! the law's loop -/
def kb_OK (I : kb_I) : Prop := ok_begin I ∧ ok_feed I ∧ ok_work I ∧ ok_rows I ∧ ok_unravel I ∧ ok_live I ∧ ok_loop I ∧ ok_chart I ∧ ok_row I ∧ ok_shorten I ∧ ok_out I ∧ ok_ladder I ∧ ok_total I
theorem kb_i4 {i Ln : Nat} (hi : i ≤ 512) (hL : Ln ≤ 2048) : (Int32.ofNat Ln - 4 < nI (4 * i)) ↔ Ln < 4 * i + 4 := by
  have e1 : (Int32.ofNat Ln - 4).toInt = (Ln : Int) - 4 := pk_sub_toInt (a := Ln) (b := 4) (by omega) (by omega)
  have e2 : (nI (4 * i)).toInt = ((4 * i : Nat) : Int) := nI_toInt (by omega)
  rw [Int32.lt_iff_toInt_lt, e1, e2]
  omega
theorem kb_in4 {i Ln j : Nat} (hj : j < 4) (hL : Ln ≤ 2048) (h : ¬ Ln < 4 * i + 4) : vp_in (nI (4 * i) + nI j) Ln := by
  rw [nI_add]
  exact vp_in_nI (by omega) (by omega)
section KBP
variable {p : Program} {l : Launch} {e : Env} {s : State} {m : MethodId} {args : Array Value} {below : List Frame} {meth : Method} {c : Code} {Q : State → Prop} {w0 : Cond} {ret : Option FieldType} {V : kb_V} {A : Nat → Prop} {bs Ln : Nat} {xs : Nat → Int32} {a d : Nat → Nat} {o9 : Nat} {I : kb_I}
set_option maxRecDepth 100000 in
set_option maxHeartbeats 8000000 in
theorem lo_all (C : kb_C p s m args meth c cL_law 7 RL w0 ret V A) (hX : va_X bs Ln xs s s.heap) (hbl : bs < s.heap.size) (hbA : ¬ A bs) (hl : l.stackTraces = false) (hL : Ln ≤ 2048) (hO : kb_OK I)
    (X : ∀ i σ S ov μ, i ≤ 512 → kb_J p l e room_1 s m args below meth c 7 V A (60 + 5 * i) (120000 + 9446 * i) Q 809 [(0, .ref bs), (1, .ref (a 0)), (2, .ref (d 0)), (3, .ref o9), (4, .int (nI (4 * i)))] [] (kb_LW V a d o9 σ S ov μ)) : ∀ (f i : Nat) (σ : kb_S) (S : Option ((Nat → Nat) × kb_S)) (ov : Nat → Int64) (μ : kb_S), i ≤ 512 → 512 - i < f → I σ (S.map (fun q => q.2)) μ → kb_J p l e room_1 s m args below meth c 7 V A (60 + 5 * i) (120000 + 9446 * i) Q 23 [(0, .ref bs), (1, .ref (a 0)), (2, .ref (d 0)), (3, .ref o9), (4, .int (nI (4 * i)))] [] (kb_LW V a d o9 σ S ov μ) := by
  intro f
  induction f with
  | zero => intro i σ S ov μ hi hf; omega
  | succ f ih =>
    intro i σ S ov μ hi hf hI
    refine kj_iload (pc := 23) C 4 dL_law_23 rfl ?_
    refine kj_aload_n (pc := 25) C 0 dL_law_25 rfl rfl ?_
    refine kj_scl (pc := 26) C hX hbl hbA dL_law_26 ?_
    refine kj_iconst (pc := 27) (v := 4) C dL_law_27 (by decide) ?_
    refine kj_isub (pc := 28) C dL_law_28 ?_
    refine kj_icmp_gt (pc := 29) 809 C dL_law_29 (by decide) (fun _ => X i σ S ov μ hi) (fun c1 => ?_)
    have hn : ¬ Ln < 4 * i + 4 := fun h => c1 ((kb_i4 hi hL).mpr h)
    have h0 : vp_in (nI (4 * i)) Ln := vp_in_nI (by omega) (by omega)
    have h1 : vp_in (nI (4 * i) + (1 : Int32)) Ln := kb_in4 (j := 1) (by omega) hL hn
    have h2 : vp_in (nI (4 * i) + (2 : Int32)) Ln := kb_in4 (j := 2) (by omega) hL hn
    have h3 : vp_in (nI (4 * i) + (3 : Int32)) Ln := kb_in4 (j := 3) (by omega) hL hn
    have hRf : 60 ≤ room_1.frames := by decide
    have hRl : 2000 ≤ room_1.locals := by decide
    have hcs : 60 + 5 * i + 5 ≤ room_1.cells ∧ 120000 + 9446 * i + 9446 ≤ room_1.slots := by
      show 60 + 5 * i + 5 ≤ 601024 ∧ 120000 + 9446 * i + 9446 ≤ 7293034
      omega
    have K : ∀ σ2 S2 ov2 μ2, I σ2 (S2.map (fun q => q.2)) μ2 → kb_J p l e room_1 s m args below meth c 7 V A (60 + 5 * i + 5) (120000 + 9446 * i + 9446) Q 803 [(0, .ref bs), (1, .ref (a 0)), (2, .ref (d 0)), (3, .ref o9), (4, .int (nI (4 * i)))] [] (kb_LW V a d o9 σ2 S2 ov2 μ2) := by
      intro σ2 S2 ov2 μ2 hI2
      refine kj_iinc (pc := 803) C 4 [1, 2, 3, 4, 0] (L2 := [(0, .ref bs), (1, .ref (a 0)), (2, .ref (d 0)), (3, .ref o9), (4, .int (nI (4 * (i + 1))))]) dL_law_803 rfl (v := nI (4 * (i + 1))) (by show nI (4 * i) + nI 4 = _; rw [nI_add]; rfl) (by decide) rfl ?_
      refine kj_goto (pc := 806) 23 C dL_law_806 (by decide) ?_
      refine kj_widen (k2 := 60 + 5 * (i + 1)) (n2 := 120000 + 9446 * (i + 1)) (by omega) (by omega) ?_
      exact ih (i + 1) σ2 S2 ov2 μ2 (by omega) (by omega) hI2
    have K0 : kb_J p l e room_1 s m args below meth c 7 V A (60 + 5 * i) (120000 + 9446 * i) Q 803 [(0, .ref bs), (1, .ref (a 0)), (2, .ref (d 0)), (3, .ref o9), (4, .int (nI (4 * i)))] [] (kb_LW V a d o9 σ S ov μ) := kj_widen (k2 := 60 + 5 * i + 5) (n2 := 120000 + 9446 * i + 9446) (by omega) (by omega) (K σ S ov μ hI)
    refine kj_aload_n (pc := 32) C 0 dL_law_32 rfl rfl ?_
    refine kj_iload (pc := 33) C 4 dL_law_33 rfl ?_
    refine kj_scr (pc := 35) C hX hbl hbA h0 dL_law_35 rfl ?_
    refine kj_bipush (pc := 36) (v := 15) C dL_law_36 (by decide) ?_
    refine kj_iand (pc := 38) C dL_law_38 ?_
    generalize xs (nI (4 * i)).toNatClampNeg &&& 15 = t
    by_cases t0 : t = (0 : Int32)
    · refine kj_tabIn (pc := 39) 104 C dL_law_39 (by rw [t0]; decide) (by rw [t0]; decide) (by rw [t0]; rfl) (by decide) ?_
      exact lo_begin C hRf hRl hcs hX hbl hbA hl h1 h2 h3 hI hO.1 K
    by_cases t1 : t = (1 : Int32)
    · refine kj_tabIn (pc := 39) 168 C dL_law_39 (by rw [t1]; decide) (by rw [t1]; decide) (by rw [t1]; rfl) (by decide) ?_
      exact lo_feed C hRf hRl hcs hX hbl hbA hl h1 h2 h3 hI hO.2.1 K
    by_cases t2 : t = (2 : Int32)
    · refine kj_tabIn (pc := 39) 268 C dL_law_39 (by rw [t2]; decide) (by rw [t2]; decide) (by rw [t2]; rfl) (by decide) ?_
      exact lo_work C hRf hRl hcs hX hbl hbA hl h1 h2 h3 hI hO.2.2.1 K
    by_cases t3 : t = (3 : Int32)
    · refine kj_tabIn (pc := 39) 281 C dL_law_39 (by rw [t3]; decide) (by rw [t3]; decide) (by rw [t3]; rfl) (by decide) ?_
      exact lo_rows C hRf hRl hcs hX hbl hbA hl h1 h2 h3 hI hO.2.2.2.1 K
    by_cases t4 : t = (4 : Int32)
    · refine kj_tabIn (pc := 39) 294 C dL_law_39 (by rw [t4]; decide) (by rw [t4]; decide) (by rw [t4]; rfl) (by decide) ?_
      exact lo_unravel C hRf hRl hcs hX hbl hbA hl h1 h2 h3 hI hO.2.2.2.2.1 K
    by_cases t5 : t = (5 : Int32)
    · refine kj_tabIn (pc := 39) 350 C dL_law_39 (by rw [t5]; decide) (by rw [t5]; decide) (by rw [t5]; rfl) (by decide) ?_
      exact lo_live C hRf hRl hcs hX hbl hbA hl h1 h2 h3 hI hO.2.2.2.2.2.1 K
    by_cases t6 : t = (6 : Int32)
    · refine kj_tabIn (pc := 39) 375 C dL_law_39 (by rw [t6]; decide) (by rw [t6]; decide) (by rw [t6]; rfl) (by decide) ?_
      exact lo_loop C hRf hRl hcs hX hbl hbA hl h1 h2 h3 hI hO.2.2.2.2.2.2.1 K
    by_cases t7 : t = (7 : Int32)
    · refine kj_tabIn (pc := 39) 443 C dL_law_39 (by rw [t7]; decide) (by rw [t7]; decide) (by rw [t7]; rfl) (by decide) ?_
      exact lo_chart C hRf hRl hcs hX hbl hbA hl h1 h2 h3 hI hO.2.2.2.2.2.2.2.1 K
    by_cases t8 : t = (8 : Int32)
    · refine kj_tabIn (pc := 39) 511 C dL_law_39 (by rw [t8]; decide) (by rw [t8]; decide) (by rw [t8]; rfl) (by decide) ?_
      exact lo_row C hRf hRl hcs hX hbl hbA hl h1 h2 h3 hI hO.2.2.2.2.2.2.2.2.1 K
    by_cases t9 : t = (9 : Int32)
    · refine kj_tabIn (pc := 39) 579 C dL_law_39 (by rw [t9]; decide) (by rw [t9]; decide) (by rw [t9]; rfl) (by decide) ?_
      exact lo_shorten C hRf hRl hcs hX hbl hbA hl h1 h2 h3 hI hO.2.2.2.2.2.2.2.2.2.1 K
    by_cases t10 : t = (10 : Int32)
    · refine kj_tabIn (pc := 39) 635 C dL_law_39 (by rw [t10]; decide) (by rw [t10]; decide) (by rw [t10]; rfl) (by decide) ?_
      exact lo_out C hRf hRl hcs hX hbl hbA hl h1 h2 h3 hI hO.2.2.2.2.2.2.2.2.2.2.1 K
    by_cases t11 : t = (11 : Int32)
    · refine kj_tabIn (pc := 39) 691 C dL_law_39 (by rw [t11]; decide) (by rw [t11]; decide) (by rw [t11]; rfl) (by decide) ?_
      exact lo_ladder C hRf hRl hcs hX hbl hbA hl h1 h2 h3 hI hO.2.2.2.2.2.2.2.2.2.2.2.1 K
    by_cases t12 : t = (12 : Int32)
    · refine kj_tabIn (pc := 39) 747 C dL_law_39 (by rw [t12]; decide) (by rw [t12]; decide) (by rw [t12]; rfl) (by decide) ?_
      exact lo_total C hRf hRl hcs hX hbl hbA hl h1 h2 h3 hI hO.2.2.2.2.2.2.2.2.2.2.2.2 K
    refine kj_tabOut (pc := 39) 803 C dL_law_39 (kb_out (fun z z1 z2 => by
      have hz : z = 0 ∨ z = 1 ∨ z = 2 ∨ z = 3 ∨ z = 4 ∨ z = 5 ∨ z = 6 ∨ z = 7 ∨ z = 8 ∨ z = 9 ∨ z = 10 ∨ z = 11 ∨ z = 12 := by omega
      rcases hz with rfl | rfl | rfl | rfl | rfl | rfl | rfl | rfl | rfl | rfl | rfl | rfl | rfl
      · exact t0
      · exact t1
      · exact t2
      · exact t3
      · exact t4
      · exact t5
      · exact t6
      · exact t7
      · exact t8
      · exact t9
      · exact t10
      · exact t11
      · exact t12)) (by decide) ?_
    exact K0
end KBP
