/-! what holds where the law begins -/
abbrev kb_T0 : Jvm.Cond := Jvm.Cond.and given_1 narrow_1
theorem kb_aof {args : Array Value} {s : State} {ty : FieldType} (h : (Cond.arrayClass ty).before args s = true) : ∃ cA, ArrOfT s cA ty ∧ s.vm.findClass ("[" ++ ty.toString) = some cA := by
  obtain ⟨c, k, comp, h1, h2, h3⟩ := Cond.arrayClass_spec h
  exact ⟨c, fun n z => ⟨fun k h => (by cases h), k, h2, comp, h3⟩, h1⟩
theorem kb_zof {args : Array Value} {s : State} {C n : String} {N : Nat} {f : Nat → Int32} {A : Nat → Prop} (hN : N < 2 ^ 31) (hl : (Cond.laysStatic C n "[I").before args s = true) (hini : (Cond.initialized C).before args s = true) (har : (Cond.arrayOf (.static C n "[I") .int).before args s = true) (hle : (Cond.eq (.length (.static C n "[I")) (.int (Int32.ofNat N))).before args s = true)
    (hel : ∀ j : Nat, j < N → (Cond.eq (.elem (.static C n "[I") (.int (Int32.ofNat j))) (.int (f j))).before args s = true) (hA : ∀ a : Nat, a < s.heap.size → ¬ A a) : ∃ q, kb_z C n q N f A s s.heap := by
  obtain ⟨t, ht, hT⟩ := va_Tof (f := fun j => .int (f j)) (A := A) hN har (va_eqt hle) (fun j hj => va_eqt (hel j hj)) hA
  exact ⟨t, va_Zof hl hini ht hA, hT⟩
theorem kb_strof {args : Array Value} {s : State} {tm : Term} {i : Nat} {A : Nat → Prop} (hN : kb_sln i < 2 ^ 31) (hex : (Cond.exactly tm "java/lang/String").before args s = true) (hco : (Cond.eq (.field tm "java/lang/String" "coder" "B") (.int 0)).before args s = true) (har : (Cond.arrayOf (.field tm "java/lang/String" "value" "[B") .byte).before args s = true) (hle : (Cond.eq (.length (.field tm "java/lang/String" "value" "[B")) (.int (Int32.ofNat (kb_sln i)))).before args s = true)
    (hel : ∀ j : Nat, j < kb_sln i → (Cond.eq (.elem (.field tm "java/lang/String" "value" "[B") (.int (Int32.ofNat j))) (.int (kb_sch i j))).before args s = true) (hA : ∀ a : Nat, a < s.heap.size → ¬ A a) : ∃ q v, tm.eval args s none [] s = some (.ref q) ∧ kb_str i q v A s s.heap := by
  obtain ⟨a, c, cA, kA, q1, q2, q3, q4, q5, q6, -⟩ := Cond.exactly_spec (args := args) (first := s) (o := none) (s := s) (idx := []) (t := tm) (cls := "java/lang/String") hex
  obtain ⟨t, ht, hT⟩ := va_Tof (f := fun j => .int (kb_sch i j)) (A := A) hN har (va_eqt hle) (fun j hj => va_eqt (hel j hj)) hA
  exact ⟨a, t, q1, ⟨cA, q3, q5, by rw [q6]; exact q2, hA a (Array.getElem?_eq_some_iff.mp q3).1⟩, vk_OFof q1 (va_eqt hco) hA, vk_OFof q1 ht hA, hT⟩
theorem kb_exa {args : Array Value} {s : State} {tm : Term} (hex : (Cond.exactly tm "java/lang/String").before args s = true) : ∃ q, tm.eval args s none [] s = some (.ref q) := by
  obtain ⟨a, c, cA, kA, q1, -⟩ := Cond.exactly_spec (args := args) (first := s) (o := none) (s := s) (idx := []) (t := tm) (cls := "java/lang/String") hex
  exact ⟨a, q1⟩
theorem kb_eqs {args : Array Value} {s : State} {t1 t2 : Term} {q : Nat} (h : (Cond.eq t1 t2).before args s = true) (h1 : t1.eval args s none [] s = some (.ref q)) {q2 : Nat} (h2 : t2.eval args s none [] s = some (.ref q2)) : t2.eval args s none [] s = some (.ref q) := by
  have : q2 = q := by
    simpa [Cond.before, Cond.holds, Cond.value, h1, h2, eq_comm] using h
  rw [h2, this]

theorem kb_m31 : ∀ i, i < 19 → kb_sln i < 2 ^ 31 := by decide +kernel
theorem km_0 : Cond.exactly (.string "KnitBench$RowReader" 111) "java/lang/String" ∈ flatC kb_T0 ∧ Cond.eq (.field (.string "KnitBench$RowReader" 111) "java/lang/String" "coder" "B") (.int 0) ∈ flatC kb_T0 ∧ Cond.arrayOf (.field (.string "KnitBench$RowReader" 111) "java/lang/String" "value" "[B") .byte ∈ flatC kb_T0 ∧ Cond.eq (.length (.field (.string "KnitBench$RowReader" 111) "java/lang/String" "value" "[B")) (.int (Int32.ofNat (kb_sln 0))) ∈ flatC kb_T0 ∧ ∀ j : Nat, j < kb_sln 0 → Cond.eq (.elem (.field (.string "KnitBench$RowReader" 111) "java/lang/String" "value" "[B") (.int (Int32.ofNat j))) (.int (kb_sch 0 j)) ∈ flatC kb_T0 := by decide +kernel
theorem km_1 : Cond.exactly (.string "KnitBench$RowReader" 116) "java/lang/String" ∈ flatC kb_T0 ∧ Cond.eq (.field (.string "KnitBench$RowReader" 116) "java/lang/String" "coder" "B") (.int 0) ∈ flatC kb_T0 ∧ Cond.arrayOf (.field (.string "KnitBench$RowReader" 116) "java/lang/String" "value" "[B") .byte ∈ flatC kb_T0 ∧ Cond.eq (.length (.field (.string "KnitBench$RowReader" 116) "java/lang/String" "value" "[B")) (.int (Int32.ofNat (kb_sln 1))) ∈ flatC kb_T0 ∧ ∀ j : Nat, j < kb_sln 1 → Cond.eq (.elem (.field (.string "KnitBench$RowReader" 116) "java/lang/String" "value" "[B") (.int (Int32.ofNat j))) (.int (kb_sch 1 j)) ∈ flatC kb_T0 := by decide +kernel
theorem km_2 : Cond.exactly (.string "KnitBench$RowReader" 118) "java/lang/String" ∈ flatC kb_T0 ∧ Cond.eq (.field (.string "KnitBench$RowReader" 118) "java/lang/String" "coder" "B") (.int 0) ∈ flatC kb_T0 ∧ Cond.arrayOf (.field (.string "KnitBench$RowReader" 118) "java/lang/String" "value" "[B") .byte ∈ flatC kb_T0 ∧ Cond.eq (.length (.field (.string "KnitBench$RowReader" 118) "java/lang/String" "value" "[B")) (.int (Int32.ofNat (kb_sln 2))) ∈ flatC kb_T0 ∧ ∀ j : Nat, j < kb_sln 2 → Cond.eq (.elem (.field (.string "KnitBench$RowReader" 118) "java/lang/String" "value" "[B") (.int (Int32.ofNat j))) (.int (kb_sch 2 j)) ∈ flatC kb_T0 := by decide +kernel
theorem km_3 : Cond.exactly (.string "KnitBench$RowReader" 120) "java/lang/String" ∈ flatC kb_T0 ∧ Cond.eq (.field (.string "KnitBench$RowReader" 120) "java/lang/String" "coder" "B") (.int 0) ∈ flatC kb_T0 ∧ Cond.arrayOf (.field (.string "KnitBench$RowReader" 120) "java/lang/String" "value" "[B") .byte ∈ flatC kb_T0 ∧ Cond.eq (.length (.field (.string "KnitBench$RowReader" 120) "java/lang/String" "value" "[B")) (.int (Int32.ofNat (kb_sln 3))) ∈ flatC kb_T0 ∧ ∀ j : Nat, j < kb_sln 3 → Cond.eq (.elem (.field (.string "KnitBench$RowReader" 120) "java/lang/String" "value" "[B") (.int (Int32.ofNat j))) (.int (kb_sch 3 j)) ∈ flatC kb_T0 := by decide +kernel
theorem km_4 : Cond.exactly (.string "KnitBench$RowReader" 83) "java/lang/String" ∈ flatC kb_T0 ∧ Cond.eq (.field (.string "KnitBench$RowReader" 83) "java/lang/String" "coder" "B") (.int 0) ∈ flatC kb_T0 ∧ Cond.arrayOf (.field (.string "KnitBench$RowReader" 83) "java/lang/String" "value" "[B") .byte ∈ flatC kb_T0 ∧ Cond.eq (.length (.field (.string "KnitBench$RowReader" 83) "java/lang/String" "value" "[B")) (.int (Int32.ofNat (kb_sln 4))) ∈ flatC kb_T0 ∧ ∀ j : Nat, j < kb_sln 4 → Cond.eq (.elem (.field (.string "KnitBench$RowReader" 83) "java/lang/String" "value" "[B") (.int (Int32.ofNat j))) (.int (kb_sch 4 j)) ∈ flatC kb_T0 := by decide +kernel
theorem km_5 : Cond.exactly (.string "KnitBench$RowReader" 122) "java/lang/String" ∈ flatC kb_T0 ∧ Cond.eq (.field (.string "KnitBench$RowReader" 122) "java/lang/String" "coder" "B") (.int 0) ∈ flatC kb_T0 ∧ Cond.arrayOf (.field (.string "KnitBench$RowReader" 122) "java/lang/String" "value" "[B") .byte ∈ flatC kb_T0 ∧ Cond.eq (.length (.field (.string "KnitBench$RowReader" 122) "java/lang/String" "value" "[B")) (.int (Int32.ofNat (kb_sln 5))) ∈ flatC kb_T0 ∧ ∀ j : Nat, j < kb_sln 5 → Cond.eq (.elem (.field (.string "KnitBench$RowReader" 122) "java/lang/String" "value" "[B") (.int (Int32.ofNat j))) (.int (kb_sch 5 j)) ∈ flatC kb_T0 := by decide +kernel
theorem km_6 : Cond.exactly (.string "KnitBench$RowReader" 124) "java/lang/String" ∈ flatC kb_T0 ∧ Cond.eq (.field (.string "KnitBench$RowReader" 124) "java/lang/String" "coder" "B") (.int 0) ∈ flatC kb_T0 ∧ Cond.arrayOf (.field (.string "KnitBench$RowReader" 124) "java/lang/String" "value" "[B") .byte ∈ flatC kb_T0 ∧ Cond.eq (.length (.field (.string "KnitBench$RowReader" 124) "java/lang/String" "value" "[B")) (.int (Int32.ofNat (kb_sln 6))) ∈ flatC kb_T0 ∧ ∀ j : Nat, j < kb_sln 6 → Cond.eq (.elem (.field (.string "KnitBench$RowReader" 124) "java/lang/String" "value" "[B") (.int (Int32.ofNat j))) (.int (kb_sch 6 j)) ∈ flatC kb_T0 := by decide +kernel
theorem km_7 : Cond.exactly (.string "KnitBench$RowReader" 94) "java/lang/String" ∈ flatC kb_T0 ∧ Cond.eq (.field (.string "KnitBench$RowReader" 94) "java/lang/String" "coder" "B") (.int 0) ∈ flatC kb_T0 ∧ Cond.arrayOf (.field (.string "KnitBench$RowReader" 94) "java/lang/String" "value" "[B") .byte ∈ flatC kb_T0 ∧ Cond.eq (.length (.field (.string "KnitBench$RowReader" 94) "java/lang/String" "value" "[B")) (.int (Int32.ofNat (kb_sln 7))) ∈ flatC kb_T0 ∧ ∀ j : Nat, j < kb_sln 7 → Cond.eq (.elem (.field (.string "KnitBench$RowReader" 94) "java/lang/String" "value" "[B") (.int (Int32.ofNat j))) (.int (kb_sch 7 j)) ∈ flatC kb_T0 := by decide +kernel
theorem km_8 : Cond.exactly (.string "KnitBench$RowReader" 96) "java/lang/String" ∈ flatC kb_T0 ∧ Cond.eq (.field (.string "KnitBench$RowReader" 96) "java/lang/String" "coder" "B") (.int 0) ∈ flatC kb_T0 ∧ Cond.arrayOf (.field (.string "KnitBench$RowReader" 96) "java/lang/String" "value" "[B") .byte ∈ flatC kb_T0 ∧ Cond.eq (.length (.field (.string "KnitBench$RowReader" 96) "java/lang/String" "value" "[B")) (.int (Int32.ofNat (kb_sln 8))) ∈ flatC kb_T0 ∧ ∀ j : Nat, j < kb_sln 8 → Cond.eq (.elem (.field (.string "KnitBench$RowReader" 96) "java/lang/String" "value" "[B") (.int (Int32.ofNat j))) (.int (kb_sch 8 j)) ∈ flatC kb_T0 := by decide +kernel
theorem km_9 : Cond.exactly (.string "KnitBench$RowReader" 129) "java/lang/String" ∈ flatC kb_T0 ∧ Cond.eq (.field (.string "KnitBench$RowReader" 129) "java/lang/String" "coder" "B") (.int 0) ∈ flatC kb_T0 ∧ Cond.arrayOf (.field (.string "KnitBench$RowReader" 129) "java/lang/String" "value" "[B") .byte ∈ flatC kb_T0 ∧ Cond.eq (.length (.field (.string "KnitBench$RowReader" 129) "java/lang/String" "value" "[B")) (.int (Int32.ofNat (kb_sln 9))) ∈ flatC kb_T0 ∧ ∀ j : Nat, j < kb_sln 9 → Cond.eq (.elem (.field (.string "KnitBench$RowReader" 129) "java/lang/String" "value" "[B") (.int (Int32.ofNat j))) (.int (kb_sch 9 j)) ∈ flatC kb_T0 := by decide +kernel
theorem km_10 : Cond.exactly (.string "KnitBench$RowReader" 145) "java/lang/String" ∈ flatC kb_T0 ∧ Cond.eq (.field (.string "KnitBench$RowReader" 145) "java/lang/String" "coder" "B") (.int 0) ∈ flatC kb_T0 ∧ Cond.arrayOf (.field (.string "KnitBench$RowReader" 145) "java/lang/String" "value" "[B") .byte ∈ flatC kb_T0 ∧ Cond.eq (.length (.field (.string "KnitBench$RowReader" 145) "java/lang/String" "value" "[B")) (.int (Int32.ofNat (kb_sln 10))) ∈ flatC kb_T0 ∧ ∀ j : Nat, j < kb_sln 10 → Cond.eq (.elem (.field (.string "KnitBench$RowReader" 145) "java/lang/String" "value" "[B") (.int (Int32.ofNat j))) (.int (kb_sch 10 j)) ∈ flatC kb_T0 := by decide +kernel
theorem km_11 : Cond.exactly (.string "KnitBench$RowReader" 150) "java/lang/String" ∈ flatC kb_T0 ∧ Cond.eq (.field (.string "KnitBench$RowReader" 150) "java/lang/String" "coder" "B") (.int 0) ∈ flatC kb_T0 ∧ Cond.arrayOf (.field (.string "KnitBench$RowReader" 150) "java/lang/String" "value" "[B") .byte ∈ flatC kb_T0 ∧ Cond.eq (.length (.field (.string "KnitBench$RowReader" 150) "java/lang/String" "value" "[B")) (.int (Int32.ofNat (kb_sln 11))) ∈ flatC kb_T0 ∧ ∀ j : Nat, j < kb_sln 11 → Cond.eq (.elem (.field (.string "KnitBench$RowReader" 150) "java/lang/String" "value" "[B") (.int (Int32.ofNat j))) (.int (kb_sch 11 j)) ∈ flatC kb_T0 := by decide +kernel
theorem km_12 : Cond.exactly (.string "KnitBench$RowReader" 152) "java/lang/String" ∈ flatC kb_T0 ∧ Cond.eq (.field (.string "KnitBench$RowReader" 152) "java/lang/String" "coder" "B") (.int 0) ∈ flatC kb_T0 ∧ Cond.arrayOf (.field (.string "KnitBench$RowReader" 152) "java/lang/String" "value" "[B") .byte ∈ flatC kb_T0 ∧ Cond.eq (.length (.field (.string "KnitBench$RowReader" 152) "java/lang/String" "value" "[B")) (.int (Int32.ofNat (kb_sln 12))) ∈ flatC kb_T0 ∧ ∀ j : Nat, j < kb_sln 12 → Cond.eq (.elem (.field (.string "KnitBench$RowReader" 152) "java/lang/String" "value" "[B") (.int (Int32.ofNat j))) (.int (kb_sch 12 j)) ∈ flatC kb_T0 := by decide +kernel
theorem km_13 : Cond.exactly (.string "KnitBench$RowReader" 158) "java/lang/String" ∈ flatC kb_T0 ∧ Cond.eq (.field (.string "KnitBench$RowReader" 158) "java/lang/String" "coder" "B") (.int 0) ∈ flatC kb_T0 ∧ Cond.arrayOf (.field (.string "KnitBench$RowReader" 158) "java/lang/String" "value" "[B") .byte ∈ flatC kb_T0 ∧ Cond.eq (.length (.field (.string "KnitBench$RowReader" 158) "java/lang/String" "value" "[B")) (.int (Int32.ofNat (kb_sln 13))) ∈ flatC kb_T0 ∧ ∀ j : Nat, j < kb_sln 13 → Cond.eq (.elem (.field (.string "KnitBench$RowReader" 158) "java/lang/String" "value" "[B") (.int (Int32.ofNat j))) (.int (kb_sch 13 j)) ∈ flatC kb_T0 := by decide +kernel
theorem km_14 : Cond.exactly (.string "KnitBench$RowReader" 168) "java/lang/String" ∈ flatC kb_T0 ∧ Cond.eq (.field (.string "KnitBench$RowReader" 168) "java/lang/String" "coder" "B") (.int 0) ∈ flatC kb_T0 ∧ Cond.arrayOf (.field (.string "KnitBench$RowReader" 168) "java/lang/String" "value" "[B") .byte ∈ flatC kb_T0 ∧ Cond.eq (.length (.field (.string "KnitBench$RowReader" 168) "java/lang/String" "value" "[B")) (.int (Int32.ofNat (kb_sln 14))) ∈ flatC kb_T0 ∧ ∀ j : Nat, j < kb_sln 14 → Cond.eq (.elem (.field (.string "KnitBench$RowReader" 168) "java/lang/String" "value" "[B") (.int (Int32.ofNat j))) (.int (kb_sch 14 j)) ∈ flatC kb_T0 := by decide +kernel
theorem km_15 : Cond.exactly (.string "KnitBench$RowReader" 188) "java/lang/String" ∈ flatC kb_T0 ∧ Cond.eq (.field (.string "KnitBench$RowReader" 188) "java/lang/String" "coder" "B") (.int 0) ∈ flatC kb_T0 ∧ Cond.arrayOf (.field (.string "KnitBench$RowReader" 188) "java/lang/String" "value" "[B") .byte ∈ flatC kb_T0 ∧ Cond.eq (.length (.field (.string "KnitBench$RowReader" 188) "java/lang/String" "value" "[B")) (.int (Int32.ofNat (kb_sln 15))) ∈ flatC kb_T0 ∧ ∀ j : Nat, j < kb_sln 15 → Cond.eq (.elem (.field (.string "KnitBench$RowReader" 188) "java/lang/String" "value" "[B") (.int (Int32.ofNat j))) (.int (kb_sch 15 j)) ∈ flatC kb_T0 := by decide +kernel
theorem km_16 : Cond.exactly (.string "KnitBench$RowReader" 190) "java/lang/String" ∈ flatC kb_T0 ∧ Cond.eq (.field (.string "KnitBench$RowReader" 190) "java/lang/String" "coder" "B") (.int 0) ∈ flatC kb_T0 ∧ Cond.arrayOf (.field (.string "KnitBench$RowReader" 190) "java/lang/String" "value" "[B") .byte ∈ flatC kb_T0 ∧ Cond.eq (.length (.field (.string "KnitBench$RowReader" 190) "java/lang/String" "value" "[B")) (.int (Int32.ofNat (kb_sln 16))) ∈ flatC kb_T0 ∧ ∀ j : Nat, j < kb_sln 16 → Cond.eq (.elem (.field (.string "KnitBench$RowReader" 190) "java/lang/String" "value" "[B") (.int (Int32.ofNat j))) (.int (kb_sch 16 j)) ∈ flatC kb_T0 := by decide +kernel
theorem km_17 : Cond.exactly (.string "KnitBench$RowReader" 186) "java/lang/String" ∈ flatC kb_T0 ∧ Cond.eq (.field (.string "KnitBench$RowReader" 186) "java/lang/String" "coder" "B") (.int 0) ∈ flatC kb_T0 ∧ Cond.arrayOf (.field (.string "KnitBench$RowReader" 186) "java/lang/String" "value" "[B") .byte ∈ flatC kb_T0 ∧ Cond.eq (.length (.field (.string "KnitBench$RowReader" 186) "java/lang/String" "value" "[B")) (.int (Int32.ofNat (kb_sln 17))) ∈ flatC kb_T0 ∧ ∀ j : Nat, j < kb_sln 17 → Cond.eq (.elem (.field (.string "KnitBench$RowReader" 186) "java/lang/String" "value" "[B") (.int (Int32.ofNat j))) (.int (kb_sch 17 j)) ∈ flatC kb_T0 := by decide +kernel
theorem km_18 : Cond.exactly (.string "KnitBench$Stitch" 41) "java/lang/String" ∈ flatC kb_T0 ∧ Cond.eq (.field (.string "KnitBench$Stitch" 41) "java/lang/String" "coder" "B") (.int 0) ∈ flatC kb_T0 ∧ Cond.arrayOf (.field (.string "KnitBench$Stitch" 41) "java/lang/String" "value" "[B") .byte ∈ flatC kb_T0 ∧ Cond.eq (.length (.field (.string "KnitBench$Stitch" 41) "java/lang/String" "value" "[B")) (.int (Int32.ofNat (kb_sln 18))) ∈ flatC kb_T0 ∧ ∀ j : Nat, j < kb_sln 18 → Cond.eq (.elem (.field (.string "KnitBench$Stitch" 41) "java/lang/String" "value" "[B") (.int (Int32.ofNat j))) (.int (kb_sch 18 j)) ∈ flatC kb_T0 := by decide +kernel
theorem kt_0 : Cond.arrayOf (.static "KnitBench$Stitch" "TAKES" "[I") .int ∈ flatC kb_T0 ∧ Cond.eq (.length (.static "KnitBench$Stitch" "TAKES" "[I")) (.int (Int32.ofNat 10)) ∈ flatC kb_T0 ∧ ∀ j : Nat, j < 10 → Cond.eq (.elem (.static "KnitBench$Stitch" "TAKES" "[I") (.int (Int32.ofNat j))) (.int (kb_TAKES j)) ∈ flatC kb_T0 := by decide +kernel
theorem kt_1 : Cond.arrayOf (.static "KnitBench$Stitch" "MAKES" "[I") .int ∈ flatC kb_T0 ∧ Cond.eq (.length (.static "KnitBench$Stitch" "MAKES" "[I")) (.int (Int32.ofNat 10)) ∈ flatC kb_T0 ∧ ∀ j : Nat, j < 10 → Cond.eq (.elem (.static "KnitBench$Stitch" "MAKES" "[I") (.int (Int32.ofNat j))) (.int (kb_MAKES j)) ∈ flatC kb_T0 := by decide +kernel
theorem kt_2 : Cond.arrayOf (.static "KnitBench$Shortest" "OFFSETS" "[I") .int ∈ flatC kb_T0 ∧ Cond.eq (.length (.static "KnitBench$Shortest" "OFFSETS" "[I")) (.int (Int32.ofNat 4)) ∈ flatC kb_T0 ∧ ∀ j : Nat, j < 4 → Cond.eq (.elem (.static "KnitBench$Shortest" "OFFSETS" "[I") (.int (Int32.ofNat j))) (.int (kb_OFFS j)) ∈ flatC kb_T0 := by decide +kernel
theorem ke_3 : Cond.eq (.string "KnitBench$RowReader" 120) (.string "KnitBench$Stitch" 23) ∈ flatC kb_T0 ∧ Cond.exactly (.string "KnitBench$Stitch" 23) "java/lang/String" ∈ flatC kb_T0 := by decide +kernel
theorem ke_4 : Cond.eq (.string "KnitBench$RowReader" 83) (.string "KnitBench$Stitch" 25) ∈ flatC kb_T0 ∧ Cond.exactly (.string "KnitBench$Stitch" 25) "java/lang/String" ∈ flatC kb_T0 := by decide +kernel
theorem ke_6 : Cond.eq (.string "KnitBench$RowReader" 124) (.string "KnitBench$Stitch" 27) ∈ flatC kb_T0 ∧ Cond.exactly (.string "KnitBench$Stitch" 27) "java/lang/String" ∈ flatC kb_T0 := by decide +kernel
theorem ke_1 : Cond.eq (.string "KnitBench$RowReader" 116) (.string "KnitBench$Stitch" 29) ∈ flatC kb_T0 ∧ Cond.exactly (.string "KnitBench$Stitch" 29) "java/lang/String" ∈ flatC kb_T0 := by decide +kernel
theorem ke_5 : Cond.eq (.string "KnitBench$RowReader" 122) (.string "KnitBench$Stitch" 31) ∈ flatC kb_T0 ∧ Cond.exactly (.string "KnitBench$Stitch" 31) "java/lang/String" ∈ flatC kb_T0 := by decide +kernel
theorem ke_2 : Cond.eq (.string "KnitBench$RowReader" 118) (.string "KnitBench$Stitch" 33) ∈ flatC kb_T0 ∧ Cond.exactly (.string "KnitBench$Stitch" 33) "java/lang/String" ∈ flatC kb_T0 := by decide +kernel
theorem ke_0 : Cond.eq (.string "KnitBench$RowReader" 111) (.string "KnitBench$Stitch" 35) ∈ flatC kb_T0 ∧ Cond.exactly (.string "KnitBench$Stitch" 35) "java/lang/String" ∈ flatC kb_T0 := by decide +kernel
theorem ke_7 : Cond.eq (.string "KnitBench$RowReader" 94) (.string "KnitBench$Stitch" 37) ∈ flatC kb_T0 ∧ Cond.exactly (.string "KnitBench$Stitch" 37) "java/lang/String" ∈ flatC kb_T0 := by decide +kernel
theorem ke_8 : Cond.eq (.string "KnitBench$RowReader" 96) (.string "KnitBench$Stitch" 39) ∈ flatC kb_T0 ∧ Cond.exactly (.string "KnitBench$Stitch" 39) "java/lang/String" ∈ flatC kb_T0 := by decide +kernel
theorem kq_0 : Cond.exactly (.string "KnitBench" 50) "java/lang/String" ∈ flatC kb_T0 := by decide +kernel
theorem kq_1 : Cond.exactly (.string "KnitBench" 64) "java/lang/String" ∈ flatC kb_T0 := by decide +kernel
theorem kq_2 : Cond.exactly (.string "KnitBench" 72) "java/lang/String" ∈ flatC kb_T0 := by decide +kernel
theorem kq_3 : Cond.exactly (.string "KnitBench" 96) "java/lang/String" ∈ flatC kb_T0 := by decide +kernel
theorem kq_4 : Cond.exactly (.string "KnitBench" 108) "java/lang/String" ∈ flatC kb_T0 := by decide +kernel
theorem kq_5 : Cond.exactly (.string "KnitBench" 113) "java/lang/String" ∈ flatC kb_T0 := by decide +kernel
theorem kq_6 : Cond.exactly (.string "KnitBench" 169) "java/lang/String" ∈ flatC kb_T0 := by decide +kernel
theorem kq_7 : Cond.exactly (.string "KnitBench" 133) "java/lang/String" ∈ flatC kb_T0 := by decide +kernel
theorem kq_8 : Cond.exactly (.string "KnitBench" 153) "java/lang/String" ∈ flatC kb_T0 := by decide +kernel
theorem kq_9 : Cond.exactly (.string "KnitBench" 158) "java/lang/String" ∈ flatC kb_T0 := by decide +kernel
theorem kb_fl1 : Cond.eq (.static "java/lang/String" "COMPACT_STRINGS" "Z") (.int 1) ∈ flatC kb_T0 ∧ Cond.isRef (.static "jdk/internal/util/Preconditions" "SIOOBE_FORMATTER" "Ljava/util/function/BiFunction;") ∈ flatC kb_T0 ∧ Cond.isRef (.static Bundle.tN "UNASSIGNED_STACK" Bundle.steD) ∈ flatC kb_T0 ∧ Cond.isRef (.static Bundle.tN "SUPPRESSED_SENTINEL" Bundle.listD) ∈ flatC kb_T0 := by decide +kernel
theorem kb_fl2 : ∀ q ∈ kb_ncast, Cond.not (.castable q.1 q.2) ∈ flatC kb_T0 := by decide +kernel
theorem kb_fl3 : (∀ q ∈ kb_nest, Cond.methodLinkNest q.1 q.2.1 q.2.2.1 q.2.2.2 ∈ lw_tbl) ∧ (∀ q ∈ kb_decl, Cond.declares q ∈ lw_tbl) ∧ (∀ q ∈ kb_cast, Cond.castable q.1 q.2 ∈ lw_tbl) ∧ ∀ q ∈ kb_refs, Cond.stringRef q.1 q.2.1 q.2.2.1 ∈ lw_tbl := by decide +kernel
theorem kb_fl4 : Cond.laysStatic "KnitBench$Stitch" "TAKES" "[I" ∈ lw_tbl ∧ Cond.laysStatic "KnitBench$Stitch" "MAKES" "[I" ∈ lw_tbl ∧ Cond.laysStatic "KnitBench$Shortest" "OFFSETS" "[I" ∈ lw_tbl ∧ Cond.laysStatic "java/lang/String" "COMPACT_STRINGS" "Z" ∈ lw_tbl ∧ Cond.laysStatic "jdk/internal/util/Preconditions" "SIOOBE_FORMATTER" "Ljava/util/function/BiFunction;" ∈ lw_tbl ∧ Cond.laysStatic Bundle.tN "UNASSIGNED_STACK" Bundle.steD ∈ lw_tbl ∧ Cond.laysStatic Bundle.tN "SUPPRESSED_SENTINEL" Bundle.listD ∈ lw_tbl := by decide +kernel
theorem kb_fl5 : Cond.initialized "KnitBench$Stitch" ∈ lw_tbl ∧ Cond.initialized "KnitBench$Shortest" ∈ lw_tbl ∧ Cond.initialized "java/lang/String" ∈ lw_tbl ∧ Cond.initialized "jdk/internal/util/Preconditions" ∈ lw_tbl ∧ Cond.initialized Bundle.tN ∈ lw_tbl := by decide +kernel
set_option maxRecDepth 100000 in
set_option maxHeartbeats 8000000 in
/-- the launch's fixed things, and all that kb_E says of them -/
theorem kb_begin {args : Array Value} {s : State} {A : Nat → Prop} (hts : ∀ w ∈ lw_tbl, w.before args s = true) (hgv : kb_T0.before args s = true) (hA : ∀ a : Nat, a < s.heap.size → ¬ A a) : ∃ V : kb_V, kb_E V A s := by
  have hs := flat_of_before _ hgv
  have htb : ∀ w ∈ kb_TB, w.before args s = true := fun w h => hts w (List.mem_filter.mp h).1
  obtain ⟨c0, iS0, hK0⟩ := u_known (C := RX0) (T := TX0) (N := 13) (n := 13) htb hi_X0 (htb _ wn_X0)
  obtain ⟨c1, iS1, hK1⟩ := u_known (C := RX2) (T := TX2) (N := 5) (n := 5) htb hi_X2 (htb _ wn_X2)
  obtain ⟨c2, iS2, hK2⟩ := u_known (C := RX3) (T := TX3) (N := 6) (n := 6) htb hi_X3 (htb _ wn_X3)
  obtain ⟨c3, iS3, hK3⟩ := u_known (C := RX4) (T := TX4) (N := 9) (n := 9) htb hi_X4 (htb _ wn_X4)
  obtain ⟨c4, iS4, hK4⟩ := u_known (C := RX5) (T := TX5) (N := 6) (n := 6) htb hi_X5 (htb _ wn_X5)
  obtain ⟨c5, iS5, hK5⟩ := u_known (C := RX7) (T := TX7) (N := 2) (n := 2) htb hi_X7 (htb _ wn_X7)
  obtain ⟨c6, iS6, hK6⟩ := u_known (C := RX8) (T := TX8) (N := 5) (n := 5) htb hi_X8 (htb _ wn_X8)
  obtain ⟨c7, iS7, hK7⟩ := u_known (C := RX9) (T := TX9) (N := 32) (n := 32) htb hi_X9 (htb _ wn_X9)
  obtain ⟨g0, ga0, gb0⟩ := kb_aof (htb _ wr_int)
  obtain ⟨g1, ga1, gb1⟩ := kb_aof (htb _ wr_long)
  obtain ⟨g2, ga2, gb2⟩ := kb_aof (htb _ wr_boolean)
  obtain ⟨t0, ht0⟩ := kb_zof (C := "KnitBench$Stitch") (n := "TAKES") (N := 10) (f := kb_TAKES) (A := A) (by decide) (hts _ kb_fl4.1) (hts _ kb_fl5.1) (hs _ kt_0.1) (hs _ kt_0.2.1) (fun j hj => hs _ (kt_0.2.2 j hj)) hA
  obtain ⟨t1, ht1⟩ := kb_zof (C := "KnitBench$Stitch") (n := "MAKES") (N := 10) (f := kb_MAKES) (A := A) (by decide) (hts _ kb_fl4.2.1) (hts _ kb_fl5.1) (hs _ kt_1.1) (hs _ kt_1.2.1) (fun j hj => hs _ (kt_1.2.2 j hj)) hA
  obtain ⟨t2, ht2⟩ := kb_zof (C := "KnitBench$Shortest") (n := "OFFSETS") (N := 4) (f := kb_OFFS) (A := A) (by decide) (hts _ kb_fl4.2.2.1) (hts _ kb_fl5.2.1) (hs _ kt_2.1) (hs _ kt_2.2.1) (fun j hj => hs _ (kt_2.2.2 j hj)) hA
  obtain ⟨q0, v0, hq0, hs0⟩ := kb_strof (i := 0) (A := A) (kb_m31 0 (by decide)) (hs _ km_0.1) (hs _ km_0.2.1) (hs _ km_0.2.2.1) (hs _ km_0.2.2.2.1) (fun j hj => hs _ (km_0.2.2.2.2 j hj)) hA
  obtain ⟨q1, v1, hq1, hs1⟩ := kb_strof (i := 1) (A := A) (kb_m31 1 (by decide)) (hs _ km_1.1) (hs _ km_1.2.1) (hs _ km_1.2.2.1) (hs _ km_1.2.2.2.1) (fun j hj => hs _ (km_1.2.2.2.2 j hj)) hA
  obtain ⟨q2, v2, hq2, hs2⟩ := kb_strof (i := 2) (A := A) (kb_m31 2 (by decide)) (hs _ km_2.1) (hs _ km_2.2.1) (hs _ km_2.2.2.1) (hs _ km_2.2.2.2.1) (fun j hj => hs _ (km_2.2.2.2.2 j hj)) hA
  obtain ⟨q3, v3, hq3, hs3⟩ := kb_strof (i := 3) (A := A) (kb_m31 3 (by decide)) (hs _ km_3.1) (hs _ km_3.2.1) (hs _ km_3.2.2.1) (hs _ km_3.2.2.2.1) (fun j hj => hs _ (km_3.2.2.2.2 j hj)) hA
  obtain ⟨q4, v4, hq4, hs4⟩ := kb_strof (i := 4) (A := A) (kb_m31 4 (by decide)) (hs _ km_4.1) (hs _ km_4.2.1) (hs _ km_4.2.2.1) (hs _ km_4.2.2.2.1) (fun j hj => hs _ (km_4.2.2.2.2 j hj)) hA
  obtain ⟨q5, v5, hq5, hs5⟩ := kb_strof (i := 5) (A := A) (kb_m31 5 (by decide)) (hs _ km_5.1) (hs _ km_5.2.1) (hs _ km_5.2.2.1) (hs _ km_5.2.2.2.1) (fun j hj => hs _ (km_5.2.2.2.2 j hj)) hA
  obtain ⟨q6, v6, hq6, hs6⟩ := kb_strof (i := 6) (A := A) (kb_m31 6 (by decide)) (hs _ km_6.1) (hs _ km_6.2.1) (hs _ km_6.2.2.1) (hs _ km_6.2.2.2.1) (fun j hj => hs _ (km_6.2.2.2.2 j hj)) hA
  obtain ⟨q7, v7, hq7, hs7⟩ := kb_strof (i := 7) (A := A) (kb_m31 7 (by decide)) (hs _ km_7.1) (hs _ km_7.2.1) (hs _ km_7.2.2.1) (hs _ km_7.2.2.2.1) (fun j hj => hs _ (km_7.2.2.2.2 j hj)) hA
  obtain ⟨q8, v8, hq8, hs8⟩ := kb_strof (i := 8) (A := A) (kb_m31 8 (by decide)) (hs _ km_8.1) (hs _ km_8.2.1) (hs _ km_8.2.2.1) (hs _ km_8.2.2.2.1) (fun j hj => hs _ (km_8.2.2.2.2 j hj)) hA
  obtain ⟨q9, v9, hq9, hs9⟩ := kb_strof (i := 9) (A := A) (kb_m31 9 (by decide)) (hs _ km_9.1) (hs _ km_9.2.1) (hs _ km_9.2.2.1) (hs _ km_9.2.2.2.1) (fun j hj => hs _ (km_9.2.2.2.2 j hj)) hA
  obtain ⟨q10, v10, hq10, hs10⟩ := kb_strof (i := 10) (A := A) (kb_m31 10 (by decide)) (hs _ km_10.1) (hs _ km_10.2.1) (hs _ km_10.2.2.1) (hs _ km_10.2.2.2.1) (fun j hj => hs _ (km_10.2.2.2.2 j hj)) hA
  obtain ⟨q11, v11, hq11, hs11⟩ := kb_strof (i := 11) (A := A) (kb_m31 11 (by decide)) (hs _ km_11.1) (hs _ km_11.2.1) (hs _ km_11.2.2.1) (hs _ km_11.2.2.2.1) (fun j hj => hs _ (km_11.2.2.2.2 j hj)) hA
  obtain ⟨q12, v12, hq12, hs12⟩ := kb_strof (i := 12) (A := A) (kb_m31 12 (by decide)) (hs _ km_12.1) (hs _ km_12.2.1) (hs _ km_12.2.2.1) (hs _ km_12.2.2.2.1) (fun j hj => hs _ (km_12.2.2.2.2 j hj)) hA
  obtain ⟨q13, v13, hq13, hs13⟩ := kb_strof (i := 13) (A := A) (kb_m31 13 (by decide)) (hs _ km_13.1) (hs _ km_13.2.1) (hs _ km_13.2.2.1) (hs _ km_13.2.2.2.1) (fun j hj => hs _ (km_13.2.2.2.2 j hj)) hA
  obtain ⟨q14, v14, hq14, hs14⟩ := kb_strof (i := 14) (A := A) (kb_m31 14 (by decide)) (hs _ km_14.1) (hs _ km_14.2.1) (hs _ km_14.2.2.1) (hs _ km_14.2.2.2.1) (fun j hj => hs _ (km_14.2.2.2.2 j hj)) hA
  obtain ⟨q15, v15, hq15, hs15⟩ := kb_strof (i := 15) (A := A) (kb_m31 15 (by decide)) (hs _ km_15.1) (hs _ km_15.2.1) (hs _ km_15.2.2.1) (hs _ km_15.2.2.2.1) (fun j hj => hs _ (km_15.2.2.2.2 j hj)) hA
  obtain ⟨q16, v16, hq16, hs16⟩ := kb_strof (i := 16) (A := A) (kb_m31 16 (by decide)) (hs _ km_16.1) (hs _ km_16.2.1) (hs _ km_16.2.2.1) (hs _ km_16.2.2.2.1) (fun j hj => hs _ (km_16.2.2.2.2 j hj)) hA
  obtain ⟨q17, v17, hq17, hs17⟩ := kb_strof (i := 17) (A := A) (kb_m31 17 (by decide)) (hs _ km_17.1) (hs _ km_17.2.1) (hs _ km_17.2.2.1) (hs _ km_17.2.2.2.1) (fun j hj => hs _ (km_17.2.2.2.2 j hj)) hA
  obtain ⟨q18, v18, hq18, hs18⟩ := kb_strof (i := 18) (A := A) (kb_m31 18 (by decide)) (hs _ km_18.1) (hs _ km_18.2.1) (hs _ km_18.2.2.1) (hs _ km_18.2.2.2.1) (fun j hj => hs _ (km_18.2.2.2.2 j hj)) hA
  obtain ⟨z3, hz3⟩ := kb_exa (hs _ ke_3.2)
  have he3 := kb_eqs (hs _ ke_3.1) hq3 hz3
  obtain ⟨z4, hz4⟩ := kb_exa (hs _ ke_4.2)
  have he4 := kb_eqs (hs _ ke_4.1) hq4 hz4
  obtain ⟨z6, hz6⟩ := kb_exa (hs _ ke_6.2)
  have he6 := kb_eqs (hs _ ke_6.1) hq6 hz6
  obtain ⟨z1, hz1⟩ := kb_exa (hs _ ke_1.2)
  have he1 := kb_eqs (hs _ ke_1.1) hq1 hz1
  obtain ⟨z5, hz5⟩ := kb_exa (hs _ ke_5.2)
  have he5 := kb_eqs (hs _ ke_5.1) hq5 hz5
  obtain ⟨z2, hz2⟩ := kb_exa (hs _ ke_2.2)
  have he2 := kb_eqs (hs _ ke_2.1) hq2 hz2
  obtain ⟨z0, hz0⟩ := kb_exa (hs _ ke_0.2)
  have he0 := kb_eqs (hs _ ke_0.1) hq0 hz0
  obtain ⟨z7, hz7⟩ := kb_exa (hs _ ke_7.2)
  have he7 := kb_eqs (hs _ ke_7.1) hq7 hz7
  obtain ⟨z8, hz8⟩ := kb_exa (hs _ ke_8.2)
  have he8 := kb_eqs (hs _ ke_8.1) hq8 hz8
  obtain ⟨w0, hw0⟩ := kb_exa (hs _ kq_0)
  obtain ⟨w1, hw1⟩ := kb_exa (hs _ kq_1)
  obtain ⟨w2, hw2⟩ := kb_exa (hs _ kq_2)
  obtain ⟨w3, hw3⟩ := kb_exa (hs _ kq_3)
  obtain ⟨w4, hw4⟩ := kb_exa (hs _ kq_4)
  obtain ⟨w5, hw5⟩ := kb_exa (hs _ kq_5)
  obtain ⟨w6, hw6⟩ := kb_exa (hs _ kq_6)
  obtain ⟨w7, hw7⟩ := kb_exa (hs _ kq_7)
  obtain ⟨w8, hw8⟩ := kb_exa (hs _ kq_8)
  obtain ⟨w9, hw9⟩ := kb_exa (hs _ kq_9)
  refine ⟨((fun k => [c0, c1, c2, c3, c4, c5, c6, c7].getD k 0, fun k => [iS0, iS1, iS2, iS3, iS4, iS5, iS6, iS7].getD k (fun _ => 0)), fun k => [g0, g1, g2].getD k 0, kb_ad [t0, t1, t2, 0, 0, 0, 0, 0, 0, 0, q0, q1, q2, q3, q4, q5, q6, q7, q8, q9, q10, q11, q12, q13, q14, q15, q16, q17, q18, 0, 0, 0, 0, 0, 0, 0, 0, 0, 0, 0, v0, v1, v2, v3, v4, v5, v6, v7, v8, v9, v10, v11, v12, v13, v14, v15, v16, v17, v18, 0, 0, 0, 0, 0, 0, 0, 0, 0, 0, 0, w0, w1, w2, w3, w4, w5, w6, w7, w8, w9]), ⟨?_, ?_⟩, ht0, ht1, ht2, ?_, ?_, va_Zof (hts _ kb_fl4.2.2.2.1) (hts _ kb_fl5.2.2.1) (va_eqt (hs _ kb_fl1.1)) hA, va_Zqof (hts _ kb_fl4.2.2.2.2.1) (hts _ kb_fl5.2.2.2.1) (hs _ kb_fl1.2.1) hA, vx_Zqof (hts _ kb_fl4.2.2.2.2.2.1) (hts _ kb_fl5.2.2.2.2) (hs _ kb_fl1.2.2.1) hA, vx_Zqof (hts _ kb_fl4.2.2.2.2.2.2) (hts _ kb_fl5.2.2.2.2) (hs _ kb_fl1.2.2.2) hA, fun q hq => va_Nw.of rfl (hts _ (kb_fl3.1 q hq)), fun q hq => va_Nw.of rfl (hts _ (kb_fl3.2.1 q hq)), fun q hq => va_Nw.of rfl (hts _ (kb_fl3.2.2.1 q hq)), fun q hq => va_Nc.of (hs _ (kb_fl2 q hq))⟩
  · intro k q hk
    match k, hk with
    | 0, hk => cases hk; exact hK0
    | 1, hk => cases hk; exact hK1
    | 2, hk => cases hk; exact hK2
    | 3, hk => cases hk; exact hK3
    | 4, hk => cases hk; exact hK4
    | 5, hk => cases hk; exact hK5
    | 6, hk => cases hk; exact hK6
    | 7, hk => cases hk; exact hK7
    | k + 8, hk => simp [vwCl] at hk
  · intro k q hk
    match k, hk with
    | 0, hk => cases hk; exact ⟨ga0, gb0⟩
    | 1, hk => cases hk; exact ⟨ga1, gb1⟩
    | 2, hk => cases hk; exact ⟨ga2, gb2⟩
    | k + 3, hk => simp [kb_tys] at hk
  · intro i hi
    match i, hi with
    | 0, _ => exact hs0
    | 1, _ => exact hs1
    | 2, _ => exact hs2
    | 3, _ => exact hs3
    | 4, _ => exact hs4
    | 5, _ => exact hs5
    | 6, _ => exact hs6
    | 7, _ => exact hs7
    | 8, _ => exact hs8
    | 9, _ => exact hs9
    | 10, _ => exact hs10
    | 11, _ => exact hs11
    | 12, _ => exact hs12
    | 13, _ => exact hs13
    | 14, _ => exact hs14
    | 15, _ => exact hs15
    | 16, _ => exact hs16
    | 17, _ => exact hs17
    | 18, _ => exact hs18
    | i + 19, h => omega
  · intro q hq
    have hst : ∀ (own : String) (k : Nat) (tx : String) (a : Nat), (own, k, tx, a) ∈ kb_refs → (Cond.stringRef own k tx).before args s = true := fun own k tx a h => hts _ (kb_fl3.2.2.2 _ h)
    simp only [kb_refs, List.mem_cons, List.not_mem_nil, or_false] at hq
    rcases hq with rfl | rfl | rfl | rfl | rfl | rfl | rfl | rfl | rfl | rfl | rfl | rfl | rfl | rfl | rfl | rfl | rfl | rfl | rfl | rfl | rfl | rfl | rfl | rfl | rfl | rfl | rfl | rfl | rfl | rfl | rfl | rfl | rfl | rfl | rfl | rfl | rfl | rfl
    · exact vk_R.of (hst "KnitBench$RowReader" 111 "kfb" 10 (by decide +kernel)) hq0
    · exact vk_R.of (hst "KnitBench$RowReader" 116 "k2tog" 11 (by decide +kernel)) hq1
    · exact vk_R.of (hst "KnitBench$RowReader" 118 "k3tog" 12 (by decide +kernel)) hq2
    · exact vk_R.of (hst "KnitBench$RowReader" 120 "k" 13 (by decide +kernel)) hq3
    · exact vk_R.of (hst "KnitBench$RowReader" 83 "p" 14 (by decide +kernel)) hq4
    · exact vk_R.of (hst "KnitBench$RowReader" 122 "ssk" 15 (by decide +kernel)) hq5
    · exact vk_R.of (hst "KnitBench$RowReader" 124 "sl" 16 (by decide +kernel)) hq6
    · exact vk_R.of (hst "KnitBench$RowReader" 94 "yo" 17 (by decide +kernel)) hq7
    · exact vk_R.of (hst "KnitBench$RowReader" 96 "bind" 18 (by decide +kernel)) hq8
    · exact vk_R.of (hst "KnitBench$RowReader" 129 "cast" 19 (by decide +kernel)) hq9
    · exact vk_R.of (hst "KnitBench$RowReader" 145 "c" 20 (by decide +kernel)) hq10
    · exact vk_R.of (hst "KnitBench$RowReader" 150 "/" 21 (by decide +kernel)) hq11
    · exact vk_R.of (hst "KnitBench$RowReader" 152 "f" 22 (by decide +kernel)) hq12
    · exact vk_R.of (hst "KnitBench$RowReader" 158 "b" 23 (by decide +kernel)) hq13
    · exact vk_R.of (hst "KnitBench$RowReader" 168 "rep" 24 (by decide +kernel)) hq14
    · exact vk_R.of (hst "KnitBench$RowReader" 188 "to" 25 (by decide +kernel)) hq15
    · exact vk_R.of (hst "KnitBench$RowReader" 190 "last" 26 (by decide +kernel)) hq16
    · exact vk_R.of (hst "KnitBench$RowReader" 186 "x" 27 (by decide +kernel)) hq17
    · exact vk_R.of (hst "KnitBench" 50 "loops are 1 .. 40" 70 (by decide +kernel)) hw0
    · exact vk_R.of (hst "KnitBench" 64 "n is 1 .. 8" 71 (by decide +kernel)) hw1
    · exact vk_R.of (hst "KnitBench" 72 "the tape has at most 200 bytes" 72 (by decide +kernel)) hw2
    · exact vk_R.of (hst "KnitBench" 96 "k is 0 .. the number of rows" 73 (by decide +kernel)) hw3
    · exact vk_R.of (hst "KnitBench" 108 "no such loop" 74 (by decide +kernel)) hw4
    · exact vk_R.of (hst "KnitBench" 113 "no such what" 75 (by decide +kernel)) hw5
    · exact vk_R.of (hst "KnitBench" 169 "no such row" 76 (by decide +kernel)) hw6
    · exact vk_R.of (hst "KnitBench" 133 "no such stitch" 77 (by decide +kernel)) hw7
    · exact vk_R.of (hst "KnitBench$Stitch" 23 "k" 13 (by decide +kernel)) he3
    · exact vk_R.of (hst "KnitBench$Stitch" 25 "p" 14 (by decide +kernel)) he4
    · exact vk_R.of (hst "KnitBench$Stitch" 27 "sl" 16 (by decide +kernel)) he6
    · exact vk_R.of (hst "KnitBench$Stitch" 29 "k2tog" 11 (by decide +kernel)) he1
    · exact vk_R.of (hst "KnitBench$Stitch" 31 "ssk" 15 (by decide +kernel)) he5
    · exact vk_R.of (hst "KnitBench$Stitch" 33 "k3tog" 12 (by decide +kernel)) he2
    · exact vk_R.of (hst "KnitBench$Stitch" 35 "kfb" 10 (by decide +kernel)) he0
    · exact vk_R.of (hst "KnitBench$Stitch" 37 "yo" 17 (by decide +kernel)) he7
    · exact vk_R.of (hst "KnitBench$Stitch" 39 "bind" 18 (by decide +kernel)) he8
    · exact vk_R.of (hst "KnitBench$Stitch" 41 "cast1" 28 (by decide +kernel)) hq18
    · exact vk_R.of (hst "KnitBench" 153 "i is 0 or more" 78 (by decide +kernel)) hw8
    · exact vk_R.of (hst "KnitBench" 158 "no loop at this place" 79 (by decide +kernel)) hw9
