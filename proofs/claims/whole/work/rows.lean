section
-- ===== PART A: goes FIRST, ahead of the names: the tables' words, and 'selects' of the private methods out of them =====
/-- a private method of a class that the tables say can be made, by its rows of tables_1 -/
def lw_okq (q : MethodName × Nat) : Prop := (q.1.cls ≠ "java/lang/invoke/MethodHandle" ∧ q.1.cls ≠ "java/lang/invoke/VarHandle") ∧ Cond.instantiable q.1.cls q.2 ∈ tables_1 ∧ Cond.privateMethod q.1 ∈ tables_1 ∧ Cond.instanceMethod q.1 ∈ tables_1
theorem lw_p0 : lw_okq (⟨"KnitBench$Fabric", "makeLoop", "(II)V"⟩, 13) := ⟨⟨by decide +kernel, by decide +kernel⟩, List.mem_of_getElem? (i := 71) (by decide +kernel), List.mem_of_getElem? (i := 177) (by decide +kernel), List.mem_of_getElem? (i := 178) (by decide +kernel)⟩
theorem lw_p1 : lw_okq (⟨"KnitBench$Fabric", "fillNeedle", "()V"⟩, 13) := ⟨⟨by decide +kernel, by decide +kernel⟩, List.mem_of_getElem? (i := 71) (by decide +kernel), List.mem_of_getElem? (i := 185) (by decide +kernel), List.mem_of_getElem? (i := 186) (by decide +kernel)⟩
theorem lw_p2 : lw_okq (⟨"KnitBench$RowReader", "isRight", "()Z"⟩, 9) := ⟨⟨by decide +kernel, by decide +kernel⟩, List.mem_of_getElem? (i := 117) (by decide +kernel), List.mem_of_getElem? (i := 221) (by decide +kernel), List.mem_of_getElem? (i := 222) (by decide +kernel)⟩
theorem lw_p3 : lw_okq (⟨"KnitBench$RowReader", "skipBlanks", "()V"⟩, 9) := ⟨⟨by decide +kernel, by decide +kernel⟩, List.mem_of_getElem? (i := 117) (by decide +kernel), List.mem_of_getElem? (i := 225) (by decide +kernel), List.mem_of_getElem? (i := 226) (by decide +kernel)⟩
theorem lw_p4 : lw_okq (⟨"KnitBench$RowReader", "next", "()I"⟩, 9) := ⟨⟨by decide +kernel, by decide +kernel⟩, List.mem_of_getElem? (i := 117) (by decide +kernel), List.mem_of_getElem? (i := 229) (by decide +kernel), List.mem_of_getElem? (i := 230) (by decide +kernel)⟩
theorem lw_p5 : lw_okq (⟨"KnitBench$RowReader", "readItem", "()V"⟩, 9) := ⟨⟨by decide +kernel, by decide +kernel⟩, List.mem_of_getElem? (i := 117) (by decide +kernel), List.mem_of_getElem? (i := 237) (by decide +kernel), List.mem_of_getElem? (i := 238) (by decide +kernel)⟩
theorem lw_p6 : lw_okq (⟨"KnitBench$RowReader", "readKnit", "(I)V"⟩, 9) := ⟨⟨by decide +kernel, by decide +kernel⟩, List.mem_of_getElem? (i := 117) (by decide +kernel), List.mem_of_getElem? (i := 241) (by decide +kernel), List.mem_of_getElem? (i := 242) (by decide +kernel)⟩
theorem lw_p7 : lw_okq (⟨"KnitBench$RowReader", "readSingle", "(Ljava/lang/String;II)V"⟩, 9) := ⟨⟨by decide +kernel, by decide +kernel⟩, List.mem_of_getElem? (i := 117) (by decide +kernel), List.mem_of_getElem? (i := 246) (by decide +kernel), List.mem_of_getElem? (i := 247) (by decide +kernel)⟩
theorem lw_p8 : lw_okq (⟨"KnitBench$RowReader", "readWord", "(Ljava/lang/String;)V"⟩, 9) := ⟨⟨by decide +kernel, by decide +kernel⟩, List.mem_of_getElem? (i := 117) (by decide +kernel), List.mem_of_getElem? (i := 250) (by decide +kernel), List.mem_of_getElem? (i := 251) (by decide +kernel)⟩
theorem lw_p9 : lw_okq (⟨"KnitBench$RowReader", "fail", "(I)V"⟩, 9) := ⟨⟨by decide +kernel, by decide +kernel⟩, List.mem_of_getElem? (i := 117) (by decide +kernel), List.mem_of_getElem? (i := 302) (by decide +kernel), List.mem_of_getElem? (i := 303) (by decide +kernel)⟩
theorem lw_p10 : lw_okq (⟨"KnitBench$RowReader", "addStitches", "(III)V"⟩, 9) := ⟨⟨by decide +kernel, by decide +kernel⟩, List.mem_of_getElem? (i := 117) (by decide +kernel), List.mem_of_getElem? (i := 309) (by decide +kernel), List.mem_of_getElem? (i := 310) (by decide +kernel)⟩
theorem lw_p11 : lw_okq (⟨"KnitBench$Plan", "add", "(IIII)V"⟩, 6) := ⟨⟨by decide +kernel, by decide +kernel⟩, List.mem_of_getElem? (i := 31) (by decide +kernel), List.mem_of_getElem? (i := 317) (by decide +kernel), List.mem_of_getElem? (i := 318) (by decide +kernel)⟩
theorem lw_p12 : lw_okq (⟨"KnitBench$RowReader", "readNamed", "(Ljava/lang/String;II)V"⟩, 9) := ⟨⟨by decide +kernel, by decide +kernel⟩, List.mem_of_getElem? (i := 117) (by decide +kernel), List.mem_of_getElem? (i := 335) (by decide +kernel), List.mem_of_getElem? (i := 336) (by decide +kernel)⟩
theorem lw_p13 : lw_okq (⟨"KnitBench$RowReader", "readNumber", "(I)I"⟩, 9) := ⟨⟨by decide +kernel, by decide +kernel⟩, List.mem_of_getElem? (i := 117) (by decide +kernel), List.mem_of_getElem? (i := 342) (by decide +kernel), List.mem_of_getElem? (i := 343) (by decide +kernel)⟩
theorem lw_p14 : lw_okq (⟨"KnitBench$RowReader", "readSlipOrSsk", "(I)V"⟩, 9) := ⟨⟨by decide +kernel, by decide +kernel⟩, List.mem_of_getElem? (i := 117) (by decide +kernel), List.mem_of_getElem? (i := 347) (by decide +kernel), List.mem_of_getElem? (i := 348) (by decide +kernel)⟩
theorem lw_p15 : lw_okq (⟨"KnitBench$RowReader", "readCastOrCable", "(I)V"⟩, 9) := ⟨⟨by decide +kernel, by decide +kernel⟩, List.mem_of_getElem? (i := 117) (by decide +kernel), List.mem_of_getElem? (i := 355) (by decide +kernel), List.mem_of_getElem? (i := 356) (by decide +kernel)⟩
def lw_privs_1 : List (MethodName × Nat) := [(⟨"KnitBench$Fabric", "makeLoop", "(II)V"⟩, 13), (⟨"KnitBench$Fabric", "fillNeedle", "()V"⟩, 13), (⟨"KnitBench$RowReader", "isRight", "()Z"⟩, 9), (⟨"KnitBench$RowReader", "skipBlanks", "()V"⟩, 9), (⟨"KnitBench$RowReader", "next", "()I"⟩, 9), (⟨"KnitBench$RowReader", "readItem", "()V"⟩, 9), (⟨"KnitBench$RowReader", "readKnit", "(I)V"⟩, 9), (⟨"KnitBench$RowReader", "readSingle", "(Ljava/lang/String;II)V"⟩, 9), (⟨"KnitBench$RowReader", "readWord", "(Ljava/lang/String;)V"⟩, 9), (⟨"KnitBench$RowReader", "fail", "(I)V"⟩, 9), (⟨"KnitBench$RowReader", "addStitches", "(III)V"⟩, 9), (⟨"KnitBench$Plan", "add", "(IIII)V"⟩, 6), (⟨"KnitBench$RowReader", "readNamed", "(Ljava/lang/String;II)V"⟩, 9), (⟨"KnitBench$RowReader", "readNumber", "(I)I"⟩, 9), (⟨"KnitBench$RowReader", "readSlipOrSsk", "(I)V"⟩, 9), (⟨"KnitBench$RowReader", "readCastOrCable", "(I)V"⟩, 9)]
theorem lw_r1 : ∀ q ∈ lw_privs_1, lw_okq q := List.forall_mem_cons.mpr ⟨lw_p0, List.forall_mem_cons.mpr ⟨lw_p1, List.forall_mem_cons.mpr ⟨lw_p2, List.forall_mem_cons.mpr ⟨lw_p3, List.forall_mem_cons.mpr ⟨lw_p4, List.forall_mem_cons.mpr ⟨lw_p5, List.forall_mem_cons.mpr ⟨lw_p6, List.forall_mem_cons.mpr ⟨lw_p7, List.forall_mem_cons.mpr ⟨lw_p8, List.forall_mem_cons.mpr ⟨lw_p9, List.forall_mem_cons.mpr ⟨lw_p10, List.forall_mem_cons.mpr ⟨lw_p11, List.forall_mem_cons.mpr ⟨lw_p12, List.forall_mem_cons.mpr ⟨lw_p13, List.forall_mem_cons.mpr ⟨lw_p14, List.forall_mem_cons.mpr ⟨lw_p15, fun _ h => absurd h List.not_mem_nil⟩⟩⟩⟩⟩⟩⟩⟩⟩⟩⟩⟩⟩⟩⟩⟩
theorem lw_p16 : lw_okq (⟨"KnitBench$RowReader", "readCable", "(I)V"⟩, 9) := ⟨⟨by decide +kernel, by decide +kernel⟩, List.mem_of_getElem? (i := 117) (by decide +kernel), List.mem_of_getElem? (i := 364) (by decide +kernel), List.mem_of_getElem? (i := 365) (by decide +kernel)⟩
theorem lw_p17 : lw_okq (⟨"KnitBench$RowReader", "readCableDigit", "()I"⟩, 9) := ⟨⟨by decide +kernel, by decide +kernel⟩, List.mem_of_getElem? (i := 117) (by decide +kernel), List.mem_of_getElem? (i := 369) (by decide +kernel), List.mem_of_getElem? (i := 370) (by decide +kernel)⟩
theorem lw_p18 : lw_okq (⟨"KnitBench$RowReader", "openBracket", "(II)V"⟩, 9) := ⟨⟨by decide +kernel, by decide +kernel⟩, List.mem_of_getElem? (i := 117) (by decide +kernel), List.mem_of_getElem? (i := 379) (by decide +kernel), List.mem_of_getElem? (i := 380) (by decide +kernel)⟩
theorem lw_p19 : lw_okq (⟨"KnitBench$RowReader", "readRepeat", "(I)V"⟩, 9) := ⟨⟨by decide +kernel, by decide +kernel⟩, List.mem_of_getElem? (i := 117) (by decide +kernel), List.mem_of_getElem? (i := 387) (by decide +kernel), List.mem_of_getElem? (i := 388) (by decide +kernel)⟩
theorem lw_p20 : lw_okq (⟨"KnitBench$RowReader", "readSign", "()V"⟩, 9) := ⟨⟨by decide +kernel, by decide +kernel⟩, List.mem_of_getElem? (i := 117) (by decide +kernel), List.mem_of_getElem? (i := 392) (by decide +kernel), List.mem_of_getElem? (i := 393) (by decide +kernel)⟩
theorem lw_p21 : lw_okq (⟨"KnitBench$RowReader", "closeBracket", "()V"⟩, 9) := ⟨⟨by decide +kernel, by decide +kernel⟩, List.mem_of_getElem? (i := 117) (by decide +kernel), List.mem_of_getElem? (i := 396) (by decide +kernel), List.mem_of_getElem? (i := 397) (by decide +kernel)⟩
theorem lw_p22 : lw_okq (⟨"KnitBench$Plan", "has", "(I)Z"⟩, 6) := ⟨⟨by decide +kernel, by decide +kernel⟩, List.mem_of_getElem? (i := 31) (by decide +kernel), List.mem_of_getElem? (i := 404) (by decide +kernel), List.mem_of_getElem? (i := 405) (by decide +kernel)⟩
theorem lw_p23 : lw_okq (⟨"KnitBench$RowReader", "readToLast", "()I"⟩, 9) := ⟨⟨by decide +kernel, by decide +kernel⟩, List.mem_of_getElem? (i := 117) (by decide +kernel), List.mem_of_getElem? (i := 408) (by decide +kernel), List.mem_of_getElem? (i := 409) (by decide +kernel)⟩
theorem lw_p24 : lw_okq (⟨"KnitBench$Knitter", "knitStep", "(I)I"⟩, 5) := ⟨⟨by decide +kernel, by decide +kernel⟩, List.mem_of_getElem? (i := 151) (by decide +kernel), List.mem_of_getElem? (i := 434) (by decide +kernel), List.mem_of_getElem? (i := 435) (by decide +kernel)⟩
theorem lw_p25 : lw_okq (⟨"KnitBench$Knitter", "knitStitches", "(I)V"⟩, 5) := ⟨⟨by decide +kernel, by decide +kernel⟩, List.mem_of_getElem? (i := 151) (by decide +kernel), List.mem_of_getElem? (i := 439) (by decide +kernel), List.mem_of_getElem? (i := 440) (by decide +kernel)⟩
theorem lw_p26 : lw_okq (⟨"KnitBench$Fabric", "madeSoFar", "()I"⟩, 13) := ⟨⟨by decide +kernel, by decide +kernel⟩, List.mem_of_getElem? (i := 71) (by decide +kernel), List.mem_of_getElem? (i := 460) (by decide +kernel), List.mem_of_getElem? (i := 461) (by decide +kernel)⟩
theorem lw_p27 : lw_okq (⟨"KnitBench$Knitter", "note", "(II)V"⟩, 5) := ⟨⟨by decide +kernel, by decide +kernel⟩, List.mem_of_getElem? (i := 151) (by decide +kernel), List.mem_of_getElem? (i := 473) (by decide +kernel), List.mem_of_getElem? (i := 474) (by decide +kernel)⟩
theorem lw_p28 : lw_okq (⟨"KnitBench$Fabric", "makeCableLoops", "(II)V"⟩, 13) := ⟨⟨by decide +kernel, by decide +kernel⟩, List.mem_of_getElem? (i := 71) (by decide +kernel), List.mem_of_getElem? (i := 487) (by decide +kernel), List.mem_of_getElem? (i := 488) (by decide +kernel)⟩
theorem lw_p29 : lw_okq (⟨"KnitBench$Knitter", "enter", "(IJ)I"⟩, 5) := ⟨⟨by decide +kernel, by decide +kernel⟩, List.mem_of_getElem? (i := 151) (by decide +kernel), List.mem_of_getElem? (i := 491) (by decide +kernel), List.mem_of_getElem? (i := 492) (by decide +kernel)⟩
theorem lw_p30 : lw_okq (⟨"KnitBench$Knitter", "runsOfRepeat", "(I)J"⟩, 5) := ⟨⟨by decide +kernel, by decide +kernel⟩, List.mem_of_getElem? (i := 151) (by decide +kernel), List.mem_of_getElem? (i := 495) (by decide +kernel), List.mem_of_getElem? (i := 496) (by decide +kernel)⟩
theorem lw_p31 : lw_okq (⟨"KnitBench$Knitter", "leave", "(I)I"⟩, 5) := ⟨⟨by decide +kernel, by decide +kernel⟩, List.mem_of_getElem? (i := 151) (by decide +kernel), List.mem_of_getElem? (i := 504) (by decide +kernel), List.mem_of_getElem? (i := 505) (by decide +kernel)⟩
def lw_privs_2 : List (MethodName × Nat) := [(⟨"KnitBench$RowReader", "readCable", "(I)V"⟩, 9), (⟨"KnitBench$RowReader", "readCableDigit", "()I"⟩, 9), (⟨"KnitBench$RowReader", "openBracket", "(II)V"⟩, 9), (⟨"KnitBench$RowReader", "readRepeat", "(I)V"⟩, 9), (⟨"KnitBench$RowReader", "readSign", "()V"⟩, 9), (⟨"KnitBench$RowReader", "closeBracket", "()V"⟩, 9), (⟨"KnitBench$Plan", "has", "(I)Z"⟩, 6), (⟨"KnitBench$RowReader", "readToLast", "()I"⟩, 9), (⟨"KnitBench$Knitter", "knitStep", "(I)I"⟩, 5), (⟨"KnitBench$Knitter", "knitStitches", "(I)V"⟩, 5), (⟨"KnitBench$Fabric", "madeSoFar", "()I"⟩, 13), (⟨"KnitBench$Knitter", "note", "(II)V"⟩, 5), (⟨"KnitBench$Fabric", "makeCableLoops", "(II)V"⟩, 13), (⟨"KnitBench$Knitter", "enter", "(IJ)I"⟩, 5), (⟨"KnitBench$Knitter", "runsOfRepeat", "(I)J"⟩, 5), (⟨"KnitBench$Knitter", "leave", "(I)I"⟩, 5)]
theorem lw_r2 : ∀ q ∈ lw_privs_2, lw_okq q := List.forall_mem_cons.mpr ⟨lw_p16, List.forall_mem_cons.mpr ⟨lw_p17, List.forall_mem_cons.mpr ⟨lw_p18, List.forall_mem_cons.mpr ⟨lw_p19, List.forall_mem_cons.mpr ⟨lw_p20, List.forall_mem_cons.mpr ⟨lw_p21, List.forall_mem_cons.mpr ⟨lw_p22, List.forall_mem_cons.mpr ⟨lw_p23, List.forall_mem_cons.mpr ⟨lw_p24, List.forall_mem_cons.mpr ⟨lw_p25, List.forall_mem_cons.mpr ⟨lw_p26, List.forall_mem_cons.mpr ⟨lw_p27, List.forall_mem_cons.mpr ⟨lw_p28, List.forall_mem_cons.mpr ⟨lw_p29, List.forall_mem_cons.mpr ⟨lw_p30, List.forall_mem_cons.mpr ⟨lw_p31, fun _ h => absurd h List.not_mem_nil⟩⟩⟩⟩⟩⟩⟩⟩⟩⟩⟩⟩⟩⟩⟩⟩
theorem lw_p32 : lw_okq (⟨"java/lang/Throwable", "fillInStackTrace", "(I)Ljava/lang/Throwable;"⟩, 6) := ⟨⟨by decide +kernel, by decide +kernel⟩, List.mem_of_getElem? (i := 587) (by decide +kernel), List.mem_of_getElem? (i := 585) (by decide +kernel), List.mem_of_getElem? (i := 586) (by decide +kernel)⟩
theorem lw_p33 : lw_okq (⟨"KnitBench", "requireRow", "(I)V"⟩, 5) := ⟨⟨by decide +kernel, by decide +kernel⟩, List.mem_of_getElem? (i := 23) (by decide +kernel), List.mem_of_getElem? (i := 705) (by decide +kernel), List.mem_of_getElem? (i := 706) (by decide +kernel)⟩
theorem lw_p34 : lw_okq (⟨"KnitBench$Shortest", "countSames", "(I)V"⟩, 6) := ⟨⟨by decide +kernel, by decide +kernel⟩, List.mem_of_getElem? (i := 772) (by decide +kernel), List.mem_of_getElem? (i := 806) (by decide +kernel), List.mem_of_getElem? (i := 807) (by decide +kernel)⟩
theorem lw_p35 : lw_okq (⟨"KnitBench$Shortest", "countWordsWithin", "(I)V"⟩, 6) := ⟨⟨by decide +kernel, by decide +kernel⟩, List.mem_of_getElem? (i := 772) (by decide +kernel), List.mem_of_getElem? (i := 810) (by decide +kernel), List.mem_of_getElem? (i := 811) (by decide +kernel)⟩
theorem lw_p36 : lw_okq (⟨"KnitBench$Shortest", "timesInRow", "(II)I"⟩, 6) := ⟨⟨by decide +kernel, by decide +kernel⟩, List.mem_of_getElem? (i := 772) (by decide +kernel), List.mem_of_getElem? (i := 814) (by decide +kernel), List.mem_of_getElem? (i := 815) (by decide +kernel)⟩
theorem lw_p37 : lw_okq (⟨"KnitBench$Shortest", "countWords", "(III)V"⟩, 6) := ⟨⟨by decide +kernel, by decide +kernel⟩, List.mem_of_getElem? (i := 772) (by decide +kernel), List.mem_of_getElem? (i := 818) (by decide +kernel), List.mem_of_getElem? (i := 819) (by decide +kernel)⟩
theorem lw_p38 : lw_okq (⟨"KnitBench$Shortest", "fewestWords", "(III)I"⟩, 6) := ⟨⟨by decide +kernel, by decide +kernel⟩, List.mem_of_getElem? (i := 772) (by decide +kernel), List.mem_of_getElem? (i := 827) (by decide +kernel), List.mem_of_getElem? (i := 828) (by decide +kernel)⟩
theorem lw_p39 : lw_okq (⟨"KnitBench$Shortest", "words", "(III)I"⟩, 6) := ⟨⟨by decide +kernel, by decide +kernel⟩, List.mem_of_getElem? (i := 772) (by decide +kernel), List.mem_of_getElem? (i := 831) (by decide +kernel), List.mem_of_getElem? (i := 832) (by decide +kernel)⟩
theorem lw_p40 : lw_okq (⟨"KnitBench$Shortest", "tellPart", "(III)V"⟩, 6) := ⟨⟨by decide +kernel, by decide +kernel⟩, List.mem_of_getElem? (i := 772) (by decide +kernel), List.mem_of_getElem? (i := 835) (by decide +kernel), List.mem_of_getElem? (i := 836) (by decide +kernel)⟩
theorem lw_p41 : lw_okq (⟨"KnitBench$Shortest", "put", "(I)V"⟩, 6) := ⟨⟨by decide +kernel, by decide +kernel⟩, List.mem_of_getElem? (i := 772) (by decide +kernel), List.mem_of_getElem? (i := 839) (by decide +kernel), List.mem_of_getElem? (i := 840) (by decide +kernel)⟩
theorem lw_p42 : lw_okq (⟨"KnitBench$Shortest", "firstPiece", "(III)I"⟩, 6) := ⟨⟨by decide +kernel, by decide +kernel⟩, List.mem_of_getElem? (i := 772) (by decide +kernel), List.mem_of_getElem? (i := 843) (by decide +kernel), List.mem_of_getElem? (i := 844) (by decide +kernel)⟩
theorem lw_p43 : lw_okq (⟨"KnitBench$Shortest", "pieceWords", "(III)I"⟩, 6) := ⟨⟨by decide +kernel, by decide +kernel⟩, List.mem_of_getElem? (i := 772) (by decide +kernel), List.mem_of_getElem? (i := 847) (by decide +kernel), List.mem_of_getElem? (i := 848) (by decide +kernel)⟩
theorem lw_p44 : lw_okq (⟨"KnitBench$Shortest", "bestGroup", "(III)I"⟩, 6) := ⟨⟨by decide +kernel, by decide +kernel⟩, List.mem_of_getElem? (i := 772) (by decide +kernel), List.mem_of_getElem? (i := 851) (by decide +kernel), List.mem_of_getElem? (i := 852) (by decide +kernel)⟩
theorem lw_p45 : lw_okq (⟨"KnitBench$Shortest", "tellPiece", "(III)V"⟩, 6) := ⟨⟨by decide +kernel, by decide +kernel⟩, List.mem_of_getElem? (i := 772) (by decide +kernel), List.mem_of_getElem? (i := 855) (by decide +kernel), List.mem_of_getElem? (i := 856) (by decide +kernel)⟩
theorem lw_p46 : lw_okq (⟨"KnitBench$Shortest", "tellStitch", "(I)V"⟩, 6) := ⟨⟨by decide +kernel, by decide +kernel⟩, List.mem_of_getElem? (i := 772) (by decide +kernel), List.mem_of_getElem? (i := 859) (by decide +kernel), List.mem_of_getElem? (i := 860) (by decide +kernel)⟩
theorem lw_p47 : lw_okq (⟨"KnitBench$Shortest", "putNumber", "(I)V"⟩, 6) := ⟨⟨by decide +kernel, by decide +kernel⟩, List.mem_of_getElem? (i := 772) (by decide +kernel), List.mem_of_getElem? (i := 865) (by decide +kernel), List.mem_of_getElem? (i := 866) (by decide +kernel)⟩
def lw_privs_3 : List (MethodName × Nat) := [(⟨"java/lang/Throwable", "fillInStackTrace", "(I)Ljava/lang/Throwable;"⟩, 6), (⟨"KnitBench", "requireRow", "(I)V"⟩, 5), (⟨"KnitBench$Shortest", "countSames", "(I)V"⟩, 6), (⟨"KnitBench$Shortest", "countWordsWithin", "(I)V"⟩, 6), (⟨"KnitBench$Shortest", "timesInRow", "(II)I"⟩, 6), (⟨"KnitBench$Shortest", "countWords", "(III)V"⟩, 6), (⟨"KnitBench$Shortest", "fewestWords", "(III)I"⟩, 6), (⟨"KnitBench$Shortest", "words", "(III)I"⟩, 6), (⟨"KnitBench$Shortest", "tellPart", "(III)V"⟩, 6), (⟨"KnitBench$Shortest", "put", "(I)V"⟩, 6), (⟨"KnitBench$Shortest", "firstPiece", "(III)I"⟩, 6), (⟨"KnitBench$Shortest", "pieceWords", "(III)I"⟩, 6), (⟨"KnitBench$Shortest", "bestGroup", "(III)I"⟩, 6), (⟨"KnitBench$Shortest", "tellPiece", "(III)V"⟩, 6), (⟨"KnitBench$Shortest", "tellStitch", "(I)V"⟩, 6), (⟨"KnitBench$Shortest", "putNumber", "(I)V"⟩, 6)]
theorem lw_r3 : ∀ q ∈ lw_privs_3, lw_okq q := List.forall_mem_cons.mpr ⟨lw_p32, List.forall_mem_cons.mpr ⟨lw_p33, List.forall_mem_cons.mpr ⟨lw_p34, List.forall_mem_cons.mpr ⟨lw_p35, List.forall_mem_cons.mpr ⟨lw_p36, List.forall_mem_cons.mpr ⟨lw_p37, List.forall_mem_cons.mpr ⟨lw_p38, List.forall_mem_cons.mpr ⟨lw_p39, List.forall_mem_cons.mpr ⟨lw_p40, List.forall_mem_cons.mpr ⟨lw_p41, List.forall_mem_cons.mpr ⟨lw_p42, List.forall_mem_cons.mpr ⟨lw_p43, List.forall_mem_cons.mpr ⟨lw_p44, List.forall_mem_cons.mpr ⟨lw_p45, List.forall_mem_cons.mpr ⟨lw_p46, List.forall_mem_cons.mpr ⟨lw_p47, fun _ h => absurd h List.not_mem_nil⟩⟩⟩⟩⟩⟩⟩⟩⟩⟩⟩⟩⟩⟩⟩⟩
theorem lw_p48 : lw_okq (⟨"KnitBenchModel", "castOn", "(IZ)V"⟩, 32) := ⟨⟨by decide +kernel, by decide +kernel⟩, List.mem_of_getElem? (i := 923) (by decide +kernel), List.mem_of_getElem? (i := 929) (by decide +kernel), List.mem_of_getElem? (i := 930) (by decide +kernel)⟩
theorem lw_p49 : lw_okq (⟨"KnitBenchModel", "newLoop", "(I)V"⟩, 32) := ⟨⟨by decide +kernel, by decide +kernel⟩, List.mem_of_getElem? (i := 923) (by decide +kernel), List.mem_of_getElem? (i := 933) (by decide +kernel), List.mem_of_getElem? (i := 934) (by decide +kernel)⟩
theorem lw_p50 : lw_okq (⟨"KnitBenchModel", "says", "(Z)Z"⟩, 32) := ⟨⟨by decide +kernel, by decide +kernel⟩, List.mem_of_getElem? (i := 923) (by decide +kernel), List.mem_of_getElem? (i := 1046) (by decide +kernel), List.mem_of_getElem? (i := 1047) (by decide +kernel)⟩
theorem lw_p51 : lw_okq (⟨"KnitBenchModel", "line", "()V"⟩, 32) := ⟨⟨by decide +kernel, by decide +kernel⟩, List.mem_of_getElem? (i := 923) (by decide +kernel), List.mem_of_getElem? (i := 1058) (by decide +kernel), List.mem_of_getElem? (i := 1059) (by decide +kernel)⟩
theorem lw_p52 : lw_okq (⟨"KnitBenchModel", "seeWord", "()I"⟩, 32) := ⟨⟨by decide +kernel, by decide +kernel⟩, List.mem_of_getElem? (i := 923) (by decide +kernel), List.mem_of_getElem? (i := 1062) (by decide +kernel), List.mem_of_getElem? (i := 1063) (by decide +kernel)⟩
theorem lw_p53 : lw_okq (⟨"KnitBenchModel", "see", "()I"⟩, 32) := ⟨⟨by decide +kernel, by decide +kernel⟩, List.mem_of_getElem? (i := 923) (by decide +kernel), List.mem_of_getElem? (i := 1066) (by decide +kernel), List.mem_of_getElem? (i := 1067) (by decide +kernel)⟩
theorem lw_p54 : lw_okq (⟨"KnitBenchModel", "opens", "(II)V"⟩, 32) := ⟨⟨by decide +kernel, by decide +kernel⟩, List.mem_of_getElem? (i := 923) (by decide +kernel), List.mem_of_getElem? (i := 1070) (by decide +kernel), List.mem_of_getElem? (i := 1071) (by decide +kernel)⟩
theorem lw_p55 : lw_okq (⟨"KnitBenchModel", "need", "(I)V"⟩, 32) := ⟨⟨by decide +kernel, by decide +kernel⟩, List.mem_of_getElem? (i := 923) (by decide +kernel), List.mem_of_getElem? (i := 1074) (by decide +kernel), List.mem_of_getElem? (i := 1075) (by decide +kernel)⟩
theorem lw_p56 : lw_okq (⟨"KnitBenchModel", "wrong", "(I)V"⟩, 32) := ⟨⟨by decide +kernel, by decide +kernel⟩, List.mem_of_getElem? (i := 923) (by decide +kernel), List.mem_of_getElem? (i := 1078) (by decide +kernel), List.mem_of_getElem? (i := 1079) (by decide +kernel)⟩
theorem lw_p57 : lw_okq (⟨"KnitBenchModel", "add", "(III)V"⟩, 32) := ⟨⟨by decide +kernel, by decide +kernel⟩, List.mem_of_getElem? (i := 923) (by decide +kernel), List.mem_of_getElem? (i := 1082) (by decide +kernel), List.mem_of_getElem? (i := 1083) (by decide +kernel)⟩
theorem lw_p58 : lw_okq (⟨"KnitBenchModel", "named", "(IIZ)V"⟩, 32) := ⟨⟨by decide +kernel, by decide +kernel⟩, List.mem_of_getElem? (i := 923) (by decide +kernel), List.mem_of_getElem? (i := 1086) (by decide +kernel), List.mem_of_getElem? (i := 1087) (by decide +kernel)⟩
theorem lw_p59 : lw_okq (⟨"KnitBenchModel", "plain", "(II)V"⟩, 32) := ⟨⟨by decide +kernel, by decide +kernel⟩, List.mem_of_getElem? (i := 923) (by decide +kernel), List.mem_of_getElem? (i := 1090) (by decide +kernel), List.mem_of_getElem? (i := 1091) (by decide +kernel)⟩
theorem lw_p60 : lw_okq (⟨"KnitBenchModel", "isDigit", "(I)Z"⟩, 32) := ⟨⟨by decide +kernel, by decide +kernel⟩, List.mem_of_getElem? (i := 923) (by decide +kernel), List.mem_of_getElem? (i := 1094) (by decide +kernel), List.mem_of_getElem? (i := 1095) (by decide +kernel)⟩
theorem lw_p61 : lw_okq (⟨"KnitBenchModel", "count", "(I)I"⟩, 32) := ⟨⟨by decide +kernel, by decide +kernel⟩, List.mem_of_getElem? (i := 923) (by decide +kernel), List.mem_of_getElem? (i := 1098) (by decide +kernel), List.mem_of_getElem? (i := 1099) (by decide +kernel)⟩
theorem lw_p62 : lw_okq (⟨"KnitBenchModel", "knit", "(II)V"⟩, 32) := ⟨⟨by decide +kernel, by decide +kernel⟩, List.mem_of_getElem? (i := 923) (by decide +kernel), List.mem_of_getElem? (i := 1102) (by decide +kernel), List.mem_of_getElem? (i := 1103) (by decide +kernel)⟩
theorem lw_p63 : lw_okq (⟨"KnitBenchModel", "cable", "(I)V"⟩, 32) := ⟨⟨by decide +kernel, by decide +kernel⟩, List.mem_of_getElem? (i := 923) (by decide +kernel), List.mem_of_getElem? (i := 1106) (by decide +kernel), List.mem_of_getElem? (i := 1107) (by decide +kernel)⟩
def lw_privs_4 : List (MethodName × Nat) := [(⟨"KnitBenchModel", "castOn", "(IZ)V"⟩, 32), (⟨"KnitBenchModel", "newLoop", "(I)V"⟩, 32), (⟨"KnitBenchModel", "says", "(Z)Z"⟩, 32), (⟨"KnitBenchModel", "line", "()V"⟩, 32), (⟨"KnitBenchModel", "seeWord", "()I"⟩, 32), (⟨"KnitBenchModel", "see", "()I"⟩, 32), (⟨"KnitBenchModel", "opens", "(II)V"⟩, 32), (⟨"KnitBenchModel", "need", "(I)V"⟩, 32), (⟨"KnitBenchModel", "wrong", "(I)V"⟩, 32), (⟨"KnitBenchModel", "add", "(III)V"⟩, 32), (⟨"KnitBenchModel", "named", "(IIZ)V"⟩, 32), (⟨"KnitBenchModel", "plain", "(II)V"⟩, 32), (⟨"KnitBenchModel", "isDigit", "(I)Z"⟩, 32), (⟨"KnitBenchModel", "count", "(I)I"⟩, 32), (⟨"KnitBenchModel", "knit", "(II)V"⟩, 32), (⟨"KnitBenchModel", "cable", "(I)V"⟩, 32)]
theorem lw_r4 : ∀ q ∈ lw_privs_4, lw_okq q := List.forall_mem_cons.mpr ⟨lw_p48, List.forall_mem_cons.mpr ⟨lw_p49, List.forall_mem_cons.mpr ⟨lw_p50, List.forall_mem_cons.mpr ⟨lw_p51, List.forall_mem_cons.mpr ⟨lw_p52, List.forall_mem_cons.mpr ⟨lw_p53, List.forall_mem_cons.mpr ⟨lw_p54, List.forall_mem_cons.mpr ⟨lw_p55, List.forall_mem_cons.mpr ⟨lw_p56, List.forall_mem_cons.mpr ⟨lw_p57, List.forall_mem_cons.mpr ⟨lw_p58, List.forall_mem_cons.mpr ⟨lw_p59, List.forall_mem_cons.mpr ⟨lw_p60, List.forall_mem_cons.mpr ⟨lw_p61, List.forall_mem_cons.mpr ⟨lw_p62, List.forall_mem_cons.mpr ⟨lw_p63, fun _ h => absurd h List.not_mem_nil⟩⟩⟩⟩⟩⟩⟩⟩⟩⟩⟩⟩⟩⟩⟩⟩
theorem lw_p64 : lw_okq (⟨"KnitBenchModel", "side", "()I"⟩, 32) := ⟨⟨by decide +kernel, by decide +kernel⟩, List.mem_of_getElem? (i := 923) (by decide +kernel), List.mem_of_getElem? (i := 1110) (by decide +kernel), List.mem_of_getElem? (i := 1111) (by decide +kernel)⟩
theorem lw_p65 : lw_okq (⟨"KnitBenchModel", "shuts", "()V"⟩, 32) := ⟨⟨by decide +kernel, by decide +kernel⟩, List.mem_of_getElem? (i := 923) (by decide +kernel), List.mem_of_getElem? (i := 1114) (by decide +kernel), List.mem_of_getElem? (i := 1115) (by decide +kernel)⟩
theorem lw_p66 : lw_okq (⟨"KnitBenchModel", "times", "()I"⟩, 32) := ⟨⟨by decide +kernel, by decide +kernel⟩, List.mem_of_getElem? (i := 923) (by decide +kernel), List.mem_of_getElem? (i := 1118) (by decide +kernel), List.mem_of_getElem? (i := 1119) (by decide +kernel)⟩
theorem lw_p67 : lw_okq (⟨"KnitBenchModel", "last", "()I"⟩, 32) := ⟨⟨by decide +kernel, by decide +kernel⟩, List.mem_of_getElem? (i := 923) (by decide +kernel), List.mem_of_getElem? (i := 1122) (by decide +kernel), List.mem_of_getElem? (i := 1123) (by decide +kernel)⟩
theorem lw_p68 : lw_okq (⟨"KnitBenchModel", "liveLoops", "()I"⟩, 32) := ⟨⟨by decide +kernel, by decide +kernel⟩, List.mem_of_getElem? (i := 923) (by decide +kernel), List.mem_of_getElem? (i := 1126) (by decide +kernel), List.mem_of_getElem? (i := 1127) (by decide +kernel)⟩
theorem lw_p69 : lw_okq (⟨"KnitBenchModel", "flatten", "(I)V"⟩, 32) := ⟨⟨by decide +kernel, by decide +kernel⟩, List.mem_of_getElem? (i := 923) (by decide +kernel), List.mem_of_getElem? (i := 1130) (by decide +kernel), List.mem_of_getElem? (i := 1131) (by decide +kernel)⟩
theorem lw_p70 : lw_okq (⟨"KnitBenchModel", "taken", "(II)I"⟩, 32) := ⟨⟨by decide +kernel, by decide +kernel⟩, List.mem_of_getElem? (i := 923) (by decide +kernel), List.mem_of_getElem? (i := 1134) (by decide +kernel), List.mem_of_getElem? (i := 1135) (by decide +kernel)⟩
theorem lw_p71 : lw_okq (⟨"KnitBenchModel", "stops", "(II)V"⟩, 32) := ⟨⟨by decide +kernel, by decide +kernel⟩, List.mem_of_getElem? (i := 923) (by decide +kernel), List.mem_of_getElem? (i := 1147) (by decide +kernel), List.mem_of_getElem? (i := 1148) (by decide +kernel)⟩
theorem lw_p72 : lw_okq (⟨"KnitBenchModel", "lay", "()V"⟩, 32) := ⟨⟨by decide +kernel, by decide +kernel⟩, List.mem_of_getElem? (i := 923) (by decide +kernel), List.mem_of_getElem? (i := 1154) (by decide +kernel), List.mem_of_getElem? (i := 1155) (by decide +kernel)⟩
theorem lw_p73 : lw_okq (⟨"KnitBenchModel", "take", "(III)I"⟩, 32) := ⟨⟨by decide +kernel, by decide +kernel⟩, List.mem_of_getElem? (i := 923) (by decide +kernel), List.mem_of_getElem? (i := 1158) (by decide +kernel), List.mem_of_getElem? (i := 1159) (by decide +kernel)⟩
theorem lw_p74 : lw_okq (⟨"KnitBenchModel", "hasParent", "(II)V"⟩, 32) := ⟨⟨by decide +kernel, by decide +kernel⟩, List.mem_of_getElem? (i := 923) (by decide +kernel), List.mem_of_getElem? (i := 1162) (by decide +kernel), List.mem_of_getElem? (i := 1163) (by decide +kernel)⟩
theorem lw_p75 : lw_okq (⟨"KnitBenchModel", "needle", "(I)I"⟩, 32) := ⟨⟨by decide +kernel, by decide +kernel⟩, List.mem_of_getElem? (i := 923) (by decide +kernel), List.mem_of_getElem? (i := 1178) (by decide +kernel), List.mem_of_getElem? (i := 1179) (by decide +kernel)⟩
theorem lw_p76 : lw_okq (⟨"KnitBenchModel", "reckon", "(I)V"⟩, 32) := ⟨⟨by decide +kernel, by decide +kernel⟩, List.mem_of_getElem? (i := 923) (by decide +kernel), List.mem_of_getElem? (i := 1198) (by decide +kernel), List.mem_of_getElem? (i := 1199) (by decide +kernel)⟩
theorem lw_p77 : lw_okq (⟨"KnitBenchModel", "isOver", "(IIII)Z"⟩, 32) := ⟨⟨by decide +kernel, by decide +kernel⟩, List.mem_of_getElem? (i := 923) (by decide +kernel), List.mem_of_getElem? (i := 1206) (by decide +kernel), List.mem_of_getElem? (i := 1207) (by decide +kernel)⟩
theorem lw_p78 : lw_okq (⟨"KnitBenchModel", "tell", "(I)V"⟩, 32) := ⟨⟨by decide +kernel, by decide +kernel⟩, List.mem_of_getElem? (i := 923) (by decide +kernel), List.mem_of_getElem? (i := 1210) (by decide +kernel), List.mem_of_getElem? (i := 1211) (by decide +kernel)⟩
theorem lw_p79 : lw_okq (⟨"KnitBenchModel", "push", "(IIII)I"⟩, 32) := ⟨⟨by decide +kernel, by decide +kernel⟩, List.mem_of_getElem? (i := 923) (by decide +kernel), List.mem_of_getElem? (i := 1214) (by decide +kernel), List.mem_of_getElem? (i := 1215) (by decide +kernel)⟩
def lw_privs_5 : List (MethodName × Nat) := [(⟨"KnitBenchModel", "side", "()I"⟩, 32), (⟨"KnitBenchModel", "shuts", "()V"⟩, 32), (⟨"KnitBenchModel", "times", "()I"⟩, 32), (⟨"KnitBenchModel", "last", "()I"⟩, 32), (⟨"KnitBenchModel", "liveLoops", "()I"⟩, 32), (⟨"KnitBenchModel", "flatten", "(I)V"⟩, 32), (⟨"KnitBenchModel", "taken", "(II)I"⟩, 32), (⟨"KnitBenchModel", "stops", "(II)V"⟩, 32), (⟨"KnitBenchModel", "lay", "()V"⟩, 32), (⟨"KnitBenchModel", "take", "(III)I"⟩, 32), (⟨"KnitBenchModel", "hasParent", "(II)V"⟩, 32), (⟨"KnitBenchModel", "needle", "(I)I"⟩, 32), (⟨"KnitBenchModel", "reckon", "(I)V"⟩, 32), (⟨"KnitBenchModel", "isOver", "(IIII)Z"⟩, 32), (⟨"KnitBenchModel", "tell", "(I)V"⟩, 32), (⟨"KnitBenchModel", "push", "(IIII)I"⟩, 32)]
theorem lw_r5 : ∀ q ∈ lw_privs_5, lw_okq q := List.forall_mem_cons.mpr ⟨lw_p64, List.forall_mem_cons.mpr ⟨lw_p65, List.forall_mem_cons.mpr ⟨lw_p66, List.forall_mem_cons.mpr ⟨lw_p67, List.forall_mem_cons.mpr ⟨lw_p68, List.forall_mem_cons.mpr ⟨lw_p69, List.forall_mem_cons.mpr ⟨lw_p70, List.forall_mem_cons.mpr ⟨lw_p71, List.forall_mem_cons.mpr ⟨lw_p72, List.forall_mem_cons.mpr ⟨lw_p73, List.forall_mem_cons.mpr ⟨lw_p74, List.forall_mem_cons.mpr ⟨lw_p75, List.forall_mem_cons.mpr ⟨lw_p76, List.forall_mem_cons.mpr ⟨lw_p77, List.forall_mem_cons.mpr ⟨lw_p78, List.forall_mem_cons.mpr ⟨lw_p79, fun _ h => absurd h List.not_mem_nil⟩⟩⟩⟩⟩⟩⟩⟩⟩⟩⟩⟩⟩⟩⟩⟩
theorem lw_p80 : lw_okq (⟨"KnitBenchModel", "ends", "(I)V"⟩, 32) := ⟨⟨by decide +kernel, by decide +kernel⟩, List.mem_of_getElem? (i := 923) (by decide +kernel), List.mem_of_getElem? (i := 1218) (by decide +kernel), List.mem_of_getElem? (i := 1219) (by decide +kernel)⟩
theorem lw_p81 : lw_okq (⟨"KnitBenchModel", "put", "(I)V"⟩, 32) := ⟨⟨by decide +kernel, by decide +kernel⟩, List.mem_of_getElem? (i := 923) (by decide +kernel), List.mem_of_getElem? (i := 1222) (by decide +kernel), List.mem_of_getElem? (i := 1223) (by decide +kernel)⟩
theorem lw_p82 : lw_okq (⟨"KnitBenchModel", "name", "(I)V"⟩, 32) := ⟨⟨by decide +kernel, by decide +kernel⟩, List.mem_of_getElem? (i := 923) (by decide +kernel), List.mem_of_getElem? (i := 1226) (by decide +kernel), List.mem_of_getElem? (i := 1227) (by decide +kernel)⟩
theorem lw_p83 : lw_okq (⟨"KnitBenchModel", "spell", "(J)V"⟩, 32) := ⟨⟨by decide +kernel, by decide +kernel⟩, List.mem_of_getElem? (i := 923) (by decide +kernel), List.mem_of_getElem? (i := 1231) (by decide +kernel), List.mem_of_getElem? (i := 1232) (by decide +kernel)⟩
def lw_privs_6 : List (MethodName × Nat) := [(⟨"KnitBenchModel", "ends", "(I)V"⟩, 32), (⟨"KnitBenchModel", "put", "(I)V"⟩, 32), (⟨"KnitBenchModel", "name", "(I)V"⟩, 32), (⟨"KnitBenchModel", "spell", "(J)V"⟩, 32)]
theorem lw_r6 : ∀ q ∈ lw_privs_6, lw_okq q := List.forall_mem_cons.mpr ⟨lw_p80, List.forall_mem_cons.mpr ⟨lw_p81, List.forall_mem_cons.mpr ⟨lw_p82, List.forall_mem_cons.mpr ⟨lw_p83, fun _ h => absurd h List.not_mem_nil⟩⟩⟩⟩
def lw_privs : List (MethodName × Nat) := lw_privs_1 ++ (lw_privs_2 ++ (lw_privs_3 ++ (lw_privs_4 ++ (lw_privs_5 ++ (lw_privs_6)))))
def lw_tbl : List Cond := k2_sels lw_privs ++ tables_1
theorem lw_privs_ok : ∀ q ∈ lw_privs, lw_okq q := by
  show ∀ q ∈ lw_privs_1 ++ (lw_privs_2 ++ (lw_privs_3 ++ (lw_privs_4 ++ (lw_privs_5 ++ (lw_privs_6))))), lw_okq q
  exact List.forall_mem_append.mpr ⟨lw_r1, List.forall_mem_append.mpr ⟨lw_r2, List.forall_mem_append.mpr ⟨lw_r3, List.forall_mem_append.mpr ⟨lw_r4, List.forall_mem_append.mpr ⟨lw_r5, lw_r6⟩⟩⟩⟩⟩
-- ===== end of PART A; then your names; then what follows =====
end
section
/-! ===== BEGIN words of one list among another's, by their places ===== -/
theorem goodIn_r {big : List Cond} (ws : List Cond) (ps : List Nat) (hp : ws = ps.filterMap (fun i => big[i]?)) (h : ws.all goodWord = true) : GoodIn big ws := by
  intro w hw
  have h1 := List.all_eq_true.mp h w hw
  rw [hp] at hw
  obtain ⟨i, -, hi⟩ := List.mem_filterMap.mp hw
  have hm : w ∈ big := by first | exact List.mem_of_getElem? hi | exact List.getElem?_mem hi
  exact ⟨hm, good_of_word h1⟩
theorem goodIn_app {big a b : List Cond} (ha : GoodIn big a) (hb : GoodIn big b) : GoodIn big (a ++ b) := fun w h => (List.mem_append.mp h).elim (ha w) (hb w)
theorem goodIn_ca {big a b : List Cond} {c : Cond} (ha : GoodIn big (c :: a)) (hb : GoodIn big b) : GoodIn big (c :: (a ++ b)) := fun w h => (List.mem_cons.mp h).elim (fun e => ha w (List.mem_cons.mpr (Or.inl e))) (fun h => (List.mem_append.mp h).elim (fun h => ha w (List.mem_cons.mpr (Or.inr h))) (hb w))
theorem goodIn_sub {big ws : List Cond} (hm : ∀ w ∈ ws, w ∈ big) (h : ws.all goodWord = true) : GoodIn big ws := fun w hw => ⟨hm w hw, good_of_word (List.all_eq_true.mp h w hw)⟩
/-! ===== END ===== -/

/-! ===== BEGIN exceptions that leave a method, and their catching by the caller (launches without stack traces) ===== -/
section VXA
/-! The laws vx_back, vx_callV, vx_callS, vx_callSW, vx_throw0, vx_throwS follow proofs of the library, with one case more: JvmDerived/Free/Laws.lean (Back.of_free), Shelf42/LK1.lean (callV, callS), Shelf/KitTraced.lean (throwNew0V, throwNewS). -/
/-- where a method has thrown q: the class by its name, the cell, what was written, the world -/
def vx_T (XC : String → State → State → Prop) (st : State) (q : Addr) (t : State) (mc ms : Nat) (free : Addr → Prop) : Prop :=
  ∃ (E : String) (ce : Cell) (L : List Loc), XC E st t ∧ t.heap[q]? = some ce ∧ ce.vm = .none ∧ st.vm.findClass E = some ce.cls ∧ st.WarmedH t.vm ∧ st.sameButNew ({ t with vm := st.vm } : State) L mc ms ∧ ∀ z ∈ L, free z.base
def vx_Q (Qc : Array Value → State → Outcome → State → Prop) (XC : String → State → State → Prop) (mc ms : Nat) (free : Addr → Prop) : Array Value → State → Outcome → State → Prop := fun a st o t =>
  (Qc a st o t ∧ ∃ L, FrameEnd st o t L mc ms ∧ ∀ q ∈ L, free q.base) ∨ ∃ q, o = .threw q ∧ vx_T XC st q t mc ms free
/-- a callee that returns or throws -/
def vx_Met (l : Launch) (y : MethodName) (ws : List Cond) (rm : Room) (Pc : Array Value → State → Prop) (Qc : Array Value → State → Outcome → State → Prop) (XC : String → State → State → Prop) (mc ms : Nat) (free : Addr → Prop) : Prop :=
  MetFree l y (headSpec ws rm) Pc (fun _ _ _ _ _ => True) (vx_Q Qc XC mc ms free)
def vx_Post (XC : String → State → State → Prop) (mc ms : Nat) (free : Addr → Prop) : Pt → Array Value → Addr → Pt → Prop := fun A a q B =>
  ∃ (g : JFrame) (mk : MethodId) (t : State) (L : List Loc) (E : String) (ce : Cell), B.U.heap = t.heap ∧ B.U.vm = t.vm ∧ XC E (A.U.calling g mk a) t ∧ t.heap[q]? = some ce ∧ ce.vm = .none ∧ A.U.vm.findClass E = some ce.cls ∧ B.locs = A.locs ++ L ∧ (∀ z ∈ L, free z.base) ∧ B.cells = A.cells + mc ∧ B.slots = A.slots + ms
def vx_Back (l : Launch) (R : Room) (p : Program) (e : Env) (below : List Frame) (s : State) (sargs : Array Value) (y : MethodName) (len W9 : Nat)
    (Pre : Pt → Array Value → Prop) (Post : Pt → Array Value → Option Value → Pt → Prop) (PostX : Pt → Array Value → Addr → Pt → Prop) : Prop :=
  ∀ (m : MethodId) (meth : Method) (c : Code) (A : Pt) (g : JFrame) (ig : Instr) (mk : MethodId) (a : Array Value),
    Stand p l e R s m sargs below meth c A.U A.locs A.cells A.slots → g.method = m → g.locals.size = c.maxLocals → decode c.code g.pc = .ok (ig, len) →
    2 * g.monitorRoom + (g.stack.map fun v => v.category).sum ≤ W9 → A.U.methodNamed? y = some mk → Pre A a →
    (∃ (v : Option Value) (B : Pt), Stand p l e R s m sargs below meth c B.U B.locs B.cells B.slots ∧ Post A a v B ∧
      Steps p.tables e below (doInvoke e (A.U.setTop g) [] mk a).1 (B.U.setTop { g with pc := g.pc + len, stack := v.toList ++ g.stack })) ∨
    (∃ (q : Addr) (B : Pt), Stand p l e R s m sargs below meth c B.U B.locs B.cells B.slots ∧ PostX A a q B ∧
      Steps p.tables e below (doInvoke e (A.U.setTop g) [] mk a).1 ((B.U.setTop g).pushFrame (.throwing q)))
section Payer
variable {l : Launch} {R : Room} {p : Program} {e : Env} {below : List Frame} {s : State} {sargs : Array Value} {y : MethodName} {len W9 : Nat}
theorem vx_back {ws : List Cond} {rm : Room} {Pc : Array Value → State → Prop} {Qc : Array Value → State → Outcome → State → Prop} {XC : String → State → State → Prop} {mc ms : Nat} {free : Addr → Prop} {bytes : ByteArray} {maxL : Nat} {ret : Option FieldType}
    (hM : vx_Met l y ws rm Pc Qc XC mc ms free) (hblind : FrameBlind Pc) (hrc : rm.cells = mc) (hrs : rm.slots = ms)
    (hframes : rm.frames + 1 ≤ R.frames) (hlocals : W9 + (maxL + 11) + rm.locals ≤ R.locals)
    (hws : ∀ w ∈ ws, ∀ a' U, s.WarmedH U.vm → w.before a' U = true) (hcode : Cond.code y bytes maxL ret ∈ ws) (hinit : ∀ a' U, s.WarmedH U.vm → (Cond.initialized y.cls).before a' U = true) :
    vx_Back l R p e below s sargs y len W9 (PreOf R mc ms Pc) (PostOf Qc mc ms free) (vx_Post XC mc ms free) := by
  intro m meth c A g ig mk a X hg hsize hdg hW hn hp
  have h1 : (headSpec ws rm).pre.before a A.U = true := atoms_intro fun w hw => hws w hw _ _ X.warmed
  have h2 : (Cond.code y bytes maxL ret).before a A.U = true := hws _ hcode _ _ X.warmed
  have h3 : (Cond.initialized y.cls).before a A.U = true := hinit _ _ X.warmed
  have h4 : A.cells + (headSpec ws rm).room.cells ≤ R.cells := by rw [show (headSpec ws rm).room.cells = mc from hrc]; exact hp.1
  have h5 : A.slots + (headSpec ws rm).room.slots ≤ R.slots := by rw [show (headSpec ws rm).room.slots = ms from hrs]; exact hp.2.1
  have hPc : Pc a (A.U.calling g mk a) := hblind _ _ _ _ hp.2.2
  obtain ⟨U, Ls, c0, s0⟩ := A
  dsimp only [Pt.U, Pt.locs, Pt.cells, Pt.slots] at h1 h2 h3 h4 h5 X hn hPc ⊢
  obtain ⟨methY, cY, hmY, hcY, -, hlY, -, -, -, -⟩ := Cond.code_spec hn h2
  obtain ⟨kY, hkY, -⟩ := className_of_methodNamed hn
  have hinitY : kY.init = .initialized := Cond.initialized_spec (findClass_of_methodNamed hn) hkY h3
  have h : At U g.method c below := by rw [hg]; exact X.here
  have hlocals9 : W9 + (maxL + 11) + (headSpec ws rm).room.locals ≤ R.locals := hlocals
  have happ : (headSpec ws rm).appliesLoose y e.platform (U.calling g mk a) = true :=
    Spec.appliesLoose_calling (g := g) h hdg hn hkY hinitY
      (X.room_calling (g := g) (R' := (headSpec ws rm).room) hsize hmY hcY hframes (by rw [hlY]; omega) h4 h5) h1
  obtain ⟨mid, hmid⟩ := h.above
  have hfr : (U.setTop g).frames = (.java g :: mid) ++ below := by rw [State.frames_setTop' g h.top, hmid]; rfl
  obtain ⟨o, s₂, hsteps, -, hend, hq⟩ := Steps.callFree hM p X.admits X.cas X.clock (acts := []) hfr happ hPc trivial
  have hq' : vx_Q Qc XC mc ms free a (U.calling g mk a) o s₂ := hq
  rw [State.frames_setTop' g h.top] at hend
  obtain ⟨g₀, hg0⟩ := Option.isSome_iff_exists.mp h.top
  obtain ⟨r, hr⟩ := State.topJava?_eq_some.mp hg0
  have hr' : (({ U with heap := s₂.heap, slotsUsed := s₂.slotsUsed } : State).setVm s₂.vm).frames = .java g₀ :: r := hr
  rcases hq' with ⟨hqc, L, hfe, hL⟩ | ⟨q, rfl, E, ce, L, hx, hce, hcv, hcl, hW₂, hsm, hL⟩
  · obtain ⟨⟨v, rfl⟩, hW₂, e2, q2, q3, q4, q5, q6⟩ := id hfe
    have e3 : s₂ = ({ (U.calling g mk a).setFrames s₂.frames with heap := s₂.heap, slotsUsed := s₂.slotsUsed } : State).setVm s₂.vm := by
      have : s₂ = ({ s₂ with vm := (U.calling g mk a).vm } : State).setVm s₂.vm := rfl
      rw [e2] at this
      exact this
    obtain ⟨c₂, i₂, len₂, hc₂, hd₂, hf₂⟩ := hend
    have hW' : U.WarmedH s₂.vm := hW₂
    have hcc : c₂ = c := by
      have h1 : s₂.code? g.method = U.code? g.method := by
        rw [State.code?_eq, State.code?_eq, hW'.alike.method?]
      exact Option.some.inj (hc₂.symm.trans (h1.trans h.code))
    subst hcc
    have hlen : len₂ = len := by rw [hdg] at hd₂; cases hd₂; rfl
    subst hlen
    have hs₂ : s₂ = (({ U with heap := s₂.heap, slotsUsed := s₂.slotsUsed } : State).setVm s₂.vm).setTop { g with pc := g.pc + len₂, stack := v.toList ++ g.stack } := by
      refine e3.trans ?_
      rw [hf₂, State.calling_eq h.top, State.setFrames_setFrames, State.setTop_of_frames _ hr', hr]
      rfl
    have hsame : U.sameButNew ({ U with heap := s₂.heap, slotsUsed := s₂.slotsUsed } : State) L mc ms := by
      refine ⟨?_, q2, q3, q4, q5, q6⟩
      obtain ⟨t, ht, -⟩ := State.frames_cons hr
      show ({ U with heap := s₂.heap, slotsUsed := s₂.slotsUsed } : State) = { U.setFrames U.frames with heap := s₂.heap, slotsUsed := s₂.slotsUsed }
      rw [State.setFrames_self ht]
    subst hg
    refine Or.inl ⟨v, ⟨(({ U with heap := s₂.heap, slotsUsed := s₂.slotsUsed } : State).setVm s₂.vm), Ls ++ L, c0 + mc, s0 + ms⟩,
      ⟨X.admits, X.cas, X.clock, X.frames, X.room, X.hears, X.method, X.code, (X.here.setHeapUsed s₂.heap s₂.slotsUsed).setVm hW'.alike, X.tail, State.WarmedH.trans X.warmed hW', X.limits, X.bytes, X.same.trans (hsame.setVm s.vm)⟩,
      ⟨g, mk, s₂, L, rfl, rfl, hqc, rfl, hL, rfl, rfl⟩, ?_⟩
    show Steps p.tables e below _ ((({ U with heap := s₂.heap, slotsUsed := s₂.slotsUsed } : State).setVm s₂.vm).setTop { g with pc := g.pc + len₂, stack := v.toList ++ g.stack })
    rw [← hs₂]
    exact hsteps
  · obtain ⟨e2, q2, q3, q4, q5, q6⟩ := id hsm
    have e3 : s₂ = ({ (U.calling g mk a).setFrames s₂.frames with heap := s₂.heap, slotsUsed := s₂.slotsUsed } : State).setVm s₂.vm := by
      have : s₂ = ({ s₂ with vm := (U.calling g mk a).vm } : State).setVm s₂.vm := rfl
      rw [e2] at this
      exact this
    have hf₂ : s₂.frames = .throwing q :: .java g :: U.frames.tail := hend
    have hW' : U.WarmedH s₂.vm := hW₂
    have hs₂ : s₂ = ((({ U with heap := s₂.heap, slotsUsed := s₂.slotsUsed } : State).setVm s₂.vm).setTop g).pushFrame (.throwing q) := by
      refine e3.trans ?_
      rw [hf₂, State.calling_eq h.top, State.setFrames_setFrames, State.pushFrame, State.frames_setTop _ hr', State.setTop_of_frames _ hr', State.setFrames_setFrames, hr]
      rfl
    have hsame : U.sameButNew ({ U with heap := s₂.heap, slotsUsed := s₂.slotsUsed } : State) L mc ms := by
      refine ⟨?_, q2, q3, q4, q5, q6⟩
      obtain ⟨t, ht, -⟩ := State.frames_cons hr
      show ({ U with heap := s₂.heap, slotsUsed := s₂.slotsUsed } : State) = { U.setFrames U.frames with heap := s₂.heap, slotsUsed := s₂.slotsUsed }
      rw [State.setFrames_self ht]
    subst hg
    refine Or.inr ⟨q, ⟨(({ U with heap := s₂.heap, slotsUsed := s₂.slotsUsed } : State).setVm s₂.vm), Ls ++ L, c0 + mc, s0 + ms⟩,
      ⟨X.admits, X.cas, X.clock, X.frames, X.room, X.hears, X.method, X.code, (X.here.setHeapUsed s₂.heap s₂.slotsUsed).setVm hW'.alike, X.tail, State.WarmedH.trans X.warmed hW', X.limits, X.bytes, X.same.trans (hsame.setVm s.vm)⟩,
      ⟨g, mk, s₂, L, E, ce, rfl, rfl, hx, hce, hcv, hcl, rfl, hL, rfl, rfl⟩, ?_⟩
    show Steps p.tables e below _ (((({ U with heap := s₂.heap, slotsUsed := s₂.slotsUsed } : State).setVm s₂.vm).setTop g).pushFrame (.throwing q))
    rw [← hs₂]
    exact hsteps
end Payer
section Calls
variable {p : Program} {l : Launch} {e : Env} {R : Room} {s : State} {m : MethodId} {args : Array Value} {below : List Frame} {meth : Method} {c : Code} {T : State} {locs : List Loc} {cells slots : Nat}
theorem vx_callV (X : Stand p l e R s m args below meth c T locs cells slots) (hexec : p.tables.exec = Jvm.exec) {own C : String} {index : Nat} {y : MethodName} {bytes : ByteArray} {maxL : Nat} {ret : Option FieldType}
    (hown : s.vm.findClass own = some m.cls) (hlink : (Cond.methodLink own index y).before args s = true) (hinst : (Cond.instanceMethod y).before args s = true) (hsel : (Cond.selects C y y).before args s = true)
    (hcode : (Cond.code y bytes maxL ret).before args s = true) (hy : y.cls ≠ "java/lang/invoke/MethodHandle" ∧ y.cls ≠ "java/lang/invoke/VarHandle")
    {W9 : Nat} {Pre : Pt → Array Value → Prop} {Post : Pt → Array Value → Option Value → Pt → Prop} {PostX : Pt → Array Value → Addr → Pt → Prop} (hK : vx_Back l R p e below s args y 3 W9 Pre Post PostX)
    {b : Addr} {cellB : Cell} (hcell : T.heap[b]? = some cellB) (hobj : cellB.vm.isStatics = false) (hcls : s.vm.findClass C = some cellB.cls)
    {g : JFrame} (hg : g.method = m) (hsize : g.locals.size = c.maxLocals) {argsL rest : List Value} (hlen : ∀ sig, parseMethodDescriptor y.desc = some sig → argsL.length = sig.parameters.length)
    (hstack : g.stack = argsL.reverse ++ .ref b :: rest) (hW : 2 * g.monitorRoom + (rest.map fun v => v.category).sum ≤ W9) (hdg : decode c.code g.pc = .ok (.invokevirtual index, 3))
    (hpre : ∀ vm₁, s.WarmedH vm₁ → Pre ⟨T.setVm vm₁, locs, cells, slots⟩ (Value.ref b :: argsL).toArray) :
    (∃ (v : Option Value) (vm₁ : Vm) (B : Pt), s.WarmedH vm₁ ∧ Stand p l e R s m args below meth c B.U B.locs B.cells B.slots ∧ Post ⟨T.setVm vm₁, locs, cells, slots⟩ (Value.ref b :: argsL).toArray v B ∧
      ∀ target, Steps p.tables e below (B.U.setTop { g with pc := g.pc + 3, stack := v.toList ++ rest }) target → Steps p.tables e below (T.setTop g) target) ∨
    (∃ (q : Addr) (vm₁ : Vm) (B : Pt), s.WarmedH vm₁ ∧ Stand p l e R s m args below meth c B.U B.locs B.cells B.slots ∧ PostX ⟨T.setVm vm₁, locs, cells, slots⟩ (Value.ref b :: argsL).toArray q B ∧
      Steps p.tables e below (T.setTop g) ((B.U.setTop { g with stack := rest }).pushFrame (.throwing q))) := by
  obtain ⟨mk, methM, hnamed, hmethM, hstM, habM⟩ := Cond.instanceMethod_spec hinst
  obtain ⟨methM', cM, hmethM', -, -, -, -, -, -, hsigM⟩ := Cond.code_spec hnamed hcode
  cases hmethM.symm.trans hmethM'
  obtain ⟨c2, r2, m2, q1, q2, q3, q4, kP, hkP, hkPi⟩ := Cond.selects_spec hsel
  cases hcls.symm.trans q1
  cases (State.methodFound?_of_named hnamed hy).symm.trans q2
  cases hnamed.symm.trans q3
  have hselP : selectMethod e.platform s.vm cellB.cls mk = .method mk := by rw [Launch.admits_selectMethod X.admits]; exact q4
  obtain ⟨vm₁, X₁, hstep₁⟩ := X.invokevirtual hexec hown hlink hnamed hmethM hstM hkP hkPi hy (a := b) (cell := cellB) hcell
    (fun z h => by rw [h] at hobj; cases hobj) hselP hmethM habM hkP hkPi (g := g) hg (argsL := argsL) (rest := rest) (hlen _ hsigM) hstack hdg
  rcases hK m meth c ⟨T.setVm vm₁, locs, cells, slots⟩ { g with stack := rest } (.invokevirtual index) mk (Value.ref b :: argsL).toArray X₁ hg hsize hdg hW (X₁.named hnamed) (hpre vm₁ X₁.warmed) with ⟨v, B, X', hpost, hsteps⟩ | ⟨q, B, X', hpost, hsteps⟩
  · exact Or.inl ⟨v, vm₁, B, X₁.warmed, X', hpost, fun target h => hstep₁ _ fun acts => by rw [doInvoke_state]; exact hsteps.trans h⟩
  · exact Or.inr ⟨q, vm₁, B, X₁.warmed, X', hpost, hstep₁ _ fun acts => by rw [doInvoke_state]; exact hsteps⟩
theorem vx_callS (X : Stand p l e R s m args below meth c T locs cells slots) (hexec : p.tables.exec = Jvm.exec) {own : String} {index : Nat} {y : MethodName} {bytes : ByteArray} {maxL : Nat} {ret : Option FieldType}
    (hown : s.vm.findClass own = some m.cls) (hlink : (Cond.methodLink own index y).before args s = true) (hstat : (Cond.static y).before args s = true) (hinit : (Cond.initialized y.cls).before args s = true)
    (hcode : (Cond.code y bytes maxL ret).before args s = true) (hy : y.cls ≠ "java/lang/invoke/MethodHandle" ∧ y.cls ≠ "java/lang/invoke/VarHandle")
    {W9 : Nat} {Pre : Pt → Array Value → Prop} {Post : Pt → Array Value → Option Value → Pt → Prop} {PostX : Pt → Array Value → Addr → Pt → Prop} (hK : vx_Back l R p e below s args y 3 W9 Pre Post PostX)
    {g : JFrame} (hg : g.method = m) (hsize : g.locals.size = c.maxLocals) {argsL rest : List Value} (hlen : ∀ sig, parseMethodDescriptor y.desc = some sig → argsL.length = sig.parameters.length)
    (hstack : g.stack = argsL.reverse ++ rest) (hW : 2 * g.monitorRoom + (rest.map fun v => v.category).sum ≤ W9) (hdg : decode c.code g.pc = .ok (.invokestatic index, 3))
    (hpre : ∀ vm₁, s.WarmedH vm₁ → Pre ⟨T.setVm vm₁, locs, cells, slots⟩ argsL.toArray) :
    (∃ (v : Option Value) (vm₁ : Vm) (B : Pt), s.WarmedH vm₁ ∧ Stand p l e R s m args below meth c B.U B.locs B.cells B.slots ∧ Post ⟨T.setVm vm₁, locs, cells, slots⟩ argsL.toArray v B ∧
      ∀ target, Steps p.tables e below (B.U.setTop { g with pc := g.pc + 3, stack := v.toList ++ rest }) target → Steps p.tables e below (T.setTop g) target) ∨
    (∃ (q : Addr) (vm₁ : Vm) (B : Pt), s.WarmedH vm₁ ∧ Stand p l e R s m args below meth c B.U B.locs B.cells B.slots ∧ PostX ⟨T.setVm vm₁, locs, cells, slots⟩ argsL.toArray q B ∧
      Steps p.tables e below (T.setTop g) ((B.U.setTop { g with stack := rest }).pushFrame (.throwing q))) := by
  obtain ⟨mk, hnamed⟩ := Cond.code_named hcode
  obtain ⟨methM, cM, hmethM, -, -, -, -, -, -, hsigM⟩ := Cond.code_spec hnamed hcode
  have hstatic : methM.isStatic = true := Cond.static_spec hnamed hmethM hstat
  obtain ⟨kP, hkP, -⟩ := className_of_methodNamed hnamed
  have hinitP : kP.init = .initialized := Cond.initialized_spec (findClass_of_methodNamed hnamed) hkP hinit
  obtain ⟨vm₁, X₁, hstep₁⟩ := X.invokestatic hexec hown hlink hnamed hmethM hstatic hkP hinitP hy (g := g) hg (argsL := argsL) (rest := rest) (hlen _ hsigM) hstack hdg
  rcases hK m meth c ⟨T.setVm vm₁, locs, cells, slots⟩ { g with stack := rest } (.invokestatic index) mk argsL.toArray X₁ hg hsize hdg hW (X₁.named hnamed) (hpre vm₁ X₁.warmed) with ⟨v, B, X', hpost, hsteps⟩ | ⟨q, B, X', hpost, hsteps⟩
  · exact Or.inl ⟨v, vm₁, B, X₁.warmed, X', hpost, fun target h => hstep₁ _ fun acts => by rw [doInvoke_state]; exact hsteps.trans h⟩
  · exact Or.inr ⟨q, vm₁, B, X₁.warmed, X', hpost, hstep₁ _ fun acts => by rw [doInvoke_state]; exact hsteps⟩
end Calls
theorem vx_cls {s : State} {T : State} {vm₁ : Vm} {E : String} {k : ClassId} (hW : s.WarmedH vm₁) (h : (T.setVm vm₁).vm.findClass E = some k) : s.vm.findClass E = some k := by
  have h1 : vm₁.findClass E = some k := h
  rw [hW.alike.findClass] at h1
  exact h1
/-- the method's frame g, with q thrown over it -/
def vx_W (p : Program) (l : Launch) (e : Env) (R : Room) (s : State) (m : MethodId) (args : Array Value) (below : List Frame) (meth : Method) (c : Code) (H : Heap) (locs : List Loc) (cells slots : Nat) (Q : State → Prop) (g : JFrame) (q : Addr) : Prop :=
  ∀ T : State, T.heap = H → Stand p l e R s m args below meth c T locs cells slots → ∃ t, Steps p.tables e below ((T.setTop g).pushFrame (.throwing q)) t ∧ Q t
def vx_Run (p : Program) (l : Launch) (e : Env) (R : Room) (s : State) (m : MethodId) (args : Array Value) (below : List Frame) (meth : Method) (c : Code) (H : Heap) (locs : List Loc) (cells slots mc ms : Nat) (g : JFrame) (rest : List Value) (Qa : State → Outcome → State → Prop) (XC : String → State → State → Prop) (free : Addr → Prop) : Prop :=
  ∀ T : State, T.heap = H → Stand p l e R s m args below meth c T locs cells slots →
    (∃ (v : Option Value) (st₀ t T' : State) (L : List Loc), st₀.heap = H ∧ Stand p l e R s m args below meth c T' (locs ++ L) (cells + mc) (slots + ms) ∧ (∀ q ∈ L, free q.base) ∧ T'.heap = t.heap ∧ T'.vm = t.vm ∧ Qa st₀ (.returned v) t ∧
      Goes p e below T g T' { g with pc := g.pc + 3, stack := v.toList ++ rest }) ∨
    (∃ (q : Addr) (st₀ t T' : State) (L : List Loc) (E : String) (ce : Cell), st₀.heap = H ∧ Stand p l e R s m args below meth c T' (locs ++ L) (cells + mc) (slots + ms) ∧ (∀ z ∈ L, free z.base) ∧ T'.heap = t.heap ∧ T'.vm = t.vm ∧ XC E st₀ t ∧ t.heap[q]? = some ce ∧ ce.vm = .none ∧ s.vm.findClass E = some ce.cls ∧
      Steps p.tables e below (T.setTop g) ((T'.setTop { g with stack := rest }).pushFrame (.throwing q)))
def vx_X {S : Type} (px : S → Prop) (B : String → S → State → Prop) (A : Nat → Prop) : String → State → State → Prop := fun E st t => ∃ u : S, px u ∧ B E u t ∧ va_F A st t
section Runs
variable {p : Program} {l : Launch} {e : Env} {R : Room} {s : State} {m : MethodId} {args : Array Value} {below : List Frame} {meth : Method} {c : Code} {H : Heap} {locs : List Loc} {cells slots : Nat}
variable {y : MethodName} {bytes cc : ByteArray} {maxL nL mc ms n index : Nat} {ret : Option FieldType} {ws : List Cond} {rm : Room} {Pc : Array Value → State → Prop} {Qc : Array Value → State → Outcome → State → Prop} {XC : String → State → State → Prop} {free : Addr → Prop} {Ts : List Cond} {own C : String} {b : Addr} {As rest : List Value} {g : JFrame}
theorem vx_callBack (cb : CallB R s args own index y bytes maxL ret ws rm mc ms n) (hM : vx_Met l y ws rm Pc Qc XC mc ms free) (hbl : FrameBlind Pc) : vx_Back l R p e below s args y 3 8 (PreOf R mc ms Pc) (PostOf Qc mc ms free) (vx_Post XC mc ms free) := by
  obtain ⟨hrc, hrs, hfr, hlo, hws, hcw, -, hini, -⟩ := cb
  exact vx_back (bytes := bytes) (maxL := maxL) (ret := ret) hM hbl hrc hrs hfr hlo hws hcw (fun a' U hW => word_at hW (Or.inl (by first | rfl | simp [Cond.onTables, Cond.keeps, Cond.steady])) hini)
theorem vx_runV (S : CallFix p m c cc nL s args Ts own) (hM : vx_Met l y ws rm Pc Qc XC mc ms free) (cw : CallW R s args own C index y bytes maxL ret ws rm mc ms n) (hp : PreV s H C b Pc As)
    (hg : g.method = m) (hn : As.length = n) (hsize : g.locals.size = nL) (hstack : g.stack = As.reverse ++ .ref b :: rest) (hW : 2 * g.monitorRoom + (rest.map fun v => v.category).sum ≤ 8) (hdg : decode cc g.pc = .ok (.invokevirtual index, 3)) (hf : cells + mc ≤ R.cells ∧ slots + ms ≤ R.slots) :
    vx_Run p l e R s m args below meth c H locs cells slots mc ms g rest (Qc (Value.ref b :: As).toArray) XC free := by
  have hK : vx_Back l R p e below s args y 3 8 (PreOf R mc ms Pc) (PostOf Qc mc ms free) (vx_Post XC mc ms free) := vx_callBack cw.1 hM hp.1
  obtain ⟨⟨-, -, -, -, -, -, hcode, -, hy, hlen, hl⟩, hin, hse⟩ := cw
  obtain ⟨hx, hb, hml, ho, -⟩ := S
  obtain ⟨-, ⟨cellB, hcB, hoB, hclB⟩, hPc⟩ := hp
  intro T hT X
  rcases vx_callV X hx (C := C) (bytes := bytes) (maxL := maxL) (ret := ret) ho hl hin hse hcode hy hK (by rw [hT]; exact hcB) hoB hclB hg (hsize.trans hml.symm) (argsL := As) (rest := rest) (fun sig h => hn.trans (hlen sig h)) hstack hW (by rw [hb]; exact hdg)
    (fun vm₁ hW₁ => ⟨hf.1, hf.2, hPc (T.setVm vm₁) hT hW₁⟩) with ⟨v, vm₁, ⟨U', l2, c2, s2⟩, hW₁, X', ⟨g', mk, t, L, e1, e2, hq, h1, hL, h2, h3⟩, st⟩ | ⟨q, vm₁, ⟨U', l2, c2, s2⟩, hW₁, X', ⟨g', mk, t, L, E, ce, e1, e2, hq, hce, hcv, hcl, h1, hL, h2, h3⟩, st⟩
  · dsimp only [Pt.U, Pt.locs, Pt.cells, Pt.slots] at X' e1 e2 h1 h2 h3 st
    subst h1; subst h2; subst h3
    exact Or.inl ⟨v, (T.setVm vm₁).calling g' mk (Value.ref b :: As).toArray, t, U', L, hT, X', hL, e1, e2, hq, st⟩
  · dsimp only [Pt.U, Pt.locs, Pt.cells, Pt.slots] at X' e1 e2 h1 h2 h3 st hcl
    subst h1; subst h2; subst h3
    exact Or.inr ⟨q, (T.setVm vm₁).calling g' mk (Value.ref b :: As).toArray, t, U', L, E, ce, hT, X', hL, e1, e2, hq, hce, hcv, vx_cls hW₁ hcl, st⟩
theorem vx_runS (S : CallFix p m c cc nL s args Ts own) (hM : vx_Met l y ws rm Pc Qc XC mc ms free) (cw : CallB R s args own index y bytes maxL ret ws rm mc ms n ∧ (Cond.static y).before args s = true) (hp : PreS s H Pc As)
    (hg : g.method = m) (hn : As.length = n) (hsize : g.locals.size = nL) (hstack : g.stack = As.reverse ++ rest) (hW : 2 * g.monitorRoom + (rest.map fun v => v.category).sum ≤ 8) (hdg : decode cc g.pc = .ok (.invokestatic index, 3)) (hf : cells + mc ≤ R.cells ∧ slots + ms ≤ R.slots) :
    vx_Run p l e R s m args below meth c H locs cells slots mc ms g rest (Qc As.toArray) XC free := by
  have hK : vx_Back l R p e below s args y 3 8 (PreOf R mc ms Pc) (PostOf Qc mc ms free) (vx_Post XC mc ms free) := vx_callBack cw.1 hM hp.1
  obtain ⟨⟨-, -, -, -, -, -, hcode, hini, hy, hlen, hl⟩, hstt⟩ := cw
  obtain ⟨hx, hb, hml, ho, -⟩ := S
  intro T hT X
  rcases vx_callS X hx (bytes := bytes) (maxL := maxL) (ret := ret) ho hl hstt hini hcode hy hK hg (hsize.trans hml.symm) (argsL := As) (rest := rest) (fun sig h => hn.trans (hlen sig h)) hstack hW (by rw [hb]; exact hdg)
    (fun vm₁ hW₁ => ⟨hf.1, hf.2, hp.2 (T.setVm vm₁) hT hW₁⟩) with ⟨v, vm₁, ⟨U', l2, c2, s2⟩, hW₁, X', ⟨g', mk, t, L, e1, e2, hq, h1, hL, h2, h3⟩, st⟩ | ⟨q, vm₁, ⟨U', l2, c2, s2⟩, hW₁, X', ⟨g', mk, t, L, E, ce, e1, e2, hq, hce, hcv, hcl, h1, hL, h2, h3⟩, st⟩
  · dsimp only [Pt.U, Pt.locs, Pt.cells, Pt.slots] at X' e1 e2 h1 h2 h3 st
    subst h1; subst h2; subst h3
    exact Or.inl ⟨v, (T.setVm vm₁).calling g' mk As.toArray, t, U', L, hT, X', hL, e1, e2, hq, st⟩
  · dsimp only [Pt.U, Pt.locs, Pt.cells, Pt.slots] at X' e1 e2 h1 h2 h3 st hcl
    subst h1; subst h2; subst h3
    exact Or.inr ⟨q, (T.setVm vm₁).calling g' mk As.toArray, t, U', L, E, ce, hT, X', hL, e1, e2, hq, hce, hcv, vx_cls hW₁ hcl, st⟩
end Runs
section Rows
variable {p : Program} {l : Launch} {e : Env} {R : Room} {s : State} {m : MethodId} {args : Array Value} {below : List Frame} {meth : Method} {c : Code} {H : Heap} {locs : List Loc} {cells slots : Nat} {Q : State → Prop}
variable {mc ms : Nat} {free : Addr → Prop} {A0 A1 : Nat → Prop} {H0 : Heap} {a : Array Value} {pc : Nat} {ls : Array Slot} {st0 rest : List Value}
theorem vx_keep {st₀ t T' : State} {L : List Loc} (h0 : st₀.heap = H) (e1 : T'.heap = t.heap) (hS : va_S A0 H0 H locs) (hA : ∀ q, q < H.size → A1 q → A0 q) (hf : ∀ q, free q → A0 q) (hL : ∀ q ∈ L, free q.base) (hF : va_F A1 st₀ t) :
    H.size ≤ T'.heap.size ∧ (∀ q : Nat, q < H.size → ¬ A1 q → T'.heap[q]? = H[q]?) ∧ va_S A0 H0 T'.heap (locs ++ L) := by
  obtain ⟨hz, hk⟩ := hF
  rw [h0] at hz hk
  exact ⟨by rw [e1]; exact hz, fun q h1 h2 => by rw [e1]; exact hk q h1 h2,
    ⟨Nat.le_trans hS.1 (by rw [e1]; exact hz), fun q h1 h2 => by rw [e1, hk q (Nat.lt_of_lt_of_le h1 hS.1) (fun z => h2 (hA q (Nat.lt_of_lt_of_le h1 hS.1) z))]; exact hS.2.1 q h1 h2, fun q hq => by
      rcases List.mem_append.mp hq with h | h
      · exact hS.2.2 q h
      · exact hf _ (hL q h)⟩⟩
theorem vx_calli {S SX : Type} {post : Int32 → S → Prop} {px : SX → Prop} {B : S → State → Prop} {BX : String → SX → State → Prop} {AX : Nat → Prop} (hr : vx_Run p l e R s m args below meth c H locs cells slots mc ms (F0 m pc ls st0) rest (va_Qi post B A1 a) (vx_X px BX AX) free) (hS : va_S A0 H0 H locs) (hA : ∀ q, q < H.size → A1 q → A0 q) (hf : ∀ q, free q → A0 q) (hAX : ∀ q, q < H.size → AX q → A0 q)
    (kx : ∀ (E : String) (ce : Cell) (q9 : Addr) (u : SX) (t : State) (H1 : Heap) (locs1 : List Loc), t.heap = H1 → s.vm.Alike t.vm → px u → BX E u t → H.size ≤ H1.size → (∀ q : Nat, q < H.size → ¬ AX q → H1[q]? = H[q]?) → va_S A0 H0 H1 locs1 → H1[q9]? = some ce → ce.vm = .none → s.vm.findClass E = some ce.cls → vx_W p l e R s m args below meth c H1 locs1 (cells + mc) (slots + ms) Q (F0 m pc ls rest) q9)
    (kk : ∀ (r : Int32) (u : S) (t : State) (H1 : Heap) (locs1 : List Loc), t.heap = H1 → s.vm.Alike t.vm → post r u → B u t → H.size ≤ H1.size → (∀ q : Nat, q < H.size → ¬ A1 q → H1[q]? = H[q]?) → va_S A0 H0 H1 locs1 → W p l e R s m args below meth c H1 locs1 (cells + mc) (slots + ms) Q (F0 m (pc + 3) ls (.int r :: rest))) : W p l e R s m args below meth c H locs cells slots Q (F0 m pc ls st0) := by
  intro T hT X
  rcases hr T hT X with ⟨v, st₀, t, T', L, h0, X', hL, e1, e2, ⟨⟨r, u, hv, hp, hb⟩, hF⟩, st⟩ | ⟨q, st₀, t, T', L, E, ce, h0, X', hL, e1, e2, ⟨u, hp, hb, hF⟩, hce, hcv, hcl, st⟩
  · cases hv
    obtain ⟨k1, k2, k3⟩ := vx_keep h0 e1 hS hA hf hL hF
    obtain ⟨t2, a1, b1⟩ := kk r u t T'.heap (locs ++ L) e1.symm (by rw [← e2]; exact X'.warmed.alike) hp hb k1 k2 k3 T' rfl X'
    exact ⟨t2, st t2 a1, b1⟩
  · obtain ⟨k1, k2, k3⟩ := vx_keep h0 e1 hS hAX hf hL hF
    obtain ⟨t2, a1, b1⟩ := kx E ce q u t T'.heap (locs ++ L) e1.symm (by rw [← e2]; exact X'.warmed.alike) hp hb k1 k2 k3 (by rw [e1]; exact hce) hcv hcl T' rfl X'
    exact ⟨t2, st.trans a1, b1⟩
theorem vx_calll {S SX : Type} {post : Int64 → S → Prop} {px : SX → Prop} {B : S → State → Prop} {BX : String → SX → State → Prop} {AX : Nat → Prop} (hr : vx_Run p l e R s m args below meth c H locs cells slots mc ms (F0 m pc ls st0) rest (va_Ql post B A1 a) (vx_X px BX AX) free) (hS : va_S A0 H0 H locs) (hA : ∀ q, q < H.size → A1 q → A0 q) (hf : ∀ q, free q → A0 q) (hAX : ∀ q, q < H.size → AX q → A0 q)
    (kx : ∀ (E : String) (ce : Cell) (q9 : Addr) (u : SX) (t : State) (H1 : Heap) (locs1 : List Loc), t.heap = H1 → s.vm.Alike t.vm → px u → BX E u t → H.size ≤ H1.size → (∀ q : Nat, q < H.size → ¬ AX q → H1[q]? = H[q]?) → va_S A0 H0 H1 locs1 → H1[q9]? = some ce → ce.vm = .none → s.vm.findClass E = some ce.cls → vx_W p l e R s m args below meth c H1 locs1 (cells + mc) (slots + ms) Q (F0 m pc ls rest) q9)
    (kk : ∀ (r : Int64) (u : S) (t : State) (H1 : Heap) (locs1 : List Loc), t.heap = H1 → s.vm.Alike t.vm → post r u → B u t → H.size ≤ H1.size → (∀ q : Nat, q < H.size → ¬ A1 q → H1[q]? = H[q]?) → va_S A0 H0 H1 locs1 → W p l e R s m args below meth c H1 locs1 (cells + mc) (slots + ms) Q (F0 m (pc + 3) ls (.long r :: rest))) : W p l e R s m args below meth c H locs cells slots Q (F0 m pc ls st0) := by
  intro T hT X
  rcases hr T hT X with ⟨v, st₀, t, T', L, h0, X', hL, e1, e2, ⟨⟨r, u, hv, hp, hb⟩, hF⟩, st⟩ | ⟨q, st₀, t, T', L, E, ce, h0, X', hL, e1, e2, ⟨u, hp, hb, hF⟩, hce, hcv, hcl, st⟩
  · cases hv
    obtain ⟨k1, k2, k3⟩ := vx_keep h0 e1 hS hA hf hL hF
    obtain ⟨t2, a1, b1⟩ := kk r u t T'.heap (locs ++ L) e1.symm (by rw [← e2]; exact X'.warmed.alike) hp hb k1 k2 k3 T' rfl X'
    exact ⟨t2, st t2 a1, b1⟩
  · obtain ⟨k1, k2, k3⟩ := vx_keep h0 e1 hS hAX hf hL hF
    obtain ⟨t2, a1, b1⟩ := kx E ce q u t T'.heap (locs ++ L) e1.symm (by rw [← e2]; exact X'.warmed.alike) hp hb k1 k2 k3 (by rw [e1]; exact hce) hcv hcl T' rfl X'
    exact ⟨t2, st.trans a1, b1⟩
theorem vx_callf {S SX : Type} {post : UInt32 → S → Prop} {px : SX → Prop} {B : S → State → Prop} {BX : String → SX → State → Prop} {AX : Nat → Prop} (hr : vx_Run p l e R s m args below meth c H locs cells slots mc ms (F0 m pc ls st0) rest (va_Qf post B A1 a) (vx_X px BX AX) free) (hS : va_S A0 H0 H locs) (hA : ∀ q, q < H.size → A1 q → A0 q) (hf : ∀ q, free q → A0 q) (hAX : ∀ q, q < H.size → AX q → A0 q)
    (kx : ∀ (E : String) (ce : Cell) (q9 : Addr) (u : SX) (t : State) (H1 : Heap) (locs1 : List Loc), t.heap = H1 → s.vm.Alike t.vm → px u → BX E u t → H.size ≤ H1.size → (∀ q : Nat, q < H.size → ¬ AX q → H1[q]? = H[q]?) → va_S A0 H0 H1 locs1 → H1[q9]? = some ce → ce.vm = .none → s.vm.findClass E = some ce.cls → vx_W p l e R s m args below meth c H1 locs1 (cells + mc) (slots + ms) Q (F0 m pc ls rest) q9)
    (kk : ∀ (r : UInt32) (u : S) (t : State) (H1 : Heap) (locs1 : List Loc), t.heap = H1 → s.vm.Alike t.vm → post r u → B u t → H.size ≤ H1.size → (∀ q : Nat, q < H.size → ¬ A1 q → H1[q]? = H[q]?) → va_S A0 H0 H1 locs1 → W p l e R s m args below meth c H1 locs1 (cells + mc) (slots + ms) Q (F0 m (pc + 3) ls (.float r :: rest))) : W p l e R s m args below meth c H locs cells slots Q (F0 m pc ls st0) := by
  intro T hT X
  rcases hr T hT X with ⟨v, st₀, t, T', L, h0, X', hL, e1, e2, ⟨⟨r, u, hv, hp, hb⟩, hF⟩, st⟩ | ⟨q, st₀, t, T', L, E, ce, h0, X', hL, e1, e2, ⟨u, hp, hb, hF⟩, hce, hcv, hcl, st⟩
  · cases hv
    obtain ⟨k1, k2, k3⟩ := vx_keep h0 e1 hS hA hf hL hF
    obtain ⟨t2, a1, b1⟩ := kk r u t T'.heap (locs ++ L) e1.symm (by rw [← e2]; exact X'.warmed.alike) hp hb k1 k2 k3 T' rfl X'
    exact ⟨t2, st t2 a1, b1⟩
  · obtain ⟨k1, k2, k3⟩ := vx_keep h0 e1 hS hAX hf hL hF
    obtain ⟨t2, a1, b1⟩ := kx E ce q u t T'.heap (locs ++ L) e1.symm (by rw [← e2]; exact X'.warmed.alike) hp hb k1 k2 k3 (by rw [e1]; exact hce) hcv hcl T' rfl X'
    exact ⟨t2, st.trans a1, b1⟩
theorem vx_calld {S SX : Type} {post : UInt64 → S → Prop} {px : SX → Prop} {B : S → State → Prop} {BX : String → SX → State → Prop} {AX : Nat → Prop} (hr : vx_Run p l e R s m args below meth c H locs cells slots mc ms (F0 m pc ls st0) rest (va_Qd post B A1 a) (vx_X px BX AX) free) (hS : va_S A0 H0 H locs) (hA : ∀ q, q < H.size → A1 q → A0 q) (hf : ∀ q, free q → A0 q) (hAX : ∀ q, q < H.size → AX q → A0 q)
    (kx : ∀ (E : String) (ce : Cell) (q9 : Addr) (u : SX) (t : State) (H1 : Heap) (locs1 : List Loc), t.heap = H1 → s.vm.Alike t.vm → px u → BX E u t → H.size ≤ H1.size → (∀ q : Nat, q < H.size → ¬ AX q → H1[q]? = H[q]?) → va_S A0 H0 H1 locs1 → H1[q9]? = some ce → ce.vm = .none → s.vm.findClass E = some ce.cls → vx_W p l e R s m args below meth c H1 locs1 (cells + mc) (slots + ms) Q (F0 m pc ls rest) q9)
    (kk : ∀ (r : UInt64) (u : S) (t : State) (H1 : Heap) (locs1 : List Loc), t.heap = H1 → s.vm.Alike t.vm → post r u → B u t → H.size ≤ H1.size → (∀ q : Nat, q < H.size → ¬ A1 q → H1[q]? = H[q]?) → va_S A0 H0 H1 locs1 → W p l e R s m args below meth c H1 locs1 (cells + mc) (slots + ms) Q (F0 m (pc + 3) ls (.double r :: rest))) : W p l e R s m args below meth c H locs cells slots Q (F0 m pc ls st0) := by
  intro T hT X
  rcases hr T hT X with ⟨v, st₀, t, T', L, h0, X', hL, e1, e2, ⟨⟨r, u, hv, hp, hb⟩, hF⟩, st⟩ | ⟨q, st₀, t, T', L, E, ce, h0, X', hL, e1, e2, ⟨u, hp, hb, hF⟩, hce, hcv, hcl, st⟩
  · cases hv
    obtain ⟨k1, k2, k3⟩ := vx_keep h0 e1 hS hA hf hL hF
    obtain ⟨t2, a1, b1⟩ := kk r u t T'.heap (locs ++ L) e1.symm (by rw [← e2]; exact X'.warmed.alike) hp hb k1 k2 k3 T' rfl X'
    exact ⟨t2, st t2 a1, b1⟩
  · obtain ⟨k1, k2, k3⟩ := vx_keep h0 e1 hS hAX hf hL hF
    obtain ⟨t2, a1, b1⟩ := kx E ce q u t T'.heap (locs ++ L) e1.symm (by rw [← e2]; exact X'.warmed.alike) hp hb k1 k2 k3 (by rw [e1]; exact hce) hcv hcl T' rfl X'
    exact ⟨t2, st.trans a1, b1⟩
theorem vx_callv {S SX : Type} {post : S → Prop} {px : SX → Prop} {B : S → State → Prop} {BX : String → SX → State → Prop} {AX : Nat → Prop} (hr : vx_Run p l e R s m args below meth c H locs cells slots mc ms (F0 m pc ls st0) rest (va_Qv post B A1 a) (vx_X px BX AX) free) (hS : va_S A0 H0 H locs) (hA : ∀ q, q < H.size → A1 q → A0 q) (hf : ∀ q, free q → A0 q) (hAX : ∀ q, q < H.size → AX q → A0 q)
    (kx : ∀ (E : String) (ce : Cell) (q9 : Addr) (u : SX) (t : State) (H1 : Heap) (locs1 : List Loc), t.heap = H1 → s.vm.Alike t.vm → px u → BX E u t → H.size ≤ H1.size → (∀ q : Nat, q < H.size → ¬ AX q → H1[q]? = H[q]?) → va_S A0 H0 H1 locs1 → H1[q9]? = some ce → ce.vm = .none → s.vm.findClass E = some ce.cls → vx_W p l e R s m args below meth c H1 locs1 (cells + mc) (slots + ms) Q (F0 m pc ls rest) q9)
    (kk : ∀ (u : S) (t : State) (H1 : Heap) (locs1 : List Loc), t.heap = H1 → s.vm.Alike t.vm → post u → B u t → H.size ≤ H1.size → (∀ q : Nat, q < H.size → ¬ A1 q → H1[q]? = H[q]?) → va_S A0 H0 H1 locs1 → W p l e R s m args below meth c H1 locs1 (cells + mc) (slots + ms) Q (F0 m (pc + 3) ls (rest))) : W p l e R s m args below meth c H locs cells slots Q (F0 m pc ls st0) := by
  intro T hT X
  rcases hr T hT X with ⟨v, st₀, t, T', L, h0, X', hL, e1, e2, ⟨⟨u, hv, hp, hb⟩, hF⟩, st⟩ | ⟨q, st₀, t, T', L, E, ce, h0, X', hL, e1, e2, ⟨u, hp, hb, hF⟩, hce, hcv, hcl, st⟩
  · cases hv
    obtain ⟨k1, k2, k3⟩ := vx_keep h0 e1 hS hA hf hL hF
    obtain ⟨t2, a1, b1⟩ := kk u t T'.heap (locs ++ L) e1.symm (by rw [← e2]; exact X'.warmed.alike) hp hb k1 k2 k3 T' rfl X'
    exact ⟨t2, st t2 a1, b1⟩
  · obtain ⟨k1, k2, k3⟩ := vx_keep h0 e1 hS hAX hf hL hF
    obtain ⟨t2, a1, b1⟩ := kx E ce q u t T'.heap (locs ++ L) e1.symm (by rw [← e2]; exact X'.warmed.alike) hp hb k1 k2 k3 (by rw [e1]; exact hce) hcv hcl T' rfl X'
    exact ⟨t2, st.trans a1, b1⟩
end Rows
section Ends
variable {p : Program} {l : Launch} {e : Env} {R : Room} {s : State} {m : MethodId} {args : Array Value} {below : List Frame} {meth : Method} {c : Code} {H : Heap} {locs : List Loc} {cells slots : Nat} {Q : State → Prop}
variable {mc ms : Nat} {free : Addr → Prop} {A0 A1 : Nat → Prop} {H0 : Heap} {a : Array Value} {ls : Array Slot} {st0 rest : List Value}
variable {Qc : Array Value → State → Outcome → State → Prop} {XC : String → State → State → Prop}
/-- what a body that may throw owes at its end -/
def vx_MQ (below : List Frame) (Qc : Array Value → State → Outcome → State → Prop) (XC : String → State → State → Prop) (a : Array Value) (s : State) (mc ms : Nat) (free : Addr → Prop) : State → Prop := fun t =>
  ∃ o, t.status = .running ∧ Ended t below o ∧ vx_Q Qc XC mc ms free a s o t
theorem vx_ret {g : JFrame} {mc ms : Nat} (k : W p l e R s m args below meth c H locs cells slots (MQ below Qc args s mc ms free) g) : W p l e R s m args below meth c H locs cells slots (vx_MQ below Qc XC args s mc ms free) g := by
  intro T hT X
  obtain ⟨t, a1, o, b1, b2, b3, b4⟩ := k T hT X
  exact ⟨t, a1, o, b1, b2, Or.inl ⟨b3, b4⟩⟩
/-- not caught here: it goes on to the caller -/
theorem vx_widen {g : JFrame} {q : Addr} {k n : Nat} (h1 : cells ≤ k) (h2 : slots ≤ n) (kk : vx_W p l e R s m args below meth c H locs k n Q g q) : vx_W p l e R s m args below meth c H locs cells slots Q g q := fun T hT X => kk T hT (stand_widen X h1 h2)
theorem vx_out {pc : Nat} {E : String} {ce : Cell} {q : Addr} {mc ms : Nat} (hout : ∀ x ∈ c.exceptionTable.toList, covers x pc = false) (hlocks : meth.locks = false) (hcell : H[q]? = some ce) (hv : ce.vm = .none) (hcl : s.vm.findClass E = some ce.cls)
    (hx : ∀ t : State, t.heap = H → s.vm.Alike t.vm → XC E s t) (hf : ∀ z ∈ locs, free z.base) (hc : cells ≤ mc) (hs : slots ≤ ms) :
    vx_W p l e R s m args below meth c H locs cells slots (vx_MQ below Qc XC args s mc ms free) (F0 m pc ls rest) q := by
  intro T hT X
  obtain ⟨st1, hrun, hend, hW, hsm⟩ := X.leaveThrown q (g := F0 m pc ls rest) rfl rfl rfl hout hlocks
  have hcell9 : (T.setFrames (.throwing q :: below)).heap[q]? = some ce := by
    show T.heap[q]? = some ce
    rw [hT]; exact hcell
  exact ⟨_, st1, .threw q, hrun, hend, Or.inr ⟨q, rfl, E, ce, locs, hx _ hT hW.alike, hcell9, hv, hcl, hW, hsm.mono hc hs, hf⟩⟩
theorem vx_frame {U : State} {k n : Nat} (h : s.sameButNew ({ U with vm := s.vm } : State) locs k n) : s.heap.size ≤ U.heap.size ∧ ∀ q : Nat, q < s.heap.size → (∀ z ∈ locs, z.base ≠ q) → U.heap[q]? = s.heap[q]? := by
  obtain ⟨-, h2, -, -, -, h6⟩ := h
  refine ⟨h2, fun q hq hz => ?_⟩
  obtain ⟨c9, e1, e2, e3, e4⟩ := h6 q _ (Array.getElem?_eq_getElem hq)
  have hs : c9.slots = (s.heap[q]).slots := Array.ext_getElem? fun i => e4 i fun hm => hz _ hm rfl
  have h9 : c9 = s.heap[q] := by
    rw [hs] at e2
    exact e2
  have e5 : U.heap[q]? = some c9 := e1
  rw [e5, h9, Array.getElem?_eq_getElem hq]
/-- the words of a throw but the four that speak of the heap -/
def vx_no (w : Cond) : Bool := decide (w ≠ .isRef (.static Bundle.tN "UNASSIGNED_STACK" Bundle.steD)) && decide (w ≠ .isRef (.static Bundle.tN "SUPPRESSED_SENTINEL" Bundle.listD)) && decide (w ≠ .laysStatic Bundle.tN "UNASSIGNED_STACK" Bundle.steD) && decide (w ≠ .laysStatic Bundle.tN "SUPPRESSED_SENTINEL" Bundle.listD)
def vx_at0 (own : String) (ic : Nat) (X : String) (names : List String) : List Cond := (Bundle.ownAtoms0 own ic X names).filter vx_no
def vx_atS (own : String) (ic : Nat) (X : String) (names : List String) : List Cond := (Bundle.ownAtoms own ic X names).filter vx_no
/-- a word that the tables alone decide, or a good one -/
def vx_ot (w : Cond) : Bool := w.onTables || goodWord w
theorem vx_ot_at {args a' : Array Value} {s U : State} {w : Cond} (hW : s.WarmedH U.vm) (hvm : s.vm = U.vm) (hg : vx_ot w = true) (h : w.before args s = true) : w.before a' U = true := by
  simp only [vx_ot, Bool.or_eq_true] at hg
  rcases hg with hg | hg
  · exact va_tabs hg hvm h
  · exact word_at hW (good_of_word hg) h
/-- a list's words: the good ones out of the method's own list, the others by premises of their own -/
theorem vx_hat {args : Array Value} {s : State} {L B : List Cond} (h1 : ∀ w ∈ L.filter goodWord, w.before args s = true) (h2 : ∀ w ∈ L.filter (fun w => !goodWord w), w ∈ B) (h3 : ∀ w ∈ B, w.before args s = true) : ∀ w ∈ L, w.before args s = true := by
  intro w hw
  by_cases g : goodWord w = true
  · exact h1 w (List.mem_filter.mpr ⟨hw, g⟩)
  · refine h3 w (h2 w (List.mem_filter.mpr ⟨hw, ?_⟩))
    show (!goodWord w) = true
    cases hgw : goodWord w
    · rfl
    · exact absurd hgw g
theorem vx_c {args : Array Value} {s : State} {w : Cond} {B : List Cond} (h : w.before args s = true) (t : ∀ w ∈ B, w.before args s = true) : ∀ w' ∈ w :: B, w'.before args s = true := fun w' h' => (List.mem_cons.mp h').elim (fun e => by rw [e]; exact h) (t w')
theorem vx_n {args : Array Value} {s : State} : ∀ w ∈ ([] : List Cond), w.before args s = true := fun _ h => nomatch h
theorem vx_own {args : Array Value} {s : State} {L : List Cond} (h1 : ∀ w ∈ L.filter vx_no, w.before args s = true)
    (hU : (Cond.isRef (.static Bundle.tN "UNASSIGNED_STACK" Bundle.steD)).before args s = true) (hN : (Cond.isRef (.static Bundle.tN "SUPPRESSED_SENTINEL" Bundle.listD)).before args s = true)
    (lU : (Cond.laysStatic Bundle.tN "UNASSIGNED_STACK" Bundle.steD).before args s = true) (lN : (Cond.laysStatic Bundle.tN "SUPPRESSED_SENTINEL" Bundle.listD).before args s = true) : ∀ w ∈ L, w.before args s = true := by
  intro w hw
  by_cases e1 : w = .isRef (.static Bundle.tN "UNASSIGNED_STACK" Bundle.steD)
  · rw [e1]; exact hU
  · by_cases e2 : w = .isRef (.static Bundle.tN "SUPPRESSED_SENTINEL" Bundle.listD)
    · rw [e2]; exact hN
    · by_cases e3 : w = .laysStatic Bundle.tN "UNASSIGNED_STACK" Bundle.steD
      · rw [e3]; exact lU
      · by_cases e4 : w = .laysStatic Bundle.tN "SUPPRESSED_SENTINEL" Bundle.listD
        · rw [e4]; exact lN
        · exact h1 w (List.mem_filter.mpr ⟨hw, by unfold vx_no; rw [decide_eq_true e1, decide_eq_true e2, decide_eq_true e3, decide_eq_true e4]; rfl⟩)
/-- where a static field lies, its class's statics cell in H -/
def vx_L (C n d : String) (A : Nat → Prop) (U : State) (H : Heap) : Prop := ∃ (c : ClassId) (k : Class) (i : Nat) (f : Field) (a : Nat) (cell : Cell), U.vm.findClass C = some c ∧ U.fieldFound? C n d = some (c, k, i, f) ∧ f.isStatic = true ∧ k.statics = some a ∧ H[a]? = some cell ∧ cell.vm.isStatics = true ∧ cell.cls = c ∧ f.slot < cell.slots.size ∧ k.staticTypes[f.slot]? = some f.type ∧ ¬ A a
theorem vx_L.moved {C n d : String} {A : Nat → Prop} {u U : State} {H : Heap} (hvm : u.vm.Alike U.vm) (h : vx_L C n d A u H) : vx_L C n d A U H := by
  obtain ⟨c, k, i, f, a, cell, h1, h2, h3, h4, h5, h6, h7, h8, h9, h10⟩ := h
  obtain ⟨k', hi', he⟩ := State.fieldFound?_setVm hvm h2
  exact ⟨c, k', i, f, a, cell, by rw [hvm.findClass]; exact h1, hi', h3, by rw [he]; exact h4, h5, h6, h7, h8, by rw [he]; exact h9, h10⟩
theorem vx_L.kept {C n d : String} {A : Nat → Prop} {U : State} {H H1 : Heap} (h : vx_L C n d A U H) (hq : ∀ a : Nat, a < H.size → ¬ A a → H1[a]? = H[a]?) : vx_L C n d A U H1 := by
  obtain ⟨c, k, i, f, a, cell, h1, h2, h3, h4, h5, h6, h7, h8, h9, h10⟩ := h
  exact ⟨c, k, i, f, a, cell, h1, h2, h3, h4, by rw [hq a (Array.getElem?_eq_some_iff.mp h5).1 h10]; exact h5, h6, h7, h8, h9, h10⟩
theorem vx_L.narrow {C n d : String} {A B : Nat → Prop} {U : State} {H : Heap} (h : vx_L C n d A U H) (hAB : ∀ q, B q → A q) : vx_L C n d B U H := by
  obtain ⟨c, k, i, f, a, cell, h1, h2, h3, h4, h5, h6, h7, h8, h9, h10⟩ := h
  exact ⟨c, k, i, f, a, cell, h1, h2, h3, h4, h5, h6, h7, h8, h9, fun z => h10 (hAB _ z)⟩
theorem vx_L.word {C n d : String} {A : Nat → Prop} {s : State} {args : Array Value} (h : vx_L C n d A s s.heap) : (Cond.laysStatic C n d).before args s = true := by
  obtain ⟨c, k, i, f, a, cell, h1, h2, h3, h4, h5, h6, h7, h8, h9, -⟩ := h
  show (Cond.laysStatic C n d).holds args s none s [] = true
  exact Cond.laysStatic_of h1 h2 h3 h4 h5 h6 h7 h8 h9
/-- .. and what it holds: null or some reference -/
def vx_Zq (C n d : String) (A : Nat → Prop) (U : State) (H : Heap) : Prop := va_Zq C n d A U H ∧ vx_L C n d A U H
theorem vx_Zq.moved {C n d : String} {A : Nat → Prop} {u U : State} {H : Heap} (hvm : u.vm.Alike U.vm) (h : vx_Zq C n d A u H) : vx_Zq C n d A U H := ⟨va_Zq.moved hvm h.1, vx_L.moved hvm h.2⟩
theorem vx_Zq.kept {C n d : String} {A : Nat → Prop} {U : State} {H H1 : Heap} (h : vx_Zq C n d A U H) (hq : ∀ a : Nat, a < H.size → ¬ A a → H1[a]? = H[a]?) : vx_Zq C n d A U H1 := ⟨va_Zq.kept h.1 hq, vx_L.kept h.2 hq⟩
theorem vx_Zq.narrow {C n d : String} {A B : Nat → Prop} {U : State} {H : Heap} (h : vx_Zq C n d A U H) (hAB : ∀ q, B q → A q) : vx_Zq C n d B U H := ⟨va_Zq.narrow h.1 hAB, vx_L.narrow h.2 hAB⟩
theorem vx_Zqof {args : Array Value} {s : State} {C n d : String} {A : Nat → Prop} (hl : (Cond.laysStatic C n d).before args s = true) (hini : (Cond.initialized C).before args s = true) (h : (Cond.isRef (.static C n d)).before args s = true) (hA : ∀ a : Nat, a < s.heap.size → ¬ A a) : vx_Zq C n d A s s.heap := by
  refine ⟨va_Zqof hl hini h hA, ?_⟩
  obtain ⟨c, k, i, f, a, cell, h1, h2, h3, h4, h5, h6, h7, h8, h9⟩ := Cond.laysStatic_spec hl
  exact ⟨c, k, i, f, a, cell, h1, h2, h3, h4, h5, h6, h7, h8, h9, hA a (Array.getElem?_eq_some_iff.mp h5).1⟩
theorem vx_isRef {C n d : String} {v : Value} {A : Nat → Prop} {s : State} {args : Array Value} (h : va_Z C n d v A s s.heap) (hv : v.isRef = true) : (Cond.isRef (.static C n d)).before args s = true := by
  obtain ⟨cf, kf, fi, f, a, cell, h1, h2, h3, h4, h5, h6, h7, -⟩ := h
  have he : (Term.static C n d).eval args s none [] s = some v := by
    simp [Term.eval, State.fieldNamed?, h1, h2, h4, h5, h6, h7]
  simp only [Cond.before, Cond.holds, Cond.value, he]
  cases v <;> simp_all [Value.isRef]
theorem vx_isRefq {C n d : String} {A : Nat → Prop} {s : State} {args : Array Value} (h : va_Zq C n d A s s.heap) : (Cond.isRef (.static C n d)).before args s = true := by
  rcases h with h | ⟨t, h⟩
  · exact vx_isRef h rfl
  · exact vx_isRef h rfl
/-- the same frame, seen from here: as if the method were called anew in this heap -/
theorem vx_rebase {T : State} (X : Stand p l e R s m args below meth c T locs cells slots) {R' : Room} (hf : R'.frames ≤ R.frames) (hl : R'.locals ≤ R.locals) (hc : cells + R'.cells ≤ R.cells) (hs : slots + R'.slots ≤ R.slots) :
    Stand p l e R' ((T.setVm s.vm).setFrames (.invoking m args :: below)) m args below meth c T [] 0 0 := by
  have htop : (T.setVm s.vm).topJava?.isSome := X.here.top
  have hF : ((T.setVm s.vm).setFrames (.invoking m args :: below)).frames = .invoking m args :: below := State.frames_setFrames _ (State.cur_lt_of_top htop)
  obtain ⟨g₀, hg0⟩ := Option.isSome_iff_exists.mp htop
  obtain ⟨r, hr⟩ := State.topJava?_eq_some.mp hg0
  have hl9 : e.platform.stackLimits (T.setVm s.vm).me = e.platform.stackLimits s.me := X.limits
  have hb9 : (T.setVm s.vm).me.stackBytes = s.me.stackBytes := X.bytes
  refine ⟨X.admits, X.cas, X.clock, hF, ?_, X.hears, X.method, X.code, X.here, X.tail, X.warmed, ?_, ?_, ?_⟩
  · have h := X.room
    have hU : ((T.setVm s.vm).setFrames (.invoking m args :: below)).localsInUse = s.localsInUse := by
      rw [State.localsInUse_invoking hF (meth := meth) (c := c) X.method X.code, State.localsInUse_invoking X.frames X.method X.code]
    simp only [State.hasRoom, Bool.and_eq_true, decide_eq_true_eq] at h ⊢
    obtain ⟨⟨⟨⟨h1, h2, h3, h4, h5, h6⟩, h7⟩, h8⟩, h9⟩ := h
    rw [X.frames, List.length_cons] at h2 h3
    have q1 := X.heapSize
    have q2 := X.used
    simp only [hF, hU, List.length_cons, State.stackLimits_setFrames, State.stackBytes_setFrames, hl9, hb9]
    refine ⟨⟨⟨⟨by omega, by omega, by omega, by omega, by omega, h6⟩, ?_⟩, ?_⟩, X.book⟩
    · show T.heap.size + R'.cells ≤ e.platform.maxCells
      omega
    · show T.slotsUsed + R'.slots ≤ e.platform.maxSlots
      omega
  · rw [State.stackLimits_setFrames]; rfl
  · rw [State.stackBytes_setFrames]; rfl
  · refine ⟨?_, Nat.le_refl _, Nat.le_refl _, ?_, ?_, fun a c9 h9 => ⟨c9, h9, rfl, rfl, fun _ _ => rfl⟩⟩
    · obtain ⟨t, ht, -⟩ := State.frames_cons hr
      show T.setVm s.vm = { ((T.setVm s.vm).setFrames (.invoking m args :: below)).setFrames (T.setVm s.vm).frames with heap := T.heap, slotsUsed := T.slotsUsed }
      rw [State.setFrames_setFrames, State.setFrames_self ht]
      rfl
    · show T.slotsUsed = T.slotsUsed + ((T.heap.toList.drop T.heap.size).map (·.slots.size)).sum
      rw [List.drop_eq_nil_of_le (Nat.le_of_eq Array.length_toList)]
      rfl
    · show ((T.heap.toList.drop T.heap.size).map (·.slots.size)).sum ≤ 0
      rw [List.drop_eq_nil_of_le (Nat.le_of_eq Array.length_toList)]
      exact Nat.le_refl _
/-- 'throw new E()': new; dup; invokespecial; athrow -/
theorem vx_throw0 {cc : ByteArray} {pc : Nat} (hexec : p.tables.exec = Jvm.exec) (hb : c.code = cc) (hl : l.stackTraces = false) {own cls : String} {names : List String} {ik ic mc ms : Nat} {A : Nat → Prop}
    (hown : s.vm.findClass own = some m.cls) (hcls : Bundle.fit cls = true) (hnames : ∀ n ∈ names, Bundle.fit n = true)
    (hk : (Cond.classLink own ik cls).before args s = true) (hini : (Cond.initialized cls).before args s = true) (hat : ∀ w ∈ vx_at0 own ic cls names, w.before args s = true)
    (hgood : ∀ w ∈ Cond.classLink own ik cls :: Cond.initialized cls :: vx_at0 own ic cls names, vx_ot w = true)
    (hU : vx_Zq Bundle.tN "UNASSIGNED_STACK" Bundle.steD A s s.heap) (hN : vx_Zq Bundle.tN "SUPPRESSED_SENTINEL" Bundle.listD A s s.heap) (hS : va_S A s.heap H locs) (hsize : ls.size = c.maxLocals)
    (d0 : decode cc pc = .ok (.new ik, 3)) (d3 : decode cc (pc + 3) = .ok (.dup, 1)) (d4 : decode cc (pc + 4) = .ok (.invokespecial ic, 3)) (d7 : decode cc (pc + 7) = .ok (.athrow, 1))
    (hout : ∀ x ∈ c.exceptionTable.toList, covers x (pc + 7) = false)
    (hRframes : names.length + 3 < R.frames) (hRlocals : (rest.map fun v => v.category).sum + (13 * (names.length + 1) + 42) ≤ R.locals) (hRcells : cells + 1 ≤ R.cells) (hRslots : slots + 6 ≤ R.slots) (hlocks : meth.locks = false)
    (hx : ∀ t : State, s.vm.Alike t.vm → H.size ≤ t.heap.size → (∀ q : Nat, q < H.size → t.heap[q]? = H[q]?) → XC cls s t)
    (hf : ∀ z ∈ locs, free z.base) (hc : cells + 1 ≤ mc) (hs : slots + 6 ≤ ms) :
    W p l e R s m args below meth c H locs cells slots (vx_MQ below Qc XC args s mc ms free) (F0 m pc ls rest) := by
  intro T hT X
  have htr : e.platform.stackTraces = false := (show e.platform.stackTraces = l.stackTraces by rw [X.admits.platform]).trans hl
  have Y := vx_rebase X (R' := { frames := R.frames, locals := R.locals, cells := 1, slots := 6 }) (Nat.le_refl _) (Nat.le_refl _) hRcells hRslots
  obtain ⟨s', hA⟩ : ∃ z, z = (T.setVm s.vm).setFrames (.invoking m args :: below) := ⟨_, rfl⟩
  rw [← hA] at Y
  have hvm : s'.vm = s.vm := by rw [hA]; rfl
  have hhp : s'.heap = H := by rw [hA]; exact hT
  have hW0 : s.WarmedH s'.vm := by rw [hvm]; exact State.WarmedH.refl s
  have hat' : ∀ w ∈ vx_at0 own ic cls names, w.before args s' = true := fun w hw => vx_ot_at hW0 hvm.symm (hgood w (List.mem_cons_of_mem _ (List.mem_cons_of_mem _ hw))) (hat w hw)
  have hk' : (Cond.classLink own ik cls).before args s' = true := vx_ot_at hW0 hvm.symm (hgood _ List.mem_cons_self) hk
  have hini' : (Cond.initialized cls).before args s' = true := vx_ot_at hW0 hvm.symm (hgood _ (List.mem_cons_of_mem _ List.mem_cons_self)) hini
  have hU' : vx_Zq Bundle.tN "UNASSIGNED_STACK" Bundle.steD A s' s'.heap := by rw [hhp]; exact vx_Zq.moved hW0.alike (hU.kept hS.2.1)
  have hN' : vx_Zq Bundle.tN "SUPPRESSED_SENTINEL" Bundle.listD A s' s'.heap := by rw [hhp]; exact vx_Zq.moved hW0.alike (hN.kept hS.2.1)
  have h : ∀ w ∈ Bundle.ownAtoms0 own ic cls names, w.before args s' = true := vx_own hat' (vx_isRefq hU'.1) (vx_isRefq hN'.1) hU'.2.word hN'.2.word
  have hown' : s'.vm.findClass own = some m.cls := by rw [hvm]; exact hown
  have hins : (Cond.instantiable cls 6).before args s' = true := h _ (by simp [Bundle.ownAtoms0])
  obtain ⟨vm₁, cX, kX, hfX, hkX, -, -, X₁, st1⟩ := Y.newCold hexec (own := own) (C := cls) (index := ik) (n := 6) hown' hk' hins hini'
    (g := F0 m pc ls rest) rfl (by rw [hb]; exact d0) (Nat.le_refl _) (Nat.le_refl _)
  generalize hT1 : (T.setVm vm₁).pushCell { cls := cX, slots := kX.instanceTypes.map defaultValue, vm := .none } = T1 at X₁ st1
  have hcat : (Value.ref T.heap.size).category = 1 := rfl
  have hcellA : T1.heap[T.heap.size]? = some (freshCell cX kX) := by rw [← hT1]; exact State.heap_pushCell_size _ _
  have d3' : decode c.code (pc + 3) = .ok (.dup, 1) := by rw [hb]; exact d3
  obtain ⟨U, hsteps, hrun, hend, hW, hsame, ce, hce, hO⟩ := X₁.ctorThrow0 hexec htr (own := own) (cls := cls) (names := names) (ic := ic) hown' hcls hnames h (fun x hx => nomatch hx) hfX hkX hcellA (by rw [hhp, hT]; exact Nat.le_refl _)
    (g := { method := m, pc := pc + 4, locals := ls, stack := .ref T.heap.size :: .ref T.heap.size :: rest, locked := none }) rfl hsize rfl rfl (rest := rest) rfl
    (by rw [hb]; exact d4) (by rw [hb]; exact d7) hout hRframes (by simp only [List.map_cons, List.sum_cons, hcat]; omega) hlocks
  obtain ⟨f1, f2⟩ := vx_frame hsame
  rw [hhp] at f1 f2
  have hWs : s.WarmedH U.vm := State.WarmedH.trans hW0 hW
  have hcl : s.vm.findClass cls = some ce.cls := by
    have h9 := hO.cls
    rw [hvm] at h9
    exact h9
  have hall : s.sameButNew ({ U with vm := s.vm } : State) locs mc ms := by
    subst hA
    obtain ⟨e1, e2⟩ := hsame
    rw [State.setFrames_setFrames] at e1
    have h2 : (T.setVm s.vm).sameButNew ({ U with vm := s.vm } : State) [] (0 + 1) (0 + 6) := ⟨e1, e2⟩
    have h3 := X.same.trans h2
    rw [List.append_nil] at h3
    exact h3.mono hc hs
  refine ⟨U, ?_, .threw T.heap.size, hrun, hend, Or.inr ⟨T.heap.size, rfl, cls, ce, locs, hx U hWs.alike f1 (fun q hq => f2 q hq (fun z hz => nomatch hz)), hce, hO.vm, hcl, hWs, hall, hf⟩⟩
  refine st1 _ ?_
  show Steps p.tables e below (T1.setTop { method := m, pc := pc + 3, locals := ls, stack := .ref T.heap.size :: rest, locked := none }) _
  jvm_step X₁.here [X₁.here.top, hexec, d3', Value.category]
  exact hsteps
/-- 'throw new E("text")': new; dup; ldc; invokespecial; athrow -/
theorem vx_throwS {cc : ByteArray} {pc : Nat} (hexec : p.tables.exec = Jvm.exec) (hb : c.code = cc) (hl : l.stackTraces = false) {own cls text : String} {names : List String} {ik is ic mc ms sa : Nat} {A : Nat → Prop}
    (hown : s.vm.findClass own = some m.cls) (hcls : Bundle.fit cls = true) (hnames : ∀ n ∈ names, Bundle.fit n = true)
    (hk : (Cond.classLink own ik cls).before args s = true) (hini : (Cond.initialized cls).before args s = true) (hstr : vk_R own is text sa s) (hat : ∀ w ∈ vx_atS own ic cls names, w.before args s = true)
    (hgood : ∀ w ∈ Cond.classLink own ik cls :: Cond.initialized cls :: vx_atS own ic cls names, vx_ot w = true)
    (hU : vx_Zq Bundle.tN "UNASSIGNED_STACK" Bundle.steD A s s.heap) (hN : vx_Zq Bundle.tN "SUPPRESSED_SENTINEL" Bundle.listD A s s.heap) (hS : va_S A s.heap H locs) (hsize : ls.size = c.maxLocals)
    (d0 : decode cc pc = .ok (.new ik, 3)) (d3 : decode cc (pc + 3) = .ok (.dup, 1)) (d4 : decode cc (pc + 4) = .ok (.ldc is, 2)) (d6 : decode cc (pc + 6) = .ok (.invokespecial ic, 3)) (d9 : decode cc (pc + 9) = .ok (.athrow, 1))
    (hout : ∀ x ∈ c.exceptionTable.toList, covers x (pc + 9) = false)
    (hRframes : names.length + 3 < R.frames) (hRlocals : (rest.map fun v => v.category).sum + (13 * (names.length + 1) + 43) ≤ R.locals) (hRcells : cells + 1 ≤ R.cells) (hRslots : slots + 6 ≤ R.slots) (hlocks : meth.locks = false)
    (hx : ∀ t : State, s.vm.Alike t.vm → H.size ≤ t.heap.size → (∀ q : Nat, q < H.size → t.heap[q]? = H[q]?) → XC cls s t)
    (hf : ∀ z ∈ locs, free z.base) (hc : cells + 1 ≤ mc) (hs : slots + 6 ≤ ms) :
    W p l e R s m args below meth c H locs cells slots (vx_MQ below Qc XC args s mc ms free) (F0 m pc ls rest) := by
  intro T hT X
  have htr : e.platform.stackTraces = false := (show e.platform.stackTraces = l.stackTraces by rw [X.admits.platform]).trans hl
  have Y := vx_rebase X (R' := { frames := R.frames, locals := R.locals, cells := 1, slots := 6 }) (Nat.le_refl _) (Nat.le_refl _) hRcells hRslots
  obtain ⟨s', hA⟩ : ∃ z, z = (T.setVm s.vm).setFrames (.invoking m args :: below) := ⟨_, rfl⟩
  rw [← hA] at Y
  have hvm : s'.vm = s.vm := by rw [hA]; rfl
  have hhp : s'.heap = H := by rw [hA]; exact hT
  have hW0 : s.WarmedH s'.vm := by rw [hvm]; exact State.WarmedH.refl s
  have hat' : ∀ w ∈ vx_atS own ic cls names, w.before args s' = true := fun w hw => vx_ot_at hW0 hvm.symm (hgood w (List.mem_cons_of_mem _ (List.mem_cons_of_mem _ hw))) (hat w hw)
  have hk' : (Cond.classLink own ik cls).before args s' = true := vx_ot_at hW0 hvm.symm (hgood _ List.mem_cons_self) hk
  have hini' : (Cond.initialized cls).before args s' = true := vx_ot_at hW0 hvm.symm (hgood _ (List.mem_cons_of_mem _ List.mem_cons_self)) hini
  have hU' : vx_Zq Bundle.tN "UNASSIGNED_STACK" Bundle.steD A s' s'.heap := by rw [hhp]; exact vx_Zq.moved hW0.alike (hU.kept hS.2.1)
  have hN' : vx_Zq Bundle.tN "SUPPRESSED_SENTINEL" Bundle.listD A s' s'.heap := by rw [hhp]; exact vx_Zq.moved hW0.alike (hN.kept hS.2.1)
  have h : ∀ w ∈ Bundle.ownAtoms own ic cls names, w.before args s' = true := vx_own hat' (vx_isRefq hU'.1) (vx_isRefq hN'.1) hU'.2.word hN'.2.word
  have hown' : s'.vm.findClass own = some m.cls := by rw [hvm]; exact hown
  have hins : (Cond.instantiable cls 6).before args s' = true := h _ (by simp [Bundle.ownAtoms])
  obtain ⟨vm₁, cX, kX, hfX, hkX, -, -, X₁, st1⟩ := Y.newCold hexec (own := own) (C := cls) (index := ik) (n := 6) hown' hk' hins hini'
    (g := F0 m pc ls rest) rfl (by rw [hb]; exact d0) (Nat.le_refl _) (Nat.le_refl _)
  generalize hT1 : (T.setVm vm₁).pushCell { cls := cX, slots := kX.instanceTypes.map defaultValue, vm := .none } = T1 at X₁ st1
  have hcat : (Value.ref T.heap.size).category = 1 := rfl
  have hcellA : T1.heap[T.heap.size]? = some (freshCell cX kX) := by rw [← hT1]; exact State.heap_pushCell_size _ _
  have d3' : decode c.code (pc + 3) = .ok (.dup, 1) := by rw [hb]; exact d3
  have d4' : decode c.code (pc + 4) = .ok (.ldc is, 2) := by rw [hb]; exact d4
  have hstr' : vk_R own is text sa s' := vk_R.warm hW0 hstr
  obtain ⟨U, hsteps, hrun, hend, hW, hsame, ce, hce, hO⟩ := X₁.ctorThrowS hexec htr (own := own) (cls := cls) (names := names) (ic := ic) hown' hcls hnames h (fun x hx => nomatch hx) hfX hkX hcellA (by rw [hhp, hT]; exact Nat.le_refl _) (msg := .ref sa) rfl
    (g := { method := m, pc := pc + 6, locals := ls, stack := .ref sa :: .ref T.heap.size :: .ref T.heap.size :: rest, locked := none }) rfl hsize rfl rfl (rest := rest) rfl
    (by rw [hb]; exact d6) (by rw [hb]; exact d9) hout hRframes (by simp only [List.map_cons, List.sum_cons, hcat]; omega) hlocks
  obtain ⟨f1, f2⟩ := vx_frame hsame
  rw [hhp] at f1 f2
  have hWs : s.WarmedH U.vm := State.WarmedH.trans hW0 hW
  have hcl : s.vm.findClass cls = some ce.cls := by
    have h9 := hO.cls
    rw [hvm] at h9
    exact h9
  have hall : s.sameButNew ({ U with vm := s.vm } : State) locs mc ms := by
    subst hA
    obtain ⟨e1, e2⟩ := hsame
    rw [State.setFrames_setFrames] at e1
    have h2 : (T.setVm s.vm).sameButNew ({ U with vm := s.vm } : State) [] (0 + 1) (0 + 6) := ⟨e1, e2⟩
    have h3 := X.same.trans h2
    rw [List.append_nil] at h3
    exact h3.mono hc hs
  refine ⟨U, ?_, .threw T.heap.size, hrun, hend, Or.inr ⟨T.heap.size, rfl, cls, ce, locs, hx U hWs.alike f1 (fun q hq => f2 q hq (fun z hz => nomatch hz)), hce, hO.vm, hcl, hWs, hall, hf⟩⟩
  refine st1 _ ?_
  show Steps p.tables e below (T1.setTop { method := m, pc := pc + 3, locals := ls, stack := .ref T.heap.size :: rest, locked := none }) _
  jvm_step X₁.here [X₁.here.top, hexec, d3', Value.category]
  exact X₁.ldcString hexec (own := own) (text := text) (index := is) (a := sa) hown' hstr'.1 hstr'.2
    (g := { method := m, pc := pc + 4, locals := ls, stack := .ref T.heap.size :: .ref T.heap.size :: rest, locked := none }) rfl d4' _ hsteps
/-- 'throw new E("text")', the text by a wide index -/
theorem vx_throwSW {cc : ByteArray} {pc : Nat} (hexec : p.tables.exec = Jvm.exec) (hb : c.code = cc) (hl : l.stackTraces = false) {own cls text : String} {names : List String} {ik is ic mc ms sa : Nat} {A : Nat → Prop}
    (hown : s.vm.findClass own = some m.cls) (hcls : Bundle.fit cls = true) (hnames : ∀ n ∈ names, Bundle.fit n = true)
    (hk : (Cond.classLink own ik cls).before args s = true) (hini : (Cond.initialized cls).before args s = true) (hstr : vk_R own is text sa s) (hat : ∀ w ∈ vx_atS own ic cls names, w.before args s = true)
    (hgood : ∀ w ∈ Cond.classLink own ik cls :: Cond.initialized cls :: vx_atS own ic cls names, vx_ot w = true)
    (hU : vx_Zq Bundle.tN "UNASSIGNED_STACK" Bundle.steD A s s.heap) (hN : vx_Zq Bundle.tN "SUPPRESSED_SENTINEL" Bundle.listD A s s.heap) (hS : va_S A s.heap H locs) (hsize : ls.size = c.maxLocals)
    (d0 : decode cc pc = .ok (.new ik, 3)) (d3 : decode cc (pc + 3) = .ok (.dup, 1)) (d4 : decode cc (pc + 4) = .ok (.ldc_w is, 3)) (d7 : decode cc (pc + 7) = .ok (.invokespecial ic, 3)) (d10 : decode cc (pc + 10) = .ok (.athrow, 1))
    (hout : ∀ x ∈ c.exceptionTable.toList, covers x (pc + 10) = false)
    (hRframes : names.length + 3 < R.frames) (hRlocals : (rest.map fun v => v.category).sum + (13 * (names.length + 1) + 43) ≤ R.locals) (hRcells : cells + 1 ≤ R.cells) (hRslots : slots + 6 ≤ R.slots) (hlocks : meth.locks = false)
    (hx : ∀ t : State, s.vm.Alike t.vm → H.size ≤ t.heap.size → (∀ q : Nat, q < H.size → t.heap[q]? = H[q]?) → XC cls s t)
    (hf : ∀ z ∈ locs, free z.base) (hc : cells + 1 ≤ mc) (hs : slots + 6 ≤ ms) :
    W p l e R s m args below meth c H locs cells slots (vx_MQ below Qc XC args s mc ms free) (F0 m pc ls rest) := by
  intro T hT X
  have htr : e.platform.stackTraces = false := (show e.platform.stackTraces = l.stackTraces by rw [X.admits.platform]).trans hl
  have Y := vx_rebase X (R' := { frames := R.frames, locals := R.locals, cells := 1, slots := 6 }) (Nat.le_refl _) (Nat.le_refl _) hRcells hRslots
  obtain ⟨s', hA⟩ : ∃ z, z = (T.setVm s.vm).setFrames (.invoking m args :: below) := ⟨_, rfl⟩
  rw [← hA] at Y
  have hvm : s'.vm = s.vm := by rw [hA]; rfl
  have hhp : s'.heap = H := by rw [hA]; exact hT
  have hW0 : s.WarmedH s'.vm := by rw [hvm]; exact State.WarmedH.refl s
  have hat' : ∀ w ∈ vx_atS own ic cls names, w.before args s' = true := fun w hw => vx_ot_at hW0 hvm.symm (hgood w (List.mem_cons_of_mem _ (List.mem_cons_of_mem _ hw))) (hat w hw)
  have hk' : (Cond.classLink own ik cls).before args s' = true := vx_ot_at hW0 hvm.symm (hgood _ List.mem_cons_self) hk
  have hini' : (Cond.initialized cls).before args s' = true := vx_ot_at hW0 hvm.symm (hgood _ (List.mem_cons_of_mem _ List.mem_cons_self)) hini
  have hU' : vx_Zq Bundle.tN "UNASSIGNED_STACK" Bundle.steD A s' s'.heap := by rw [hhp]; exact vx_Zq.moved hW0.alike (hU.kept hS.2.1)
  have hN' : vx_Zq Bundle.tN "SUPPRESSED_SENTINEL" Bundle.listD A s' s'.heap := by rw [hhp]; exact vx_Zq.moved hW0.alike (hN.kept hS.2.1)
  have h : ∀ w ∈ Bundle.ownAtoms own ic cls names, w.before args s' = true := vx_own hat' (vx_isRefq hU'.1) (vx_isRefq hN'.1) hU'.2.word hN'.2.word
  have hown' : s'.vm.findClass own = some m.cls := by rw [hvm]; exact hown
  have hins : (Cond.instantiable cls 6).before args s' = true := h _ (by simp [Bundle.ownAtoms])
  obtain ⟨vm₁, cX, kX, hfX, hkX, -, -, X₁, st1⟩ := Y.newCold hexec (own := own) (C := cls) (index := ik) (n := 6) hown' hk' hins hini'
    (g := F0 m pc ls rest) rfl (by rw [hb]; exact d0) (Nat.le_refl _) (Nat.le_refl _)
  generalize hT1 : (T.setVm vm₁).pushCell { cls := cX, slots := kX.instanceTypes.map defaultValue, vm := .none } = T1 at X₁ st1
  have hcat : (Value.ref T.heap.size).category = 1 := rfl
  have hcellA : T1.heap[T.heap.size]? = some (freshCell cX kX) := by rw [← hT1]; exact State.heap_pushCell_size _ _
  have d3' : decode c.code (pc + 3) = .ok (.dup, 1) := by rw [hb]; exact d3
  have d4' : decode c.code (pc + 4) = .ok (.ldc_w is, 3) := by rw [hb]; exact d4
  have hstr' : vk_R own is text sa s' := vk_R.warm hW0 hstr
  obtain ⟨U, hsteps, hrun, hend, hW, hsame, ce, hce, hO⟩ := X₁.ctorThrowS hexec htr (own := own) (cls := cls) (names := names) (ic := ic) hown' hcls hnames h (fun x hx => nomatch hx) hfX hkX hcellA (by rw [hhp, hT]; exact Nat.le_refl _) (msg := .ref sa) rfl
    (g := { method := m, pc := pc + 7, locals := ls, stack := .ref sa :: .ref T.heap.size :: .ref T.heap.size :: rest, locked := none }) rfl hsize rfl rfl (rest := rest) rfl
    (by rw [hb]; exact d7) (by rw [hb]; exact d10) hout hRframes (by simp only [List.map_cons, List.sum_cons, hcat]; omega) hlocks
  obtain ⟨f1, f2⟩ := vx_frame hsame
  rw [hhp] at f1 f2
  have hWs : s.WarmedH U.vm := State.WarmedH.trans hW0 hW
  have hcl : s.vm.findClass cls = some ce.cls := by
    have h9 := hO.cls
    rw [hvm] at h9
    exact h9
  have hall : s.sameButNew ({ U with vm := s.vm } : State) locs mc ms := by
    subst hA
    obtain ⟨e1, e2⟩ := hsame
    rw [State.setFrames_setFrames] at e1
    have h2 : (T.setVm s.vm).sameButNew ({ U with vm := s.vm } : State) [] (0 + 1) (0 + 6) := ⟨e1, e2⟩
    have h3 := X.same.trans h2
    rw [List.append_nil] at h3
    exact h3.mono hc hs
  refine ⟨U, ?_, .threw T.heap.size, hrun, hend, Or.inr ⟨T.heap.size, rfl, cls, ce, locs, hx U hWs.alike f1 (fun q hq => f2 q hq (fun z hz => nomatch hz)), hce, hO.vm, hcl, hWs, hall, hf⟩⟩
  refine st1 _ ?_
  show Steps p.tables e below (T1.setTop { method := m, pc := pc + 3, locals := ls, stack := .ref T.heap.size :: rest, locked := none }) _
  jvm_step X₁.here [X₁.here.top, hexec, d3', Value.category]
  exact X₁.ldcStringW hexec (own := own) (text := text) (index := is) (a := sa) hown' hstr'.1 hstr'.2
    (g := { method := m, pc := pc + 4, locals := ls, stack := .ref T.heap.size :: .ref T.heap.size :: rest, locked := none }) rfl d4' _ hsteps
end Ends
section Bodies
variable {l : Launch}
theorem vx_ofW {y : MethodName} {ws ws' : List Cond} {rm : Room} {Pc : Array Value → State → Prop} {Qc : Array Value → State → Outcome → State → Prop} {XC : String → State → State → Prop} {mc ms : Nat} {free : Addr → Prop} {cc : ByteArray} {maxL : Nat} {ret : Option FieldType}
    (hy : plainName y.cls = true) (hw : ws = Cond.code y cc maxL ret :: ws')
    (body : ∀ p e s m args below meth c s₁, BodyLoose p l y (headSpec ws rm) cc maxL ret e s m args below meth c s₁ → c.maxLocals = maxL → (∀ x ∈ c.exceptionTable.toList, False) → Pc args s →
      W p l e (headSpec ws rm).room s m args below meth c s.heap [] 0 0 (vx_MQ below Qc XC args s mc ms free) (entryFrame m args maxL)) : vx_Met l y ws rm Pc Qc XC mc ms free := by
  refine MetFree.of_bodyS (code := cc) (maxLocals := maxL) (ret := ret) hy ?_ ?_
  · intro args s m h hn
    obtain ⟨meth, c, h1, h2, h3, h4, h5, h6, -, -⟩ := Cond.code_spec hn (atoms_spec (ws := ws) h _ (by rw [hw]; exact List.mem_cons_self))
    exact ⟨meth, c, h1, h2, h3, h4, h5, h6⟩
  · intro p e s m args below meth c s₁ B hml hP _
    have hh0 : s₁.heap = s.heap := by rw [B.state]; rfl
    have ht : ∀ x ∈ c.exceptionTable.toList, False := by
      obtain ⟨meth9, c9, h1, h2, -, -, -, -, h7, -⟩ := Cond.code_spec B.named (atoms_spec (ws := ws) B.pre _ (by rw [hw]; exact List.mem_cons_self))
      cases Option.some.inj (h1.symm.trans B.method)
      cases Option.some.inj (h2.symm.trans (Stand.of_body B).code)
      intro x hx
      rw [Array.isEmpty_iff.mp h7] at hx
      cases hx
    obtain ⟨t, a1, o, b1, b2, b3⟩ := body p e s m args below meth c s₁ B hml ht hP s₁ hh0 (Stand.of_body B)
    exact ⟨t, o, a1, b1, b2, b3⟩
/-- the table of a body with handlers -/
theorem vx_table {p : Program} {x y : MethodName} {S : Spec} {cc bytes : ByteArray} {maxL maxL' : Nat} {ret ret' : Option FieldType} {e : Env} {s s₁ : State} {m : MethodId} {args : Array Value} {below : List Frame} {meth : Method} {c : Code} {hh : List (Nat × Nat × Nat × Nat)}
    (B : BodyLoose p l y S cc maxL ret e s m args below meth c s₁) (h : (Cond.codeWith y bytes maxL' ret' hh).before args s = true) : c.exceptionTable.toList = tableOf hh := by
  obtain ⟨m9, meth9, c9, hn9, h1, h2, -, -, h6, -⟩ := Cond.codeWith_spec h
  cases Option.some.inj (hn9.symm.trans B.named)
  cases Option.some.inj (h1.symm.trans B.method)
  cases Option.some.inj (h2.symm.trans (Stand.of_body B).code)
  rw [← h6, table_eq]
end Bodies
end VXA
/-! ===== END ===== -/
/-! ===== BEGIN a static call of a method with an exception table ===== -/
section VXS
variable {p : Program} {l : Launch} {e : Env} {R : Room} {s : State} {m : MethodId} {args : Array Value} {below : List Frame} {meth : Method} {c : Code} {T : State} {H : Heap} {locs : List Loc} {cells slots : Nat}
abbrev vx_CSW (R : Room) (s : State) (args : Array Value) (own : String) (index : Nat) (y : MethodName) (bytes : ByteArray) (maxL : Nat) (ret : Option FieldType) (hh : List (Nat × Nat × Nat × Nat)) (ws : List Cond) (rm : Room) (mc ms n : Nat) : Prop :=
  (rm.cells = mc ∧ rm.slots = ms ∧ rm.frames + 1 ≤ R.frames ∧ 8 + (maxL + 11) + rm.locals ≤ R.locals ∧ (∀ w ∈ ws, ∀ (a' : Array Value) (U : State), s.WarmedH U.vm → w.before a' U = true) ∧ Cond.codeWith y bytes maxL ret hh ∈ ws) ∧
  (Cond.codeWith y bytes maxL ret hh).before args s = true ∧ (Cond.initialized y.cls).before args s = true ∧ (y.cls ≠ "java/lang/invoke/MethodHandle" ∧ y.cls ≠ "java/lang/invoke/VarHandle") ∧
  (∀ sig, parseMethodDescriptor y.desc = some sig → n = sig.parameters.length) ∧ (Cond.methodLink own index y).before args s = true ∧ (Cond.static y).before args s = true
theorem vx_cwSW {own : String} {index maxL mc ms : Nat} {y : MethodName} {bytes : ByteArray} {ret : Option FieldType} {hh : List (Nat × Nat × Nat × Nat)} {Ts ws ws' : List Cond} {rm : Room} (n : Nat) (ht : ∀ w ∈ Ts, w.before args s = true) (hT : GoodIn Ts (va_wsS own index y ws)) (hw : ws = Cond.codeWith y bytes maxL ret hh :: ws') (hrc : rm.cells = mc) (hrs : rm.slots = ms)
    (hd : y.cls ≠ "java/lang/invoke/MethodHandle" ∧ y.cls ≠ "java/lang/invoke/VarHandle" ∧ (parseMethodDescriptor y.desc).map (fun d => d.parameters.length) = some n) (hR : rm.frames + 1 ≤ R.frames ∧ 8 + (maxL + 11) + rm.locals ≤ R.locals) :
    vx_CSW R s args own index y bytes maxL ret hh ws rm mc ms n := by
  have ok : ∀ w ∈ va_wsS own index y ws, w.before args s = true := fun w h => ht w (hT w h).1
  have hG : GoodIn Ts ws := fun w h => hT w (by unfold va_wsS; exact List.mem_append_right _ h)
  have hc : Cond.codeWith y bytes maxL ret hh ∈ ws := by rw [hw]; exact List.mem_cons_self
  refine ⟨⟨hrc, hrs, hR.1, hR.2, pay_in ht hG, hc⟩, ht _ (hG _ hc).1, ok _ (by simp [va_wsS]), ⟨hd.1, hd.2.1⟩, fun sig h => ?_, ok _ (by simp [va_wsS]), ok _ (by simp [va_wsS])⟩
  have h2 := hd.2.2
  rw [h] at h2
  exact (Option.some.inj h2).symm
theorem vx_callSW (X : Stand p l e R s m args below meth c T locs cells slots) (hexec : p.tables.exec = Jvm.exec) {own : String} {index : Nat} {y : MethodName} {bytes : ByteArray} {maxL : Nat} {ret : Option FieldType} {hh : List (Nat × Nat × Nat × Nat)}
    (hown : s.vm.findClass own = some m.cls) (hlink : (Cond.methodLink own index y).before args s = true) (hstat : (Cond.static y).before args s = true) (hinit : (Cond.initialized y.cls).before args s = true)
    (hcode : (Cond.codeWith y bytes maxL ret hh).before args s = true) (hy : y.cls ≠ "java/lang/invoke/MethodHandle" ∧ y.cls ≠ "java/lang/invoke/VarHandle")
    {W9 : Nat} {Pre : Pt → Array Value → Prop} {Post : Pt → Array Value → Option Value → Pt → Prop} (hK : Back l R p e below s args y 3 W9 Pre Post)
    {g : JFrame} (hg : g.method = m) (hsize : g.locals.size = c.maxLocals) {argsL rest : List Value} (hlen : ∀ sig, parseMethodDescriptor y.desc = some sig → argsL.length = sig.parameters.length)
    (hstack : g.stack = argsL.reverse ++ rest) (hW : 2 * g.monitorRoom + (rest.map fun v => v.category).sum ≤ W9) (hdg : decode c.code g.pc = .ok (.invokestatic index, 3))
    (hpre : ∀ vm₁, s.WarmedH vm₁ → Pre ⟨T.setVm vm₁, locs, cells, slots⟩ argsL.toArray) :
    ∃ (v : Option Value) (vm₁ : Vm) (B : Pt), s.WarmedH vm₁ ∧ Stand p l e R s m args below meth c B.U B.locs B.cells B.slots ∧ Post ⟨T.setVm vm₁, locs, cells, slots⟩ argsL.toArray v B ∧
      ∀ target, Steps p.tables e below (B.U.setTop { g with pc := g.pc + 3, stack := v.toList ++ rest }) target → Steps p.tables e below (T.setTop g) target := by
  obtain ⟨mk, methM, cM, hnamed, hmethM, -, -, -, -, -, -, hsigM⟩ := Cond.codeWith_spec hcode
  have hstatic : methM.isStatic = true := Cond.static_spec hnamed hmethM hstat
  obtain ⟨kP, hkP, -⟩ := className_of_methodNamed hnamed
  have hinitP : kP.init = .initialized := Cond.initialized_spec (findClass_of_methodNamed hnamed) hkP hinit
  obtain ⟨vm₁, X₁, hstep₁⟩ := X.invokestatic hexec hown hlink hnamed hmethM hstatic hkP hinitP hy (g := g) hg (argsL := argsL) (rest := rest) (hlen _ hsigM) hstack hdg
  obtain ⟨v, B, X', hpost, hsteps⟩ := hK m meth c ⟨T.setVm vm₁, locs, cells, slots⟩ { g with stack := rest } (.invokestatic index) mk argsL.toArray X₁ hg hsize hdg hW (X₁.named hnamed) (hpre vm₁ X₁.warmed)
  exact ⟨v, vm₁, B, X₁.warmed, X', hpost, fun target h => hstep₁ _ fun acts => by rw [doInvoke_state]; exact hsteps.trans h⟩
theorem vx_runSW {y : MethodName} {bytes cc : ByteArray} {maxL nL mc ms n index : Nat} {ret : Option FieldType} {hh : List (Nat × Nat × Nat × Nat)} {ws : List Cond} {rm : Room} {Pc : Array Value → State → Prop} {Qc : Array Value → State → Outcome → State → Prop} {free : Addr → Prop} {Ts : List Cond} {own : String} {As rest : List Value} {g : JFrame}
    (S : CallFix p m c cc nL s args Ts own) (hM : Met l y ws rm Pc Qc mc ms free) (cw : vx_CSW R s args own index y bytes maxL ret hh ws rm mc ms n) (hp : PreS s H Pc As)
    (hg : g.method = m) (hn : As.length = n) (hsize : g.locals.size = nL) (hstack : g.stack = As.reverse ++ rest) (hW : 2 * g.monitorRoom + (rest.map fun v => v.category).sum ≤ 8) (hdg : decode cc g.pc = .ok (.invokestatic index, 3)) (hf : cells + mc ≤ R.cells ∧ slots + ms ≤ R.slots) :
    va_Run p l e R s m args below meth c H locs cells slots mc ms g rest (Qc As.toArray) (free) := by
  obtain ⟨⟨hrc, hrs, hfr, hlo, hws, hcw⟩, hcode, hini, hy, hlen, hl, hstt⟩ := cw
  have hK : Back l R p e below s args y 3 8 (PreOf R mc ms Pc) (PostOf Qc mc ms free) := va_backW (hh := hh) (bytes := bytes) (maxL := maxL) (ret := ret) hM hp.1 hrc hrs hfr hlo hws hcw (fun a' U hW => word_at hW (Or.inl (by first | rfl | simp [Cond.onTables, Cond.keeps, Cond.steady])) hini)
  obtain ⟨hx, hb, hml, ho, -⟩ := S
  intro T hT X
  obtain ⟨v, vm₁, ⟨U', l2, c2, s2⟩, hW₁, X', ⟨g', mk, t, L, e1, e2, hq, h1, hL, h2, h3⟩, st⟩ := vx_callSW X hx (hh := hh) (bytes := bytes) (maxL := maxL) (ret := ret) ho hl hstt hini hcode hy hK hg (hsize.trans hml.symm) (argsL := As) (rest := rest) (fun sig h => hn.trans (hlen sig h)) hstack hW (by rw [hb]; exact hdg)
    (fun vm₁ hW₁ => ⟨hf.1, hf.2, hp.2 (T.setVm vm₁) hT hW₁⟩)
  dsimp only [Pt.U, Pt.locs, Pt.cells, Pt.slots] at X' e1 e2 h1 h2 h3 st
  subst h1; subst h2; subst h3
  exact ⟨v, (T.setVm vm₁).calling g' mk As.toArray, t, U', L, hT, X', hL, e1, e2, hq, st⟩
/-- a thing of a world lies in the heap -/
theorem vx_lt {D : va_G} {cl : List vw_C} {ws : va_W} {H1 : Heap} (h : va_P D cl ws H1) {k : Nat} {q : Nat × va_E} (hk : ws[k]? = some q) : q.1 < H1.size := (h k q hk).lt
end VXS
/-! ===== END ===== -/
/-! ===== BEGIN methods with a table of their own: called by a name, returning or throwing ===== -/
section VXH
/-! vx_backW, vx_callVX, vx_callSX, vx_callVW, vx_runVW, vx_runVX, vx_runSX, vx_ofWH follow the same proofs as their sisters above (Free/Laws.lean, Shelf42/LK1.lean); vx_outP calls Shelf42/NT130.lean (outThrough). -/
section
variable {l : Launch} {R : Room} {p : Program} {e : Env} {below : List Frame} {s : State} {sargs : Array Value} {y : MethodName} {len W9 : Nat}
theorem vx_backW {ws : List Cond} {rm : Room} {Pc : Array Value → State → Prop} {Qc : Array Value → State → Outcome → State → Prop} {XC : String → State → State → Prop} {mc ms : Nat} {free : Addr → Prop} {bytes : ByteArray} {maxL : Nat} {ret : Option FieldType} {hh : List (Nat × Nat × Nat × Nat)}
    (hM : vx_Met l y ws rm Pc Qc XC mc ms free) (hblind : FrameBlind Pc) (hrc : rm.cells = mc) (hrs : rm.slots = ms)
    (hframes : rm.frames + 1 ≤ R.frames) (hlocals : W9 + (maxL + 11) + rm.locals ≤ R.locals)
    (hws : ∀ w ∈ ws, ∀ a' U, s.WarmedH U.vm → w.before a' U = true) (hcode : Cond.codeWith y bytes maxL ret hh ∈ ws) (hinit : ∀ a' U, s.WarmedH U.vm → (Cond.initialized y.cls).before a' U = true) :
    vx_Back l R p e below s sargs y len W9 (PreOf R mc ms Pc) (PostOf Qc mc ms free) (vx_Post XC mc ms free) := by
  intro m meth c A g ig mk a X hg hsize hdg hW hn hp
  have h1 : (headSpec ws rm).pre.before a A.U = true := atoms_intro fun w hw => hws w hw _ _ X.warmed
  have h2 : (Cond.codeWith y bytes maxL ret hh).before a A.U = true := hws _ hcode _ _ X.warmed
  have h3 : (Cond.initialized y.cls).before a A.U = true := hinit _ _ X.warmed
  have h4 : A.cells + (headSpec ws rm).room.cells ≤ R.cells := by rw [show (headSpec ws rm).room.cells = mc from hrc]; exact hp.1
  have h5 : A.slots + (headSpec ws rm).room.slots ≤ R.slots := by rw [show (headSpec ws rm).room.slots = ms from hrs]; exact hp.2.1
  have hPc : Pc a (A.U.calling g mk a) := hblind _ _ _ _ hp.2.2
  obtain ⟨U, Ls, c0, s0⟩ := A
  dsimp only [Pt.U, Pt.locs, Pt.cells, Pt.slots] at h1 h2 h3 h4 h5 X hn hPc ⊢
  obtain ⟨m9, methY, cY, hn9, hmY, hcY, -, hlY, -⟩ := Cond.codeWith_spec h2
  cases Option.some.inj (hn9.symm.trans hn)
  obtain ⟨kY, hkY, -⟩ := className_of_methodNamed hn
  have hinitY : kY.init = .initialized := Cond.initialized_spec (findClass_of_methodNamed hn) hkY h3
  have h : At U g.method c below := by rw [hg]; exact X.here
  have hlocals9 : W9 + (maxL + 11) + (headSpec ws rm).room.locals ≤ R.locals := hlocals
  have happ : (headSpec ws rm).appliesLoose y e.platform (U.calling g mk a) = true :=
    Spec.appliesLoose_calling (g := g) h hdg hn hkY hinitY
      (X.room_calling (g := g) (R' := (headSpec ws rm).room) hsize hmY hcY hframes (by rw [hlY]; omega) h4 h5) h1
  obtain ⟨mid, hmid⟩ := h.above
  have hfr : (U.setTop g).frames = (.java g :: mid) ++ below := by rw [State.frames_setTop' g h.top, hmid]; rfl
  obtain ⟨o, s₂, hsteps, -, hend, hq⟩ := Steps.callFree hM p X.admits X.cas X.clock (acts := []) hfr happ hPc trivial
  have hq' : vx_Q Qc XC mc ms free a (U.calling g mk a) o s₂ := hq
  rw [State.frames_setTop' g h.top] at hend
  obtain ⟨g₀, hg0⟩ := Option.isSome_iff_exists.mp h.top
  obtain ⟨r, hr⟩ := State.topJava?_eq_some.mp hg0
  have hr' : (({ U with heap := s₂.heap, slotsUsed := s₂.slotsUsed } : State).setVm s₂.vm).frames = .java g₀ :: r := hr
  rcases hq' with ⟨hqc, L, hfe, hL⟩ | ⟨q, rfl, E, ce, L, hx, hce, hcv, hcl, hW₂, hsm, hL⟩
  · obtain ⟨⟨v, rfl⟩, hW₂, e2, q2, q3, q4, q5, q6⟩ := id hfe
    have e3 : s₂ = ({ (U.calling g mk a).setFrames s₂.frames with heap := s₂.heap, slotsUsed := s₂.slotsUsed } : State).setVm s₂.vm := by
      have : s₂ = ({ s₂ with vm := (U.calling g mk a).vm } : State).setVm s₂.vm := rfl
      rw [e2] at this
      exact this
    obtain ⟨c₂, i₂, len₂, hc₂, hd₂, hf₂⟩ := hend
    have hW' : U.WarmedH s₂.vm := hW₂
    have hcc : c₂ = c := by
      have h1 : s₂.code? g.method = U.code? g.method := by
        rw [State.code?_eq, State.code?_eq, hW'.alike.method?]
      exact Option.some.inj (hc₂.symm.trans (h1.trans h.code))
    subst hcc
    have hlen : len₂ = len := by rw [hdg] at hd₂; cases hd₂; rfl
    subst hlen
    have hs₂ : s₂ = (({ U with heap := s₂.heap, slotsUsed := s₂.slotsUsed } : State).setVm s₂.vm).setTop { g with pc := g.pc + len₂, stack := v.toList ++ g.stack } := by
      refine e3.trans ?_
      rw [hf₂, State.calling_eq h.top, State.setFrames_setFrames, State.setTop_of_frames _ hr', hr]
      rfl
    have hsame : U.sameButNew ({ U with heap := s₂.heap, slotsUsed := s₂.slotsUsed } : State) L mc ms := by
      refine ⟨?_, q2, q3, q4, q5, q6⟩
      obtain ⟨t, ht, -⟩ := State.frames_cons hr
      show ({ U with heap := s₂.heap, slotsUsed := s₂.slotsUsed } : State) = { U.setFrames U.frames with heap := s₂.heap, slotsUsed := s₂.slotsUsed }
      rw [State.setFrames_self ht]
    subst hg
    refine Or.inl ⟨v, ⟨(({ U with heap := s₂.heap, slotsUsed := s₂.slotsUsed } : State).setVm s₂.vm), Ls ++ L, c0 + mc, s0 + ms⟩,
      ⟨X.admits, X.cas, X.clock, X.frames, X.room, X.hears, X.method, X.code, (X.here.setHeapUsed s₂.heap s₂.slotsUsed).setVm hW'.alike, X.tail, State.WarmedH.trans X.warmed hW', X.limits, X.bytes, X.same.trans (hsame.setVm s.vm)⟩,
      ⟨g, mk, s₂, L, rfl, rfl, hqc, rfl, hL, rfl, rfl⟩, ?_⟩
    show Steps p.tables e below _ ((({ U with heap := s₂.heap, slotsUsed := s₂.slotsUsed } : State).setVm s₂.vm).setTop { g with pc := g.pc + len₂, stack := v.toList ++ g.stack })
    rw [← hs₂]
    exact hsteps
  · obtain ⟨e2, q2, q3, q4, q5, q6⟩ := id hsm
    have e3 : s₂ = ({ (U.calling g mk a).setFrames s₂.frames with heap := s₂.heap, slotsUsed := s₂.slotsUsed } : State).setVm s₂.vm := by
      have : s₂ = ({ s₂ with vm := (U.calling g mk a).vm } : State).setVm s₂.vm := rfl
      rw [e2] at this
      exact this
    have hf₂ : s₂.frames = .throwing q :: .java g :: U.frames.tail := hend
    have hW' : U.WarmedH s₂.vm := hW₂
    have hs₂ : s₂ = ((({ U with heap := s₂.heap, slotsUsed := s₂.slotsUsed } : State).setVm s₂.vm).setTop g).pushFrame (.throwing q) := by
      refine e3.trans ?_
      rw [hf₂, State.calling_eq h.top, State.setFrames_setFrames, State.pushFrame, State.frames_setTop _ hr', State.setTop_of_frames _ hr', State.setFrames_setFrames, hr]
      rfl
    have hsame : U.sameButNew ({ U with heap := s₂.heap, slotsUsed := s₂.slotsUsed } : State) L mc ms := by
      refine ⟨?_, q2, q3, q4, q5, q6⟩
      obtain ⟨t, ht, -⟩ := State.frames_cons hr
      show ({ U with heap := s₂.heap, slotsUsed := s₂.slotsUsed } : State) = { U.setFrames U.frames with heap := s₂.heap, slotsUsed := s₂.slotsUsed }
      rw [State.setFrames_self ht]
    subst hg
    refine Or.inr ⟨q, ⟨(({ U with heap := s₂.heap, slotsUsed := s₂.slotsUsed } : State).setVm s₂.vm), Ls ++ L, c0 + mc, s0 + ms⟩,
      ⟨X.admits, X.cas, X.clock, X.frames, X.room, X.hears, X.method, X.code, (X.here.setHeapUsed s₂.heap s₂.slotsUsed).setVm hW'.alike, X.tail, State.WarmedH.trans X.warmed hW', X.limits, X.bytes, X.same.trans (hsame.setVm s.vm)⟩,
      ⟨g, mk, s₂, L, E, ce, rfl, rfl, hx, hce, hcv, hcl, rfl, hL, rfl, rfl⟩, ?_⟩
    show Steps p.tables e below _ (((({ U with heap := s₂.heap, slotsUsed := s₂.slotsUsed } : State).setVm s₂.vm).setTop g).pushFrame (.throwing q))
    rw [← hs₂]
    exact hsteps
end
variable {p : Program} {l : Launch} {e : Env} {R : Room} {s : State} {m : MethodId} {args : Array Value} {below : List Frame} {meth : Method} {c : Code} {T : State} {H : Heap} {locs : List Loc} {cells slots : Nat}
theorem vx_callVX (X : Stand p l e R s m args below meth c T locs cells slots) (hexec : p.tables.exec = Jvm.exec) {own C : String} {index : Nat} {y : MethodName} {bytes : ByteArray} {maxL : Nat} {ret : Option FieldType} {hh : List (Nat × Nat × Nat × Nat)}
    (hown : s.vm.findClass own = some m.cls) (hlink : (Cond.methodLink own index y).before args s = true) (hinst : (Cond.instanceMethod y).before args s = true) (hsel : (Cond.selects C y y).before args s = true)
    (hcode : (Cond.codeWith y bytes maxL ret hh).before args s = true) (hy : y.cls ≠ "java/lang/invoke/MethodHandle" ∧ y.cls ≠ "java/lang/invoke/VarHandle")
    {W9 : Nat} {Pre : Pt → Array Value → Prop} {Post : Pt → Array Value → Option Value → Pt → Prop} {PostX : Pt → Array Value → Addr → Pt → Prop} (hK : vx_Back l R p e below s args y 3 W9 Pre Post PostX)
    {b : Addr} {cellB : Cell} (hcell : T.heap[b]? = some cellB) (hobj : cellB.vm.isStatics = false) (hcls : s.vm.findClass C = some cellB.cls)
    {g : JFrame} (hg : g.method = m) (hsize : g.locals.size = c.maxLocals) {argsL rest : List Value} (hlen : ∀ sig, parseMethodDescriptor y.desc = some sig → argsL.length = sig.parameters.length)
    (hstack : g.stack = argsL.reverse ++ .ref b :: rest) (hW : 2 * g.monitorRoom + (rest.map fun v => v.category).sum ≤ W9) (hdg : decode c.code g.pc = .ok (.invokevirtual index, 3))
    (hpre : ∀ vm₁, s.WarmedH vm₁ → Pre ⟨T.setVm vm₁, locs, cells, slots⟩ (Value.ref b :: argsL).toArray) :
    (∃ (v : Option Value) (vm₁ : Vm) (B : Pt), s.WarmedH vm₁ ∧ Stand p l e R s m args below meth c B.U B.locs B.cells B.slots ∧ Post ⟨T.setVm vm₁, locs, cells, slots⟩ (Value.ref b :: argsL).toArray v B ∧
      ∀ target, Steps p.tables e below (B.U.setTop { g with pc := g.pc + 3, stack := v.toList ++ rest }) target → Steps p.tables e below (T.setTop g) target) ∨
    (∃ (q : Addr) (vm₁ : Vm) (B : Pt), s.WarmedH vm₁ ∧ Stand p l e R s m args below meth c B.U B.locs B.cells B.slots ∧ PostX ⟨T.setVm vm₁, locs, cells, slots⟩ (Value.ref b :: argsL).toArray q B ∧
      Steps p.tables e below (T.setTop g) ((B.U.setTop { g with stack := rest }).pushFrame (.throwing q))) := by
  obtain ⟨mk, methM, hnamed, hmethM, hstM, habM⟩ := Cond.instanceMethod_spec hinst
  obtain ⟨m8, methM', cM, hn8, hmethM', -, -, -, -, -, -, hsigM⟩ := Cond.codeWith_spec hcode
  cases Option.some.inj (hn8.symm.trans hnamed)
  cases hmethM.symm.trans hmethM'
  obtain ⟨c2, r2, m2, q1, q2, q3, q4, kP, hkP, hkPi⟩ := Cond.selects_spec hsel
  cases hcls.symm.trans q1
  cases (State.methodFound?_of_named hnamed hy).symm.trans q2
  cases hnamed.symm.trans q3
  have hselP : selectMethod e.platform s.vm cellB.cls mk = .method mk := by rw [Launch.admits_selectMethod X.admits]; exact q4
  obtain ⟨vm₁, X₁, hstep₁⟩ := X.invokevirtual hexec hown hlink hnamed hmethM hstM hkP hkPi hy (a := b) (cell := cellB) hcell
    (fun z h => by rw [h] at hobj; cases hobj) hselP hmethM habM hkP hkPi (g := g) hg (argsL := argsL) (rest := rest) (hlen _ hsigM) hstack hdg
  rcases hK m meth c ⟨T.setVm vm₁, locs, cells, slots⟩ { g with stack := rest } (.invokevirtual index) mk (Value.ref b :: argsL).toArray X₁ hg hsize hdg hW (X₁.named hnamed) (hpre vm₁ X₁.warmed) with ⟨v, B, X', hpost, hsteps⟩ | ⟨q, B, X', hpost, hsteps⟩
  · exact Or.inl ⟨v, vm₁, B, X₁.warmed, X', hpost, fun target h => hstep₁ _ fun acts => by rw [doInvoke_state]; exact hsteps.trans h⟩
  · exact Or.inr ⟨q, vm₁, B, X₁.warmed, X', hpost, hstep₁ _ fun acts => by rw [doInvoke_state]; exact hsteps⟩
theorem vx_callSX (X : Stand p l e R s m args below meth c T locs cells slots) (hexec : p.tables.exec = Jvm.exec) {own : String} {index : Nat} {y : MethodName} {bytes : ByteArray} {maxL : Nat} {ret : Option FieldType} {hh : List (Nat × Nat × Nat × Nat)}
    (hown : s.vm.findClass own = some m.cls) (hlink : (Cond.methodLink own index y).before args s = true) (hstat : (Cond.static y).before args s = true) (hinit : (Cond.initialized y.cls).before args s = true)
    (hcode : (Cond.codeWith y bytes maxL ret hh).before args s = true) (hy : y.cls ≠ "java/lang/invoke/MethodHandle" ∧ y.cls ≠ "java/lang/invoke/VarHandle")
    {W9 : Nat} {Pre : Pt → Array Value → Prop} {Post : Pt → Array Value → Option Value → Pt → Prop} {PostX : Pt → Array Value → Addr → Pt → Prop} (hK : vx_Back l R p e below s args y 3 W9 Pre Post PostX)
    {g : JFrame} (hg : g.method = m) (hsize : g.locals.size = c.maxLocals) {argsL rest : List Value} (hlen : ∀ sig, parseMethodDescriptor y.desc = some sig → argsL.length = sig.parameters.length)
    (hstack : g.stack = argsL.reverse ++ rest) (hW : 2 * g.monitorRoom + (rest.map fun v => v.category).sum ≤ W9) (hdg : decode c.code g.pc = .ok (.invokestatic index, 3))
    (hpre : ∀ vm₁, s.WarmedH vm₁ → Pre ⟨T.setVm vm₁, locs, cells, slots⟩ argsL.toArray) :
    (∃ (v : Option Value) (vm₁ : Vm) (B : Pt), s.WarmedH vm₁ ∧ Stand p l e R s m args below meth c B.U B.locs B.cells B.slots ∧ Post ⟨T.setVm vm₁, locs, cells, slots⟩ argsL.toArray v B ∧
      ∀ target, Steps p.tables e below (B.U.setTop { g with pc := g.pc + 3, stack := v.toList ++ rest }) target → Steps p.tables e below (T.setTop g) target) ∨
    (∃ (q : Addr) (vm₁ : Vm) (B : Pt), s.WarmedH vm₁ ∧ Stand p l e R s m args below meth c B.U B.locs B.cells B.slots ∧ PostX ⟨T.setVm vm₁, locs, cells, slots⟩ argsL.toArray q B ∧
      Steps p.tables e below (T.setTop g) ((B.U.setTop { g with stack := rest }).pushFrame (.throwing q))) := by
  obtain ⟨mk, methM, cM, hnamed, hmethM, -, -, -, -, -, -, hsigM⟩ := Cond.codeWith_spec hcode
  have hstatic : methM.isStatic = true := Cond.static_spec hnamed hmethM hstat
  obtain ⟨kP, hkP, -⟩ := className_of_methodNamed hnamed
  have hinitP : kP.init = .initialized := Cond.initialized_spec (findClass_of_methodNamed hnamed) hkP hinit
  obtain ⟨vm₁, X₁, hstep₁⟩ := X.invokestatic hexec hown hlink hnamed hmethM hstatic hkP hinitP hy (g := g) hg (argsL := argsL) (rest := rest) (hlen _ hsigM) hstack hdg
  rcases hK m meth c ⟨T.setVm vm₁, locs, cells, slots⟩ { g with stack := rest } (.invokestatic index) mk argsL.toArray X₁ hg hsize hdg hW (X₁.named hnamed) (hpre vm₁ X₁.warmed) with ⟨v, B, X', hpost, hsteps⟩ | ⟨q, B, X', hpost, hsteps⟩
  · exact Or.inl ⟨v, vm₁, B, X₁.warmed, X', hpost, fun target h => hstep₁ _ fun acts => by rw [doInvoke_state]; exact hsteps.trans h⟩
  · exact Or.inr ⟨q, vm₁, B, X₁.warmed, X', hpost, hstep₁ _ fun acts => by rw [doInvoke_state]; exact hsteps⟩
theorem vx_callVW (X : Stand p l e R s m args below meth c T locs cells slots) (hexec : p.tables.exec = Jvm.exec) {own C : String} {index : Nat} {y : MethodName} {bytes : ByteArray} {maxL : Nat} {ret : Option FieldType} {hh : List (Nat × Nat × Nat × Nat)}
    (hown : s.vm.findClass own = some m.cls) (hlink : (Cond.methodLink own index y).before args s = true) (hinst : (Cond.instanceMethod y).before args s = true) (hsel : (Cond.selects C y y).before args s = true)
    (hcode : (Cond.codeWith y bytes maxL ret hh).before args s = true) (hy : y.cls ≠ "java/lang/invoke/MethodHandle" ∧ y.cls ≠ "java/lang/invoke/VarHandle")
    {W9 : Nat} {Pre : Pt → Array Value → Prop} {Post : Pt → Array Value → Option Value → Pt → Prop} (hK : Back l R p e below s args y 3 W9 Pre Post)
    {b : Addr} {cellB : Cell} (hcell : T.heap[b]? = some cellB) (hobj : cellB.vm.isStatics = false) (hcls : s.vm.findClass C = some cellB.cls)
    {g : JFrame} (hg : g.method = m) (hsize : g.locals.size = c.maxLocals) {argsL rest : List Value} (hlen : ∀ sig, parseMethodDescriptor y.desc = some sig → argsL.length = sig.parameters.length)
    (hstack : g.stack = argsL.reverse ++ .ref b :: rest) (hW : 2 * g.monitorRoom + (rest.map fun v => v.category).sum ≤ W9) (hdg : decode c.code g.pc = .ok (.invokevirtual index, 3))
    (hpre : ∀ vm₁, s.WarmedH vm₁ → Pre ⟨T.setVm vm₁, locs, cells, slots⟩ (Value.ref b :: argsL).toArray) :
    ∃ (v : Option Value) (vm₁ : Vm) (B : Pt), s.WarmedH vm₁ ∧ Stand p l e R s m args below meth c B.U B.locs B.cells B.slots ∧ Post ⟨T.setVm vm₁, locs, cells, slots⟩ (Value.ref b :: argsL).toArray v B ∧
      ∀ target, Steps p.tables e below (B.U.setTop { g with pc := g.pc + 3, stack := v.toList ++ rest }) target → Steps p.tables e below (T.setTop g) target := by
  obtain ⟨mk, methM, hnamed, hmethM, hstM, habM⟩ := Cond.instanceMethod_spec hinst
  obtain ⟨m8, methM', cM, hn8, hmethM', -, -, -, -, -, -, hsigM⟩ := Cond.codeWith_spec hcode
  cases Option.some.inj (hn8.symm.trans hnamed)
  cases hmethM.symm.trans hmethM'
  obtain ⟨c2, r2, m2, q1, q2, q3, q4, kP, hkP, hkPi⟩ := Cond.selects_spec hsel
  cases hcls.symm.trans q1
  cases (State.methodFound?_of_named hnamed hy).symm.trans q2
  cases hnamed.symm.trans q3
  have hselP : selectMethod e.platform s.vm cellB.cls mk = .method mk := by rw [Launch.admits_selectMethod X.admits]; exact q4
  obtain ⟨vm₁, X₁, hstep₁⟩ := X.invokevirtual hexec hown hlink hnamed hmethM hstM hkP hkPi hy (a := b) (cell := cellB) hcell
    (fun z h => by rw [h] at hobj; cases hobj) hselP hmethM habM hkP hkPi (g := g) hg (argsL := argsL) (rest := rest) (hlen _ hsigM) hstack hdg
  obtain ⟨v, B, X', hpost, hsteps⟩ := hK m meth c ⟨T.setVm vm₁, locs, cells, slots⟩ { g with stack := rest } (.invokevirtual index) mk (Value.ref b :: argsL).toArray X₁ hg hsize hdg hW (X₁.named hnamed) (hpre vm₁ X₁.warmed)
  exact ⟨v, vm₁, B, X₁.warmed, X', hpost, fun target h => hstep₁ _ fun acts => by rw [doInvoke_state]; exact hsteps.trans h⟩
abbrev vx_CVW (R : Room) (s : State) (args : Array Value) (own C : String) (index : Nat) (y : MethodName) (bytes : ByteArray) (maxL : Nat) (ret : Option FieldType) (hh : List (Nat × Nat × Nat × Nat)) (ws : List Cond) (rm : Room) (mc ms n : Nat) : Prop :=
  (rm.cells = mc ∧ rm.slots = ms ∧ rm.frames + 1 ≤ R.frames ∧ 8 + (maxL + 11) + rm.locals ≤ R.locals ∧ (∀ w ∈ ws, ∀ (a' : Array Value) (U : State), s.WarmedH U.vm → w.before a' U = true) ∧ Cond.codeWith y bytes maxL ret hh ∈ ws) ∧
  (Cond.codeWith y bytes maxL ret hh).before args s = true ∧ (Cond.initialized y.cls).before args s = true ∧ (y.cls ≠ "java/lang/invoke/MethodHandle" ∧ y.cls ≠ "java/lang/invoke/VarHandle") ∧
  (∀ sig, parseMethodDescriptor y.desc = some sig → n = sig.parameters.length) ∧ (Cond.methodLink own index y).before args s = true ∧ (Cond.instanceMethod y).before args s = true ∧ (Cond.selects C y y).before args s = true
theorem vx_cwVW {own C : String} {index maxL mc ms : Nat} {y : MethodName} {bytes : ByteArray} {ret : Option FieldType} {hh : List (Nat × Nat × Nat × Nat)} {Ts ws ws' : List Cond} {rm : Room} (n : Nat) (ht : ∀ w ∈ Ts, w.before args s = true) (hT : GoodIn Ts (wsV own index C y ws)) (hw : ws = Cond.codeWith y bytes maxL ret hh :: ws') (hrc : rm.cells = mc) (hrs : rm.slots = ms)
    (hd : y.cls = C ∧ y.cls ≠ "java/lang/invoke/MethodHandle" ∧ y.cls ≠ "java/lang/invoke/VarHandle" ∧ (parseMethodDescriptor y.desc).map (fun d => d.parameters.length) = some n) (hR : rm.frames + 1 ≤ R.frames ∧ 8 + (maxL + 11) + rm.locals ≤ R.locals) :
    vx_CVW R s args own C index y bytes maxL ret hh ws rm mc ms n := by
  obtain ⟨hC, hd⟩ := hd
  subst hC
  have ok : ∀ w ∈ wsV own index y.cls y ws, w.before args s = true := fun w h => ht w (hT w h).1
  have hG : GoodIn Ts ws := fun w h => hT w (by unfold wsV; exact List.mem_append_right _ h)
  have hc : Cond.codeWith y bytes maxL ret hh ∈ ws := by rw [hw]; exact List.mem_cons_self
  refine ⟨⟨hrc, hrs, hR.1, hR.2, pay_in ht hG, hc⟩, ht _ (hG _ hc).1, ok _ (by simp [wsV]), ⟨hd.1, hd.2.1⟩, fun sig h => ?_, ok _ (by simp [wsV]), ok _ (by simp [wsV]), ok _ (by simp [wsV])⟩
  have h2 := hd.2.2
  rw [h] at h2
  exact (Option.some.inj h2).symm
theorem vx_runVW {y : MethodName} {bytes cc : ByteArray} {maxL nL mc ms n index : Nat} {ret : Option FieldType} {hh : List (Nat × Nat × Nat × Nat)} {ws : List Cond} {rm : Room} {Pc : Array Value → State → Prop} {Qc : Array Value → State → Outcome → State → Prop} {free : Addr → Prop} {Ts : List Cond} {own C : String} {b : Addr} {As rest : List Value} {g : JFrame}
    (S : CallFix p m c cc nL s args Ts own) (hM : Met l y ws rm Pc Qc mc ms free) (cw : vx_CVW R s args own C index y bytes maxL ret hh ws rm mc ms n) (hp : PreV s H C b Pc As)
    (hg : g.method = m) (hn : As.length = n) (hsize : g.locals.size = nL) (hstack : g.stack = As.reverse ++ .ref b :: rest) (hW : 2 * g.monitorRoom + (rest.map fun v => v.category).sum ≤ 8) (hdg : decode cc g.pc = .ok (.invokevirtual index, 3)) (hf : cells + mc ≤ R.cells ∧ slots + ms ≤ R.slots) :
    va_Run p l e R s m args below meth c H locs cells slots mc ms g rest (Qc (Value.ref b :: As).toArray) free := by
  obtain ⟨⟨hrc, hrs, hfr, hlo, hws, hcw⟩, hcode, hini, hy, hlen, hl, hin, hse⟩ := cw
  have hK : Back l R p e below s args y 3 8 (PreOf R mc ms Pc) (PostOf Qc mc ms free) := va_backW (hh := hh) (bytes := bytes) (maxL := maxL) (ret := ret) hM hp.1 hrc hrs hfr hlo hws hcw (fun a' U hW => word_at hW (Or.inl (by first | rfl | simp [Cond.onTables, Cond.keeps, Cond.steady])) hini)
  obtain ⟨hx, hb, hml, ho, -⟩ := S
  obtain ⟨-, ⟨cellB, hcB, hoB, hclB⟩, hPc⟩ := hp
  intro T hT X
  obtain ⟨v, vm₁, ⟨U', l2, c2, s2⟩, hW₁, X', ⟨g', mk, t, L, e1, e2, hq, h1, hL, h2, h3⟩, st⟩ := vx_callVW X hx (C := C) (hh := hh) (bytes := bytes) (maxL := maxL) (ret := ret) ho hl hin hse hcode hy hK (by rw [hT]; exact hcB) hoB hclB hg (hsize.trans hml.symm) (argsL := As) (rest := rest) (fun sig h => hn.trans (hlen sig h)) hstack hW (by rw [hb]; exact hdg)
    (fun vm₁ hW₁ => ⟨hf.1, hf.2, hPc (T.setVm vm₁) hT hW₁⟩)
  dsimp only [Pt.U, Pt.locs, Pt.cells, Pt.slots] at X' e1 e2 h1 h2 h3 st
  subst h1; subst h2; subst h3
  exact ⟨v, (T.setVm vm₁).calling g' mk (Value.ref b :: As).toArray, t, U', L, hT, X', hL, e1, e2, hq, st⟩
section
variable {y : MethodName} {bytes cc : ByteArray} {maxL nL mc ms n index : Nat} {ret : Option FieldType} {ws : List Cond} {rm : Room} {Pc : Array Value → State → Prop} {Qc : Array Value → State → Outcome → State → Prop} {XC : String → State → State → Prop} {free : Addr → Prop} {Ts : List Cond} {own C : String} {b : Addr} {As rest : List Value} {g : JFrame}
theorem vx_runVX {hh : List (Nat × Nat × Nat × Nat)} (S : CallFix p m c cc nL s args Ts own) (hM : vx_Met l y ws rm Pc Qc XC mc ms free) (cw : vx_CVW R s args own C index y bytes maxL ret hh ws rm mc ms n) (hp : PreV s H C b Pc As)
    (hg : g.method = m) (hn : As.length = n) (hsize : g.locals.size = nL) (hstack : g.stack = As.reverse ++ .ref b :: rest) (hW : 2 * g.monitorRoom + (rest.map fun v => v.category).sum ≤ 8) (hdg : decode cc g.pc = .ok (.invokevirtual index, 3)) (hf : cells + mc ≤ R.cells ∧ slots + ms ≤ R.slots) :
    vx_Run p l e R s m args below meth c H locs cells slots mc ms g rest (Qc (Value.ref b :: As).toArray) XC free := by
  obtain ⟨⟨hrc, hrs, hfr, hlo, hws, hcw⟩, hcode, hini, hy, hlen, hl, hin, hse⟩ := cw
  have hK : vx_Back l R p e below s args y 3 8 (PreOf R mc ms Pc) (PostOf Qc mc ms free) (vx_Post XC mc ms free) := vx_backW (hh := hh) (bytes := bytes) (maxL := maxL) (ret := ret) hM hp.1 hrc hrs hfr hlo hws hcw (fun a' U hW => word_at hW (Or.inl (by first | rfl | simp [Cond.onTables, Cond.keeps, Cond.steady])) hini)
  obtain ⟨hx, hb, hml, ho, -⟩ := S
  obtain ⟨-, ⟨cellB, hcB, hoB, hclB⟩, hPc⟩ := hp
  intro T hT X
  rcases vx_callVX X hx (C := C) (hh := hh) (bytes := bytes) (maxL := maxL) (ret := ret) ho hl hin hse hcode hy hK (by rw [hT]; exact hcB) hoB hclB hg (hsize.trans hml.symm) (argsL := As) (rest := rest) (fun sig h => hn.trans (hlen sig h)) hstack hW (by rw [hb]; exact hdg)
    (fun vm₁ hW₁ => ⟨hf.1, hf.2, hPc (T.setVm vm₁) hT hW₁⟩) with ⟨v, vm₁, ⟨U', l2, c2, s2⟩, hW₁, X', ⟨g', mk, t, L, e1, e2, hq, h1, hL, h2, h3⟩, st⟩ | ⟨q, vm₁, ⟨U', l2, c2, s2⟩, hW₁, X', ⟨g', mk, t, L, E, ce, e1, e2, hq, hce, hcv, hcl, h1, hL, h2, h3⟩, st⟩
  · dsimp only [Pt.U, Pt.locs, Pt.cells, Pt.slots] at X' e1 e2 h1 h2 h3 st
    subst h1; subst h2; subst h3
    exact Or.inl ⟨v, (T.setVm vm₁).calling g' mk (Value.ref b :: As).toArray, t, U', L, hT, X', hL, e1, e2, hq, st⟩
  · dsimp only [Pt.U, Pt.locs, Pt.cells, Pt.slots] at X' e1 e2 h1 h2 h3 st hcl
    subst h1; subst h2; subst h3
    exact Or.inr ⟨q, (T.setVm vm₁).calling g' mk (Value.ref b :: As).toArray, t, U', L, E, ce, hT, X', hL, e1, e2, hq, hce, hcv, vx_cls hW₁ hcl, st⟩
theorem vx_runSX {hh : List (Nat × Nat × Nat × Nat)} (S : CallFix p m c cc nL s args Ts own) (hM : vx_Met l y ws rm Pc Qc XC mc ms free) (cw : vx_CSW R s args own index y bytes maxL ret hh ws rm mc ms n) (hp : PreS s H Pc As)
    (hg : g.method = m) (hn : As.length = n) (hsize : g.locals.size = nL) (hstack : g.stack = As.reverse ++ rest) (hW : 2 * g.monitorRoom + (rest.map fun v => v.category).sum ≤ 8) (hdg : decode cc g.pc = .ok (.invokestatic index, 3)) (hf : cells + mc ≤ R.cells ∧ slots + ms ≤ R.slots) :
    vx_Run p l e R s m args below meth c H locs cells slots mc ms g rest (Qc As.toArray) XC free := by
  obtain ⟨⟨hrc, hrs, hfr, hlo, hws, hcw⟩, hcode, hini, hy, hlen, hl, hstt⟩ := cw
  have hK : vx_Back l R p e below s args y 3 8 (PreOf R mc ms Pc) (PostOf Qc mc ms free) (vx_Post XC mc ms free) := vx_backW (hh := hh) (bytes := bytes) (maxL := maxL) (ret := ret) hM hp.1 hrc hrs hfr hlo hws hcw (fun a' U hW => word_at hW (Or.inl (by first | rfl | simp [Cond.onTables, Cond.keeps, Cond.steady])) hini)
  obtain ⟨hx, hb, hml, ho, -⟩ := S
  intro T hT X
  rcases vx_callSX X hx (hh := hh) (bytes := bytes) (maxL := maxL) (ret := ret) ho hl hstt hini hcode hy hK hg (hsize.trans hml.symm) (argsL := As) (rest := rest) (fun sig h => hn.trans (hlen sig h)) hstack hW (by rw [hb]; exact hdg)
    (fun vm₁ hW₁ => ⟨hf.1, hf.2, hp.2 (T.setVm vm₁) hT hW₁⟩) with ⟨v, vm₁, ⟨U', l2, c2, s2⟩, hW₁, X', ⟨g', mk, t, L, e1, e2, hq, h1, hL, h2, h3⟩, st⟩ | ⟨q, vm₁, ⟨U', l2, c2, s2⟩, hW₁, X', ⟨g', mk, t, L, E, ce, e1, e2, hq, hce, hcv, hcl, h1, hL, h2, h3⟩, st⟩
  · dsimp only [Pt.U, Pt.locs, Pt.cells, Pt.slots] at X' e1 e2 h1 h2 h3 st
    subst h1; subst h2; subst h3
    exact Or.inl ⟨v, (T.setVm vm₁).calling g' mk As.toArray, t, U', L, hT, X', hL, e1, e2, hq, st⟩
  · dsimp only [Pt.U, Pt.locs, Pt.cells, Pt.slots] at X' e1 e2 h1 h2 h3 st hcl
    subst h1; subst h2; subst h3
    exact Or.inr ⟨q, (T.setVm vm₁).calling g' mk As.toArray, t, U', L, E, ce, hT, X', hL, e1, e2, hq, hce, hcv, vx_cls hW₁ hcl, st⟩
end
end VXH
theorem vx_ofWH {l : Launch} {y : MethodName} {ws ws' : List Cond} {rm : Room} {Pc : Array Value → State → Prop} {Qc : Array Value → State → Outcome → State → Prop} {XC : String → State → State → Prop} {mc ms : Nat} {free : Addr → Prop} {cc : ByteArray} {maxL : Nat} {ret : Option FieldType} {hh : List (Nat × Nat × Nat × Nat)}
    (hy : plainName y.cls = true) (hw : ws = Cond.codeWith y cc maxL ret hh :: ws')
    (body : ∀ p e s m args below meth c s₁, BodyLoose p l y (headSpec ws rm) cc maxL ret e s m args below meth c s₁ → c.maxLocals = maxL → Pc args s →
      W p l e (headSpec ws rm).room s m args below meth c s.heap [] 0 0 (vx_MQ below Qc XC args s mc ms free) (entryFrame m args maxL)) : vx_Met l y ws rm Pc Qc XC mc ms free := by
  refine MetFree.of_bodyS (code := cc) (maxLocals := maxL) (ret := ret) hy ?_ ?_
  · intro args s m h hn
    obtain ⟨m9, meth, c, hn9, h1, h2, h3, h4, -, h5, h6, -⟩ := Cond.codeWith_spec (atoms_spec (ws := ws) h _ (by rw [hw]; exact List.mem_cons_self))
    cases hn.symm.trans hn9
    exact ⟨meth, c, h1, h2, h3, h4, h5, h6⟩
  · intro p e s m args below meth c s₁ B hml hP _
    have hh0 : s₁.heap = s.heap := by rw [B.state]; rfl
    obtain ⟨t, a1, o, b1, b2, b3⟩ := body p e s m args below meth c s₁ B hml hP s₁ hh0 (Stand.of_body B)
    exact ⟨t, o, a1, b1, b2, b3⟩
/-! ===== END ===== -/
end
section
/-- the tables' words that stay good, for every method -/
def kb_TB : List Cond := lw_tbl.filter goodWord
theorem kb_mf {w : Cond} (h : w ∈ lw_tbl) (g : goodWord w = true) : w ∈ kb_TB := List.mem_filter.mpr ⟨h, g⟩
theorem kb_mt {w : Cond} (h : w ∈ tables_1) (g : goodWord w = true) : w ∈ kb_TB := kb_mf (List.mem_append_right _ h) g
theorem kb_m0 {w : Cond} (h : w ∈ k2_sels lw_privs) (g : goodWord w = true) : w ∈ kb_TB := kb_mf (List.mem_append_left _ h) g
theorem kb_m1 {w : Cond} (h : w ∈ tables_1_1) (g : goodWord w = true) : w ∈ kb_TB := kb_mt (List.mem_append_left _ h) g
theorem kb_m2 {w : Cond} (h : w ∈ tables_1_2) (g : goodWord w = true) : w ∈ kb_TB := kb_mt (List.mem_append_right _ (List.mem_append_left _ h)) g
theorem kb_m3 {w : Cond} (h : w ∈ tables_1_3) (g : goodWord w = true) : w ∈ kb_TB := kb_mt (List.mem_append_right _ (List.mem_append_right _ (List.mem_append_left _ h))) g
theorem kb_m4 {w : Cond} (h : w ∈ tables_1_4) (g : goodWord w = true) : w ∈ kb_TB := kb_mt (List.mem_append_right _ (List.mem_append_right _ (List.mem_append_right _ (List.mem_append_left _ h)))) g
theorem kb_m5 {w : Cond} (h : w ∈ tables_1_5) (g : goodWord w = true) : w ∈ kb_TB := kb_mt (List.mem_append_right _ (List.mem_append_right _ (List.mem_append_right _ (List.mem_append_right _ (List.mem_append_left _ h))))) g
theorem kb_m6 {w : Cond} (h : w ∈ tables_1_6) (g : goodWord w = true) : w ∈ kb_TB := kb_mt (List.mem_append_right _ (List.mem_append_right _ (List.mem_append_right _ (List.mem_append_right _ (List.mem_append_right _ h))))) g
theorem kb_gw {w : Cond} (h : w ∈ kb_TB) : goodWord w = true := (List.mem_filter.mp h).2
/-- a method's words: its code, and all the tables' -/
theorem kb_good {w0 w1 : Cond} {ws : List Cond} (h1 : w1 ∈ kb_TB) (h : ∀ w ∈ ws, w ∈ kb_TB) : GoodIn (w0 :: kb_TB) (ws ++ w1 :: kb_TB) := by
  intro w hw
  have h2 : w ∈ kb_TB := by
    rcases List.mem_append.mp hw with q | q
    · exact h w q
    · rcases List.mem_cons.mp q with rfl | q
      · exact h1
      · exact q
  exact ⟨List.mem_cons_of_mem _ h2, good_of_word (kb_gw h2)⟩
theorem kb_gV {w0 : Cond} {own C : String} {idx maxL : Nat} {y : MethodName} {bytes : ByteArray} {ret : Option FieldType} (h1 : Cond.code y bytes maxL ret ∈ kb_TB) (h2 : Cond.methodLink own idx y ∈ kb_TB) (h3 : Cond.instanceMethod y ∈ kb_TB) (h4 : Cond.selects C y y ∈ kb_TB) (h5 : Cond.initialized C ∈ kb_TB) : GoodIn (w0 :: kb_TB) (wsV own idx C y (Cond.code y bytes maxL ret :: kb_TB)) := by
  refine kb_good h1 (fun w hw => ?_)
  simp only [List.mem_cons, List.not_mem_nil, or_false] at hw
  rcases hw with rfl | rfl | rfl | rfl
  · exact h2
  · exact h3
  · exact h4
  · exact h5
theorem kb_gS {w0 : Cond} {own : String} {idx maxL : Nat} {y : MethodName} {bytes : ByteArray} {ret : Option FieldType} (h1 : Cond.code y bytes maxL ret ∈ kb_TB) (h2 : Cond.methodLink own idx y ∈ kb_TB) (h3 : Cond.static y ∈ kb_TB) (h5 : Cond.initialized y.cls ∈ kb_TB) : GoodIn (w0 :: kb_TB) (va_wsS own idx y (Cond.code y bytes maxL ret :: kb_TB)) := by
  refine kb_good h1 (fun w hw => ?_)
  simp only [List.mem_cons, List.not_mem_nil, or_false] at hw
  rcases hw with rfl | rfl | rfl
  · exact h2
  · exact h3
  · exact h5
def RX0 : String := "KnitBench$Fabric"
def TX0 : u_T := fun k => match k with
  | 0 => ("KnitBench$Fabric", "firstLoops", "[I", true)
  | 1 => ("KnitBench$Fabric", "firstStitches", "[I", true)
  | 2 => ("KnitBench$Fabric", "stitches", "[I", true)
  | 3 => ("KnitBench$Fabric", "parentCounts", "[I", true)
  | 4 => ("KnitBench$Fabric", "firstParents", "[I", true)
  | 5 => ("KnitBench$Fabric", "round", "Z", false)
  | 6 => ("KnitBench$Fabric", "rowCount", "I", false)
  | 7 => ("KnitBench$Fabric", "needleCount", "I", false)
  | 8 => ("KnitBench$Fabric", "needleStart", "I", false)
  | 9 => ("KnitBench$Fabric", "needleStep", "I", false)
  | 10 => ("KnitBench$Fabric", "taken", "I", false)
  | 11 => ("KnitBench$Fabric", "loopEnd", "I", false)
  | _ => ("KnitBench$Fabric", "stitchEnd", "I", false)
def tyX0 : Nat → FieldType := fun k => match k with
  | 0 => .array .int
  | 1 => .array .int
  | 2 => .array .int
  | 3 => .array .int
  | 4 => .array .int
  | 5 => .boolean
  | 6 => .int
  | 7 => .int
  | 8 => .int
  | 9 => .int
  | 10 => .int
  | 11 => .int
  | _ => .int
theorem nmX0 : ∀ a, a < 13 → ∀ b, b < 13 → a ≠ b → (TX0 a).2.1 ≠ (TX0 b).2.1 := by decide +kernel
theorem tyX0_ok : ∀ k, k < 13 → parseFieldDescriptor (TX0 k).2.2.1 = some (tyX0 k) := by decide +kernel
abbrev cX0_init : ByteArray := prog_2_method_1_code
def yX0_init : MethodName := ⟨RX0, "<init>", "()V"⟩
abbrev cX0_castOn : ByteArray := prog_2_method_2_code
def yX0_castOn : MethodName := ⟨RX0, "castOn", "(IZ)V"⟩
abbrev cX0_rowCount : ByteArray := prog_2_method_3_code
def yX0_rowCount : MethodName := ⟨RX0, "rowCount", "()I"⟩
abbrev cX0_takeBack : ByteArray := prog_2_method_4_code
def yX0_takeBack : MethodName := ⟨RX0, "takeBack", "(I)V"⟩
abbrev cX0_fillNeedle : ByteArray := prog_2_method_5_code
def yX0_fillNeedle : MethodName := ⟨RX0, "fillNeedle", "()V"⟩
abbrev cX0_startRow : ByteArray := prog_2_method_6_code
def yX0_startRow : MethodName := ⟨RX0, "startRow", "()V"⟩
abbrev cX0_leftCount : ByteArray := prog_2_method_7_code
def yX0_leftCount : MethodName := ⟨RX0, "leftCount", "()I"⟩
abbrev cX0_madeSoFar : ByteArray := prog_2_method_8_code
def yX0_madeSoFar : MethodName := ⟨RX0, "madeSoFar", "()I"⟩
abbrev cX0_faultOfStitch : ByteArray := prog_2_method_9_code
def yX0_faultOfStitch : MethodName := ⟨RX0, "faultOfStitch", "(I)I"⟩
abbrev cX0_addStitch : ByteArray := prog_2_method_10_code
def yX0_addStitch : MethodName := ⟨RX0, "addStitch", "(I)V"⟩
abbrev cX0_makeCableLoops : ByteArray := prog_2_method_11_code
def yX0_makeCableLoops : MethodName := ⟨RX0, "makeCableLoops", "(II)V"⟩
abbrev cX0_makeLoop : ByteArray := prog_2_method_12_code
def yX0_makeLoop : MethodName := ⟨RX0, "makeLoop", "(II)V"⟩
abbrev cX0_faultOfRow : ByteArray := prog_2_method_13_code
def yX0_faultOfRow : MethodName := ⟨RX0, "faultOfRow", "()I"⟩
abbrev cX0_keepRow : ByteArray := prog_2_method_14_code
def yX0_keepRow : MethodName := ⟨RX0, "keepRow", "()V"⟩
abbrev cX0_loopCount : ByteArray := prog_2_method_15_code
def yX0_loopCount : MethodName := ⟨RX0, "loopCount", "()I"⟩
abbrev cX0_liveCount : ByteArray := prog_2_method_16_code
def yX0_liveCount : MethodName := ⟨RX0, "liveCount", "()I"⟩
abbrev cX0_hasRow : ByteArray := prog_2_method_17_code
def yX0_hasRow : MethodName := ⟨RX0, "hasRow", "(I)Z"⟩
abbrev cX0_hasLoop : ByteArray := prog_2_method_18_code
def yX0_hasLoop : MethodName := ⟨RX0, "hasLoop", "(I)Z"⟩
abbrev cX0_madeIn : ByteArray := prog_2_method_19_code
def yX0_madeIn : MethodName := ⟨RX0, "madeIn", "(I)I"⟩
abbrev cX0_needleLoop : ByteArray := prog_2_method_20_code
def yX0_needleLoop : MethodName := ⟨RX0, "needleLoop", "(I)I"⟩
abbrev cX0_bornIn : ByteArray := prog_2_method_21_code
def yX0_bornIn : MethodName := ⟨RX0, "bornIn", "(I)I"⟩
abbrev cX0_diedIn : ByteArray := prog_2_method_22_code
def yX0_diedIn : MethodName := ⟨RX0, "diedIn", "(I)I"⟩
abbrev cX0_parentCount : ByteArray := prog_2_method_23_code
def yX0_parentCount : MethodName := ⟨RX0, "parentCount", "(I)I"⟩
abbrev cX0_parent : ByteArray := prog_2_method_24_code
def yX0_parent : MethodName := ⟨RX0, "parent", "(II)I"⟩
abbrev cX0_ladderLength : ByteArray := prog_2_method_25_code
def yX0_ladderLength : MethodName := ⟨RX0, "ladderLength", "(I)I"⟩
abbrev cX0_stitchCount : ByteArray := prog_2_method_26_code
def yX0_stitchCount : MethodName := ⟨RX0, "stitchCount", "(I)I"⟩
abbrev cX0_stitchAt : ByteArray := prog_2_method_27_code
def yX0_stitchAt : MethodName := ⟨RX0, "stitchAt", "(II)I"⟩
abbrev cX0_stitchSeen : ByteArray := prog_2_method_28_code
def yX0_stitchSeen : MethodName := ⟨RX0, "stitchSeen", "(II)I"⟩
abbrev cX0_crossings : ByteArray := prog_2_method_29_code
def yX0_crossings : MethodName := ⟨RX0, "crossings", "(I)I"⟩
abbrev cX0_boundIn : ByteArray := prog_2_method_30_code
def yX0_boundIn : MethodName := ⟨RX0, "boundIn", "(II)I"⟩
def RX1 : String := "KnitBench$Fault"
def TX1 : u_T := fun k => match k with
  | _ => ("", "", "", false)
def tyX1 : Nat → FieldType := fun k => match k with
  | _ => .int
theorem nmX1 : ∀ a, a < 0 → ∀ b, b < 0 → a ≠ b → (TX1 a).2.1 ≠ (TX1 b).2.1 := by decide +kernel
theorem tyX1_ok : ∀ k, k < 0 → parseFieldDescriptor (TX1 k).2.2.1 = some (tyX1 k) := by decide +kernel
abbrev cX1_answer : ByteArray := prog_3_method_2_code
def yX1_answer : MethodName := ⟨RX1, "answer", "(II)I"⟩
def RX2 : String := "KnitBench$Knitter"
def TX2 : u_T := fun k => match k with
  | 0 => ("KnitBench$Knitter", "plan", "LKnitBench$Plan;", true)
  | 1 => ("KnitBench$Knitter", "fabric", "LKnitBench$Fabric;", true)
  | 2 => ("KnitBench$Knitter", "runsLeft", "[J", true)
  | 3 => ("KnitBench$Knitter", "depth", "I", false)
  | _ => ("KnitBench$Knitter", "fault", "I", false)
def tyX2 : Nat → FieldType := fun k => match k with
  | 0 => .object "KnitBench$Plan"
  | 1 => .object "KnitBench$Fabric"
  | 2 => .array .long
  | 3 => .int
  | _ => .int
theorem nmX2 : ∀ a, a < 5 → ∀ b, b < 5 → a ≠ b → (TX2 a).2.1 ≠ (TX2 b).2.1 := by decide +kernel
theorem tyX2_ok : ∀ k, k < 5 → parseFieldDescriptor (TX2 k).2.2.1 = some (tyX2 k) := by decide +kernel
abbrev cX2_init : ByteArray := prog_4_method_1_code
def yX2_init : MethodName := ⟨RX2, "<init>", "(LKnitBench$Plan;LKnitBench$Fabric;)V"⟩
abbrev cX2_knitPlan : ByteArray := prog_4_method_2_code
def yX2_knitPlan : MethodName := ⟨RX2, "knitPlan", "(I)I"⟩
abbrev cX2_note : ByteArray := prog_4_method_3_code
def yX2_note : MethodName := ⟨RX2, "note", "(II)V"⟩
abbrev cX2_knitStep : ByteArray := prog_4_method_4_code
def yX2_knitStep : MethodName := ⟨RX2, "knitStep", "(I)I"⟩
abbrev cX2_knitStitches : ByteArray := prog_4_method_5_code
def yX2_knitStitches : MethodName := ⟨RX2, "knitStitches", "(I)V"⟩
abbrev cX2_runsOfRepeat : ByteArray := prog_4_method_6_code
def yX2_runsOfRepeat : MethodName := ⟨RX2, "runsOfRepeat", "(I)J"⟩
abbrev cX2_enter : ByteArray := prog_4_method_7_code
def yX2_enter : MethodName := ⟨RX2, "enter", "(IJ)I"⟩
abbrev cX2_leave : ByteArray := prog_4_method_8_code
def yX2_leave : MethodName := ⟨RX2, "leave", "(I)I"⟩
def RX3 : String := "KnitBench$Plan"
def TX3 : u_T := fun k => match k with
  | 0 => ("KnitBench$Plan", "kinds", "[I", true)
  | 1 => ("KnitBench$Plan", "places", "[I", true)
  | 2 => ("KnitBench$Plan", "counts", "[I", true)
  | 3 => ("KnitBench$Plan", "links", "[I", true)
  | 4 => ("KnitBench$Plan", "takes", "[J", true)
  | _ => ("KnitBench$Plan", "size", "I", false)
def tyX3 : Nat → FieldType := fun k => match k with
  | 0 => .array .int
  | 1 => .array .int
  | 2 => .array .int
  | 3 => .array .int
  | 4 => .array .long
  | _ => .int
theorem nmX3 : ∀ a, a < 6 → ∀ b, b < 6 → a ≠ b → (TX3 a).2.1 ≠ (TX3 b).2.1 := by decide +kernel
theorem tyX3_ok : ∀ k, k < 6 → parseFieldDescriptor (TX3 k).2.2.1 = some (tyX3 k) := by decide +kernel
abbrev cX3_init : ByteArray := prog_5_method_1_code
def yX3_init : MethodName := ⟨RX3, "<init>", "()V"⟩
abbrev cX3_clear : ByteArray := prog_5_method_2_code
def yX3_clear : MethodName := ⟨RX3, "clear", "()V"⟩
abbrev cX3_size : ByteArray := prog_5_method_3_code
def yX3_size : MethodName := ⟨RX3, "size", "()I"⟩
abbrev cX3_addStitches : ByteArray := prog_5_method_4_code
def yX3_addStitches : MethodName := ⟨RX3, "addStitches", "(III)V"⟩
abbrev cX3_addOpen : ByteArray := prog_5_method_5_code
def yX3_addOpen : MethodName := ⟨RX3, "addOpen", "(II)V"⟩
abbrev cX3_addClose : ByteArray := prog_5_method_6_code
def yX3_addClose : MethodName := ⟨RX3, "addClose", "(IIIJ)V"⟩
abbrev cX3_add : ByteArray := prog_5_method_7_code
def yX3_add : MethodName := ⟨RX3, "add", "(IIII)V"⟩
abbrev cX3_kind : ByteArray := prog_5_method_8_code
def yX3_kind : MethodName := ⟨RX3, "kind", "(I)I"⟩
abbrev cX3_link : ByteArray := prog_5_method_9_code
def yX3_link : MethodName := ⟨RX3, "link", "(I)I"⟩
abbrev cX3_count : ByteArray := prog_5_method_10_code
def yX3_count : MethodName := ⟨RX3, "count", "(I)I"⟩
abbrev cX3_place : ByteArray := prog_5_method_11_code
def yX3_place : MethodName := ⟨RX3, "place", "(I)I"⟩
abbrev cX3_takes : ByteArray := prog_5_method_12_code
def yX3_takes : MethodName := ⟨RX3, "takes", "(I)J"⟩
abbrev cX3_has : ByteArray := prog_5_method_13_code
def yX3_has : MethodName := ⟨RX3, "has", "(I)Z"⟩
def RX4 : String := "KnitBench$RowReader"
def TX4 : u_T := fun k => match k with
  | 0 => ("KnitBench$RowReader", "tape", "LKnitBench$Tape;", true)
  | 1 => ("KnitBench$RowReader", "plan", "LKnitBench$Plan;", true)
  | 2 => ("KnitBench$RowReader", "openSteps", "[I", true)
  | 3 => ("KnitBench$RowReader", "takes", "[J", true)
  | 4 => ("KnitBench$RowReader", "depth", "I", false)
  | 5 => ("KnitBench$RowReader", "at", "I", false)
  | 6 => ("KnitBench$RowReader", "fault", "I", false)
  | 7 => ("KnitBench$RowReader", "itemIsDue", "Z", false)
  | _ => ("KnitBench$RowReader", "ended", "Z", false)
def tyX4 : Nat → FieldType := fun k => match k with
  | 0 => .object "KnitBench$Tape"
  | 1 => .object "KnitBench$Plan"
  | 2 => .array .int
  | 3 => .array .long
  | 4 => .int
  | 5 => .int
  | 6 => .int
  | 7 => .boolean
  | _ => .boolean
theorem nmX4 : ∀ a, a < 9 → ∀ b, b < 9 → a ≠ b → (TX4 a).2.1 ≠ (TX4 b).2.1 := by decide +kernel
theorem tyX4_ok : ∀ k, k < 9 → parseFieldDescriptor (TX4 k).2.2.1 = some (tyX4 k) := by decide +kernel
abbrev cX4_init : ByteArray := prog_6_method_1_code
def yX4_init : MethodName := ⟨RX4, "<init>", "(LKnitBench$Tape;LKnitBench$Plan;)V"⟩
abbrev cX4_readTape : ByteArray := prog_6_method_2_code
def yX4_readTape : MethodName := ⟨RX4, "readTape", "()I"⟩
abbrev cX4_isRight : ByteArray := prog_6_method_3_code
def yX4_isRight : MethodName := ⟨RX4, "isRight", "()Z"⟩
abbrev cX4_next : ByteArray := prog_6_method_4_code
def yX4_next : MethodName := ⟨RX4, "next", "()I"⟩
abbrev cX4_fail : ByteArray := prog_6_method_5_code
def yX4_fail : MethodName := ⟨RX4, "fail", "(I)V"⟩
abbrev cX4_skipBlanks : ByteArray := prog_6_method_6_code
def yX4_skipBlanks : MethodName := ⟨RX4, "skipBlanks", "()V"⟩
abbrev cX4_readItem : ByteArray := prog_6_method_7_code
def yX4_readItem : MethodName := ⟨RX4, "readItem", "()V"⟩
abbrev cX4_readKnit : ByteArray := prog_6_method_8_code
def yX4_readKnit : MethodName := ⟨RX4, "readKnit", "(I)V"⟩
abbrev cX4_readSlipOrSsk : ByteArray := prog_6_method_9_code
def yX4_readSlipOrSsk : MethodName := ⟨RX4, "readSlipOrSsk", "(I)V"⟩
abbrev cX4_readCastOrCable : ByteArray := prog_6_method_10_code
def yX4_readCastOrCable : MethodName := ⟨RX4, "readCastOrCable", "(I)V"⟩
abbrev cX4_readCable : ByteArray := prog_6_method_11_code
def yX4_readCable : MethodName := ⟨RX4, "readCable", "(I)V"⟩
abbrev cX4_readCableDigit : ByteArray := prog_6_method_12_code
def yX4_readCableDigit : MethodName := ⟨RX4, "readCableDigit", "()I"⟩
abbrev cX4_readSingle : ByteArray := prog_6_method_13_code
def yX4_readSingle : MethodName := ⟨RX4, "readSingle", "(Ljava/lang/String;II)V"⟩
abbrev cX4_readNamed : ByteArray := prog_6_method_14_code
def yX4_readNamed : MethodName := ⟨RX4, "readNamed", "(Ljava/lang/String;II)V"⟩
abbrev cX4_addStitches : ByteArray := prog_6_method_15_code
def yX4_addStitches : MethodName := ⟨RX4, "addStitches", "(III)V"⟩
abbrev cX4_readRepeat : ByteArray := prog_6_method_16_code
def yX4_readRepeat : MethodName := ⟨RX4, "readRepeat", "(I)V"⟩
abbrev cX4_openBracket : ByteArray := prog_6_method_17_code
def yX4_openBracket : MethodName := ⟨RX4, "openBracket", "(II)V"⟩
abbrev cX4_readSign : ByteArray := prog_6_method_18_code
def yX4_readSign : MethodName := ⟨RX4, "readSign", "()V"⟩
abbrev cX4_closeBracket : ByteArray := prog_6_method_19_code
def yX4_closeBracket : MethodName := ⟨RX4, "closeBracket", "()V"⟩
abbrev cX4_readToLast : ByteArray := prog_6_method_20_code
def yX4_readToLast : MethodName := ⟨RX4, "readToLast", "()I"⟩
abbrev cX4_readWord : ByteArray := prog_6_method_21_code
def yX4_readWord : MethodName := ⟨RX4, "readWord", "(Ljava/lang/String;)V"⟩
abbrev cX4_readNumber : ByteArray := prog_6_method_22_code
def yX4_readNumber : MethodName := ⟨RX4, "readNumber", "(I)I"⟩
abbrev cX4_isDigit : ByteArray := prog_6_method_23_code
def yX4_isDigit : MethodName := ⟨RX4, "isDigit", "(I)Z"⟩
def RX5 : String := "KnitBench$Shortest"
def TX5 : u_T := fun k => match k with
  | 0 => ("KnitBench$Shortest", "table", "[I", true)
  | 1 => ("KnitBench$Shortest", "sames", "[I", true)
  | 2 => ("KnitBench$Shortest", "stitches", "[I", true)
  | 3 => ("KnitBench$Shortest", "text", "[I", true)
  | 4 => ("KnitBench$Shortest", "count", "I", false)
  | _ => ("KnitBench$Shortest", "length", "I", false)
def tyX5 : Nat → FieldType := fun k => match k with
  | 0 => .array .int
  | 1 => .array .int
  | 2 => .array .int
  | 3 => .array .int
  | 4 => .int
  | _ => .int
theorem nmX5 : ∀ a, a < 6 → ∀ b, b < 6 → a ≠ b → (TX5 a).2.1 ≠ (TX5 b).2.1 := by decide +kernel
theorem tyX5_ok : ∀ k, k < 6 → parseFieldDescriptor (TX5 k).2.2.1 = some (tyX5 k) := by decide +kernel
abbrev cX5_init : ByteArray := prog_7_method_1_code
def yX5_init : MethodName := ⟨RX5, "<init>", "()V"⟩
abbrev cX5_forget : ByteArray := prog_7_method_2_code
def yX5_forget : MethodName := ⟨RX5, "forget", "()V"⟩
abbrev cX5_byteAt : ByteArray := prog_7_method_3_code
def yX5_byteAt : MethodName := ⟨RX5, "byteAt", "(I)I"⟩
abbrev cX5_tellRow : ByteArray := prog_7_method_4_code
def yX5_tellRow : MethodName := ⟨RX5, "tellRow", "(LKnitBench$Fabric;I)I"⟩
abbrev cX5_countSames : ByteArray := prog_7_method_5_code
def yX5_countSames : MethodName := ⟨RX5, "countSames", "(I)V"⟩
abbrev cX5_timesInRow : ByteArray := prog_7_method_6_code
def yX5_timesInRow : MethodName := ⟨RX5, "timesInRow", "(II)I"⟩
abbrev cX5_countWordsWithin : ByteArray := prog_7_method_7_code
def yX5_countWordsWithin : MethodName := ⟨RX5, "countWordsWithin", "(I)V"⟩
abbrev cX5_countWords : ByteArray := prog_7_method_8_code
def yX5_countWords : MethodName := ⟨RX5, "countWords", "(III)V"⟩
abbrev cX5_cellOf : ByteArray := prog_7_method_9_code
def yX5_cellOf : MethodName := ⟨RX5, "cellOf", "(III)I"⟩
abbrev cX5_words : ByteArray := prog_7_method_10_code
def yX5_words : MethodName := ⟨RX5, "words", "(III)I"⟩
abbrev cX5_fewestWords : ByteArray := prog_7_method_11_code
def yX5_fewestWords : MethodName := ⟨RX5, "fewestWords", "(III)I"⟩
abbrev cX5_bestGroup : ByteArray := prog_7_method_12_code
def yX5_bestGroup : MethodName := ⟨RX5, "bestGroup", "(III)I"⟩
abbrev cX5_pieceWords : ByteArray := prog_7_method_13_code
def yX5_pieceWords : MethodName := ⟨RX5, "pieceWords", "(III)I"⟩
abbrev cX5_firstPiece : ByteArray := prog_7_method_14_code
def yX5_firstPiece : MethodName := ⟨RX5, "firstPiece", "(III)I"⟩
abbrev cX5_tellPart : ByteArray := prog_7_method_15_code
def yX5_tellPart : MethodName := ⟨RX5, "tellPart", "(III)V"⟩
abbrev cX5_tellPiece : ByteArray := prog_7_method_16_code
def yX5_tellPiece : MethodName := ⟨RX5, "tellPiece", "(III)V"⟩
abbrev cX5_tellStitch : ByteArray := prog_7_method_17_code
def yX5_tellStitch : MethodName := ⟨RX5, "tellStitch", "(I)V"⟩
abbrev cX5_putNumber : ByteArray := prog_7_method_18_code
def yX5_putNumber : MethodName := ⟨RX5, "putNumber", "(I)V"⟩
abbrev cX5_put : ByteArray := prog_7_method_19_code
def yX5_put : MethodName := ⟨RX5, "put", "(I)V"⟩
def RX6 : String := "KnitBench$Stitch"
def TX6 : u_T := fun k => match k with
  | _ => ("", "", "", false)
def tyX6 : Nat → FieldType := fun k => match k with
  | _ => .int
theorem nmX6 : ∀ a, a < 0 → ∀ b, b < 0 → a ≠ b → (TX6 a).2.1 ≠ (TX6 b).2.1 := by decide +kernel
theorem tyX6_ok : ∀ k, k < 0 → parseFieldDescriptor (TX6 k).2.2.1 = some (tyX6 k) := by decide +kernel
abbrev cX6_cable : ByteArray := prog_8_method_2_code
def yX6_cable : MethodName := ⟨RX6, "cable", "(III)I"⟩
abbrev cX6_isCable : ByteArray := prog_8_method_3_code
def yX6_isCable : MethodName := ⟨RX6, "isCable", "(I)Z"⟩
abbrev cX6_cableA : ByteArray := prog_8_method_4_code
def yX6_cableA : MethodName := ⟨RX6, "cableA", "(I)I"⟩
abbrev cX6_cableB : ByteArray := prog_8_method_5_code
def yX6_cableB : MethodName := ⟨RX6, "cableB", "(I)I"⟩
abbrev cX6_isBehind : ByteArray := prog_8_method_6_code
def yX6_isBehind : MethodName := ⟨RX6, "isBehind", "(I)Z"⟩
abbrev cX6_loopsTaken : ByteArray := prog_8_method_7_code
def yX6_loopsTaken : MethodName := ⟨RX6, "loopsTaken", "(I)I"⟩
abbrev cX6_loopsMade : ByteArray := prog_8_method_8_code
def yX6_loopsMade : MethodName := ⟨RX6, "loopsMade", "(I)I"⟩
abbrev cX6_seenFromBehind : ByteArray := prog_8_method_9_code
def yX6_seenFromBehind : MethodName := ⟨RX6, "seenFromBehind", "(I)I"⟩
abbrev cX6_nameOf : ByteArray := prog_8_method_10_code
def yX6_nameOf : MethodName := ⟨RX6, "nameOf", "(I)Ljava/lang/String;"⟩
def RX7 : String := "KnitBench$Tape"
def TX7 : u_T := fun k => match k with
  | 0 => ("KnitBench$Tape", "bytes", "[I", true)
  | _ => ("KnitBench$Tape", "length", "I", false)
def tyX7 : Nat → FieldType := fun k => match k with
  | 0 => .array .int
  | _ => .int
theorem nmX7 : ∀ a, a < 2 → ∀ b, b < 2 → a ≠ b → (TX7 a).2.1 ≠ (TX7 b).2.1 := by decide +kernel
theorem tyX7_ok : ∀ k, k < 2 → parseFieldDescriptor (TX7 k).2.2.1 = some (tyX7 k) := by decide +kernel
abbrev cX7_init : ByteArray := prog_9_method_1_code
def yX7_init : MethodName := ⟨RX7, "<init>", "()V"⟩
abbrev cX7_length : ByteArray := prog_9_method_2_code
def yX7_length : MethodName := ⟨RX7, "length", "()I"⟩
abbrev cX7_hasRoomFor : ByteArray := prog_9_method_3_code
def yX7_hasRoomFor : MethodName := ⟨RX7, "hasRoomFor", "(I)Z"⟩
abbrev cX7_add : ByteArray := prog_9_method_4_code
def yX7_add : MethodName := ⟨RX7, "add", "(JI)V"⟩
abbrev cX7_clear : ByteArray := prog_9_method_5_code
def yX7_clear : MethodName := ⟨RX7, "clear", "()V"⟩
abbrev cX7_byteAt : ByteArray := prog_9_method_6_code
def yX7_byteAt : MethodName := ⟨RX7, "byteAt", "(I)I"⟩
def RX8 : String := "KnitBench"
def TX8 : u_T := fun k => match k with
  | 0 => ("KnitBench", "tape", "LKnitBench$Tape;", true)
  | 1 => ("KnitBench", "fabric", "LKnitBench$Fabric;", true)
  | 2 => ("KnitBench", "reader", "LKnitBench$RowReader;", true)
  | 3 => ("KnitBench", "knitter", "LKnitBench$Knitter;", true)
  | _ => ("KnitBench", "shortest", "LKnitBench$Shortest;", false)
def tyX8 : Nat → FieldType := fun k => match k with
  | 0 => .object "KnitBench$Tape"
  | 1 => .object "KnitBench$Fabric"
  | 2 => .object "KnitBench$RowReader"
  | 3 => .object "KnitBench$Knitter"
  | _ => .object "KnitBench$Shortest"
theorem nmX8 : ∀ a, a < 5 → ∀ b, b < 5 → a ≠ b → (TX8 a).2.1 ≠ (TX8 b).2.1 := by decide +kernel
theorem tyX8_ok : ∀ k, k < 5 → parseFieldDescriptor (TX8 k).2.2.1 = some (tyX8 k) := by decide +kernel
abbrev cX8_init : ByteArray := prog_1_method_1_code
def yX8_init : MethodName := ⟨RX8, "<init>", "()V"⟩
abbrev cX8_begin : ByteArray := prog_1_method_2_code
def yX8_begin : MethodName := ⟨RX8, "begin", "(IZ)V"⟩
abbrev cX8_feed : ByteArray := prog_1_method_3_code
def yX8_feed : MethodName := ⟨RX8, "feed", "(JI)I"⟩
abbrev cX8_work : ByteArray := prog_1_method_4_code
def yX8_work : MethodName := ⟨RX8, "work", "()I"⟩
abbrev cX8_rows : ByteArray := prog_1_method_5_code
def yX8_rows : MethodName := ⟨RX8, "rows", "()I"⟩
abbrev cX8_unravel : ByteArray := prog_1_method_6_code
def yX8_unravel : MethodName := ⟨RX8, "unravel", "(I)I"⟩
abbrev cX8_live : ByteArray := prog_1_method_7_code
def yX8_live : MethodName := ⟨RX8, "live", "(I)I"⟩
abbrev cX8_loop : ByteArray := prog_1_method_8_code
def yX8_loop : MethodName := ⟨RX8, "loop", "(II)I"⟩
abbrev cX8_chart : ByteArray := prog_1_method_9_code
def yX8_chart : MethodName := ⟨RX8, "chart", "(II)I"⟩
abbrev cX8_row : ByteArray := prog_1_method_10_code
def yX8_row : MethodName := ⟨RX8, "row", "(II)I"⟩
abbrev cX8_shorten : ByteArray := prog_1_method_11_code
def yX8_shorten : MethodName := ⟨RX8, "shorten", "(I)I"⟩
abbrev cX8_out : ByteArray := prog_1_method_12_code
def yX8_out : MethodName := ⟨RX8, "out", "(I)I"⟩
abbrev cX8_ladder : ByteArray := prog_1_method_13_code
def yX8_ladder : MethodName := ⟨RX8, "ladder", "(I)I"⟩
abbrev cX8_total : ByteArray := prog_1_method_14_code
def yX8_total : MethodName := ⟨RX8, "total", "(I)I"⟩
abbrev cX8_requireRow : ByteArray := prog_1_method_15_code
def yX8_requireRow : MethodName := ⟨RX8, "requireRow", "(I)V"⟩
def RX9 : String := "KnitBenchModel"
def TX9 : u_T := fun k => match k with
  | 0 => ("KnitBenchModel", "thrown", "I", false)
  | 1 => ("KnitBenchModel", "taped", "I", false)
  | 2 => ("KnitBenchModel", "tape", "[I", true)
  | 3 => ("KnitBenchModel", "round", "Z", false)
  | 4 => ("KnitBenchModel", "loops", "I", false)
  | 5 => ("KnitBenchModel", "born", "[I", true)
  | 6 => ("KnitBenchModel", "died", "[I", true)
  | 7 => ("KnitBenchModel", "bound", "[Z", true)
  | 8 => ("KnitBenchModel", "parents", "[I", true)
  | 9 => ("KnitBenchModel", "parent", "[I", true)
  | 10 => ("KnitBenchModel", "rows", "I", false)
  | 11 => ("KnitBenchModel", "begin", "[I", true)
  | 12 => ("KnitBenchModel", "many", "[I", true)
  | 13 => ("KnitBenchModel", "stitch", "[I", true)
  | 14 => ("KnitBenchModel", "at", "I", false)
  | 15 => ("KnitBenchModel", "fault", "I", false)
  | 16 => ("KnitBenchModel", "place", "I", false)
  | 17 => ("KnitBenchModel", "depth", "I", false)
  | 18 => ("KnitBenchModel", "marks", "I", false)
  | 19 => ("KnitBenchModel", "mark", "[I", true)
  | 20 => ("KnitBenchModel", "number", "[I", true)
  | 21 => ("KnitBenchModel", "where", "[I", true)
  | 22 => ("KnitBenchModel", "other", "[I", true)
  | 23 => ("KnitBenchModel", "size", "I", false)
  | 24 => ("KnitBenchModel", "made", "[I", true)
  | 25 => ("KnitBenchModel", "written", "I", false)
  | 26 => ("KnitBenchModel", "out", "[I", true)
  | 27 => ("KnitBenchModel", "words", "[I", true)
  | 28 => ("KnitBenchModel", "way", "[I", true)
  | 29 => ("KnitBenchModel", "open", "[I", true)
  | 30 => ("KnitBenchModel", "turns", "[I", true)
  | _ => ("KnitBenchModel", "task", "[I", true)
def tyX9 : Nat → FieldType := fun k => match k with
  | 0 => .int
  | 1 => .int
  | 2 => .array .int
  | 3 => .boolean
  | 4 => .int
  | 5 => .array .int
  | 6 => .array .int
  | 7 => .array .boolean
  | 8 => .array .int
  | 9 => .array .int
  | 10 => .int
  | 11 => .array .int
  | 12 => .array .int
  | 13 => .array .int
  | 14 => .int
  | 15 => .int
  | 16 => .int
  | 17 => .int
  | 18 => .int
  | 19 => .array .int
  | 20 => .array .int
  | 21 => .array .int
  | 22 => .array .int
  | 23 => .int
  | 24 => .array .int
  | 25 => .int
  | 26 => .array .int
  | 27 => .array .int
  | 28 => .array .int
  | 29 => .array .int
  | 30 => .array .int
  | _ => .array .int
theorem nmX9 : ∀ a, a < 32 → ∀ b, b < 32 → a ≠ b → (TX9 a).2.1 ≠ (TX9 b).2.1 := by decide +kernel
theorem tyX9_ok : ∀ k, k < 32 → parseFieldDescriptor (TX9 k).2.2.1 = some (tyX9 k) := by decide +kernel
abbrev cX9_init : ByteArray := prog_11_method_1_code
def yX9_init : MethodName := ⟨RX9, "<init>", "()V"⟩
abbrev cX9_thrown : ByteArray := prog_11_method_2_code
def yX9_thrown : MethodName := ⟨RX9, "thrown", "()I"⟩
abbrev cX9_in : ByteArray := prog_11_method_3_code
def yX9_in : MethodName := ⟨RX9, "in", "(III)Z"⟩
abbrev cX9_says : ByteArray := prog_11_method_4_code
def yX9_says : MethodName := ⟨RX9, "says", "(Z)Z"⟩
abbrev cX9_castOn : ByteArray := prog_11_method_5_code
def yX9_castOn : MethodName := ⟨RX9, "castOn", "(IZ)V"⟩
abbrev cX9_newLoop : ByteArray := prog_11_method_6_code
def yX9_newLoop : MethodName := ⟨RX9, "newLoop", "(I)V"⟩
abbrev cX9_hasParent : ByteArray := prog_11_method_7_code
def yX9_hasParent : MethodName := ⟨RX9, "hasParent", "(II)V"⟩
abbrev cX9_begin : ByteArray := prog_11_method_8_code
def yX9_begin : MethodName := ⟨RX9, "begin", "(IZ)V"⟩
abbrev cX9_feed : ByteArray := prog_11_method_9_code
def yX9_feed : MethodName := ⟨RX9, "feed", "(JI)I"⟩
abbrev cX9_see : ByteArray := prog_11_method_10_code
def yX9_see : MethodName := ⟨RX9, "see", "()I"⟩
abbrev cX9_seeWord : ByteArray := prog_11_method_11_code
def yX9_seeWord : MethodName := ⟨RX9, "seeWord", "()I"⟩
abbrev cX9_wrong : ByteArray := prog_11_method_12_code
def yX9_wrong : MethodName := ⟨RX9, "wrong", "(I)V"⟩
abbrev cX9_need : ByteArray := prog_11_method_13_code
def yX9_need : MethodName := ⟨RX9, "need", "(I)V"⟩
abbrev cX9_add : ByteArray := prog_11_method_14_code
def yX9_add : MethodName := ⟨RX9, "add", "(III)V"⟩
abbrev cX9_isDigit : ByteArray := prog_11_method_15_code
def yX9_isDigit : MethodName := ⟨RX9, "isDigit", "(I)Z"⟩
abbrev cX9_count : ByteArray := prog_11_method_16_code
def yX9_count : MethodName := ⟨RX9, "count", "(I)I"⟩
abbrev cX9_plain : ByteArray := prog_11_method_17_code
def yX9_plain : MethodName := ⟨RX9, "plain", "(II)V"⟩
abbrev cX9_line : ByteArray := prog_11_method_18_code
def yX9_line : MethodName := ⟨RX9, "line", "()V"⟩
abbrev cX9_opens : ByteArray := prog_11_method_19_code
def yX9_opens : MethodName := ⟨RX9, "opens", "(II)V"⟩
abbrev cX9_shuts : ByteArray := prog_11_method_20_code
def yX9_shuts : MethodName := ⟨RX9, "shuts", "()V"⟩
abbrev cX9_times : ByteArray := prog_11_method_21_code
def yX9_times : MethodName := ⟨RX9, "times", "()I"⟩
abbrev cX9_last : ByteArray := prog_11_method_22_code
def yX9_last : MethodName := ⟨RX9, "last", "()I"⟩
abbrev cX9_named : ByteArray := prog_11_method_23_code
def yX9_named : MethodName := ⟨RX9, "named", "(IIZ)V"⟩
abbrev cX9_knit : ByteArray := prog_11_method_24_code
def yX9_knit : MethodName := ⟨RX9, "knit", "(II)V"⟩
abbrev cX9_cable : ByteArray := prog_11_method_25_code
def yX9_cable : MethodName := ⟨RX9, "cable", "(I)V"⟩
abbrev cX9_side : ByteArray := prog_11_method_26_code
def yX9_side : MethodName := ⟨RX9, "side", "()I"⟩
abbrev cX9_a : ByteArray := prog_11_method_28_code
def yX9_a : MethodName := ⟨RX9, "a", "(I)I"⟩
abbrev cX9_b : ByteArray := prog_11_method_29_code
def yX9_b : MethodName := ⟨RX9, "b", "(I)I"⟩
abbrev cX9_takes : ByteArray := prog_11_method_30_code
def yX9_takes : MethodName := ⟨RX9, "takes", "(I)I"⟩
abbrev cX9_makes : ByteArray := prog_11_method_31_code
def yX9_makes : MethodName := ⟨RX9, "makes", "(I)I"⟩
abbrev cX9_taken : ByteArray := prog_11_method_32_code
def yX9_taken : MethodName := ⟨RX9, "taken", "(II)I"⟩
abbrev cX9_stops : ByteArray := prog_11_method_33_code
def yX9_stops : MethodName := ⟨RX9, "stops", "(II)V"⟩
abbrev cX9_flatten : ByteArray := prog_11_method_34_code
def yX9_flatten : MethodName := ⟨RX9, "flatten", "(I)V"⟩
abbrev cX9_liveLoops : ByteArray := prog_11_method_35_code
def yX9_liveLoops : MethodName := ⟨RX9, "liveLoops", "()I"⟩
abbrev cX9_needle : ByteArray := prog_11_method_36_code
def yX9_needle : MethodName := ⟨RX9, "needle", "(I)I"⟩
abbrev cX9_lay : ByteArray := prog_11_method_37_code
def yX9_lay : MethodName := ⟨RX9, "lay", "()V"⟩
abbrev cX9_take : ByteArray := prog_11_method_38_code
def yX9_take : MethodName := ⟨RX9, "take", "(III)I"⟩
abbrev cX9_work : ByteArray := prog_11_method_39_code
def yX9_work : MethodName := ⟨RX9, "work", "()I"⟩
abbrev cX9_rows : ByteArray := prog_11_method_40_code
def yX9_rows : MethodName := ⟨RX9, "rows", "()I"⟩
abbrev cX9_unravel : ByteArray := prog_11_method_41_code
def yX9_unravel : MethodName := ⟨RX9, "unravel", "(I)I"⟩
abbrev cX9_live : ByteArray := prog_11_method_42_code
def yX9_live : MethodName := ⟨RX9, "live", "(I)I"⟩
abbrev cX9_loop : ByteArray := prog_11_method_43_code
def yX9_loop : MethodName := ⟨RX9, "loop", "(II)I"⟩
abbrev cX9_chart : ByteArray := prog_11_method_44_code
def yX9_chart : MethodName := ⟨RX9, "chart", "(II)I"⟩
abbrev cX9_row : ByteArray := prog_11_method_45_code
def yX9_row : MethodName := ⟨RX9, "row", "(II)I"⟩
abbrev cX9_at : ByteArray := prog_11_method_46_code
def yX9_at : MethodName := ⟨RX9, "at", "(III)I"⟩
abbrev cX9_isOver : ByteArray := prog_11_method_47_code
def yX9_isOver : MethodName := ⟨RX9, "isOver", "(IIII)Z"⟩
abbrev cX9_reckon : ByteArray := prog_11_method_48_code
def yX9_reckon : MethodName := ⟨RX9, "reckon", "(I)V"⟩
abbrev cX9_put : ByteArray := prog_11_method_49_code
def yX9_put : MethodName := ⟨RX9, "put", "(I)V"⟩
abbrev cX9_spell : ByteArray := prog_11_method_50_code
def yX9_spell : MethodName := ⟨RX9, "spell", "(J)V"⟩
abbrev cX9_name : ByteArray := prog_11_method_51_code
def yX9_name : MethodName := ⟨RX9, "name", "(I)V"⟩
abbrev cX9_push : ByteArray := prog_11_method_52_code
def yX9_push : MethodName := ⟨RX9, "push", "(IIII)I"⟩
abbrev cX9_ends : ByteArray := prog_11_method_53_code
def yX9_ends : MethodName := ⟨RX9, "ends", "(I)V"⟩
abbrev cX9_tell : ByteArray := prog_11_method_54_code
def yX9_tell : MethodName := ⟨RX9, "tell", "(I)V"⟩
abbrev cX9_shorten : ByteArray := prog_11_method_55_code
def yX9_shorten : MethodName := ⟨RX9, "shorten", "(I)I"⟩
abbrev cX9_out : ByteArray := prog_11_method_56_code
def yX9_out : MethodName := ⟨RX9, "out", "(I)I"⟩
abbrev cX9_ladder : ByteArray := prog_11_method_57_code
def yX9_ladder : MethodName := ⟨RX9, "ladder", "(I)I"⟩
abbrev cX9_total : ByteArray := prog_11_method_58_code
def yX9_total : MethodName := ⟨RX9, "total", "(I)I"⟩
abbrev vwCl : List vw_C := [(RX0, TX0, 13), (RX2, TX2, 5), (RX3, TX3, 6), (RX4, TX4, 9), (RX5, TX5, 6), (RX7, TX7, 2), (RX8, TX8, 5), (RX9, TX9, 32)]
end
section
theorem wy_X0_0 : Cond.laysFinal RX0 "KnitBench$Fabric" "firstLoops" "[I" ∈ kb_TB := kb_m1 (List.mem_of_getElem? (i := 89) (by decide +kernel)) (by decide +kernel)
theorem wy_X0_1 : Cond.laysFinal RX0 "KnitBench$Fabric" "firstStitches" "[I" ∈ kb_TB := kb_m1 (List.mem_of_getElem? (i := 91) (by decide +kernel)) (by decide +kernel)
theorem wy_X0_2 : Cond.laysFinal RX0 "KnitBench$Fabric" "stitches" "[I" ∈ kb_TB := kb_m1 (List.mem_of_getElem? (i := 93) (by decide +kernel)) (by decide +kernel)
theorem wy_X0_3 : Cond.laysFinal RX0 "KnitBench$Fabric" "parentCounts" "[I" ∈ kb_TB := kb_m1 (List.mem_of_getElem? (i := 95) (by decide +kernel)) (by decide +kernel)
theorem wy_X0_4 : Cond.laysFinal RX0 "KnitBench$Fabric" "firstParents" "[I" ∈ kb_TB := kb_m1 (List.mem_of_getElem? (i := 97) (by decide +kernel)) (by decide +kernel)
theorem wy_X0_5 : Cond.lays RX0 "KnitBench$Fabric" "round" "Z" ∈ kb_TB := kb_m1 (List.mem_of_getElem? (i := 99) (by decide +kernel)) (by decide +kernel)
theorem wy_X0_6 : Cond.lays RX0 "KnitBench$Fabric" "rowCount" "I" ∈ kb_TB := kb_m1 (List.mem_of_getElem? (i := 101) (by decide +kernel)) (by decide +kernel)
theorem wy_X0_7 : Cond.lays RX0 "KnitBench$Fabric" "needleCount" "I" ∈ kb_TB := kb_m1 (List.mem_of_getElem? (i := 103) (by decide +kernel)) (by decide +kernel)
theorem wy_X0_8 : Cond.lays RX0 "KnitBench$Fabric" "needleStart" "I" ∈ kb_TB := kb_m1 (List.mem_of_getElem? (i := 105) (by decide +kernel)) (by decide +kernel)
theorem wy_X0_9 : Cond.lays RX0 "KnitBench$Fabric" "needleStep" "I" ∈ kb_TB := kb_m1 (List.mem_of_getElem? (i := 107) (by decide +kernel)) (by decide +kernel)
theorem wy_X0_10 : Cond.lays RX0 "KnitBench$Fabric" "taken" "I" ∈ kb_TB := kb_m1 (List.mem_of_getElem? (i := 109) (by decide +kernel)) (by decide +kernel)
theorem wy_X0_11 : Cond.lays RX0 "KnitBench$Fabric" "loopEnd" "I" ∈ kb_TB := kb_m1 (List.mem_of_getElem? (i := 111) (by decide +kernel)) (by decide +kernel)
theorem wy_X0_12 : Cond.lays RX0 "KnitBench$Fabric" "stitchEnd" "I" ∈ kb_TB := kb_m1 (List.mem_of_getElem? (i := 113) (by decide +kernel)) (by decide +kernel)
theorem hi_X0 : ∀ w ∈ u_ws RX0 TX0 13, w ∈ kb_TB := by
  intro w hw
  obtain ⟨k, hk, rfl⟩ := List.mem_map.mp hw
  have hk := List.mem_range.mp hk
  match k, hk with
  | 0, _ => exact wy_X0_0
  | 1, _ => exact wy_X0_1
  | 2, _ => exact wy_X0_2
  | 3, _ => exact wy_X0_3
  | 4, _ => exact wy_X0_4
  | 5, _ => exact wy_X0_5
  | 6, _ => exact wy_X0_6
  | 7, _ => exact wy_X0_7
  | 8, _ => exact wy_X0_8
  | 9, _ => exact wy_X0_9
  | 10, _ => exact wy_X0_10
  | 11, _ => exact wy_X0_11
  | 12, _ => exact wy_X0_12
  | k + 13, h => exact absurd h (by omega)
theorem wy_X2_0 : Cond.laysFinal RX2 "KnitBench$Knitter" "plan" "LKnitBench$Plan;" ∈ kb_TB := kb_m1 (List.mem_of_getElem? (i := 161) (by decide +kernel)) (by decide +kernel)
theorem wy_X2_1 : Cond.laysFinal RX2 "KnitBench$Knitter" "fabric" "LKnitBench$Fabric;" ∈ kb_TB := kb_m1 (List.mem_of_getElem? (i := 163) (by decide +kernel)) (by decide +kernel)
theorem wy_X2_2 : Cond.laysFinal RX2 "KnitBench$Knitter" "runsLeft" "[J" ∈ kb_TB := kb_m1 (List.mem_of_getElem? (i := 165) (by decide +kernel)) (by decide +kernel)
theorem wy_X2_3 : Cond.lays RX2 "KnitBench$Knitter" "depth" "I" ∈ kb_TB := kb_m1 (List.mem_of_getElem? (i := 167) (by decide +kernel)) (by decide +kernel)
theorem wy_X2_4 : Cond.lays RX2 "KnitBench$Knitter" "fault" "I" ∈ kb_TB := kb_m1 (List.mem_of_getElem? (i := 169) (by decide +kernel)) (by decide +kernel)
theorem hi_X2 : ∀ w ∈ u_ws RX2 TX2 5, w ∈ kb_TB := by
  intro w hw
  obtain ⟨k, hk, rfl⟩ := List.mem_map.mp hw
  have hk := List.mem_range.mp hk
  match k, hk with
  | 0, _ => exact wy_X2_0
  | 1, _ => exact wy_X2_1
  | 2, _ => exact wy_X2_2
  | 3, _ => exact wy_X2_3
  | 4, _ => exact wy_X2_4
  | k + 5, h => exact absurd h (by omega)
theorem wy_X3_0 : Cond.laysFinal RX3 "KnitBench$Plan" "kinds" "[I" ∈ kb_TB := kb_m1 (List.mem_of_getElem? (i := 42) (by decide +kernel)) (by decide +kernel)
theorem wy_X3_1 : Cond.laysFinal RX3 "KnitBench$Plan" "places" "[I" ∈ kb_TB := kb_m1 (List.mem_of_getElem? (i := 44) (by decide +kernel)) (by decide +kernel)
theorem wy_X3_2 : Cond.laysFinal RX3 "KnitBench$Plan" "counts" "[I" ∈ kb_TB := kb_m1 (List.mem_of_getElem? (i := 46) (by decide +kernel)) (by decide +kernel)
theorem wy_X3_3 : Cond.laysFinal RX3 "KnitBench$Plan" "links" "[I" ∈ kb_TB := kb_m1 (List.mem_of_getElem? (i := 48) (by decide +kernel)) (by decide +kernel)
theorem wy_X3_4 : Cond.laysFinal RX3 "KnitBench$Plan" "takes" "[J" ∈ kb_TB := kb_m1 (List.mem_of_getElem? (i := 50) (by decide +kernel)) (by decide +kernel)
theorem wy_X3_5 : Cond.lays RX3 "KnitBench$Plan" "size" "I" ∈ kb_TB := kb_m1 (List.mem_of_getElem? (i := 52) (by decide +kernel)) (by decide +kernel)
theorem hi_X3 : ∀ w ∈ u_ws RX3 TX3 6, w ∈ kb_TB := by
  intro w hw
  obtain ⟨k, hk, rfl⟩ := List.mem_map.mp hw
  have hk := List.mem_range.mp hk
  match k, hk with
  | 0, _ => exact wy_X3_0
  | 1, _ => exact wy_X3_1
  | 2, _ => exact wy_X3_2
  | 3, _ => exact wy_X3_3
  | 4, _ => exact wy_X3_4
  | 5, _ => exact wy_X3_5
  | k + 6, h => exact absurd h (by omega)
theorem wy_X4_0 : Cond.laysFinal RX4 "KnitBench$RowReader" "tape" "LKnitBench$Tape;" ∈ kb_TB := kb_m1 (List.mem_of_getElem? (i := 131) (by decide +kernel)) (by decide +kernel)
theorem wy_X4_1 : Cond.laysFinal RX4 "KnitBench$RowReader" "plan" "LKnitBench$Plan;" ∈ kb_TB := kb_m1 (List.mem_of_getElem? (i := 133) (by decide +kernel)) (by decide +kernel)
theorem wy_X4_2 : Cond.laysFinal RX4 "KnitBench$RowReader" "openSteps" "[I" ∈ kb_TB := kb_m1 (List.mem_of_getElem? (i := 135) (by decide +kernel)) (by decide +kernel)
theorem wy_X4_3 : Cond.laysFinal RX4 "KnitBench$RowReader" "takes" "[J" ∈ kb_TB := kb_m1 (List.mem_of_getElem? (i := 137) (by decide +kernel)) (by decide +kernel)
theorem wy_X4_4 : Cond.lays RX4 "KnitBench$RowReader" "depth" "I" ∈ kb_TB := kb_m1 (List.mem_of_getElem? (i := 139) (by decide +kernel)) (by decide +kernel)
theorem wy_X4_5 : Cond.lays RX4 "KnitBench$RowReader" "at" "I" ∈ kb_TB := kb_m1 (List.mem_of_getElem? (i := 141) (by decide +kernel)) (by decide +kernel)
theorem wy_X4_6 : Cond.lays RX4 "KnitBench$RowReader" "fault" "I" ∈ kb_TB := kb_m1 (List.mem_of_getElem? (i := 143) (by decide +kernel)) (by decide +kernel)
theorem wy_X4_7 : Cond.lays RX4 "KnitBench$RowReader" "itemIsDue" "Z" ∈ kb_TB := kb_m1 (List.mem_of_getElem? (i := 145) (by decide +kernel)) (by decide +kernel)
theorem wy_X4_8 : Cond.lays RX4 "KnitBench$RowReader" "ended" "Z" ∈ kb_TB := kb_m1 (List.mem_of_getElem? (i := 147) (by decide +kernel)) (by decide +kernel)
theorem hi_X4 : ∀ w ∈ u_ws RX4 TX4 9, w ∈ kb_TB := by
  intro w hw
  obtain ⟨k, hk, rfl⟩ := List.mem_map.mp hw
  have hk := List.mem_range.mp hk
  match k, hk with
  | 0, _ => exact wy_X4_0
  | 1, _ => exact wy_X4_1
  | 2, _ => exact wy_X4_2
  | 3, _ => exact wy_X4_3
  | 4, _ => exact wy_X4_4
  | 5, _ => exact wy_X4_5
  | 6, _ => exact wy_X4_6
  | 7, _ => exact wy_X4_7
  | 8, _ => exact wy_X4_8
  | k + 9, h => exact absurd h (by omega)
theorem wy_X5_0 : Cond.laysFinal RX5 "KnitBench$Shortest" "table" "[I" ∈ kb_TB := kb_m4 (List.mem_of_getElem? (i := 63) (by decide +kernel)) (by decide +kernel)
theorem wy_X5_1 : Cond.laysFinal RX5 "KnitBench$Shortest" "sames" "[I" ∈ kb_TB := kb_m4 (List.mem_of_getElem? (i := 65) (by decide +kernel)) (by decide +kernel)
theorem wy_X5_2 : Cond.laysFinal RX5 "KnitBench$Shortest" "stitches" "[I" ∈ kb_TB := kb_m4 (List.mem_of_getElem? (i := 67) (by decide +kernel)) (by decide +kernel)
theorem wy_X5_3 : Cond.laysFinal RX5 "KnitBench$Shortest" "text" "[I" ∈ kb_TB := kb_m4 (List.mem_of_getElem? (i := 69) (by decide +kernel)) (by decide +kernel)
theorem wy_X5_4 : Cond.lays RX5 "KnitBench$Shortest" "count" "I" ∈ kb_TB := kb_m4 (List.mem_of_getElem? (i := 71) (by decide +kernel)) (by decide +kernel)
theorem wy_X5_5 : Cond.lays RX5 "KnitBench$Shortest" "length" "I" ∈ kb_TB := kb_m4 (List.mem_of_getElem? (i := 73) (by decide +kernel)) (by decide +kernel)
theorem hi_X5 : ∀ w ∈ u_ws RX5 TX5 6, w ∈ kb_TB := by
  intro w hw
  obtain ⟨k, hk, rfl⟩ := List.mem_map.mp hw
  have hk := List.mem_range.mp hk
  match k, hk with
  | 0, _ => exact wy_X5_0
  | 1, _ => exact wy_X5_1
  | 2, _ => exact wy_X5_2
  | 3, _ => exact wy_X5_3
  | 4, _ => exact wy_X5_4
  | 5, _ => exact wy_X5_5
  | k + 6, h => exact absurd h (by omega)
theorem wy_X7_0 : Cond.laysFinal RX7 "KnitBench$Tape" "bytes" "[I" ∈ kb_TB := kb_m1 (List.mem_of_getElem? (i := 65) (by decide +kernel)) (by decide +kernel)
theorem wy_X7_1 : Cond.lays RX7 "KnitBench$Tape" "length" "I" ∈ kb_TB := kb_m1 (List.mem_of_getElem? (i := 67) (by decide +kernel)) (by decide +kernel)
theorem hi_X7 : ∀ w ∈ u_ws RX7 TX7 2, w ∈ kb_TB := by
  intro w hw
  obtain ⟨k, hk, rfl⟩ := List.mem_map.mp hw
  have hk := List.mem_range.mp hk
  match k, hk with
  | 0, _ => exact wy_X7_0
  | 1, _ => exact wy_X7_1
  | k + 2, h => exact absurd h (by omega)
theorem wy_X8_0 : Cond.laysFinal RX8 "KnitBench" "tape" "LKnitBench$Tape;" ∈ kb_TB := kb_m1 (List.mem_of_getElem? (i := 193) (by decide +kernel)) (by decide +kernel)
theorem wy_X8_1 : Cond.laysFinal RX8 "KnitBench" "fabric" "LKnitBench$Fabric;" ∈ kb_TB := kb_m1 (List.mem_of_getElem? (i := 195) (by decide +kernel)) (by decide +kernel)
theorem wy_X8_2 : Cond.laysFinal RX8 "KnitBench" "reader" "LKnitBench$RowReader;" ∈ kb_TB := kb_m1 (List.mem_of_getElem? (i := 197) (by decide +kernel)) (by decide +kernel)
theorem wy_X8_3 : Cond.laysFinal RX8 "KnitBench" "knitter" "LKnitBench$Knitter;" ∈ kb_TB := kb_m1 (List.mem_of_getElem? (i := 199) (by decide +kernel)) (by decide +kernel)
theorem wy_X8_4 : Cond.lays RX8 "KnitBench" "shortest" "LKnitBench$Shortest;" ∈ kb_TB := kb_m1 (List.mem_of_getElem? (i := 201) (by decide +kernel)) (by decide +kernel)
theorem hi_X8 : ∀ w ∈ u_ws RX8 TX8 5, w ∈ kb_TB := by
  intro w hw
  obtain ⟨k, hk, rfl⟩ := List.mem_map.mp hw
  have hk := List.mem_range.mp hk
  match k, hk with
  | 0, _ => exact wy_X8_0
  | 1, _ => exact wy_X8_1
  | 2, _ => exact wy_X8_2
  | 3, _ => exact wy_X8_3
  | 4, _ => exact wy_X8_4
  | k + 5, h => exact absurd h (by omega)
theorem wy_X9_0 : Cond.lays RX9 "KnitBenchModel" "thrown" "I" ∈ kb_TB := kb_m5 (List.mem_of_getElem? (i := 8) (by decide +kernel)) (by decide +kernel)
theorem wy_X9_1 : Cond.lays RX9 "KnitBenchModel" "taped" "I" ∈ kb_TB := kb_m5 (List.mem_of_getElem? (i := 10) (by decide +kernel)) (by decide +kernel)
theorem wy_X9_2 : Cond.laysFinal RX9 "KnitBenchModel" "tape" "[I" ∈ kb_TB := kb_m5 (List.mem_of_getElem? (i := 12) (by decide +kernel)) (by decide +kernel)
theorem wy_X9_3 : Cond.lays RX9 "KnitBenchModel" "round" "Z" ∈ kb_TB := kb_m5 (List.mem_of_getElem? (i := 14) (by decide +kernel)) (by decide +kernel)
theorem wy_X9_4 : Cond.lays RX9 "KnitBenchModel" "loops" "I" ∈ kb_TB := kb_m5 (List.mem_of_getElem? (i := 16) (by decide +kernel)) (by decide +kernel)
theorem wy_X9_5 : Cond.laysFinal RX9 "KnitBenchModel" "born" "[I" ∈ kb_TB := kb_m5 (List.mem_of_getElem? (i := 18) (by decide +kernel)) (by decide +kernel)
theorem wy_X9_6 : Cond.laysFinal RX9 "KnitBenchModel" "died" "[I" ∈ kb_TB := kb_m5 (List.mem_of_getElem? (i := 20) (by decide +kernel)) (by decide +kernel)
theorem wy_X9_7 : Cond.laysFinal RX9 "KnitBenchModel" "bound" "[Z" ∈ kb_TB := kb_m5 (List.mem_of_getElem? (i := 22) (by decide +kernel)) (by decide +kernel)
theorem wy_X9_8 : Cond.laysFinal RX9 "KnitBenchModel" "parents" "[I" ∈ kb_TB := kb_m5 (List.mem_of_getElem? (i := 24) (by decide +kernel)) (by decide +kernel)
theorem wy_X9_9 : Cond.laysFinal RX9 "KnitBenchModel" "parent" "[I" ∈ kb_TB := kb_m5 (List.mem_of_getElem? (i := 26) (by decide +kernel)) (by decide +kernel)
theorem wy_X9_10 : Cond.lays RX9 "KnitBenchModel" "rows" "I" ∈ kb_TB := kb_m5 (List.mem_of_getElem? (i := 28) (by decide +kernel)) (by decide +kernel)
theorem wy_X9_11 : Cond.laysFinal RX9 "KnitBenchModel" "begin" "[I" ∈ kb_TB := kb_m5 (List.mem_of_getElem? (i := 30) (by decide +kernel)) (by decide +kernel)
theorem wy_X9_12 : Cond.laysFinal RX9 "KnitBenchModel" "many" "[I" ∈ kb_TB := kb_m5 (List.mem_of_getElem? (i := 32) (by decide +kernel)) (by decide +kernel)
theorem wy_X9_13 : Cond.laysFinal RX9 "KnitBenchModel" "stitch" "[I" ∈ kb_TB := kb_m5 (List.mem_of_getElem? (i := 34) (by decide +kernel)) (by decide +kernel)
theorem wy_X9_14 : Cond.lays RX9 "KnitBenchModel" "at" "I" ∈ kb_TB := kb_m5 (List.mem_of_getElem? (i := 36) (by decide +kernel)) (by decide +kernel)
theorem wy_X9_15 : Cond.lays RX9 "KnitBenchModel" "fault" "I" ∈ kb_TB := kb_m5 (List.mem_of_getElem? (i := 38) (by decide +kernel)) (by decide +kernel)
theorem wy_X9_16 : Cond.lays RX9 "KnitBenchModel" "place" "I" ∈ kb_TB := kb_m5 (List.mem_of_getElem? (i := 40) (by decide +kernel)) (by decide +kernel)
theorem wy_X9_17 : Cond.lays RX9 "KnitBenchModel" "depth" "I" ∈ kb_TB := kb_m5 (List.mem_of_getElem? (i := 42) (by decide +kernel)) (by decide +kernel)
theorem wy_X9_18 : Cond.lays RX9 "KnitBenchModel" "marks" "I" ∈ kb_TB := kb_m5 (List.mem_of_getElem? (i := 44) (by decide +kernel)) (by decide +kernel)
theorem wy_X9_19 : Cond.laysFinal RX9 "KnitBenchModel" "mark" "[I" ∈ kb_TB := kb_m5 (List.mem_of_getElem? (i := 46) (by decide +kernel)) (by decide +kernel)
theorem wy_X9_20 : Cond.laysFinal RX9 "KnitBenchModel" "number" "[I" ∈ kb_TB := kb_m5 (List.mem_of_getElem? (i := 48) (by decide +kernel)) (by decide +kernel)
theorem wy_X9_21 : Cond.laysFinal RX9 "KnitBenchModel" "where" "[I" ∈ kb_TB := kb_m5 (List.mem_of_getElem? (i := 50) (by decide +kernel)) (by decide +kernel)
theorem wy_X9_22 : Cond.laysFinal RX9 "KnitBenchModel" "other" "[I" ∈ kb_TB := kb_m5 (List.mem_of_getElem? (i := 52) (by decide +kernel)) (by decide +kernel)
theorem wy_X9_23 : Cond.lays RX9 "KnitBenchModel" "size" "I" ∈ kb_TB := kb_m5 (List.mem_of_getElem? (i := 54) (by decide +kernel)) (by decide +kernel)
theorem wy_X9_24 : Cond.laysFinal RX9 "KnitBenchModel" "made" "[I" ∈ kb_TB := kb_m5 (List.mem_of_getElem? (i := 56) (by decide +kernel)) (by decide +kernel)
theorem wy_X9_25 : Cond.lays RX9 "KnitBenchModel" "written" "I" ∈ kb_TB := kb_m5 (List.mem_of_getElem? (i := 58) (by decide +kernel)) (by decide +kernel)
theorem wy_X9_26 : Cond.laysFinal RX9 "KnitBenchModel" "out" "[I" ∈ kb_TB := kb_m5 (List.mem_of_getElem? (i := 60) (by decide +kernel)) (by decide +kernel)
theorem wy_X9_27 : Cond.laysFinal RX9 "KnitBenchModel" "words" "[I" ∈ kb_TB := kb_m5 (List.mem_of_getElem? (i := 62) (by decide +kernel)) (by decide +kernel)
theorem wy_X9_28 : Cond.laysFinal RX9 "KnitBenchModel" "way" "[I" ∈ kb_TB := kb_m5 (List.mem_of_getElem? (i := 64) (by decide +kernel)) (by decide +kernel)
theorem wy_X9_29 : Cond.laysFinal RX9 "KnitBenchModel" "open" "[I" ∈ kb_TB := kb_m5 (List.mem_of_getElem? (i := 66) (by decide +kernel)) (by decide +kernel)
theorem wy_X9_30 : Cond.laysFinal RX9 "KnitBenchModel" "turns" "[I" ∈ kb_TB := kb_m5 (List.mem_of_getElem? (i := 68) (by decide +kernel)) (by decide +kernel)
theorem wy_X9_31 : Cond.laysFinal RX9 "KnitBenchModel" "task" "[I" ∈ kb_TB := kb_m5 (List.mem_of_getElem? (i := 70) (by decide +kernel)) (by decide +kernel)
theorem hi_X9 : ∀ w ∈ u_ws RX9 TX9 32, w ∈ kb_TB := by
  intro w hw
  obtain ⟨k, hk, rfl⟩ := List.mem_map.mp hw
  have hk := List.mem_range.mp hk
  match k, hk with
  | 0, _ => exact wy_X9_0
  | 1, _ => exact wy_X9_1
  | 2, _ => exact wy_X9_2
  | 3, _ => exact wy_X9_3
  | 4, _ => exact wy_X9_4
  | 5, _ => exact wy_X9_5
  | 6, _ => exact wy_X9_6
  | 7, _ => exact wy_X9_7
  | 8, _ => exact wy_X9_8
  | 9, _ => exact wy_X9_9
  | 10, _ => exact wy_X9_10
  | 11, _ => exact wy_X9_11
  | 12, _ => exact wy_X9_12
  | 13, _ => exact wy_X9_13
  | 14, _ => exact wy_X9_14
  | 15, _ => exact wy_X9_15
  | 16, _ => exact wy_X9_16
  | 17, _ => exact wy_X9_17
  | 18, _ => exact wy_X9_18
  | 19, _ => exact wy_X9_19
  | 20, _ => exact wy_X9_20
  | 21, _ => exact wy_X9_21
  | 22, _ => exact wy_X9_22
  | 23, _ => exact wy_X9_23
  | 24, _ => exact wy_X9_24
  | 25, _ => exact wy_X9_25
  | 26, _ => exact wy_X9_26
  | 27, _ => exact wy_X9_27
  | 28, _ => exact wy_X9_28
  | 29, _ => exact wy_X9_29
  | 30, _ => exact wy_X9_30
  | 31, _ => exact wy_X9_31
  | k + 32, h => exact absurd h (by omega)
theorem wd_X0_init : Cond.code yX0_init cX0_init 1 none ∈ kb_TB := kb_m1 (List.mem_of_getElem? (i := 74) (by decide +kernel)) (by decide +kernel)
theorem wf_X0_9 : Cond.fieldLink RX0 9 "KnitBench$Fabric" "firstLoops" "[I" ∈ kb_TB := kb_m1 (List.mem_of_getElem? (i := 76) (by decide +kernel)) (by decide +kernel)
theorem wf_X0_13 : Cond.fieldLink RX0 13 "KnitBench$Fabric" "firstStitches" "[I" ∈ kb_TB := kb_m1 (List.mem_of_getElem? (i := 77) (by decide +kernel)) (by decide +kernel)
theorem wf_X0_16 : Cond.fieldLink RX0 16 "KnitBench$Fabric" "stitches" "[I" ∈ kb_TB := kb_m1 (List.mem_of_getElem? (i := 78) (by decide +kernel)) (by decide +kernel)
theorem wf_X0_19 : Cond.fieldLink RX0 19 "KnitBench$Fabric" "parentCounts" "[I" ∈ kb_TB := kb_m1 (List.mem_of_getElem? (i := 79) (by decide +kernel)) (by decide +kernel)
theorem wf_X0_22 : Cond.fieldLink RX0 22 "KnitBench$Fabric" "firstParents" "[I" ∈ kb_TB := kb_m1 (List.mem_of_getElem? (i := 80) (by decide +kernel)) (by decide +kernel)
theorem wd_X0_castOn : Cond.code yX0_castOn cX0_castOn 4 none ∈ kb_TB := kb_m1 (List.mem_of_getElem? (i := 175) (by decide +kernel)) (by decide +kernel)
theorem wf_X0_25 : Cond.fieldLink RX0 25 "KnitBench$Fabric" "round" "Z" ∈ kb_TB := kb_m1 (List.mem_of_getElem? (i := 81) (by decide +kernel)) (by decide +kernel)
theorem wf_X0_29 : Cond.fieldLink RX0 29 "KnitBench$Fabric" "rowCount" "I" ∈ kb_TB := kb_m1 (List.mem_of_getElem? (i := 82) (by decide +kernel)) (by decide +kernel)
theorem wf_X0_33 : Cond.fieldLink RX0 33 "KnitBench$Fabric" "loopEnd" "I" ∈ kb_TB := kb_m1 (List.mem_of_getElem? (i := 87) (by decide +kernel)) (by decide +kernel)
theorem wk_X0_36 : Cond.methodLink RX0 36 yX0_makeLoop ∈ kb_TB := kb_m1 (List.mem_of_getElem? (i := 176) (by decide +kernel)) (by decide +kernel)
theorem wd_X0_makeLoop : Cond.code yX0_makeLoop cX0_makeLoop 3 none ∈ kb_TB := kb_m1 (List.mem_of_getElem? (i := 179) (by decide +kernel)) (by decide +kernel)
theorem wz_X0 : Cond.initialized RX0 ∈ kb_TB := kb_m1 (List.mem_of_getElem? (i := 4) (by decide +kernel)) (by decide +kernel)
theorem wi_X0_makeLoop : Cond.instanceMethod yX0_makeLoop ∈ kb_TB := kb_m1 (List.mem_of_getElem? (i := 178) (by decide +kernel)) (by decide +kernel)
theorem ws_X0_makeLoop : Cond.selects RX0 yX0_makeLoop yX0_makeLoop ∈ kb_TB := kb_m0 (List.mem_of_getElem? (i := 0) (by decide +kernel)) (by decide +kernel)
theorem wk_X0_40 : Cond.methodLink RX0 40 yX0_fillNeedle ∈ kb_TB := kb_m1 (List.mem_of_getElem? (i := 184) (by decide +kernel)) (by decide +kernel)
theorem wd_X0_fillNeedle : Cond.code yX0_fillNeedle cX0_fillNeedle 3 none ∈ kb_TB := kb_m1 (List.mem_of_getElem? (i := 187) (by decide +kernel)) (by decide +kernel)
theorem wi_X0_fillNeedle : Cond.instanceMethod yX0_fillNeedle ∈ kb_TB := kb_m1 (List.mem_of_getElem? (i := 186) (by decide +kernel)) (by decide +kernel)
theorem ws_X0_fillNeedle : Cond.selects RX0 yX0_fillNeedle yX0_fillNeedle ∈ kb_TB := kb_m0 (List.mem_of_getElem? (i := 1) (by decide +kernel)) (by decide +kernel)
theorem wd_X0_rowCount : Cond.code yX0_rowCount cX0_rowCount 1 (some .int) ∈ kb_TB := kb_m3 (List.mem_of_getElem? (i := 54) (by decide +kernel)) (by decide +kernel)
theorem wd_X0_takeBack : Cond.code yX0_takeBack cX0_takeBack 2 none ∈ kb_TB := kb_m3 (List.mem_of_getElem? (i := 183) (by decide +kernel)) (by decide +kernel)
theorem wk_X0_43 : Cond.methodLink RX0 43 Lib.Math.max.name ∈ kb_TB := kb_m3 (List.mem_of_getElem? (i := 184) (by decide +kernel)) (by decide +kernel)
theorem wi_Mmax : Cond.static Lib.Math.max.name ∈ kb_TB := kb_m3 (List.mem_of_getElem? (i := 28) (by decide +kernel)) (by decide +kernel)
theorem wz_Math : Cond.initialized "java/lang/Math" ∈ kb_TB := kb_m1 (List.mem_of_getElem? (i := 19) (by decide +kernel)) (by decide +kernel)
theorem wd_Mmax : Cond.code Lib.Math.max.name Lib.Math.max.code 2 (some .int) ∈ kb_TB := kb_m3 (List.mem_of_getElem? (i := 29) (by decide +kernel)) (by decide +kernel)
theorem wf_X0_49 : Cond.fieldLink RX0 49 "KnitBench$Fabric" "needleCount" "I" ∈ kb_TB := kb_m1 (List.mem_of_getElem? (i := 83) (by decide +kernel)) (by decide +kernel)
theorem wf_X0_52 : Cond.fieldLink RX0 52 "KnitBench$Fabric" "needleStart" "I" ∈ kb_TB := kb_m1 (List.mem_of_getElem? (i := 84) (by decide +kernel)) (by decide +kernel)
theorem wf_X0_55 : Cond.fieldLink RX0 55 "KnitBench$Fabric" "needleStep" "I" ∈ kb_TB := kb_m1 (List.mem_of_getElem? (i := 85) (by decide +kernel)) (by decide +kernel)
theorem wd_X0_startRow : Cond.code yX0_startRow cX0_startRow 1 none ∈ kb_TB := kb_m2 (List.mem_of_getElem? (i := 186) (by decide +kernel)) (by decide +kernel)
theorem wf_X0_58 : Cond.fieldLink RX0 58 "KnitBench$Fabric" "taken" "I" ∈ kb_TB := kb_m1 (List.mem_of_getElem? (i := 86) (by decide +kernel)) (by decide +kernel)
theorem wk_X0_61 : Cond.methodLink RX0 61 yX0_loopCount ∈ kb_TB := kb_m2 (List.mem_of_getElem? (i := 187) (by decide +kernel)) (by decide +kernel)
theorem wd_X0_loopCount : Cond.code yX0_loopCount cX0_loopCount 1 (some .int) ∈ kb_TB := kb_m2 (List.mem_of_getElem? (i := 190) (by decide +kernel)) (by decide +kernel)
theorem wi_X0_loopCount : Cond.instanceMethod yX0_loopCount ∈ kb_TB := kb_m2 (List.mem_of_getElem? (i := 188) (by decide +kernel)) (by decide +kernel)
theorem ws_X0_loopCount : Cond.selects RX0 yX0_loopCount yX0_loopCount ∈ kb_TB := kb_m2 (List.mem_of_getElem? (i := 189) (by decide +kernel)) (by decide +kernel)
theorem wf_X0_65 : Cond.fieldLink RX0 65 "KnitBench$Fabric" "stitchEnd" "I" ∈ kb_TB := kb_m1 (List.mem_of_getElem? (i := 88) (by decide +kernel)) (by decide +kernel)
theorem wd_X0_leftCount : Cond.code yX0_leftCount cX0_leftCount 1 (some .int) ∈ kb_TB := kb_m2 (List.mem_of_getElem? (i := 218) (by decide +kernel)) (by decide +kernel)
theorem wd_X0_madeSoFar : Cond.code yX0_madeSoFar cX0_madeSoFar 1 (some .int) ∈ kb_TB := kb_m2 (List.mem_of_getElem? (i := 222) (by decide +kernel)) (by decide +kernel)
theorem wd_X0_faultOfStitch : Cond.code yX0_faultOfStitch cX0_faultOfStitch 2 (some .int) ∈ kb_TB := kb_m2 (List.mem_of_getElem? (i := 213) (by decide +kernel)) (by decide +kernel)
theorem wk_X0_68 : Cond.methodLink RX0 68 yX6_loopsTaken ∈ kb_TB := kb_m2 (List.mem_of_getElem? (i := 214) (by decide +kernel)) (by decide +kernel)
theorem wd_X6_loopsTaken : Cond.code yX6_loopsTaken cX6_loopsTaken 1 (some .int) ∈ kb_TB := kb_m2 (List.mem_of_getElem? (i := 82) (by decide +kernel)) (by decide +kernel)
theorem wz_X6 : Cond.initialized RX6 ∈ kb_TB := kb_m1 (List.mem_of_getElem? (i := 18) (by decide +kernel)) (by decide +kernel)
theorem wi_X6_loopsTaken : Cond.static yX6_loopsTaken ∈ kb_TB := kb_m2 (List.mem_of_getElem? (i := 81) (by decide +kernel)) (by decide +kernel)
theorem wk_X0_74 : Cond.methodLink RX0 74 yX0_leftCount ∈ kb_TB := kb_m2 (List.mem_of_getElem? (i := 215) (by decide +kernel)) (by decide +kernel)
theorem wi_X0_leftCount : Cond.instanceMethod yX0_leftCount ∈ kb_TB := kb_m2 (List.mem_of_getElem? (i := 216) (by decide +kernel)) (by decide +kernel)
theorem ws_X0_leftCount : Cond.selects RX0 yX0_leftCount yX0_leftCount ∈ kb_TB := kb_m2 (List.mem_of_getElem? (i := 217) (by decide +kernel)) (by decide +kernel)
theorem wk_X0_79 : Cond.methodLink RX0 79 yX0_madeSoFar ∈ kb_TB := kb_m2 (List.mem_of_getElem? (i := 219) (by decide +kernel)) (by decide +kernel)
theorem wi_X0_madeSoFar : Cond.instanceMethod yX0_madeSoFar ∈ kb_TB := kb_m2 (List.mem_of_getElem? (i := 221) (by decide +kernel)) (by decide +kernel)
theorem ws_X0_madeSoFar : Cond.selects RX0 yX0_madeSoFar yX0_madeSoFar ∈ kb_TB := kb_m0 (List.mem_of_getElem? (i := 26) (by decide +kernel)) (by decide +kernel)
theorem wk_X0_82 : Cond.methodLink RX0 82 yX6_loopsMade ∈ kb_TB := kb_m2 (List.mem_of_getElem? (i := 223) (by decide +kernel)) (by decide +kernel)
theorem wd_X6_loopsMade : Cond.code yX6_loopsMade cX6_loopsMade 1 (some .int) ∈ kb_TB := kb_m2 (List.mem_of_getElem? (i := 225) (by decide +kernel)) (by decide +kernel)
theorem wi_X6_loopsMade : Cond.static yX6_loopsMade ∈ kb_TB := kb_m2 (List.mem_of_getElem? (i := 224) (by decide +kernel)) (by decide +kernel)
theorem wd_X0_addStitch : Cond.code yX0_addStitch cX0_addStitch 4 none ∈ kb_TB := kb_m3 (List.mem_of_getElem? (i := 0) (by decide +kernel)) (by decide +kernel)
theorem wk_X0_85 : Cond.methodLink RX0 85 yX6_isCable ∈ kb_TB := kb_m3 (List.mem_of_getElem? (i := 1) (by decide +kernel)) (by decide +kernel)
theorem wd_X6_isCable : Cond.code yX6_isCable cX6_isCable 1 (some .boolean) ∈ kb_TB := kb_m3 (List.mem_of_getElem? (i := 3) (by decide +kernel)) (by decide +kernel)
theorem wi_X6_isCable : Cond.static yX6_isCable ∈ kb_TB := kb_m3 (List.mem_of_getElem? (i := 2) (by decide +kernel)) (by decide +kernel)
theorem wk_X0_89 : Cond.methodLink RX0 89 yX6_cableA ∈ kb_TB := kb_m3 (List.mem_of_getElem? (i := 4) (by decide +kernel)) (by decide +kernel)
theorem wd_X6_cableA : Cond.code yX6_cableA cX6_cableA 1 (some .int) ∈ kb_TB := kb_m2 (List.mem_of_getElem? (i := 87) (by decide +kernel)) (by decide +kernel)
theorem wi_X6_cableA : Cond.static yX6_cableA ∈ kb_TB := kb_m2 (List.mem_of_getElem? (i := 86) (by decide +kernel)) (by decide +kernel)
theorem wk_X0_92 : Cond.methodLink RX0 92 yX6_cableB ∈ kb_TB := kb_m3 (List.mem_of_getElem? (i := 5) (by decide +kernel)) (by decide +kernel)
theorem wd_X6_cableB : Cond.code yX6_cableB cX6_cableB 1 (some .int) ∈ kb_TB := kb_m2 (List.mem_of_getElem? (i := 90) (by decide +kernel)) (by decide +kernel)
theorem wi_X6_cableB : Cond.static yX6_cableB ∈ kb_TB := kb_m2 (List.mem_of_getElem? (i := 89) (by decide +kernel)) (by decide +kernel)
theorem wk_X0_95 : Cond.methodLink RX0 95 yX0_makeCableLoops ∈ kb_TB := kb_m3 (List.mem_of_getElem? (i := 6) (by decide +kernel)) (by decide +kernel)
theorem wd_X0_makeCableLoops : Cond.code yX0_makeCableLoops cX0_makeCableLoops 4 none ∈ kb_TB := kb_m3 (List.mem_of_getElem? (i := 9) (by decide +kernel)) (by decide +kernel)
theorem wi_X0_makeCableLoops : Cond.instanceMethod yX0_makeCableLoops ∈ kb_TB := kb_m3 (List.mem_of_getElem? (i := 8) (by decide +kernel)) (by decide +kernel)
theorem ws_X0_makeCableLoops : Cond.selects RX0 yX0_makeCableLoops yX0_makeCableLoops ∈ kb_TB := kb_m0 (List.mem_of_getElem? (i := 28) (by decide +kernel)) (by decide +kernel)
theorem wk_X0_98 : Cond.methodLink RX0 98 yX0_needleLoop ∈ kb_TB := kb_m1 (List.mem_of_getElem? (i := 180) (by decide +kernel)) (by decide +kernel)
theorem wd_X0_needleLoop : Cond.code yX0_needleLoop cX0_needleLoop 2 (some .int) ∈ kb_TB := kb_m1 (List.mem_of_getElem? (i := 183) (by decide +kernel)) (by decide +kernel)
theorem wi_X0_needleLoop : Cond.instanceMethod yX0_needleLoop ∈ kb_TB := kb_m1 (List.mem_of_getElem? (i := 181) (by decide +kernel)) (by decide +kernel)
theorem ws_X0_needleLoop : Cond.selects RX0 yX0_needleLoop yX0_needleLoop ∈ kb_TB := kb_m1 (List.mem_of_getElem? (i := 182) (by decide +kernel)) (by decide +kernel)
theorem wd_X0_faultOfRow : Cond.code yX0_faultOfRow cX0_faultOfRow 1 (some .int) ∈ kb_TB := kb_m3 (List.mem_of_getElem? (i := 33) (by decide +kernel)) (by decide +kernel)
theorem wd_X0_keepRow : Cond.code yX0_keepRow cX0_keepRow 1 none ∈ kb_TB := kb_m3 (List.mem_of_getElem? (i := 37) (by decide +kernel)) (by decide +kernel)
theorem wd_X0_liveCount : Cond.code yX0_liveCount cX0_liveCount 1 (some .int) ∈ kb_TB := kb_m3 (List.mem_of_getElem? (i := 41) (by decide +kernel)) (by decide +kernel)
theorem wd_X0_hasRow : Cond.code yX0_hasRow cX0_hasRow 2 (some .boolean) ∈ kb_TB := kb_m3 (List.mem_of_getElem? (i := 236) (by decide +kernel)) (by decide +kernel)
theorem wd_X0_hasLoop : Cond.code yX0_hasLoop cX0_hasLoop 2 (some .boolean) ∈ kb_TB := kb_m3 (List.mem_of_getElem? (i := 195) (by decide +kernel)) (by decide +kernel)
theorem wd_X0_madeIn : Cond.code yX0_madeIn cX0_madeIn 2 (some .int) ∈ kb_TB := kb_m4 (List.mem_of_getElem? (i := 39) (by decide +kernel)) (by decide +kernel)
theorem wk_X0_101 : Cond.methodLink RX0 101 yX0_hasRow ∈ kb_TB := kb_m3 (List.mem_of_getElem? (i := 233) (by decide +kernel)) (by decide +kernel)
theorem wi_X0_hasRow : Cond.instanceMethod yX0_hasRow ∈ kb_TB := kb_m3 (List.mem_of_getElem? (i := 234) (by decide +kernel)) (by decide +kernel)
theorem ws_X0_hasRow : Cond.selects RX0 yX0_hasRow yX0_hasRow ∈ kb_TB := kb_m3 (List.mem_of_getElem? (i := 235) (by decide +kernel)) (by decide +kernel)
theorem wd_X0_bornIn : Cond.code yX0_bornIn cX0_bornIn 3 (some .int) ∈ kb_TB := kb_m3 (List.mem_of_getElem? (i := 206) (by decide +kernel)) (by decide +kernel)
theorem wd_X0_diedIn : Cond.code yX0_diedIn cX0_diedIn 3 (some .int) ∈ kb_TB := kb_m3 (List.mem_of_getElem? (i := 210) (by decide +kernel)) (by decide +kernel)
theorem wk_X0_104 : Cond.methodLink RX0 104 yX0_bornIn ∈ kb_TB := kb_m3 (List.mem_of_getElem? (i := 211) (by decide +kernel)) (by decide +kernel)
theorem wi_X0_bornIn : Cond.instanceMethod yX0_bornIn ∈ kb_TB := kb_m3 (List.mem_of_getElem? (i := 204) (by decide +kernel)) (by decide +kernel)
theorem ws_X0_bornIn : Cond.selects RX0 yX0_bornIn yX0_bornIn ∈ kb_TB := kb_m3 (List.mem_of_getElem? (i := 205) (by decide +kernel)) (by decide +kernel)
theorem wd_X0_parentCount : Cond.code yX0_parentCount cX0_parentCount 2 (some .int) ∈ kb_TB := kb_m3 (List.mem_of_getElem? (i := 200) (by decide +kernel)) (by decide +kernel)
theorem wk_X0_107 : Cond.methodLink RX0 107 yX0_hasLoop ∈ kb_TB := kb_m3 (List.mem_of_getElem? (i := 201) (by decide +kernel)) (by decide +kernel)
theorem wi_X0_hasLoop : Cond.instanceMethod yX0_hasLoop ∈ kb_TB := kb_m3 (List.mem_of_getElem? (i := 193) (by decide +kernel)) (by decide +kernel)
theorem ws_X0_hasLoop : Cond.selects RX0 yX0_hasLoop yX0_hasLoop ∈ kb_TB := kb_m3 (List.mem_of_getElem? (i := 194) (by decide +kernel)) (by decide +kernel)
theorem wd_X0_parent : Cond.code yX0_parent cX0_parent 3 (some .int) ∈ kb_TB := kb_m3 (List.mem_of_getElem? (i := 215) (by decide +kernel)) (by decide +kernel)
theorem wd_X0_ladderLength : Cond.code yX0_ladderLength cX0_ladderLength 5 (some .int) ∈ kb_TB := kb_m4 (List.mem_of_getElem? (i := 190) (by decide +kernel)) (by decide +kernel)
theorem wk_X0_110 : Cond.methodLink RX0 110 yX0_parentCount ∈ kb_TB := kb_m4 (List.mem_of_getElem? (i := 191) (by decide +kernel)) (by decide +kernel)
theorem wi_X0_parentCount : Cond.instanceMethod yX0_parentCount ∈ kb_TB := kb_m3 (List.mem_of_getElem? (i := 198) (by decide +kernel)) (by decide +kernel)
theorem ws_X0_parentCount : Cond.selects RX0 yX0_parentCount yX0_parentCount ∈ kb_TB := kb_m3 (List.mem_of_getElem? (i := 199) (by decide +kernel)) (by decide +kernel)
theorem wk_X0_113 : Cond.methodLink RX0 113 yX0_parent ∈ kb_TB := kb_m4 (List.mem_of_getElem? (i := 192) (by decide +kernel)) (by decide +kernel)
theorem wi_X0_parent : Cond.instanceMethod yX0_parent ∈ kb_TB := kb_m3 (List.mem_of_getElem? (i := 213) (by decide +kernel)) (by decide +kernel)
theorem ws_X0_parent : Cond.selects RX0 yX0_parent yX0_parent ∈ kb_TB := kb_m3 (List.mem_of_getElem? (i := 214) (by decide +kernel)) (by decide +kernel)
theorem wd_X0_stitchCount : Cond.code yX0_stitchCount cX0_stitchCount 2 (some .int) ∈ kb_TB := kb_m3 (List.mem_of_getElem? (i := 232) (by decide +kernel)) (by decide +kernel)
theorem wd_X0_stitchAt : Cond.code yX0_stitchAt cX0_stitchAt 3 (some .int) ∈ kb_TB := kb_m4 (List.mem_of_getElem? (i := 21) (by decide +kernel)) (by decide +kernel)
theorem wk_X0_116 : Cond.methodLink RX0 116 yX0_stitchCount ∈ kb_TB := kb_m4 (List.mem_of_getElem? (i := 17) (by decide +kernel)) (by decide +kernel)
theorem wi_X0_stitchCount : Cond.instanceMethod yX0_stitchCount ∈ kb_TB := kb_m3 (List.mem_of_getElem? (i := 230) (by decide +kernel)) (by decide +kernel)
theorem ws_X0_stitchCount : Cond.selects RX0 yX0_stitchCount yX0_stitchCount ∈ kb_TB := kb_m3 (List.mem_of_getElem? (i := 231) (by decide +kernel)) (by decide +kernel)
theorem wd_X0_stitchSeen : Cond.code yX0_stitchSeen cX0_stitchSeen 4 (some .int) ∈ kb_TB := kb_m4 (List.mem_of_getElem? (i := 16) (by decide +kernel)) (by decide +kernel)
theorem wk_X0_119 : Cond.methodLink RX0 119 yX0_stitchAt ∈ kb_TB := kb_m4 (List.mem_of_getElem? (i := 18) (by decide +kernel)) (by decide +kernel)
theorem wi_X0_stitchAt : Cond.instanceMethod yX0_stitchAt ∈ kb_TB := kb_m4 (List.mem_of_getElem? (i := 19) (by decide +kernel)) (by decide +kernel)
theorem ws_X0_stitchAt : Cond.selects RX0 yX0_stitchAt yX0_stitchAt ∈ kb_TB := kb_m4 (List.mem_of_getElem? (i := 20) (by decide +kernel)) (by decide +kernel)
theorem wk_X0_122 : Cond.methodLink RX0 122 yX6_seenFromBehind ∈ kb_TB := kb_m4 (List.mem_of_getElem? (i := 22) (by decide +kernel)) (by decide +kernel)
theorem wd_X6_seenFromBehind : Cond.code yX6_seenFromBehind cX6_seenFromBehind 1 (some .int) ∈ kb_TB := kb_m4 (List.mem_of_getElem? (i := 24) (by decide +kernel)) (by decide +kernel)
theorem wi_X6_seenFromBehind : Cond.static yX6_seenFromBehind ∈ kb_TB := kb_m4 (List.mem_of_getElem? (i := 23) (by decide +kernel)) (by decide +kernel)
theorem wd_X0_crossings : Cond.code yX0_crossings cX0_crossings 6 (some .int) ∈ kb_TB := kb_m4 (List.mem_of_getElem? (i := 35) (by decide +kernel)) (by decide +kernel)
theorem wd_X0_boundIn : Cond.code yX0_boundIn cX0_boundIn 5 (some .int) ∈ kb_TB := kb_m4 (List.mem_of_getElem? (i := 43) (by decide +kernel)) (by decide +kernel)
theorem wd_X1_answer : Cond.code yX1_answer cX1_answer 2 (some .int) ∈ kb_TB := kb_m2 (List.mem_of_getElem? (i := 67) (by decide +kernel)) (by decide +kernel)
theorem wd_X3_init : Cond.code yX3_init cX3_init 1 none ∈ kb_TB := kb_m1 (List.mem_of_getElem? (i := 34) (by decide +kernel)) (by decide +kernel)
theorem wf_X3_11 : Cond.fieldLink RX3 11 "KnitBench$Plan" "kinds" "[I" ∈ kb_TB := kb_m1 (List.mem_of_getElem? (i := 36) (by decide +kernel)) (by decide +kernel)
theorem wf_X3_15 : Cond.fieldLink RX3 15 "KnitBench$Plan" "places" "[I" ∈ kb_TB := kb_m1 (List.mem_of_getElem? (i := 37) (by decide +kernel)) (by decide +kernel)
theorem wf_X3_18 : Cond.fieldLink RX3 18 "KnitBench$Plan" "counts" "[I" ∈ kb_TB := kb_m1 (List.mem_of_getElem? (i := 38) (by decide +kernel)) (by decide +kernel)
theorem wf_X3_21 : Cond.fieldLink RX3 21 "KnitBench$Plan" "links" "[I" ∈ kb_TB := kb_m1 (List.mem_of_getElem? (i := 39) (by decide +kernel)) (by decide +kernel)
theorem wf_X3_24 : Cond.fieldLink RX3 24 "KnitBench$Plan" "takes" "[J" ∈ kb_TB := kb_m1 (List.mem_of_getElem? (i := 40) (by decide +kernel)) (by decide +kernel)
theorem wd_X3_clear : Cond.code yX3_clear cX3_clear 1 none ∈ kb_TB := kb_m1 (List.mem_of_getElem? (i := 215) (by decide +kernel)) (by decide +kernel)
theorem wf_X3_28 : Cond.fieldLink RX3 28 "KnitBench$Plan" "size" "I" ∈ kb_TB := kb_m1 (List.mem_of_getElem? (i := 41) (by decide +kernel)) (by decide +kernel)
theorem wd_X3_size : Cond.code yX3_size cX3_size 1 (some .int) ∈ kb_TB := kb_m2 (List.mem_of_getElem? (i := 121) (by decide +kernel)) (by decide +kernel)
theorem wd_X3_addStitches : Cond.code yX3_addStitches cX3_addStitches 4 none ∈ kb_TB := kb_m2 (List.mem_of_getElem? (i := 75) (by decide +kernel)) (by decide +kernel)
theorem wk_X3_32 : Cond.methodLink RX3 32 yX3_add ∈ kb_TB := kb_m2 (List.mem_of_getElem? (i := 76) (by decide +kernel)) (by decide +kernel)
theorem wd_X3_add : Cond.code yX3_add cX3_add 5 none ∈ kb_TB := kb_m2 (List.mem_of_getElem? (i := 79) (by decide +kernel)) (by decide +kernel)
theorem wz_X3 : Cond.initialized RX3 ∈ kb_TB := kb_m1 (List.mem_of_getElem? (i := 2) (by decide +kernel)) (by decide +kernel)
theorem wi_X3_add : Cond.instanceMethod yX3_add ∈ kb_TB := kb_m2 (List.mem_of_getElem? (i := 78) (by decide +kernel)) (by decide +kernel)
theorem ws_X3_add : Cond.selects RX3 yX3_add yX3_add ∈ kb_TB := kb_m0 (List.mem_of_getElem? (i := 11) (by decide +kernel)) (by decide +kernel)
theorem wd_X3_addOpen : Cond.code yX3_addOpen cX3_addOpen 3 none ∈ kb_TB := kb_m2 (List.mem_of_getElem? (i := 145) (by decide +kernel)) (by decide +kernel)
theorem wd_X3_addClose : Cond.code yX3_addClose cX3_addClose 6 none ∈ kb_TB := kb_m2 (List.mem_of_getElem? (i := 176) (by decide +kernel)) (by decide +kernel)
theorem wd_X3_kind : Cond.code yX3_kind cX3_kind 2 (some .int) ∈ kb_TB := kb_m2 (List.mem_of_getElem? (i := 162) (by decide +kernel)) (by decide +kernel)
theorem wk_X3_36 : Cond.methodLink RX3 36 yX3_has ∈ kb_TB := kb_m2 (List.mem_of_getElem? (i := 163) (by decide +kernel)) (by decide +kernel)
theorem wd_X3_has : Cond.code yX3_has cX3_has 2 (some .boolean) ∈ kb_TB := kb_m2 (List.mem_of_getElem? (i := 166) (by decide +kernel)) (by decide +kernel)
theorem wi_X3_has : Cond.instanceMethod yX3_has ∈ kb_TB := kb_m2 (List.mem_of_getElem? (i := 165) (by decide +kernel)) (by decide +kernel)
theorem ws_X3_has : Cond.selects RX3 yX3_has yX3_has ∈ kb_TB := kb_m0 (List.mem_of_getElem? (i := 22) (by decide +kernel)) (by decide +kernel)
theorem wd_X3_link : Cond.code yX3_link cX3_link 2 (some .int) ∈ kb_TB := kb_m2 (List.mem_of_getElem? (i := 205) (by decide +kernel)) (by decide +kernel)
theorem wd_X3_count : Cond.code yX3_count cX3_count 2 (some .int) ∈ kb_TB := kb_m2 (List.mem_of_getElem? (i := 209) (by decide +kernel)) (by decide +kernel)
theorem wd_X3_place : Cond.code yX3_place cX3_place 2 (some .int) ∈ kb_TB := kb_m2 (List.mem_of_getElem? (i := 231) (by decide +kernel)) (by decide +kernel)
theorem wd_X3_takes : Cond.code yX3_takes cX3_takes 2 (some .long) ∈ kb_TB := kb_m3 (List.mem_of_getElem? (i := 21) (by decide +kernel)) (by decide +kernel)
theorem wd_X6_cable : Cond.code yX6_cable cX6_cable 3 (some .int) ∈ kb_TB := kb_m2 (List.mem_of_getElem? (i := 136) (by decide +kernel)) (by decide +kernel)
theorem wd_X6_isBehind : Cond.code yX6_isBehind cX6_isBehind 1 (some .boolean) ∈ kb_TB := kb_m4 (List.mem_of_getElem? (i := 151) (by decide +kernel)) (by decide +kernel)
theorem wf_X6_9 : Cond.fieldLink RX6 9 "KnitBench$Stitch" "TAKES" "[I" ∈ kb_TB := kb_m2 (List.mem_of_getElem? (i := 83) (by decide +kernel)) (by decide +kernel)
theorem wk_X6_13 : Cond.methodLink RX6 13 yX6_cableA ∈ kb_TB := kb_m2 (List.mem_of_getElem? (i := 85) (by decide +kernel)) (by decide +kernel)
theorem wk_X6_17 : Cond.methodLink RX6 17 yX6_cableB ∈ kb_TB := kb_m2 (List.mem_of_getElem? (i := 88) (by decide +kernel)) (by decide +kernel)
theorem wf_X6_20 : Cond.fieldLink RX6 20 "KnitBench$Stitch" "MAKES" "[I" ∈ kb_TB := kb_m2 (List.mem_of_getElem? (i := 226) (by decide +kernel)) (by decide +kernel)
theorem wd_X6_nameOf : Cond.code yX6_nameOf cX6_nameOf 1 (some (.object "java/lang/String")) ∈ kb_TB := kb_m4 (List.mem_of_getElem? (i := 154) (by decide +kernel)) (by decide +kernel)
theorem wd_X7_init : Cond.code yX7_init cX7_init 1 none ∈ kb_TB := kb_m1 (List.mem_of_getElem? (i := 61) (by decide +kernel)) (by decide +kernel)
theorem wf_X7_9 : Cond.fieldLink RX7 9 "KnitBench$Tape" "bytes" "[I" ∈ kb_TB := kb_m1 (List.mem_of_getElem? (i := 63) (by decide +kernel)) (by decide +kernel)
theorem wd_X7_length : Cond.code yX7_length cX7_length 1 (some .int) ∈ kb_TB := kb_m1 (List.mem_of_getElem? (i := 219) (by decide +kernel)) (by decide +kernel)
theorem wf_X7_13 : Cond.fieldLink RX7 13 "KnitBench$Tape" "length" "I" ∈ kb_TB := kb_m1 (List.mem_of_getElem? (i := 64) (by decide +kernel)) (by decide +kernel)
theorem wd_X7_hasRoomFor : Cond.code yX7_hasRoomFor cX7_hasRoomFor 2 (some .boolean) ∈ kb_TB := kb_m3 (List.mem_of_getElem? (i := 151) (by decide +kernel)) (by decide +kernel)
theorem wd_X7_add : Cond.code yX7_add cX7_add 5 none ∈ kb_TB := kb_m3 (List.mem_of_getElem? (i := 171) (by decide +kernel)) (by decide +kernel)
theorem wd_X7_clear : Cond.code yX7_clear cX7_clear 1 none ∈ kb_TB := kb_m3 (List.mem_of_getElem? (i := 45) (by decide +kernel)) (by decide +kernel)
theorem wd_X7_byteAt : Cond.code yX7_byteAt cX7_byteAt 2 (some .int) ∈ kb_TB := kb_m1 (List.mem_of_getElem? (i := 235) (by decide +kernel)) (by decide +kernel)
end
section
theorem dX0_init_0 : decode cX0_init 0 = .ok (.aload_n 0, 1) := by decide +kernel
theorem dX0_init_1 : decode cX0_init 1 = .ok (.invokespecial 3, 3) := by decide +kernel
theorem dX0_init_4 : decode cX0_init 4 = .ok (.aload_n 0, 1) := by decide +kernel
theorem dX0_init_5 : decode cX0_init 5 = .ok (.bipush 32, 2) := by decide +kernel
theorem dX0_init_7 : decode cX0_init 7 = .ok (.newarray .int, 2) := by decide +kernel
theorem dX0_init_9 : decode cX0_init 9 = .ok (.putfield 9, 3) := by decide +kernel
theorem dX0_init_12 : decode cX0_init 12 = .ok (.aload_n 0, 1) := by decide +kernel
theorem dX0_init_13 : decode cX0_init 13 = .ok (.bipush 32, 2) := by decide +kernel
theorem dX0_init_15 : decode cX0_init 15 = .ok (.newarray .int, 2) := by decide +kernel
theorem dX0_init_17 : decode cX0_init 17 = .ok (.putfield 13, 3) := by decide +kernel
theorem dX0_init_20 : decode cX0_init 20 = .ok (.aload_n 0, 1) := by decide +kernel
theorem dX0_init_21 : decode cX0_init 21 = .ok (.sipush 1200, 3) := by decide +kernel
theorem dX0_init_24 : decode cX0_init 24 = .ok (.newarray .int, 2) := by decide +kernel
theorem dX0_init_26 : decode cX0_init 26 = .ok (.putfield 16, 3) := by decide +kernel
theorem dX0_init_29 : decode cX0_init 29 = .ok (.aload_n 0, 1) := by decide +kernel
theorem dX0_init_30 : decode cX0_init 30 = .ok (.sipush 600, 3) := by decide +kernel
theorem dX0_init_33 : decode cX0_init 33 = .ok (.newarray .int, 2) := by decide +kernel
theorem dX0_init_35 : decode cX0_init 35 = .ok (.putfield 19, 3) := by decide +kernel
theorem dX0_init_38 : decode cX0_init 38 = .ok (.aload_n 0, 1) := by decide +kernel
theorem dX0_init_39 : decode cX0_init 39 = .ok (.sipush 600, 3) := by decide +kernel
theorem dX0_init_42 : decode cX0_init 42 = .ok (.newarray .int, 2) := by decide +kernel
theorem dX0_init_44 : decode cX0_init 44 = .ok (.putfield 22, 3) := by decide +kernel
theorem dX0_init_47 : decode cX0_init 47 = .ok (.return_, 1) := by decide +kernel
theorem dX0_castOn_0 : decode cX0_castOn 0 = .ok (.aload_n 0, 1) := by decide +kernel
theorem dX0_castOn_1 : decode cX0_castOn 1 = .ok (.iload_n 2, 1) := by decide +kernel
theorem dX0_castOn_2 : decode cX0_castOn 2 = .ok (.putfield 25, 3) := by decide +kernel
theorem dX0_castOn_5 : decode cX0_castOn 5 = .ok (.aload_n 0, 1) := by decide +kernel
theorem dX0_castOn_6 : decode cX0_castOn 6 = .ok (.iconst 0, 1) := by decide +kernel
theorem dX0_castOn_7 : decode cX0_castOn 7 = .ok (.putfield 29, 3) := by decide +kernel
theorem dX0_castOn_10 : decode cX0_castOn 10 = .ok (.aload_n 0, 1) := by decide +kernel
theorem dX0_castOn_11 : decode cX0_castOn 11 = .ok (.getfield 9, 3) := by decide +kernel
theorem dX0_castOn_14 : decode cX0_castOn 14 = .ok (.iconst 0, 1) := by decide +kernel
theorem dX0_castOn_15 : decode cX0_castOn 15 = .ok (.iconst 0, 1) := by decide +kernel
theorem dX0_castOn_16 : decode cX0_castOn 16 = .ok (.iastore, 1) := by decide +kernel
theorem dX0_castOn_17 : decode cX0_castOn 17 = .ok (.aload_n 0, 1) := by decide +kernel
theorem dX0_castOn_18 : decode cX0_castOn 18 = .ok (.getfield 13, 3) := by decide +kernel
theorem dX0_castOn_21 : decode cX0_castOn 21 = .ok (.iconst 0, 1) := by decide +kernel
theorem dX0_castOn_22 : decode cX0_castOn 22 = .ok (.iconst 0, 1) := by decide +kernel
theorem dX0_castOn_23 : decode cX0_castOn 23 = .ok (.iastore, 1) := by decide +kernel
theorem dX0_castOn_24 : decode cX0_castOn 24 = .ok (.aload_n 0, 1) := by decide +kernel
theorem dX0_castOn_25 : decode cX0_castOn 25 = .ok (.getfield 13, 3) := by decide +kernel
theorem dX0_castOn_28 : decode cX0_castOn 28 = .ok (.iconst 1, 1) := by decide +kernel
theorem dX0_castOn_29 : decode cX0_castOn 29 = .ok (.iconst 0, 1) := by decide +kernel
theorem dX0_castOn_30 : decode cX0_castOn 30 = .ok (.iastore, 1) := by decide +kernel
theorem dX0_castOn_31 : decode cX0_castOn 31 = .ok (.aload_n 0, 1) := by decide +kernel
theorem dX0_castOn_32 : decode cX0_castOn 32 = .ok (.iconst 0, 1) := by decide +kernel
theorem dX0_castOn_33 : decode cX0_castOn 33 = .ok (.putfield 33, 3) := by decide +kernel
theorem dX0_castOn_36 : decode cX0_castOn 36 = .ok (.iconst 0, 1) := by decide +kernel
theorem dX0_castOn_37 : decode cX0_castOn 37 = .ok (.istore_n 3, 1) := by decide +kernel
theorem dX0_castOn_38 : decode cX0_castOn 38 = .ok (.iload_n 3, 1) := by decide +kernel
theorem dX0_castOn_39 : decode cX0_castOn 39 = .ok (.iload_n 1, 1) := by decide +kernel
theorem dX0_castOn_40 : decode cX0_castOn 40 = .ok (.if_icmp .ge 15, 3) := by decide +kernel
theorem dX0_castOn_43 : decode cX0_castOn 43 = .ok (.aload_n 0, 1) := by decide +kernel
theorem dX0_castOn_44 : decode cX0_castOn 44 = .ok (.iconst 0, 1) := by decide +kernel
theorem dX0_castOn_45 : decode cX0_castOn 45 = .ok (.iconst 0, 1) := by decide +kernel
theorem dX0_castOn_46 : decode cX0_castOn 46 = .ok (.invokevirtual 36, 3) := by decide +kernel
theorem dX0_castOn_49 : decode cX0_castOn 49 = .ok (.iinc 3 1, 3) := by decide +kernel
theorem dX0_castOn_52 : decode cX0_castOn 52 = .ok (.goto (-14), 3) := by decide +kernel
theorem dX0_castOn_55 : decode cX0_castOn 55 = .ok (.aload_n 0, 1) := by decide +kernel
theorem dX0_castOn_56 : decode cX0_castOn 56 = .ok (.getfield 9, 3) := by decide +kernel
theorem dX0_castOn_59 : decode cX0_castOn 59 = .ok (.iconst 1, 1) := by decide +kernel
theorem dX0_castOn_60 : decode cX0_castOn 60 = .ok (.aload_n 0, 1) := by decide +kernel
theorem dX0_castOn_61 : decode cX0_castOn 61 = .ok (.getfield 33, 3) := by decide +kernel
theorem dX0_castOn_64 : decode cX0_castOn 64 = .ok (.iastore, 1) := by decide +kernel
theorem dX0_castOn_65 : decode cX0_castOn 65 = .ok (.aload_n 0, 1) := by decide +kernel
theorem dX0_castOn_66 : decode cX0_castOn 66 = .ok (.invokevirtual 40, 3) := by decide +kernel
theorem dX0_castOn_69 : decode cX0_castOn 69 = .ok (.return_, 1) := by decide +kernel
theorem dX0_rowCount_0 : decode cX0_rowCount 0 = .ok (.aload_n 0, 1) := by decide +kernel
theorem dX0_rowCount_1 : decode cX0_rowCount 1 = .ok (.getfield 29, 3) := by decide +kernel
theorem dX0_rowCount_4 : decode cX0_rowCount 4 = .ok (.ireturn, 1) := by decide +kernel
theorem dX0_takeBack_0 : decode cX0_takeBack 0 = .ok (.aload_n 0, 1) := by decide +kernel
theorem dX0_takeBack_1 : decode cX0_takeBack 1 = .ok (.aload_n 0, 1) := by decide +kernel
theorem dX0_takeBack_2 : decode cX0_takeBack 2 = .ok (.getfield 29, 3) := by decide +kernel
theorem dX0_takeBack_5 : decode cX0_takeBack 5 = .ok (.iload_n 1, 1) := by decide +kernel
theorem dX0_takeBack_6 : decode cX0_takeBack 6 = .ok (.isub, 1) := by decide +kernel
theorem dX0_takeBack_7 : decode cX0_takeBack 7 = .ok (.iconst 0, 1) := by decide +kernel
theorem dX0_takeBack_8 : decode cX0_takeBack 8 = .ok (.invokestatic 43, 3) := by decide +kernel
theorem dX0_takeBack_11 : decode cX0_takeBack 11 = .ok (.putfield 29, 3) := by decide +kernel
theorem dX0_takeBack_14 : decode cX0_takeBack 14 = .ok (.aload_n 0, 1) := by decide +kernel
theorem dX0_takeBack_15 : decode cX0_takeBack 15 = .ok (.invokevirtual 40, 3) := by decide +kernel
theorem dX0_takeBack_18 : decode cX0_takeBack 18 = .ok (.return_, 1) := by decide +kernel
theorem dX0_fillNeedle_0 : decode cX0_fillNeedle 0 = .ok (.aload_n 0, 1) := by decide +kernel
theorem dX0_fillNeedle_1 : decode cX0_fillNeedle 1 = .ok (.getfield 9, 3) := by decide +kernel
theorem dX0_fillNeedle_4 : decode cX0_fillNeedle 4 = .ok (.aload_n 0, 1) := by decide +kernel
theorem dX0_fillNeedle_5 : decode cX0_fillNeedle 5 = .ok (.getfield 29, 3) := by decide +kernel
theorem dX0_fillNeedle_8 : decode cX0_fillNeedle 8 = .ok (.iaload, 1) := by decide +kernel
theorem dX0_fillNeedle_9 : decode cX0_fillNeedle 9 = .ok (.istore_n 1, 1) := by decide +kernel
theorem dX0_fillNeedle_10 : decode cX0_fillNeedle 10 = .ok (.aload_n 0, 1) := by decide +kernel
theorem dX0_fillNeedle_11 : decode cX0_fillNeedle 11 = .ok (.getfield 9, 3) := by decide +kernel
theorem dX0_fillNeedle_14 : decode cX0_fillNeedle 14 = .ok (.aload_n 0, 1) := by decide +kernel
theorem dX0_fillNeedle_15 : decode cX0_fillNeedle 15 = .ok (.getfield 29, 3) := by decide +kernel
theorem dX0_fillNeedle_18 : decode cX0_fillNeedle 18 = .ok (.iconst 1, 1) := by decide +kernel
theorem dX0_fillNeedle_19 : decode cX0_fillNeedle 19 = .ok (.iadd, 1) := by decide +kernel
theorem dX0_fillNeedle_20 : decode cX0_fillNeedle 20 = .ok (.iaload, 1) := by decide +kernel
theorem dX0_fillNeedle_21 : decode cX0_fillNeedle 21 = .ok (.istore_n 2, 1) := by decide +kernel
theorem dX0_fillNeedle_22 : decode cX0_fillNeedle 22 = .ok (.aload_n 0, 1) := by decide +kernel
theorem dX0_fillNeedle_23 : decode cX0_fillNeedle 23 = .ok (.iload_n 2, 1) := by decide +kernel
theorem dX0_fillNeedle_24 : decode cX0_fillNeedle 24 = .ok (.iload_n 1, 1) := by decide +kernel
theorem dX0_fillNeedle_25 : decode cX0_fillNeedle 25 = .ok (.isub, 1) := by decide +kernel
theorem dX0_fillNeedle_26 : decode cX0_fillNeedle 26 = .ok (.putfield 49, 3) := by decide +kernel
theorem dX0_fillNeedle_29 : decode cX0_fillNeedle 29 = .ok (.aload_n 0, 1) := by decide +kernel
theorem dX0_fillNeedle_30 : decode cX0_fillNeedle 30 = .ok (.aload_n 0, 1) := by decide +kernel
theorem dX0_fillNeedle_31 : decode cX0_fillNeedle 31 = .ok (.getfield 25, 3) := by decide +kernel
theorem dX0_fillNeedle_34 : decode cX0_fillNeedle 34 = .ok (.ifCond .eq 7, 3) := by decide +kernel
theorem dX0_fillNeedle_37 : decode cX0_fillNeedle 37 = .ok (.iload_n 1, 1) := by decide +kernel
theorem dX0_fillNeedle_38 : decode cX0_fillNeedle 38 = .ok (.goto 6, 3) := by decide +kernel
theorem dX0_fillNeedle_41 : decode cX0_fillNeedle 41 = .ok (.iload_n 2, 1) := by decide +kernel
theorem dX0_fillNeedle_42 : decode cX0_fillNeedle 42 = .ok (.iconst 1, 1) := by decide +kernel
theorem dX0_fillNeedle_43 : decode cX0_fillNeedle 43 = .ok (.isub, 1) := by decide +kernel
theorem dX0_fillNeedle_44 : decode cX0_fillNeedle 44 = .ok (.putfield 52, 3) := by decide +kernel
theorem dX0_fillNeedle_47 : decode cX0_fillNeedle 47 = .ok (.aload_n 0, 1) := by decide +kernel
theorem dX0_fillNeedle_48 : decode cX0_fillNeedle 48 = .ok (.aload_n 0, 1) := by decide +kernel
theorem dX0_fillNeedle_49 : decode cX0_fillNeedle 49 = .ok (.getfield 25, 3) := by decide +kernel
theorem dX0_fillNeedle_52 : decode cX0_fillNeedle 52 = .ok (.ifCond .eq 7, 3) := by decide +kernel
theorem dX0_fillNeedle_55 : decode cX0_fillNeedle 55 = .ok (.iconst 1, 1) := by decide +kernel
theorem dX0_fillNeedle_56 : decode cX0_fillNeedle 56 = .ok (.goto 4, 3) := by decide +kernel
theorem dX0_fillNeedle_59 : decode cX0_fillNeedle 59 = .ok (.iconst (-1), 1) := by decide +kernel
theorem dX0_fillNeedle_60 : decode cX0_fillNeedle 60 = .ok (.putfield 55, 3) := by decide +kernel
theorem dX0_fillNeedle_63 : decode cX0_fillNeedle 63 = .ok (.return_, 1) := by decide +kernel
theorem dX0_startRow_0 : decode cX0_startRow 0 = .ok (.aload_n 0, 1) := by decide +kernel
theorem dX0_startRow_1 : decode cX0_startRow 1 = .ok (.iconst 0, 1) := by decide +kernel
theorem dX0_startRow_2 : decode cX0_startRow 2 = .ok (.putfield 58, 3) := by decide +kernel
theorem dX0_startRow_5 : decode cX0_startRow 5 = .ok (.aload_n 0, 1) := by decide +kernel
theorem dX0_startRow_6 : decode cX0_startRow 6 = .ok (.aload_n 0, 1) := by decide +kernel
theorem dX0_startRow_7 : decode cX0_startRow 7 = .ok (.invokevirtual 61, 3) := by decide +kernel
theorem dX0_startRow_10 : decode cX0_startRow 10 = .ok (.putfield 33, 3) := by decide +kernel
theorem dX0_startRow_13 : decode cX0_startRow 13 = .ok (.aload_n 0, 1) := by decide +kernel
theorem dX0_startRow_14 : decode cX0_startRow 14 = .ok (.aload_n 0, 1) := by decide +kernel
theorem dX0_startRow_15 : decode cX0_startRow 15 = .ok (.getfield 13, 3) := by decide +kernel
theorem dX0_startRow_18 : decode cX0_startRow 18 = .ok (.aload_n 0, 1) := by decide +kernel
theorem dX0_startRow_19 : decode cX0_startRow 19 = .ok (.getfield 29, 3) := by decide +kernel
theorem dX0_startRow_22 : decode cX0_startRow 22 = .ok (.iconst 1, 1) := by decide +kernel
theorem dX0_startRow_23 : decode cX0_startRow 23 = .ok (.iadd, 1) := by decide +kernel
theorem dX0_startRow_24 : decode cX0_startRow 24 = .ok (.iaload, 1) := by decide +kernel
theorem dX0_startRow_25 : decode cX0_startRow 25 = .ok (.putfield 65, 3) := by decide +kernel
theorem dX0_startRow_28 : decode cX0_startRow 28 = .ok (.return_, 1) := by decide +kernel
theorem dX0_leftCount_0 : decode cX0_leftCount 0 = .ok (.aload_n 0, 1) := by decide +kernel
theorem dX0_leftCount_1 : decode cX0_leftCount 1 = .ok (.getfield 49, 3) := by decide +kernel
theorem dX0_leftCount_4 : decode cX0_leftCount 4 = .ok (.aload_n 0, 1) := by decide +kernel
theorem dX0_leftCount_5 : decode cX0_leftCount 5 = .ok (.getfield 58, 3) := by decide +kernel
theorem dX0_leftCount_8 : decode cX0_leftCount 8 = .ok (.isub, 1) := by decide +kernel
theorem dX0_leftCount_9 : decode cX0_leftCount 9 = .ok (.ireturn, 1) := by decide +kernel
theorem dX0_madeSoFar_0 : decode cX0_madeSoFar 0 = .ok (.aload_n 0, 1) := by decide +kernel
theorem dX0_madeSoFar_1 : decode cX0_madeSoFar 1 = .ok (.getfield 33, 3) := by decide +kernel
theorem dX0_madeSoFar_4 : decode cX0_madeSoFar 4 = .ok (.aload_n 0, 1) := by decide +kernel
theorem dX0_madeSoFar_5 : decode cX0_madeSoFar 5 = .ok (.invokevirtual 61, 3) := by decide +kernel
theorem dX0_madeSoFar_8 : decode cX0_madeSoFar 8 = .ok (.isub, 1) := by decide +kernel
theorem dX0_madeSoFar_9 : decode cX0_madeSoFar 9 = .ok (.ireturn, 1) := by decide +kernel
theorem dX0_faultOfStitch_0 : decode cX0_faultOfStitch 0 = .ok (.iload_n 1, 1) := by decide +kernel
theorem dX0_faultOfStitch_1 : decode cX0_faultOfStitch 1 = .ok (.invokestatic 68, 3) := by decide +kernel
theorem dX0_faultOfStitch_4 : decode cX0_faultOfStitch 4 = .ok (.aload_n 0, 1) := by decide +kernel
theorem dX0_faultOfStitch_5 : decode cX0_faultOfStitch 5 = .ok (.invokevirtual 74, 3) := by decide +kernel
theorem dX0_faultOfStitch_8 : decode cX0_faultOfStitch 8 = .ok (.if_icmp .le 5, 3) := by decide +kernel
theorem dX0_faultOfStitch_11 : decode cX0_faultOfStitch 11 = .ok (.iconst 4, 1) := by decide +kernel
theorem dX0_faultOfStitch_12 : decode cX0_faultOfStitch 12 = .ok (.ireturn, 1) := by decide +kernel
theorem dX0_faultOfStitch_13 : decode cX0_faultOfStitch 13 = .ok (.iload_n 1, 1) := by decide +kernel
theorem dX0_faultOfStitch_14 : decode cX0_faultOfStitch 14 = .ok (.bipush 8, 2) := by decide +kernel
theorem dX0_faultOfStitch_16 : decode cX0_faultOfStitch 16 = .ok (.if_icmp .ne 18, 3) := by decide +kernel
theorem dX0_faultOfStitch_19 : decode cX0_faultOfStitch 19 = .ok (.aload_n 0, 1) := by decide +kernel
theorem dX0_faultOfStitch_20 : decode cX0_faultOfStitch 20 = .ok (.invokevirtual 74, 3) := by decide +kernel
theorem dX0_faultOfStitch_23 : decode cX0_faultOfStitch 23 = .ok (.aload_n 0, 1) := by decide +kernel
theorem dX0_faultOfStitch_24 : decode cX0_faultOfStitch 24 = .ok (.invokevirtual 79, 3) := by decide +kernel
theorem dX0_faultOfStitch_27 : decode cX0_faultOfStitch 27 = .ok (.iadd, 1) := by decide +kernel
theorem dX0_faultOfStitch_28 : decode cX0_faultOfStitch 28 = .ok (.iconst 1, 1) := by decide +kernel
theorem dX0_faultOfStitch_29 : decode cX0_faultOfStitch 29 = .ok (.if_icmp .ne 5, 3) := by decide +kernel
theorem dX0_faultOfStitch_32 : decode cX0_faultOfStitch 32 = .ok (.iconst 5, 1) := by decide +kernel
theorem dX0_faultOfStitch_33 : decode cX0_faultOfStitch 33 = .ok (.ireturn, 1) := by decide +kernel
theorem dX0_faultOfStitch_34 : decode cX0_faultOfStitch 34 = .ok (.aload_n 0, 1) := by decide +kernel
theorem dX0_faultOfStitch_35 : decode cX0_faultOfStitch 35 = .ok (.getfield 33, 3) := by decide +kernel
theorem dX0_faultOfStitch_38 : decode cX0_faultOfStitch 38 = .ok (.iload_n 1, 1) := by decide +kernel
theorem dX0_faultOfStitch_39 : decode cX0_faultOfStitch 39 = .ok (.invokestatic 82, 3) := by decide +kernel
theorem dX0_faultOfStitch_42 : decode cX0_faultOfStitch 42 = .ok (.iadd, 1) := by decide +kernel
theorem dX0_faultOfStitch_43 : decode cX0_faultOfStitch 43 = .ok (.sipush 600, 3) := by decide +kernel
theorem dX0_faultOfStitch_46 : decode cX0_faultOfStitch 46 = .ok (.if_icmp .le 6, 3) := by decide +kernel
theorem dX0_faultOfStitch_49 : decode cX0_faultOfStitch 49 = .ok (.bipush 6, 2) := by decide +kernel
theorem dX0_faultOfStitch_51 : decode cX0_faultOfStitch 51 = .ok (.ireturn, 1) := by decide +kernel
theorem dX0_faultOfStitch_52 : decode cX0_faultOfStitch 52 = .ok (.iconst 0, 1) := by decide +kernel
theorem dX0_faultOfStitch_53 : decode cX0_faultOfStitch 53 = .ok (.ireturn, 1) := by decide +kernel
theorem dX0_addStitch_0 : decode cX0_addStitch 0 = .ok (.iload_n 1, 1) := by decide +kernel
theorem dX0_addStitch_1 : decode cX0_addStitch 1 = .ok (.invokestatic 85, 3) := by decide +kernel
theorem dX0_addStitch_4 : decode cX0_addStitch 4 = .ok (.ifCond .eq 18, 3) := by decide +kernel
theorem dX0_addStitch_7 : decode cX0_addStitch 7 = .ok (.aload_n 0, 1) := by decide +kernel
theorem dX0_addStitch_8 : decode cX0_addStitch 8 = .ok (.iload_n 1, 1) := by decide +kernel
theorem dX0_addStitch_9 : decode cX0_addStitch 9 = .ok (.invokestatic 89, 3) := by decide +kernel
theorem dX0_addStitch_12 : decode cX0_addStitch 12 = .ok (.iload_n 1, 1) := by decide +kernel
theorem dX0_addStitch_13 : decode cX0_addStitch 13 = .ok (.invokestatic 92, 3) := by decide +kernel
theorem dX0_addStitch_16 : decode cX0_addStitch 16 = .ok (.invokevirtual 95, 3) := by decide +kernel
theorem dX0_addStitch_19 : decode cX0_addStitch 19 = .ok (.goto 33, 3) := by decide +kernel
theorem dX0_addStitch_22 : decode cX0_addStitch 22 = .ok (.iload_n 1, 1) := by decide +kernel
theorem dX0_addStitch_23 : decode cX0_addStitch 23 = .ok (.invokestatic 82, 3) := by decide +kernel
theorem dX0_addStitch_26 : decode cX0_addStitch 26 = .ok (.istore_n 2, 1) := by decide +kernel
theorem dX0_addStitch_27 : decode cX0_addStitch 27 = .ok (.iconst 0, 1) := by decide +kernel
theorem dX0_addStitch_28 : decode cX0_addStitch 28 = .ok (.istore_n 3, 1) := by decide +kernel
theorem dX0_addStitch_29 : decode cX0_addStitch 29 = .ok (.iload_n 3, 1) := by decide +kernel
theorem dX0_addStitch_30 : decode cX0_addStitch 30 = .ok (.iload_n 2, 1) := by decide +kernel
theorem dX0_addStitch_31 : decode cX0_addStitch 31 = .ok (.if_icmp .ge 21, 3) := by decide +kernel
theorem dX0_addStitch_34 : decode cX0_addStitch 34 = .ok (.aload_n 0, 1) := by decide +kernel
theorem dX0_addStitch_35 : decode cX0_addStitch 35 = .ok (.aload_n 0, 1) := by decide +kernel
theorem dX0_addStitch_36 : decode cX0_addStitch 36 = .ok (.getfield 58, 3) := by decide +kernel
theorem dX0_addStitch_39 : decode cX0_addStitch 39 = .ok (.iload_n 1, 1) := by decide +kernel
theorem dX0_addStitch_40 : decode cX0_addStitch 40 = .ok (.invokestatic 68, 3) := by decide +kernel
theorem dX0_addStitch_43 : decode cX0_addStitch 43 = .ok (.invokevirtual 36, 3) := by decide +kernel
theorem dX0_addStitch_46 : decode cX0_addStitch 46 = .ok (.iinc 3 1, 3) := by decide +kernel
theorem dX0_addStitch_49 : decode cX0_addStitch 49 = .ok (.goto (-20), 3) := by decide +kernel
theorem dX0_addStitch_52 : decode cX0_addStitch 52 = .ok (.aload_n 0, 1) := by decide +kernel
theorem dX0_addStitch_53 : decode cX0_addStitch 53 = .ok (.dup, 1) := by decide +kernel
theorem dX0_addStitch_54 : decode cX0_addStitch 54 = .ok (.getfield 58, 3) := by decide +kernel
theorem dX0_addStitch_57 : decode cX0_addStitch 57 = .ok (.iload_n 1, 1) := by decide +kernel
theorem dX0_addStitch_58 : decode cX0_addStitch 58 = .ok (.invokestatic 68, 3) := by decide +kernel
theorem dX0_addStitch_61 : decode cX0_addStitch 61 = .ok (.iadd, 1) := by decide +kernel
theorem dX0_addStitch_62 : decode cX0_addStitch 62 = .ok (.putfield 58, 3) := by decide +kernel
theorem dX0_addStitch_65 : decode cX0_addStitch 65 = .ok (.aload_n 0, 1) := by decide +kernel
theorem dX0_addStitch_66 : decode cX0_addStitch 66 = .ok (.getfield 65, 3) := by decide +kernel
theorem dX0_addStitch_69 : decode cX0_addStitch 69 = .ok (.sipush 1200, 3) := by decide +kernel
theorem dX0_addStitch_72 : decode cX0_addStitch 72 = .ok (.if_icmp .ge 23, 3) := by decide +kernel
theorem dX0_addStitch_75 : decode cX0_addStitch 75 = .ok (.aload_n 0, 1) := by decide +kernel
theorem dX0_addStitch_76 : decode cX0_addStitch 76 = .ok (.getfield 16, 3) := by decide +kernel
theorem dX0_addStitch_79 : decode cX0_addStitch 79 = .ok (.aload_n 0, 1) := by decide +kernel
theorem dX0_addStitch_80 : decode cX0_addStitch 80 = .ok (.getfield 65, 3) := by decide +kernel
theorem dX0_addStitch_83 : decode cX0_addStitch 83 = .ok (.iload_n 1, 1) := by decide +kernel
theorem dX0_addStitch_84 : decode cX0_addStitch 84 = .ok (.iastore, 1) := by decide +kernel
theorem dX0_addStitch_85 : decode cX0_addStitch 85 = .ok (.aload_n 0, 1) := by decide +kernel
theorem dX0_addStitch_86 : decode cX0_addStitch 86 = .ok (.dup, 1) := by decide +kernel
theorem dX0_addStitch_87 : decode cX0_addStitch 87 = .ok (.getfield 65, 3) := by decide +kernel
theorem dX0_addStitch_90 : decode cX0_addStitch 90 = .ok (.iconst 1, 1) := by decide +kernel
theorem dX0_addStitch_91 : decode cX0_addStitch 91 = .ok (.iadd, 1) := by decide +kernel
theorem dX0_addStitch_92 : decode cX0_addStitch 92 = .ok (.putfield 65, 3) := by decide +kernel
theorem dX0_addStitch_95 : decode cX0_addStitch 95 = .ok (.return_, 1) := by decide +kernel
theorem dX0_makeCableLoops_0 : decode cX0_makeCableLoops 0 = .ok (.iconst 0, 1) := by decide +kernel
theorem dX0_makeCableLoops_1 : decode cX0_makeCableLoops 1 = .ok (.istore_n 3, 1) := by decide +kernel
theorem dX0_makeCableLoops_2 : decode cX0_makeCableLoops 2 = .ok (.iload_n 3, 1) := by decide +kernel
theorem dX0_makeCableLoops_3 : decode cX0_makeCableLoops 3 = .ok (.iload_n 2, 1) := by decide +kernel
theorem dX0_makeCableLoops_4 : decode cX0_makeCableLoops 4 = .ok (.if_icmp .ge 22, 3) := by decide +kernel
theorem dX0_makeCableLoops_7 : decode cX0_makeCableLoops 7 = .ok (.aload_n 0, 1) := by decide +kernel
theorem dX0_makeCableLoops_8 : decode cX0_makeCableLoops 8 = .ok (.aload_n 0, 1) := by decide +kernel
theorem dX0_makeCableLoops_9 : decode cX0_makeCableLoops 9 = .ok (.getfield 58, 3) := by decide +kernel
theorem dX0_makeCableLoops_12 : decode cX0_makeCableLoops 12 = .ok (.iload_n 1, 1) := by decide +kernel
theorem dX0_makeCableLoops_13 : decode cX0_makeCableLoops 13 = .ok (.iadd, 1) := by decide +kernel
theorem dX0_makeCableLoops_14 : decode cX0_makeCableLoops 14 = .ok (.iload_n 3, 1) := by decide +kernel
theorem dX0_makeCableLoops_15 : decode cX0_makeCableLoops 15 = .ok (.iadd, 1) := by decide +kernel
theorem dX0_makeCableLoops_16 : decode cX0_makeCableLoops 16 = .ok (.iconst 1, 1) := by decide +kernel
theorem dX0_makeCableLoops_17 : decode cX0_makeCableLoops 17 = .ok (.invokevirtual 36, 3) := by decide +kernel
theorem dX0_makeCableLoops_20 : decode cX0_makeCableLoops 20 = .ok (.iinc 3 1, 3) := by decide +kernel
theorem dX0_makeCableLoops_23 : decode cX0_makeCableLoops 23 = .ok (.goto (-21), 3) := by decide +kernel
theorem dX0_makeCableLoops_26 : decode cX0_makeCableLoops 26 = .ok (.iconst 0, 1) := by decide +kernel
theorem dX0_makeCableLoops_27 : decode cX0_makeCableLoops 27 = .ok (.istore_n 3, 1) := by decide +kernel
theorem dX0_makeCableLoops_28 : decode cX0_makeCableLoops 28 = .ok (.iload_n 3, 1) := by decide +kernel
theorem dX0_makeCableLoops_29 : decode cX0_makeCableLoops 29 = .ok (.iload_n 1, 1) := by decide +kernel
theorem dX0_makeCableLoops_30 : decode cX0_makeCableLoops 30 = .ok (.if_icmp .ge 20, 3) := by decide +kernel
theorem dX0_makeCableLoops_33 : decode cX0_makeCableLoops 33 = .ok (.aload_n 0, 1) := by decide +kernel
theorem dX0_makeCableLoops_34 : decode cX0_makeCableLoops 34 = .ok (.aload_n 0, 1) := by decide +kernel
theorem dX0_makeCableLoops_35 : decode cX0_makeCableLoops 35 = .ok (.getfield 58, 3) := by decide +kernel
theorem dX0_makeCableLoops_38 : decode cX0_makeCableLoops 38 = .ok (.iload_n 3, 1) := by decide +kernel
theorem dX0_makeCableLoops_39 : decode cX0_makeCableLoops 39 = .ok (.iadd, 1) := by decide +kernel
theorem dX0_makeCableLoops_40 : decode cX0_makeCableLoops 40 = .ok (.iconst 1, 1) := by decide +kernel
theorem dX0_makeCableLoops_41 : decode cX0_makeCableLoops 41 = .ok (.invokevirtual 36, 3) := by decide +kernel
theorem dX0_makeCableLoops_44 : decode cX0_makeCableLoops 44 = .ok (.iinc 3 1, 3) := by decide +kernel
theorem dX0_makeCableLoops_47 : decode cX0_makeCableLoops 47 = .ok (.goto (-19), 3) := by decide +kernel
theorem dX0_makeCableLoops_50 : decode cX0_makeCableLoops 50 = .ok (.return_, 1) := by decide +kernel
theorem dX0_makeLoop_0 : decode cX0_makeLoop 0 = .ok (.aload_n 0, 1) := by decide +kernel
theorem dX0_makeLoop_1 : decode cX0_makeLoop 1 = .ok (.getfield 33, 3) := by decide +kernel
theorem dX0_makeLoop_4 : decode cX0_makeLoop 4 = .ok (.sipush 600, 3) := by decide +kernel
theorem dX0_makeLoop_7 : decode cX0_makeLoop 7 = .ok (.if_icmp .ge 45, 3) := by decide +kernel
theorem dX0_makeLoop_10 : decode cX0_makeLoop 10 = .ok (.aload_n 0, 1) := by decide +kernel
theorem dX0_makeLoop_11 : decode cX0_makeLoop 11 = .ok (.getfield 22, 3) := by decide +kernel
theorem dX0_makeLoop_14 : decode cX0_makeLoop 14 = .ok (.aload_n 0, 1) := by decide +kernel
theorem dX0_makeLoop_15 : decode cX0_makeLoop 15 = .ok (.getfield 33, 3) := by decide +kernel
theorem dX0_makeLoop_18 : decode cX0_makeLoop 18 = .ok (.iload_n 2, 1) := by decide +kernel
theorem dX0_makeLoop_19 : decode cX0_makeLoop 19 = .ok (.ifCond .le 11, 3) := by decide +kernel
theorem dX0_makeLoop_22 : decode cX0_makeLoop 22 = .ok (.aload_n 0, 1) := by decide +kernel
theorem dX0_makeLoop_23 : decode cX0_makeLoop 23 = .ok (.iload_n 1, 1) := by decide +kernel
theorem dX0_makeLoop_24 : decode cX0_makeLoop 24 = .ok (.invokevirtual 98, 3) := by decide +kernel
theorem dX0_makeLoop_27 : decode cX0_makeLoop 27 = .ok (.goto 4, 3) := by decide +kernel
theorem dX0_makeLoop_30 : decode cX0_makeLoop 30 = .ok (.iconst (-1), 1) := by decide +kernel
theorem dX0_makeLoop_31 : decode cX0_makeLoop 31 = .ok (.iastore, 1) := by decide +kernel
theorem dX0_makeLoop_32 : decode cX0_makeLoop 32 = .ok (.aload_n 0, 1) := by decide +kernel
theorem dX0_makeLoop_33 : decode cX0_makeLoop 33 = .ok (.getfield 19, 3) := by decide +kernel
theorem dX0_makeLoop_36 : decode cX0_makeLoop 36 = .ok (.aload_n 0, 1) := by decide +kernel
theorem dX0_makeLoop_37 : decode cX0_makeLoop 37 = .ok (.getfield 33, 3) := by decide +kernel
theorem dX0_makeLoop_40 : decode cX0_makeLoop 40 = .ok (.iload_n 2, 1) := by decide +kernel
theorem dX0_makeLoop_41 : decode cX0_makeLoop 41 = .ok (.iastore, 1) := by decide +kernel
theorem dX0_makeLoop_42 : decode cX0_makeLoop 42 = .ok (.aload_n 0, 1) := by decide +kernel
theorem dX0_makeLoop_43 : decode cX0_makeLoop 43 = .ok (.dup, 1) := by decide +kernel
theorem dX0_makeLoop_44 : decode cX0_makeLoop 44 = .ok (.getfield 33, 3) := by decide +kernel
theorem dX0_makeLoop_47 : decode cX0_makeLoop 47 = .ok (.iconst 1, 1) := by decide +kernel
theorem dX0_makeLoop_48 : decode cX0_makeLoop 48 = .ok (.iadd, 1) := by decide +kernel
theorem dX0_makeLoop_49 : decode cX0_makeLoop 49 = .ok (.putfield 33, 3) := by decide +kernel
theorem dX0_makeLoop_52 : decode cX0_makeLoop 52 = .ok (.return_, 1) := by decide +kernel
theorem dX0_faultOfRow_0 : decode cX0_faultOfRow 0 = .ok (.aload_n 0, 1) := by decide +kernel
theorem dX0_faultOfRow_1 : decode cX0_faultOfRow 1 = .ok (.invokevirtual 74, 3) := by decide +kernel
theorem dX0_faultOfRow_4 : decode cX0_faultOfRow 4 = .ok (.ifCond .le 6, 3) := by decide +kernel
theorem dX0_faultOfRow_7 : decode cX0_faultOfRow 7 = .ok (.bipush 7, 2) := by decide +kernel
theorem dX0_faultOfRow_9 : decode cX0_faultOfRow 9 = .ok (.ireturn, 1) := by decide +kernel
theorem dX0_faultOfRow_10 : decode cX0_faultOfRow 10 = .ok (.aload_n 0, 1) := by decide +kernel
theorem dX0_faultOfRow_11 : decode cX0_faultOfRow 11 = .ok (.invokevirtual 79, 3) := by decide +kernel
theorem dX0_faultOfRow_14 : decode cX0_faultOfRow 14 = .ok (.bipush 40, 2) := by decide +kernel
theorem dX0_faultOfRow_16 : decode cX0_faultOfRow 16 = .ok (.if_icmp .le 6, 3) := by decide +kernel
theorem dX0_faultOfRow_19 : decode cX0_faultOfRow 19 = .ok (.bipush 8, 2) := by decide +kernel
theorem dX0_faultOfRow_21 : decode cX0_faultOfRow 21 = .ok (.ireturn, 1) := by decide +kernel
theorem dX0_faultOfRow_22 : decode cX0_faultOfRow 22 = .ok (.aload_n 0, 1) := by decide +kernel
theorem dX0_faultOfRow_23 : decode cX0_faultOfRow 23 = .ok (.getfield 29, 3) := by decide +kernel
theorem dX0_faultOfRow_26 : decode cX0_faultOfRow 26 = .ok (.bipush 30, 2) := by decide +kernel
theorem dX0_faultOfRow_28 : decode cX0_faultOfRow 28 = .ok (.if_icmp .lt 8, 3) := by decide +kernel
theorem dX0_faultOfRow_31 : decode cX0_faultOfRow 31 = .ok (.bipush 9, 2) := by decide +kernel
theorem dX0_faultOfRow_33 : decode cX0_faultOfRow 33 = .ok (.goto 4, 3) := by decide +kernel
theorem dX0_faultOfRow_36 : decode cX0_faultOfRow 36 = .ok (.iconst 0, 1) := by decide +kernel
theorem dX0_faultOfRow_37 : decode cX0_faultOfRow 37 = .ok (.ireturn, 1) := by decide +kernel
theorem dX0_keepRow_0 : decode cX0_keepRow 0 = .ok (.aload_n 0, 1) := by decide +kernel
theorem dX0_keepRow_1 : decode cX0_keepRow 1 = .ok (.getfield 29, 3) := by decide +kernel
theorem dX0_keepRow_4 : decode cX0_keepRow 4 = .ok (.bipush 30, 2) := by decide +kernel
theorem dX0_keepRow_6 : decode cX0_keepRow 6 = .ok (.if_icmp .ge 47, 3) := by decide +kernel
theorem dX0_keepRow_9 : decode cX0_keepRow 9 = .ok (.aload_n 0, 1) := by decide +kernel
theorem dX0_keepRow_10 : decode cX0_keepRow 10 = .ok (.dup, 1) := by decide +kernel
theorem dX0_keepRow_11 : decode cX0_keepRow 11 = .ok (.getfield 29, 3) := by decide +kernel
theorem dX0_keepRow_14 : decode cX0_keepRow 14 = .ok (.iconst 1, 1) := by decide +kernel
theorem dX0_keepRow_15 : decode cX0_keepRow 15 = .ok (.iadd, 1) := by decide +kernel
theorem dX0_keepRow_16 : decode cX0_keepRow 16 = .ok (.putfield 29, 3) := by decide +kernel
theorem dX0_keepRow_19 : decode cX0_keepRow 19 = .ok (.aload_n 0, 1) := by decide +kernel
theorem dX0_keepRow_20 : decode cX0_keepRow 20 = .ok (.getfield 9, 3) := by decide +kernel
theorem dX0_keepRow_23 : decode cX0_keepRow 23 = .ok (.aload_n 0, 1) := by decide +kernel
theorem dX0_keepRow_24 : decode cX0_keepRow 24 = .ok (.getfield 29, 3) := by decide +kernel
theorem dX0_keepRow_27 : decode cX0_keepRow 27 = .ok (.iconst 1, 1) := by decide +kernel
theorem dX0_keepRow_28 : decode cX0_keepRow 28 = .ok (.iadd, 1) := by decide +kernel
theorem dX0_keepRow_29 : decode cX0_keepRow 29 = .ok (.aload_n 0, 1) := by decide +kernel
theorem dX0_keepRow_30 : decode cX0_keepRow 30 = .ok (.getfield 33, 3) := by decide +kernel
theorem dX0_keepRow_33 : decode cX0_keepRow 33 = .ok (.iastore, 1) := by decide +kernel
theorem dX0_keepRow_34 : decode cX0_keepRow 34 = .ok (.aload_n 0, 1) := by decide +kernel
theorem dX0_keepRow_35 : decode cX0_keepRow 35 = .ok (.getfield 13, 3) := by decide +kernel
theorem dX0_keepRow_38 : decode cX0_keepRow 38 = .ok (.aload_n 0, 1) := by decide +kernel
theorem dX0_keepRow_39 : decode cX0_keepRow 39 = .ok (.getfield 29, 3) := by decide +kernel
theorem dX0_keepRow_42 : decode cX0_keepRow 42 = .ok (.iconst 1, 1) := by decide +kernel
theorem dX0_keepRow_43 : decode cX0_keepRow 43 = .ok (.iadd, 1) := by decide +kernel
theorem dX0_keepRow_44 : decode cX0_keepRow 44 = .ok (.aload_n 0, 1) := by decide +kernel
theorem dX0_keepRow_45 : decode cX0_keepRow 45 = .ok (.getfield 65, 3) := by decide +kernel
theorem dX0_keepRow_48 : decode cX0_keepRow 48 = .ok (.iastore, 1) := by decide +kernel
theorem dX0_keepRow_49 : decode cX0_keepRow 49 = .ok (.aload_n 0, 1) := by decide +kernel
theorem dX0_keepRow_50 : decode cX0_keepRow 50 = .ok (.invokevirtual 40, 3) := by decide +kernel
theorem dX0_keepRow_53 : decode cX0_keepRow 53 = .ok (.return_, 1) := by decide +kernel
theorem dX0_loopCount_0 : decode cX0_loopCount 0 = .ok (.aload_n 0, 1) := by decide +kernel
theorem dX0_loopCount_1 : decode cX0_loopCount 1 = .ok (.getfield 9, 3) := by decide +kernel
theorem dX0_loopCount_4 : decode cX0_loopCount 4 = .ok (.aload_n 0, 1) := by decide +kernel
theorem dX0_loopCount_5 : decode cX0_loopCount 5 = .ok (.getfield 29, 3) := by decide +kernel
theorem dX0_loopCount_8 : decode cX0_loopCount 8 = .ok (.iconst 1, 1) := by decide +kernel
theorem dX0_loopCount_9 : decode cX0_loopCount 9 = .ok (.iadd, 1) := by decide +kernel
theorem dX0_loopCount_10 : decode cX0_loopCount 10 = .ok (.iaload, 1) := by decide +kernel
theorem dX0_loopCount_11 : decode cX0_loopCount 11 = .ok (.ireturn, 1) := by decide +kernel
theorem dX0_liveCount_0 : decode cX0_liveCount 0 = .ok (.aload_n 0, 1) := by decide +kernel
theorem dX0_liveCount_1 : decode cX0_liveCount 1 = .ok (.getfield 49, 3) := by decide +kernel
theorem dX0_liveCount_4 : decode cX0_liveCount 4 = .ok (.ireturn, 1) := by decide +kernel
theorem dX0_hasRow_0 : decode cX0_hasRow 0 = .ok (.iload_n 1, 1) := by decide +kernel
theorem dX0_hasRow_1 : decode cX0_hasRow 1 = .ok (.ifCond .lt 15, 3) := by decide +kernel
theorem dX0_hasRow_4 : decode cX0_hasRow 4 = .ok (.iload_n 1, 1) := by decide +kernel
theorem dX0_hasRow_5 : decode cX0_hasRow 5 = .ok (.aload_n 0, 1) := by decide +kernel
theorem dX0_hasRow_6 : decode cX0_hasRow 6 = .ok (.getfield 29, 3) := by decide +kernel
theorem dX0_hasRow_9 : decode cX0_hasRow 9 = .ok (.if_icmp .gt 7, 3) := by decide +kernel
theorem dX0_hasRow_12 : decode cX0_hasRow 12 = .ok (.iconst 1, 1) := by decide +kernel
theorem dX0_hasRow_13 : decode cX0_hasRow 13 = .ok (.goto 4, 3) := by decide +kernel
theorem dX0_hasRow_16 : decode cX0_hasRow 16 = .ok (.iconst 0, 1) := by decide +kernel
theorem dX0_hasRow_17 : decode cX0_hasRow 17 = .ok (.ireturn, 1) := by decide +kernel
theorem dX0_hasLoop_0 : decode cX0_hasLoop 0 = .ok (.iload_n 1, 1) := by decide +kernel
theorem dX0_hasLoop_1 : decode cX0_hasLoop 1 = .ok (.ifCond .lt 15, 3) := by decide +kernel
theorem dX0_hasLoop_4 : decode cX0_hasLoop 4 = .ok (.iload_n 1, 1) := by decide +kernel
theorem dX0_hasLoop_5 : decode cX0_hasLoop 5 = .ok (.aload_n 0, 1) := by decide +kernel
theorem dX0_hasLoop_6 : decode cX0_hasLoop 6 = .ok (.invokevirtual 61, 3) := by decide +kernel
theorem dX0_hasLoop_9 : decode cX0_hasLoop 9 = .ok (.if_icmp .ge 7, 3) := by decide +kernel
theorem dX0_hasLoop_12 : decode cX0_hasLoop 12 = .ok (.iconst 1, 1) := by decide +kernel
theorem dX0_hasLoop_13 : decode cX0_hasLoop 13 = .ok (.goto 4, 3) := by decide +kernel
theorem dX0_hasLoop_16 : decode cX0_hasLoop 16 = .ok (.iconst 0, 1) := by decide +kernel
theorem dX0_hasLoop_17 : decode cX0_hasLoop 17 = .ok (.ireturn, 1) := by decide +kernel
theorem dX0_madeIn_0 : decode cX0_madeIn 0 = .ok (.aload_n 0, 1) := by decide +kernel
theorem dX0_madeIn_1 : decode cX0_madeIn 1 = .ok (.iload_n 1, 1) := by decide +kernel
theorem dX0_madeIn_2 : decode cX0_madeIn 2 = .ok (.invokevirtual 101, 3) := by decide +kernel
theorem dX0_madeIn_5 : decode cX0_madeIn 5 = .ok (.ifCond .eq 21, 3) := by decide +kernel
theorem dX0_madeIn_8 : decode cX0_madeIn 8 = .ok (.aload_n 0, 1) := by decide +kernel
theorem dX0_madeIn_9 : decode cX0_madeIn 9 = .ok (.getfield 9, 3) := by decide +kernel
theorem dX0_madeIn_12 : decode cX0_madeIn 12 = .ok (.iload_n 1, 1) := by decide +kernel
theorem dX0_madeIn_13 : decode cX0_madeIn 13 = .ok (.iconst 1, 1) := by decide +kernel
theorem dX0_madeIn_14 : decode cX0_madeIn 14 = .ok (.iadd, 1) := by decide +kernel
theorem dX0_madeIn_15 : decode cX0_madeIn 15 = .ok (.iaload, 1) := by decide +kernel
theorem dX0_madeIn_16 : decode cX0_madeIn 16 = .ok (.aload_n 0, 1) := by decide +kernel
theorem dX0_madeIn_17 : decode cX0_madeIn 17 = .ok (.getfield 9, 3) := by decide +kernel
theorem dX0_madeIn_20 : decode cX0_madeIn 20 = .ok (.iload_n 1, 1) := by decide +kernel
theorem dX0_madeIn_21 : decode cX0_madeIn 21 = .ok (.iaload, 1) := by decide +kernel
theorem dX0_madeIn_22 : decode cX0_madeIn 22 = .ok (.isub, 1) := by decide +kernel
theorem dX0_madeIn_23 : decode cX0_madeIn 23 = .ok (.goto 4, 3) := by decide +kernel
theorem dX0_madeIn_26 : decode cX0_madeIn 26 = .ok (.iconst 0, 1) := by decide +kernel
theorem dX0_madeIn_27 : decode cX0_madeIn 27 = .ok (.ireturn, 1) := by decide +kernel
theorem dX0_needleLoop_0 : decode cX0_needleLoop 0 = .ok (.iload_n 1, 1) := by decide +kernel
theorem dX0_needleLoop_1 : decode cX0_needleLoop 1 = .ok (.ifCond .lt 25, 3) := by decide +kernel
theorem dX0_needleLoop_4 : decode cX0_needleLoop 4 = .ok (.iload_n 1, 1) := by decide +kernel
theorem dX0_needleLoop_5 : decode cX0_needleLoop 5 = .ok (.aload_n 0, 1) := by decide +kernel
theorem dX0_needleLoop_6 : decode cX0_needleLoop 6 = .ok (.getfield 49, 3) := by decide +kernel
theorem dX0_needleLoop_9 : decode cX0_needleLoop 9 = .ok (.if_icmp .ge 17, 3) := by decide +kernel
theorem dX0_needleLoop_12 : decode cX0_needleLoop 12 = .ok (.aload_n 0, 1) := by decide +kernel
theorem dX0_needleLoop_13 : decode cX0_needleLoop 13 = .ok (.getfield 52, 3) := by decide +kernel
theorem dX0_needleLoop_16 : decode cX0_needleLoop 16 = .ok (.iload_n 1, 1) := by decide +kernel
theorem dX0_needleLoop_17 : decode cX0_needleLoop 17 = .ok (.aload_n 0, 1) := by decide +kernel
theorem dX0_needleLoop_18 : decode cX0_needleLoop 18 = .ok (.getfield 55, 3) := by decide +kernel
theorem dX0_needleLoop_21 : decode cX0_needleLoop 21 = .ok (.imul, 1) := by decide +kernel
theorem dX0_needleLoop_22 : decode cX0_needleLoop 22 = .ok (.iadd, 1) := by decide +kernel
theorem dX0_needleLoop_23 : decode cX0_needleLoop 23 = .ok (.goto 4, 3) := by decide +kernel
theorem dX0_needleLoop_26 : decode cX0_needleLoop 26 = .ok (.iconst (-1), 1) := by decide +kernel
theorem dX0_needleLoop_27 : decode cX0_needleLoop 27 = .ok (.ireturn, 1) := by decide +kernel
theorem dX0_bornIn_0 : decode cX0_bornIn 0 = .ok (.iconst 0, 1) := by decide +kernel
theorem dX0_bornIn_1 : decode cX0_bornIn 1 = .ok (.istore_n 2, 1) := by decide +kernel
theorem dX0_bornIn_2 : decode cX0_bornIn 2 = .ok (.iload_n 2, 1) := by decide +kernel
theorem dX0_bornIn_3 : decode cX0_bornIn 3 = .ok (.aload_n 0, 1) := by decide +kernel
theorem dX0_bornIn_4 : decode cX0_bornIn 4 = .ok (.getfield 29, 3) := by decide +kernel
theorem dX0_bornIn_7 : decode cX0_bornIn 7 = .ok (.if_icmp .ge 23, 3) := by decide +kernel
theorem dX0_bornIn_10 : decode cX0_bornIn 10 = .ok (.iload_n 1, 1) := by decide +kernel
theorem dX0_bornIn_11 : decode cX0_bornIn 11 = .ok (.aload_n 0, 1) := by decide +kernel
theorem dX0_bornIn_12 : decode cX0_bornIn 12 = .ok (.getfield 9, 3) := by decide +kernel
theorem dX0_bornIn_15 : decode cX0_bornIn 15 = .ok (.iload_n 2, 1) := by decide +kernel
theorem dX0_bornIn_16 : decode cX0_bornIn 16 = .ok (.iconst 1, 1) := by decide +kernel
theorem dX0_bornIn_17 : decode cX0_bornIn 17 = .ok (.iadd, 1) := by decide +kernel
theorem dX0_bornIn_18 : decode cX0_bornIn 18 = .ok (.iaload, 1) := by decide +kernel
theorem dX0_bornIn_19 : decode cX0_bornIn 19 = .ok (.if_icmp .ge 5, 3) := by decide +kernel
theorem dX0_bornIn_22 : decode cX0_bornIn 22 = .ok (.iload_n 2, 1) := by decide +kernel
theorem dX0_bornIn_23 : decode cX0_bornIn 23 = .ok (.ireturn, 1) := by decide +kernel
theorem dX0_bornIn_24 : decode cX0_bornIn 24 = .ok (.iinc 2 1, 3) := by decide +kernel
theorem dX0_bornIn_27 : decode cX0_bornIn 27 = .ok (.goto (-25), 3) := by decide +kernel
theorem dX0_bornIn_30 : decode cX0_bornIn 30 = .ok (.aload_n 0, 1) := by decide +kernel
theorem dX0_bornIn_31 : decode cX0_bornIn 31 = .ok (.getfield 29, 3) := by decide +kernel
theorem dX0_bornIn_34 : decode cX0_bornIn 34 = .ok (.ireturn, 1) := by decide +kernel
theorem dX0_diedIn_0 : decode cX0_diedIn 0 = .ok (.aload_n 0, 1) := by decide +kernel
theorem dX0_diedIn_1 : decode cX0_diedIn 1 = .ok (.iload_n 1, 1) := by decide +kernel
theorem dX0_diedIn_2 : decode cX0_diedIn 2 = .ok (.invokevirtual 104, 3) := by decide +kernel
theorem dX0_diedIn_5 : decode cX0_diedIn 5 = .ok (.istore_n 2, 1) := by decide +kernel
theorem dX0_diedIn_6 : decode cX0_diedIn 6 = .ok (.iload_n 2, 1) := by decide +kernel
theorem dX0_diedIn_7 : decode cX0_diedIn 7 = .ok (.aload_n 0, 1) := by decide +kernel
theorem dX0_diedIn_8 : decode cX0_diedIn 8 = .ok (.getfield 29, 3) := by decide +kernel
theorem dX0_diedIn_11 : decode cX0_diedIn 11 = .ok (.if_icmp .ge 9, 3) := by decide +kernel
theorem dX0_diedIn_14 : decode cX0_diedIn 14 = .ok (.iload_n 2, 1) := by decide +kernel
theorem dX0_diedIn_15 : decode cX0_diedIn 15 = .ok (.iconst 1, 1) := by decide +kernel
theorem dX0_diedIn_16 : decode cX0_diedIn 16 = .ok (.iadd, 1) := by decide +kernel
theorem dX0_diedIn_17 : decode cX0_diedIn 17 = .ok (.goto 4, 3) := by decide +kernel
theorem dX0_diedIn_20 : decode cX0_diedIn 20 = .ok (.iconst 0, 1) := by decide +kernel
theorem dX0_diedIn_21 : decode cX0_diedIn 21 = .ok (.ireturn, 1) := by decide +kernel
theorem dX0_parentCount_0 : decode cX0_parentCount 0 = .ok (.aload_n 0, 1) := by decide +kernel
theorem dX0_parentCount_1 : decode cX0_parentCount 1 = .ok (.iload_n 1, 1) := by decide +kernel
theorem dX0_parentCount_2 : decode cX0_parentCount 2 = .ok (.invokevirtual 107, 3) := by decide +kernel
theorem dX0_parentCount_5 : decode cX0_parentCount 5 = .ok (.ifCond .eq 12, 3) := by decide +kernel
theorem dX0_parentCount_8 : decode cX0_parentCount 8 = .ok (.aload_n 0, 1) := by decide +kernel
theorem dX0_parentCount_9 : decode cX0_parentCount 9 = .ok (.getfield 19, 3) := by decide +kernel
theorem dX0_parentCount_12 : decode cX0_parentCount 12 = .ok (.iload_n 1, 1) := by decide +kernel
theorem dX0_parentCount_13 : decode cX0_parentCount 13 = .ok (.iaload, 1) := by decide +kernel
theorem dX0_parentCount_14 : decode cX0_parentCount 14 = .ok (.goto 4, 3) := by decide +kernel
theorem dX0_parentCount_17 : decode cX0_parentCount 17 = .ok (.iconst 0, 1) := by decide +kernel
theorem dX0_parentCount_18 : decode cX0_parentCount 18 = .ok (.ireturn, 1) := by decide +kernel
theorem dX0_parent_0 : decode cX0_parent 0 = .ok (.aload_n 0, 1) := by decide +kernel
theorem dX0_parent_1 : decode cX0_parent 1 = .ok (.iload_n 1, 1) := by decide +kernel
theorem dX0_parent_2 : decode cX0_parent 2 = .ok (.invokevirtual 107, 3) := by decide +kernel
theorem dX0_parent_5 : decode cX0_parent 5 = .ok (.ifCond .eq 19, 3) := by decide +kernel
theorem dX0_parent_8 : decode cX0_parent 8 = .ok (.aload_n 0, 1) := by decide +kernel
theorem dX0_parent_9 : decode cX0_parent 9 = .ok (.getfield 22, 3) := by decide +kernel
theorem dX0_parent_12 : decode cX0_parent 12 = .ok (.iload_n 1, 1) := by decide +kernel
theorem dX0_parent_13 : decode cX0_parent 13 = .ok (.iaload, 1) := by decide +kernel
theorem dX0_parent_14 : decode cX0_parent 14 = .ok (.iload_n 2, 1) := by decide +kernel
theorem dX0_parent_15 : decode cX0_parent 15 = .ok (.aload_n 0, 1) := by decide +kernel
theorem dX0_parent_16 : decode cX0_parent 16 = .ok (.getfield 55, 3) := by decide +kernel
theorem dX0_parent_19 : decode cX0_parent 19 = .ok (.imul, 1) := by decide +kernel
theorem dX0_parent_20 : decode cX0_parent 20 = .ok (.iadd, 1) := by decide +kernel
theorem dX0_parent_21 : decode cX0_parent 21 = .ok (.goto 4, 3) := by decide +kernel
theorem dX0_parent_24 : decode cX0_parent 24 = .ok (.iconst (-1), 1) := by decide +kernel
theorem dX0_parent_25 : decode cX0_parent 25 = .ok (.ireturn, 1) := by decide +kernel
theorem dX0_ladderLength_0 : decode cX0_ladderLength 0 = .ok (.iconst 1, 1) := by decide +kernel
theorem dX0_ladderLength_1 : decode cX0_ladderLength 1 = .ok (.istore_n 2, 1) := by decide +kernel
theorem dX0_ladderLength_2 : decode cX0_ladderLength 2 = .ok (.iload_n 1, 1) := by decide +kernel
theorem dX0_ladderLength_3 : decode cX0_ladderLength 3 = .ok (.istore_n 3, 1) := by decide +kernel
theorem dX0_ladderLength_4 : decode cX0_ladderLength 4 = .ok (.iconst 0, 1) := by decide +kernel
theorem dX0_ladderLength_5 : decode cX0_ladderLength 5 = .ok (.istore 4, 2) := by decide +kernel
theorem dX0_ladderLength_7 : decode cX0_ladderLength 7 = .ok (.iload 4, 2) := by decide +kernel
theorem dX0_ladderLength_9 : decode cX0_ladderLength 9 = .ok (.aload_n 0, 1) := by decide +kernel
theorem dX0_ladderLength_10 : decode cX0_ladderLength 10 = .ok (.getfield 29, 3) := by decide +kernel
theorem dX0_ladderLength_13 : decode cX0_ladderLength 13 = .ok (.if_icmp .ge 27, 3) := by decide +kernel
theorem dX0_ladderLength_16 : decode cX0_ladderLength 16 = .ok (.aload_n 0, 1) := by decide +kernel
theorem dX0_ladderLength_17 : decode cX0_ladderLength 17 = .ok (.iload_n 3, 1) := by decide +kernel
theorem dX0_ladderLength_18 : decode cX0_ladderLength 18 = .ok (.invokevirtual 110, 3) := by decide +kernel
theorem dX0_ladderLength_21 : decode cX0_ladderLength 21 = .ok (.ifCond .le 19, 3) := by decide +kernel
theorem dX0_ladderLength_24 : decode cX0_ladderLength 24 = .ok (.aload_n 0, 1) := by decide +kernel
theorem dX0_ladderLength_25 : decode cX0_ladderLength 25 = .ok (.iload_n 3, 1) := by decide +kernel
theorem dX0_ladderLength_26 : decode cX0_ladderLength 26 = .ok (.iconst 0, 1) := by decide +kernel
theorem dX0_ladderLength_27 : decode cX0_ladderLength 27 = .ok (.invokevirtual 113, 3) := by decide +kernel
theorem dX0_ladderLength_30 : decode cX0_ladderLength 30 = .ok (.istore_n 3, 1) := by decide +kernel
theorem dX0_ladderLength_31 : decode cX0_ladderLength 31 = .ok (.iinc 2 1, 3) := by decide +kernel
theorem dX0_ladderLength_34 : decode cX0_ladderLength 34 = .ok (.iinc 4 1, 3) := by decide +kernel
theorem dX0_ladderLength_37 : decode cX0_ladderLength 37 = .ok (.goto (-30), 3) := by decide +kernel
theorem dX0_ladderLength_40 : decode cX0_ladderLength 40 = .ok (.iload_n 2, 1) := by decide +kernel
theorem dX0_ladderLength_41 : decode cX0_ladderLength 41 = .ok (.ireturn, 1) := by decide +kernel
theorem dX0_stitchCount_0 : decode cX0_stitchCount 0 = .ok (.aload_n 0, 1) := by decide +kernel
theorem dX0_stitchCount_1 : decode cX0_stitchCount 1 = .ok (.iload_n 1, 1) := by decide +kernel
theorem dX0_stitchCount_2 : decode cX0_stitchCount 2 = .ok (.invokevirtual 101, 3) := by decide +kernel
theorem dX0_stitchCount_5 : decode cX0_stitchCount 5 = .ok (.ifCond .eq 21, 3) := by decide +kernel
theorem dX0_stitchCount_8 : decode cX0_stitchCount 8 = .ok (.aload_n 0, 1) := by decide +kernel
theorem dX0_stitchCount_9 : decode cX0_stitchCount 9 = .ok (.getfield 13, 3) := by decide +kernel
theorem dX0_stitchCount_12 : decode cX0_stitchCount 12 = .ok (.iload_n 1, 1) := by decide +kernel
theorem dX0_stitchCount_13 : decode cX0_stitchCount 13 = .ok (.iconst 1, 1) := by decide +kernel
theorem dX0_stitchCount_14 : decode cX0_stitchCount 14 = .ok (.iadd, 1) := by decide +kernel
theorem dX0_stitchCount_15 : decode cX0_stitchCount 15 = .ok (.iaload, 1) := by decide +kernel
theorem dX0_stitchCount_16 : decode cX0_stitchCount 16 = .ok (.aload_n 0, 1) := by decide +kernel
theorem dX0_stitchCount_17 : decode cX0_stitchCount 17 = .ok (.getfield 13, 3) := by decide +kernel
theorem dX0_stitchCount_20 : decode cX0_stitchCount 20 = .ok (.iload_n 1, 1) := by decide +kernel
theorem dX0_stitchCount_21 : decode cX0_stitchCount 21 = .ok (.iaload, 1) := by decide +kernel
theorem dX0_stitchCount_22 : decode cX0_stitchCount 22 = .ok (.isub, 1) := by decide +kernel
theorem dX0_stitchCount_23 : decode cX0_stitchCount 23 = .ok (.goto 4, 3) := by decide +kernel
theorem dX0_stitchCount_26 : decode cX0_stitchCount 26 = .ok (.iconst 0, 1) := by decide +kernel
theorem dX0_stitchCount_27 : decode cX0_stitchCount 27 = .ok (.ireturn, 1) := by decide +kernel
theorem dX0_stitchAt_0 : decode cX0_stitchAt 0 = .ok (.iload_n 2, 1) := by decide +kernel
theorem dX0_stitchAt_1 : decode cX0_stitchAt 1 = .ok (.ifCond .lt 12, 3) := by decide +kernel
theorem dX0_stitchAt_4 : decode cX0_stitchAt 4 = .ok (.iload_n 2, 1) := by decide +kernel
theorem dX0_stitchAt_5 : decode cX0_stitchAt 5 = .ok (.aload_n 0, 1) := by decide +kernel
theorem dX0_stitchAt_6 : decode cX0_stitchAt 6 = .ok (.iload_n 1, 1) := by decide +kernel
theorem dX0_stitchAt_7 : decode cX0_stitchAt 7 = .ok (.invokevirtual 116, 3) := by decide +kernel
theorem dX0_stitchAt_10 : decode cX0_stitchAt 10 = .ok (.if_icmp .lt 5, 3) := by decide +kernel
theorem dX0_stitchAt_13 : decode cX0_stitchAt 13 = .ok (.iconst 0, 1) := by decide +kernel
theorem dX0_stitchAt_14 : decode cX0_stitchAt 14 = .ok (.ireturn, 1) := by decide +kernel
theorem dX0_stitchAt_15 : decode cX0_stitchAt 15 = .ok (.aload_n 0, 1) := by decide +kernel
theorem dX0_stitchAt_16 : decode cX0_stitchAt 16 = .ok (.getfield 16, 3) := by decide +kernel
theorem dX0_stitchAt_19 : decode cX0_stitchAt 19 = .ok (.aload_n 0, 1) := by decide +kernel
theorem dX0_stitchAt_20 : decode cX0_stitchAt 20 = .ok (.getfield 13, 3) := by decide +kernel
theorem dX0_stitchAt_23 : decode cX0_stitchAt 23 = .ok (.iload_n 1, 1) := by decide +kernel
theorem dX0_stitchAt_24 : decode cX0_stitchAt 24 = .ok (.iaload, 1) := by decide +kernel
theorem dX0_stitchAt_25 : decode cX0_stitchAt 25 = .ok (.iload_n 2, 1) := by decide +kernel
theorem dX0_stitchAt_26 : decode cX0_stitchAt 26 = .ok (.iadd, 1) := by decide +kernel
theorem dX0_stitchAt_27 : decode cX0_stitchAt 27 = .ok (.iaload, 1) := by decide +kernel
theorem dX0_stitchAt_28 : decode cX0_stitchAt 28 = .ok (.ireturn, 1) := by decide +kernel
theorem dX0_stitchSeen_0 : decode cX0_stitchSeen 0 = .ok (.aload_n 0, 1) := by decide +kernel
theorem dX0_stitchSeen_1 : decode cX0_stitchSeen 1 = .ok (.getfield 25, 3) := by decide +kernel
theorem dX0_stitchSeen_4 : decode cX0_stitchSeen 4 = .ok (.ifCond .ne 13, 3) := by decide +kernel
theorem dX0_stitchSeen_7 : decode cX0_stitchSeen 7 = .ok (.iload_n 1, 1) := by decide +kernel
theorem dX0_stitchSeen_8 : decode cX0_stitchSeen 8 = .ok (.iconst 2, 1) := by decide +kernel
theorem dX0_stitchSeen_9 : decode cX0_stitchSeen 9 = .ok (.irem, 1) := by decide +kernel
theorem dX0_stitchSeen_10 : decode cX0_stitchSeen 10 = .ok (.ifCond .ne 7, 3) := by decide +kernel
theorem dX0_stitchSeen_13 : decode cX0_stitchSeen 13 = .ok (.iconst 1, 1) := by decide +kernel
theorem dX0_stitchSeen_14 : decode cX0_stitchSeen 14 = .ok (.goto 4, 3) := by decide +kernel
theorem dX0_stitchSeen_17 : decode cX0_stitchSeen 17 = .ok (.iconst 0, 1) := by decide +kernel
theorem dX0_stitchSeen_18 : decode cX0_stitchSeen 18 = .ok (.istore_n 3, 1) := by decide +kernel
theorem dX0_stitchSeen_19 : decode cX0_stitchSeen 19 = .ok (.iload_n 3, 1) := by decide +kernel
theorem dX0_stitchSeen_20 : decode cX0_stitchSeen 20 = .ok (.ifCond .eq 21, 3) := by decide +kernel
theorem dX0_stitchSeen_23 : decode cX0_stitchSeen 23 = .ok (.aload_n 0, 1) := by decide +kernel
theorem dX0_stitchSeen_24 : decode cX0_stitchSeen 24 = .ok (.iload_n 1, 1) := by decide +kernel
theorem dX0_stitchSeen_25 : decode cX0_stitchSeen 25 = .ok (.aload_n 0, 1) := by decide +kernel
theorem dX0_stitchSeen_26 : decode cX0_stitchSeen 26 = .ok (.iload_n 1, 1) := by decide +kernel
theorem dX0_stitchSeen_27 : decode cX0_stitchSeen 27 = .ok (.invokevirtual 116, 3) := by decide +kernel
theorem dX0_stitchSeen_30 : decode cX0_stitchSeen 30 = .ok (.iconst 1, 1) := by decide +kernel
theorem dX0_stitchSeen_31 : decode cX0_stitchSeen 31 = .ok (.isub, 1) := by decide +kernel
theorem dX0_stitchSeen_32 : decode cX0_stitchSeen 32 = .ok (.iload_n 2, 1) := by decide +kernel
theorem dX0_stitchSeen_33 : decode cX0_stitchSeen 33 = .ok (.isub, 1) := by decide +kernel
theorem dX0_stitchSeen_34 : decode cX0_stitchSeen 34 = .ok (.invokevirtual 119, 3) := by decide +kernel
theorem dX0_stitchSeen_37 : decode cX0_stitchSeen 37 = .ok (.invokestatic 122, 3) := by decide +kernel
theorem dX0_stitchSeen_40 : decode cX0_stitchSeen 40 = .ok (.ireturn, 1) := by decide +kernel
theorem dX0_stitchSeen_41 : decode cX0_stitchSeen 41 = .ok (.aload_n 0, 1) := by decide +kernel
theorem dX0_stitchSeen_42 : decode cX0_stitchSeen 42 = .ok (.iload_n 1, 1) := by decide +kernel
theorem dX0_stitchSeen_43 : decode cX0_stitchSeen 43 = .ok (.iload_n 2, 1) := by decide +kernel
theorem dX0_stitchSeen_44 : decode cX0_stitchSeen 44 = .ok (.invokevirtual 119, 3) := by decide +kernel
theorem dX0_stitchSeen_47 : decode cX0_stitchSeen 47 = .ok (.ireturn, 1) := by decide +kernel
theorem dX0_crossings_0 : decode cX0_crossings 0 = .ok (.iconst 0, 1) := by decide +kernel
theorem dX0_crossings_1 : decode cX0_crossings 1 = .ok (.istore_n 2, 1) := by decide +kernel
theorem dX0_crossings_2 : decode cX0_crossings 2 = .ok (.aload_n 0, 1) := by decide +kernel
theorem dX0_crossings_3 : decode cX0_crossings 3 = .ok (.iload_n 1, 1) := by decide +kernel
theorem dX0_crossings_4 : decode cX0_crossings 4 = .ok (.invokevirtual 116, 3) := by decide +kernel
theorem dX0_crossings_7 : decode cX0_crossings 7 = .ok (.istore_n 3, 1) := by decide +kernel
theorem dX0_crossings_8 : decode cX0_crossings 8 = .ok (.iconst 0, 1) := by decide +kernel
theorem dX0_crossings_9 : decode cX0_crossings 9 = .ok (.istore 4, 2) := by decide +kernel
theorem dX0_crossings_11 : decode cX0_crossings 11 = .ok (.iload 4, 2) := by decide +kernel
theorem dX0_crossings_13 : decode cX0_crossings 13 = .ok (.iload_n 3, 1) := by decide +kernel
theorem dX0_crossings_14 : decode cX0_crossings 14 = .ok (.if_icmp .ge 40, 3) := by decide +kernel
theorem dX0_crossings_17 : decode cX0_crossings 17 = .ok (.aload_n 0, 1) := by decide +kernel
theorem dX0_crossings_18 : decode cX0_crossings 18 = .ok (.iload_n 1, 1) := by decide +kernel
theorem dX0_crossings_19 : decode cX0_crossings 19 = .ok (.iload 4, 2) := by decide +kernel
theorem dX0_crossings_21 : decode cX0_crossings 21 = .ok (.invokevirtual 119, 3) := by decide +kernel
theorem dX0_crossings_24 : decode cX0_crossings 24 = .ok (.istore 5, 2) := by decide +kernel
theorem dX0_crossings_26 : decode cX0_crossings 26 = .ok (.iload 5, 2) := by decide +kernel
theorem dX0_crossings_28 : decode cX0_crossings 28 = .ok (.invokestatic 85, 3) := by decide +kernel
theorem dX0_crossings_31 : decode cX0_crossings 31 = .ok (.ifCond .eq 17, 3) := by decide +kernel
theorem dX0_crossings_34 : decode cX0_crossings 34 = .ok (.iload_n 2, 1) := by decide +kernel
theorem dX0_crossings_35 : decode cX0_crossings 35 = .ok (.iload 5, 2) := by decide +kernel
theorem dX0_crossings_37 : decode cX0_crossings 37 = .ok (.invokestatic 89, 3) := by decide +kernel
theorem dX0_crossings_40 : decode cX0_crossings 40 = .ok (.iload 5, 2) := by decide +kernel
theorem dX0_crossings_42 : decode cX0_crossings 42 = .ok (.invokestatic 92, 3) := by decide +kernel
theorem dX0_crossings_45 : decode cX0_crossings 45 = .ok (.imul, 1) := by decide +kernel
theorem dX0_crossings_46 : decode cX0_crossings 46 = .ok (.iadd, 1) := by decide +kernel
theorem dX0_crossings_47 : decode cX0_crossings 47 = .ok (.istore_n 2, 1) := by decide +kernel
theorem dX0_crossings_48 : decode cX0_crossings 48 = .ok (.iinc 4 1, 3) := by decide +kernel
theorem dX0_crossings_51 : decode cX0_crossings 51 = .ok (.goto (-40), 3) := by decide +kernel
theorem dX0_crossings_54 : decode cX0_crossings 54 = .ok (.iload_n 2, 1) := by decide +kernel
theorem dX0_crossings_55 : decode cX0_crossings 55 = .ok (.ireturn, 1) := by decide +kernel
theorem dX0_boundIn_0 : decode cX0_boundIn 0 = .ok (.aload_n 0, 1) := by decide +kernel
theorem dX0_boundIn_1 : decode cX0_boundIn 1 = .ok (.iload_n 1, 1) := by decide +kernel
theorem dX0_boundIn_2 : decode cX0_boundIn 2 = .ok (.invokevirtual 101, 3) := by decide +kernel
theorem dX0_boundIn_5 : decode cX0_boundIn 5 = .ok (.ifCond .eq 11, 3) := by decide +kernel
theorem dX0_boundIn_8 : decode cX0_boundIn 8 = .ok (.aload_n 0, 1) := by decide +kernel
theorem dX0_boundIn_9 : decode cX0_boundIn 9 = .ok (.iload_n 2, 1) := by decide +kernel
theorem dX0_boundIn_10 : decode cX0_boundIn 10 = .ok (.invokevirtual 101, 3) := by decide +kernel
theorem dX0_boundIn_13 : decode cX0_boundIn 13 = .ok (.ifCond .ne 5, 3) := by decide +kernel
theorem dX0_boundIn_16 : decode cX0_boundIn 16 = .ok (.iconst 0, 1) := by decide +kernel
theorem dX0_boundIn_17 : decode cX0_boundIn 17 = .ok (.ireturn, 1) := by decide +kernel
theorem dX0_boundIn_18 : decode cX0_boundIn 18 = .ok (.iconst 0, 1) := by decide +kernel
theorem dX0_boundIn_19 : decode cX0_boundIn 19 = .ok (.istore_n 3, 1) := by decide +kernel
theorem dX0_boundIn_20 : decode cX0_boundIn 20 = .ok (.aload_n 0, 1) := by decide +kernel
theorem dX0_boundIn_21 : decode cX0_boundIn 21 = .ok (.getfield 13, 3) := by decide +kernel
theorem dX0_boundIn_24 : decode cX0_boundIn 24 = .ok (.iload_n 1, 1) := by decide +kernel
theorem dX0_boundIn_25 : decode cX0_boundIn 25 = .ok (.iaload, 1) := by decide +kernel
theorem dX0_boundIn_26 : decode cX0_boundIn 26 = .ok (.istore 4, 2) := by decide +kernel
theorem dX0_boundIn_28 : decode cX0_boundIn 28 = .ok (.iload 4, 2) := by decide +kernel
theorem dX0_boundIn_30 : decode cX0_boundIn 30 = .ok (.aload_n 0, 1) := by decide +kernel
theorem dX0_boundIn_31 : decode cX0_boundIn 31 = .ok (.getfield 13, 3) := by decide +kernel
theorem dX0_boundIn_34 : decode cX0_boundIn 34 = .ok (.iload_n 2, 1) := by decide +kernel
theorem dX0_boundIn_35 : decode cX0_boundIn 35 = .ok (.iconst 1, 1) := by decide +kernel
theorem dX0_boundIn_36 : decode cX0_boundIn 36 = .ok (.iadd, 1) := by decide +kernel
theorem dX0_boundIn_37 : decode cX0_boundIn 37 = .ok (.iaload, 1) := by decide +kernel
theorem dX0_boundIn_38 : decode cX0_boundIn 38 = .ok (.if_icmp .ge 24, 3) := by decide +kernel
theorem dX0_boundIn_41 : decode cX0_boundIn 41 = .ok (.aload_n 0, 1) := by decide +kernel
theorem dX0_boundIn_42 : decode cX0_boundIn 42 = .ok (.getfield 16, 3) := by decide +kernel
theorem dX0_boundIn_45 : decode cX0_boundIn 45 = .ok (.iload 4, 2) := by decide +kernel
theorem dX0_boundIn_47 : decode cX0_boundIn 47 = .ok (.iaload, 1) := by decide +kernel
theorem dX0_boundIn_48 : decode cX0_boundIn 48 = .ok (.bipush 8, 2) := by decide +kernel
theorem dX0_boundIn_50 : decode cX0_boundIn 50 = .ok (.if_icmp .ne 6, 3) := by decide +kernel
theorem dX0_boundIn_53 : decode cX0_boundIn 53 = .ok (.iinc 3 1, 3) := by decide +kernel
theorem dX0_boundIn_56 : decode cX0_boundIn 56 = .ok (.iinc 4 1, 3) := by decide +kernel
theorem dX0_boundIn_59 : decode cX0_boundIn 59 = .ok (.goto (-31), 3) := by decide +kernel
theorem dX0_boundIn_62 : decode cX0_boundIn 62 = .ok (.iload_n 3, 1) := by decide +kernel
theorem dX0_boundIn_63 : decode cX0_boundIn 63 = .ok (.ireturn, 1) := by decide +kernel
theorem dX1_answer_0 : decode cX1_answer 0 = .ok (.sipush 1000, 3) := by decide +kernel
theorem dX1_answer_3 : decode cX1_answer 3 = .ok (.iload_n 0, 1) := by decide +kernel
theorem dX1_answer_4 : decode cX1_answer 4 = .ok (.imul, 1) := by decide +kernel
theorem dX1_answer_5 : decode cX1_answer 5 = .ok (.iload_n 1, 1) := by decide +kernel
theorem dX1_answer_6 : decode cX1_answer 6 = .ok (.iadd, 1) := by decide +kernel
theorem dX1_answer_7 : decode cX1_answer 7 = .ok (.ineg, 1) := by decide +kernel
theorem dX1_answer_8 : decode cX1_answer 8 = .ok (.ireturn, 1) := by decide +kernel
theorem dX3_init_0 : decode cX3_init 0 = .ok (.aload_n 0, 1) := by decide +kernel
theorem dX3_init_1 : decode cX3_init 1 = .ok (.invokespecial 3, 3) := by decide +kernel
theorem dX3_init_4 : decode cX3_init 4 = .ok (.aload_n 0, 1) := by decide +kernel
theorem dX3_init_5 : decode cX3_init 5 = .ok (.sipush 200, 3) := by decide +kernel
theorem dX3_init_8 : decode cX3_init 8 = .ok (.newarray .int, 2) := by decide +kernel
theorem dX3_init_10 : decode cX3_init 10 = .ok (.putfield 11, 3) := by decide +kernel
theorem dX3_init_13 : decode cX3_init 13 = .ok (.aload_n 0, 1) := by decide +kernel
theorem dX3_init_14 : decode cX3_init 14 = .ok (.sipush 200, 3) := by decide +kernel
theorem dX3_init_17 : decode cX3_init 17 = .ok (.newarray .int, 2) := by decide +kernel
theorem dX3_init_19 : decode cX3_init 19 = .ok (.putfield 15, 3) := by decide +kernel
theorem dX3_init_22 : decode cX3_init 22 = .ok (.aload_n 0, 1) := by decide +kernel
theorem dX3_init_23 : decode cX3_init 23 = .ok (.sipush 200, 3) := by decide +kernel
theorem dX3_init_26 : decode cX3_init 26 = .ok (.newarray .int, 2) := by decide +kernel
theorem dX3_init_28 : decode cX3_init 28 = .ok (.putfield 18, 3) := by decide +kernel
theorem dX3_init_31 : decode cX3_init 31 = .ok (.aload_n 0, 1) := by decide +kernel
theorem dX3_init_32 : decode cX3_init 32 = .ok (.sipush 200, 3) := by decide +kernel
theorem dX3_init_35 : decode cX3_init 35 = .ok (.newarray .int, 2) := by decide +kernel
theorem dX3_init_37 : decode cX3_init 37 = .ok (.putfield 21, 3) := by decide +kernel
theorem dX3_init_40 : decode cX3_init 40 = .ok (.aload_n 0, 1) := by decide +kernel
theorem dX3_init_41 : decode cX3_init 41 = .ok (.sipush 200, 3) := by decide +kernel
theorem dX3_init_44 : decode cX3_init 44 = .ok (.newarray .long, 2) := by decide +kernel
theorem dX3_init_46 : decode cX3_init 46 = .ok (.putfield 24, 3) := by decide +kernel
theorem dX3_init_49 : decode cX3_init 49 = .ok (.return_, 1) := by decide +kernel
theorem dX3_clear_0 : decode cX3_clear 0 = .ok (.aload_n 0, 1) := by decide +kernel
theorem dX3_clear_1 : decode cX3_clear 1 = .ok (.iconst 0, 1) := by decide +kernel
theorem dX3_clear_2 : decode cX3_clear 2 = .ok (.putfield 28, 3) := by decide +kernel
theorem dX3_clear_5 : decode cX3_clear 5 = .ok (.return_, 1) := by decide +kernel
theorem dX3_size_0 : decode cX3_size 0 = .ok (.aload_n 0, 1) := by decide +kernel
theorem dX3_size_1 : decode cX3_size 1 = .ok (.getfield 28, 3) := by decide +kernel
theorem dX3_size_4 : decode cX3_size 4 = .ok (.ireturn, 1) := by decide +kernel
theorem dX3_addStitches_0 : decode cX3_addStitches 0 = .ok (.aload_n 0, 1) := by decide +kernel
theorem dX3_addStitches_1 : decode cX3_addStitches 1 = .ok (.iconst 0, 1) := by decide +kernel
theorem dX3_addStitches_2 : decode cX3_addStitches 2 = .ok (.iload_n 1, 1) := by decide +kernel
theorem dX3_addStitches_3 : decode cX3_addStitches 3 = .ok (.iload_n 2, 1) := by decide +kernel
theorem dX3_addStitches_4 : decode cX3_addStitches 4 = .ok (.iload_n 3, 1) := by decide +kernel
theorem dX3_addStitches_5 : decode cX3_addStitches 5 = .ok (.invokevirtual 32, 3) := by decide +kernel
theorem dX3_addStitches_8 : decode cX3_addStitches 8 = .ok (.return_, 1) := by decide +kernel
theorem dX3_addOpen_0 : decode cX3_addOpen 0 = .ok (.aload_n 0, 1) := by decide +kernel
theorem dX3_addOpen_1 : decode cX3_addOpen 1 = .ok (.iload_n 1, 1) := by decide +kernel
theorem dX3_addOpen_2 : decode cX3_addOpen 2 = .ok (.iconst 0, 1) := by decide +kernel
theorem dX3_addOpen_3 : decode cX3_addOpen 3 = .ok (.iconst 0, 1) := by decide +kernel
theorem dX3_addOpen_4 : decode cX3_addOpen 4 = .ok (.iload_n 2, 1) := by decide +kernel
theorem dX3_addOpen_5 : decode cX3_addOpen 5 = .ok (.invokevirtual 32, 3) := by decide +kernel
theorem dX3_addOpen_8 : decode cX3_addOpen 8 = .ok (.return_, 1) := by decide +kernel
theorem dX3_addClose_0 : decode cX3_addClose 0 = .ok (.iload_n 1, 1) := by decide +kernel
theorem dX3_addClose_1 : decode cX3_addClose 1 = .ok (.ifCond .lt 36, 3) := by decide +kernel
theorem dX3_addClose_4 : decode cX3_addClose 4 = .ok (.iload_n 1, 1) := by decide +kernel
theorem dX3_addClose_5 : decode cX3_addClose 5 = .ok (.aload_n 0, 1) := by decide +kernel
theorem dX3_addClose_6 : decode cX3_addClose 6 = .ok (.getfield 28, 3) := by decide +kernel
theorem dX3_addClose_9 : decode cX3_addClose 9 = .ok (.if_icmp .ge 28, 3) := by decide +kernel
theorem dX3_addClose_12 : decode cX3_addClose 12 = .ok (.aload_n 0, 1) := by decide +kernel
theorem dX3_addClose_13 : decode cX3_addClose 13 = .ok (.getfield 21, 3) := by decide +kernel
theorem dX3_addClose_16 : decode cX3_addClose 16 = .ok (.iload_n 1, 1) := by decide +kernel
theorem dX3_addClose_17 : decode cX3_addClose 17 = .ok (.aload_n 0, 1) := by decide +kernel
theorem dX3_addClose_18 : decode cX3_addClose 18 = .ok (.getfield 28, 3) := by decide +kernel
theorem dX3_addClose_21 : decode cX3_addClose 21 = .ok (.iastore, 1) := by decide +kernel
theorem dX3_addClose_22 : decode cX3_addClose 22 = .ok (.aload_n 0, 1) := by decide +kernel
theorem dX3_addClose_23 : decode cX3_addClose 23 = .ok (.getfield 18, 3) := by decide +kernel
theorem dX3_addClose_26 : decode cX3_addClose 26 = .ok (.iload_n 1, 1) := by decide +kernel
theorem dX3_addClose_27 : decode cX3_addClose 27 = .ok (.iload_n 2, 1) := by decide +kernel
theorem dX3_addClose_28 : decode cX3_addClose 28 = .ok (.iastore, 1) := by decide +kernel
theorem dX3_addClose_29 : decode cX3_addClose 29 = .ok (.aload_n 0, 1) := by decide +kernel
theorem dX3_addClose_30 : decode cX3_addClose 30 = .ok (.getfield 24, 3) := by decide +kernel
theorem dX3_addClose_33 : decode cX3_addClose 33 = .ok (.iload_n 1, 1) := by decide +kernel
theorem dX3_addClose_34 : decode cX3_addClose 34 = .ok (.lload 4, 2) := by decide +kernel
theorem dX3_addClose_36 : decode cX3_addClose 36 = .ok (.lastore, 1) := by decide +kernel
theorem dX3_addClose_37 : decode cX3_addClose 37 = .ok (.aload_n 0, 1) := by decide +kernel
theorem dX3_addClose_38 : decode cX3_addClose 38 = .ok (.iconst 3, 1) := by decide +kernel
theorem dX3_addClose_39 : decode cX3_addClose 39 = .ok (.iload_n 1, 1) := by decide +kernel
theorem dX3_addClose_40 : decode cX3_addClose 40 = .ok (.iconst 0, 1) := by decide +kernel
theorem dX3_addClose_41 : decode cX3_addClose 41 = .ok (.iload_n 3, 1) := by decide +kernel
theorem dX3_addClose_42 : decode cX3_addClose 42 = .ok (.invokevirtual 32, 3) := by decide +kernel
theorem dX3_addClose_45 : decode cX3_addClose 45 = .ok (.return_, 1) := by decide +kernel
theorem dX3_add_0 : decode cX3_add 0 = .ok (.aload_n 0, 1) := by decide +kernel
theorem dX3_add_1 : decode cX3_add 1 = .ok (.getfield 28, 3) := by decide +kernel
theorem dX3_add_4 : decode cX3_add 4 = .ok (.sipush 200, 3) := by decide +kernel
theorem dX3_add_7 : decode cX3_add 7 = .ok (.if_icmp .ge 64, 3) := by decide +kernel
theorem dX3_add_10 : decode cX3_add 10 = .ok (.aload_n 0, 1) := by decide +kernel
theorem dX3_add_11 : decode cX3_add 11 = .ok (.getfield 11, 3) := by decide +kernel
theorem dX3_add_14 : decode cX3_add 14 = .ok (.aload_n 0, 1) := by decide +kernel
theorem dX3_add_15 : decode cX3_add 15 = .ok (.getfield 28, 3) := by decide +kernel
theorem dX3_add_18 : decode cX3_add 18 = .ok (.iload_n 1, 1) := by decide +kernel
theorem dX3_add_19 : decode cX3_add 19 = .ok (.iastore, 1) := by decide +kernel
theorem dX3_add_20 : decode cX3_add 20 = .ok (.aload_n 0, 1) := by decide +kernel
theorem dX3_add_21 : decode cX3_add 21 = .ok (.getfield 21, 3) := by decide +kernel
theorem dX3_add_24 : decode cX3_add 24 = .ok (.aload_n 0, 1) := by decide +kernel
theorem dX3_add_25 : decode cX3_add 25 = .ok (.getfield 28, 3) := by decide +kernel
theorem dX3_add_28 : decode cX3_add 28 = .ok (.iload_n 2, 1) := by decide +kernel
theorem dX3_add_29 : decode cX3_add 29 = .ok (.iastore, 1) := by decide +kernel
theorem dX3_add_30 : decode cX3_add 30 = .ok (.aload_n 0, 1) := by decide +kernel
theorem dX3_add_31 : decode cX3_add 31 = .ok (.getfield 18, 3) := by decide +kernel
theorem dX3_add_34 : decode cX3_add 34 = .ok (.aload_n 0, 1) := by decide +kernel
theorem dX3_add_35 : decode cX3_add 35 = .ok (.getfield 28, 3) := by decide +kernel
theorem dX3_add_38 : decode cX3_add 38 = .ok (.iload_n 3, 1) := by decide +kernel
theorem dX3_add_39 : decode cX3_add 39 = .ok (.iastore, 1) := by decide +kernel
theorem dX3_add_40 : decode cX3_add 40 = .ok (.aload_n 0, 1) := by decide +kernel
theorem dX3_add_41 : decode cX3_add 41 = .ok (.getfield 15, 3) := by decide +kernel
theorem dX3_add_44 : decode cX3_add 44 = .ok (.aload_n 0, 1) := by decide +kernel
theorem dX3_add_45 : decode cX3_add 45 = .ok (.getfield 28, 3) := by decide +kernel
theorem dX3_add_48 : decode cX3_add 48 = .ok (.iload 4, 2) := by decide +kernel
theorem dX3_add_50 : decode cX3_add 50 = .ok (.iastore, 1) := by decide +kernel
theorem dX3_add_51 : decode cX3_add 51 = .ok (.aload_n 0, 1) := by decide +kernel
theorem dX3_add_52 : decode cX3_add 52 = .ok (.getfield 24, 3) := by decide +kernel
theorem dX3_add_55 : decode cX3_add 55 = .ok (.aload_n 0, 1) := by decide +kernel
theorem dX3_add_56 : decode cX3_add 56 = .ok (.getfield 28, 3) := by decide +kernel
theorem dX3_add_59 : decode cX3_add 59 = .ok (.lconst 0, 1) := by decide +kernel
theorem dX3_add_60 : decode cX3_add 60 = .ok (.lastore, 1) := by decide +kernel
theorem dX3_add_61 : decode cX3_add 61 = .ok (.aload_n 0, 1) := by decide +kernel
theorem dX3_add_62 : decode cX3_add 62 = .ok (.dup, 1) := by decide +kernel
theorem dX3_add_63 : decode cX3_add 63 = .ok (.getfield 28, 3) := by decide +kernel
theorem dX3_add_66 : decode cX3_add 66 = .ok (.iconst 1, 1) := by decide +kernel
theorem dX3_add_67 : decode cX3_add 67 = .ok (.iadd, 1) := by decide +kernel
theorem dX3_add_68 : decode cX3_add 68 = .ok (.putfield 28, 3) := by decide +kernel
theorem dX3_add_71 : decode cX3_add 71 = .ok (.return_, 1) := by decide +kernel
theorem dX3_kind_0 : decode cX3_kind 0 = .ok (.aload_n 0, 1) := by decide +kernel
theorem dX3_kind_1 : decode cX3_kind 1 = .ok (.iload_n 1, 1) := by decide +kernel
theorem dX3_kind_2 : decode cX3_kind 2 = .ok (.invokevirtual 36, 3) := by decide +kernel
theorem dX3_kind_5 : decode cX3_kind 5 = .ok (.ifCond .eq 12, 3) := by decide +kernel
theorem dX3_kind_8 : decode cX3_kind 8 = .ok (.aload_n 0, 1) := by decide +kernel
theorem dX3_kind_9 : decode cX3_kind 9 = .ok (.getfield 11, 3) := by decide +kernel
theorem dX3_kind_12 : decode cX3_kind 12 = .ok (.iload_n 1, 1) := by decide +kernel
theorem dX3_kind_13 : decode cX3_kind 13 = .ok (.iaload, 1) := by decide +kernel
theorem dX3_kind_14 : decode cX3_kind 14 = .ok (.goto 4, 3) := by decide +kernel
theorem dX3_kind_17 : decode cX3_kind 17 = .ok (.iconst 3, 1) := by decide +kernel
theorem dX3_kind_18 : decode cX3_kind 18 = .ok (.ireturn, 1) := by decide +kernel
theorem dX3_link_0 : decode cX3_link 0 = .ok (.aload_n 0, 1) := by decide +kernel
theorem dX3_link_1 : decode cX3_link 1 = .ok (.iload_n 1, 1) := by decide +kernel
theorem dX3_link_2 : decode cX3_link 2 = .ok (.invokevirtual 36, 3) := by decide +kernel
theorem dX3_link_5 : decode cX3_link 5 = .ok (.ifCond .eq 12, 3) := by decide +kernel
theorem dX3_link_8 : decode cX3_link 8 = .ok (.aload_n 0, 1) := by decide +kernel
theorem dX3_link_9 : decode cX3_link 9 = .ok (.getfield 21, 3) := by decide +kernel
theorem dX3_link_12 : decode cX3_link 12 = .ok (.iload_n 1, 1) := by decide +kernel
theorem dX3_link_13 : decode cX3_link 13 = .ok (.iaload, 1) := by decide +kernel
theorem dX3_link_14 : decode cX3_link 14 = .ok (.goto 4, 3) := by decide +kernel
theorem dX3_link_17 : decode cX3_link 17 = .ok (.iconst 0, 1) := by decide +kernel
theorem dX3_link_18 : decode cX3_link 18 = .ok (.ireturn, 1) := by decide +kernel
theorem dX3_count_0 : decode cX3_count 0 = .ok (.aload_n 0, 1) := by decide +kernel
theorem dX3_count_1 : decode cX3_count 1 = .ok (.iload_n 1, 1) := by decide +kernel
theorem dX3_count_2 : decode cX3_count 2 = .ok (.invokevirtual 36, 3) := by decide +kernel
theorem dX3_count_5 : decode cX3_count 5 = .ok (.ifCond .eq 12, 3) := by decide +kernel
theorem dX3_count_8 : decode cX3_count 8 = .ok (.aload_n 0, 1) := by decide +kernel
theorem dX3_count_9 : decode cX3_count 9 = .ok (.getfield 18, 3) := by decide +kernel
theorem dX3_count_12 : decode cX3_count 12 = .ok (.iload_n 1, 1) := by decide +kernel
theorem dX3_count_13 : decode cX3_count 13 = .ok (.iaload, 1) := by decide +kernel
theorem dX3_count_14 : decode cX3_count 14 = .ok (.goto 4, 3) := by decide +kernel
theorem dX3_count_17 : decode cX3_count 17 = .ok (.iconst 0, 1) := by decide +kernel
theorem dX3_count_18 : decode cX3_count 18 = .ok (.ireturn, 1) := by decide +kernel
theorem dX3_place_0 : decode cX3_place 0 = .ok (.aload_n 0, 1) := by decide +kernel
theorem dX3_place_1 : decode cX3_place 1 = .ok (.iload_n 1, 1) := by decide +kernel
theorem dX3_place_2 : decode cX3_place 2 = .ok (.invokevirtual 36, 3) := by decide +kernel
theorem dX3_place_5 : decode cX3_place 5 = .ok (.ifCond .eq 12, 3) := by decide +kernel
theorem dX3_place_8 : decode cX3_place 8 = .ok (.aload_n 0, 1) := by decide +kernel
theorem dX3_place_9 : decode cX3_place 9 = .ok (.getfield 15, 3) := by decide +kernel
theorem dX3_place_12 : decode cX3_place 12 = .ok (.iload_n 1, 1) := by decide +kernel
theorem dX3_place_13 : decode cX3_place 13 = .ok (.iaload, 1) := by decide +kernel
theorem dX3_place_14 : decode cX3_place 14 = .ok (.goto 4, 3) := by decide +kernel
theorem dX3_place_17 : decode cX3_place 17 = .ok (.iconst 0, 1) := by decide +kernel
theorem dX3_place_18 : decode cX3_place 18 = .ok (.ireturn, 1) := by decide +kernel
theorem dX3_takes_0 : decode cX3_takes 0 = .ok (.aload_n 0, 1) := by decide +kernel
theorem dX3_takes_1 : decode cX3_takes 1 = .ok (.iload_n 1, 1) := by decide +kernel
theorem dX3_takes_2 : decode cX3_takes 2 = .ok (.invokevirtual 36, 3) := by decide +kernel
theorem dX3_takes_5 : decode cX3_takes 5 = .ok (.ifCond .eq 12, 3) := by decide +kernel
theorem dX3_takes_8 : decode cX3_takes 8 = .ok (.aload_n 0, 1) := by decide +kernel
theorem dX3_takes_9 : decode cX3_takes 9 = .ok (.getfield 24, 3) := by decide +kernel
theorem dX3_takes_12 : decode cX3_takes 12 = .ok (.iload_n 1, 1) := by decide +kernel
theorem dX3_takes_13 : decode cX3_takes 13 = .ok (.laload, 1) := by decide +kernel
theorem dX3_takes_14 : decode cX3_takes 14 = .ok (.goto 4, 3) := by decide +kernel
theorem dX3_takes_17 : decode cX3_takes 17 = .ok (.lconst 0, 1) := by decide +kernel
theorem dX3_takes_18 : decode cX3_takes 18 = .ok (.lreturn, 1) := by decide +kernel
theorem dX3_has_0 : decode cX3_has 0 = .ok (.iload_n 1, 1) := by decide +kernel
theorem dX3_has_1 : decode cX3_has 1 = .ok (.ifCond .lt 15, 3) := by decide +kernel
theorem dX3_has_4 : decode cX3_has 4 = .ok (.iload_n 1, 1) := by decide +kernel
theorem dX3_has_5 : decode cX3_has 5 = .ok (.aload_n 0, 1) := by decide +kernel
theorem dX3_has_6 : decode cX3_has 6 = .ok (.getfield 28, 3) := by decide +kernel
theorem dX3_has_9 : decode cX3_has 9 = .ok (.if_icmp .ge 7, 3) := by decide +kernel
theorem dX3_has_12 : decode cX3_has 12 = .ok (.iconst 1, 1) := by decide +kernel
theorem dX3_has_13 : decode cX3_has 13 = .ok (.goto 4, 3) := by decide +kernel
theorem dX3_has_16 : decode cX3_has 16 = .ok (.iconst 0, 1) := by decide +kernel
theorem dX3_has_17 : decode cX3_has 17 = .ok (.ireturn, 1) := by decide +kernel
theorem dX6_cable_0 : decode cX6_cable 0 = .ok (.bipush 100, 2) := by decide +kernel
theorem dX6_cable_2 : decode cX6_cable 2 = .ok (.iload_n 0, 1) := by decide +kernel
theorem dX6_cable_3 : decode cX6_cable 3 = .ok (.imul, 1) := by decide +kernel
theorem dX6_cable_4 : decode cX6_cable 4 = .ok (.bipush 10, 2) := by decide +kernel
theorem dX6_cable_6 : decode cX6_cable 6 = .ok (.iload_n 1, 1) := by decide +kernel
theorem dX6_cable_7 : decode cX6_cable 7 = .ok (.imul, 1) := by decide +kernel
theorem dX6_cable_8 : decode cX6_cable 8 = .ok (.iadd, 1) := by decide +kernel
theorem dX6_cable_9 : decode cX6_cable 9 = .ok (.iload_n 2, 1) := by decide +kernel
theorem dX6_cable_10 : decode cX6_cable 10 = .ok (.iadd, 1) := by decide +kernel
theorem dX6_cable_11 : decode cX6_cable 11 = .ok (.ireturn, 1) := by decide +kernel
theorem dX6_isCable_0 : decode cX6_isCable 0 = .ok (.iload_n 0, 1) := by decide +kernel
theorem dX6_isCable_1 : decode cX6_isCable 1 = .ok (.bipush 10, 2) := by decide +kernel
theorem dX6_isCable_3 : decode cX6_isCable 3 = .ok (.if_icmp .lt 7, 3) := by decide +kernel
theorem dX6_isCable_6 : decode cX6_isCable 6 = .ok (.iconst 1, 1) := by decide +kernel
theorem dX6_isCable_7 : decode cX6_isCable 7 = .ok (.goto 4, 3) := by decide +kernel
theorem dX6_isCable_10 : decode cX6_isCable 10 = .ok (.iconst 0, 1) := by decide +kernel
theorem dX6_isCable_11 : decode cX6_isCable 11 = .ok (.ireturn, 1) := by decide +kernel
theorem dX6_cableA_0 : decode cX6_cableA 0 = .ok (.iload_n 0, 1) := by decide +kernel
theorem dX6_cableA_1 : decode cX6_cableA 1 = .ok (.bipush 100, 2) := by decide +kernel
theorem dX6_cableA_3 : decode cX6_cableA 3 = .ok (.idiv, 1) := by decide +kernel
theorem dX6_cableA_4 : decode cX6_cableA 4 = .ok (.ireturn, 1) := by decide +kernel
theorem dX6_cableB_0 : decode cX6_cableB 0 = .ok (.iload_n 0, 1) := by decide +kernel
theorem dX6_cableB_1 : decode cX6_cableB 1 = .ok (.bipush 10, 2) := by decide +kernel
theorem dX6_cableB_3 : decode cX6_cableB 3 = .ok (.idiv, 1) := by decide +kernel
theorem dX6_cableB_4 : decode cX6_cableB 4 = .ok (.bipush 10, 2) := by decide +kernel
theorem dX6_cableB_6 : decode cX6_cableB 6 = .ok (.irem, 1) := by decide +kernel
theorem dX6_cableB_7 : decode cX6_cableB 7 = .ok (.iconst 1, 1) := by decide +kernel
theorem dX6_cableB_8 : decode cX6_cableB 8 = .ok (.isub, 1) := by decide +kernel
theorem dX6_cableB_9 : decode cX6_cableB 9 = .ok (.ireturn, 1) := by decide +kernel
theorem dX6_isBehind_0 : decode cX6_isBehind 0 = .ok (.iload_n 0, 1) := by decide +kernel
theorem dX6_isBehind_1 : decode cX6_isBehind 1 = .ok (.bipush 10, 2) := by decide +kernel
theorem dX6_isBehind_3 : decode cX6_isBehind 3 = .ok (.irem, 1) := by decide +kernel
theorem dX6_isBehind_4 : decode cX6_isBehind 4 = .ok (.iconst 1, 1) := by decide +kernel
theorem dX6_isBehind_5 : decode cX6_isBehind 5 = .ok (.if_icmp .ne 7, 3) := by decide +kernel
theorem dX6_isBehind_8 : decode cX6_isBehind 8 = .ok (.iconst 1, 1) := by decide +kernel
theorem dX6_isBehind_9 : decode cX6_isBehind 9 = .ok (.goto 4, 3) := by decide +kernel
theorem dX6_isBehind_12 : decode cX6_isBehind 12 = .ok (.iconst 0, 1) := by decide +kernel
theorem dX6_isBehind_13 : decode cX6_isBehind 13 = .ok (.ireturn, 1) := by decide +kernel
theorem dX6_loopsTaken_0 : decode cX6_loopsTaken 0 = .ok (.iload_n 0, 1) := by decide +kernel
theorem dX6_loopsTaken_1 : decode cX6_loopsTaken 1 = .ok (.ifCond .lt 11, 3) := by decide +kernel
theorem dX6_loopsTaken_4 : decode cX6_loopsTaken 4 = .ok (.iload_n 0, 1) := by decide +kernel
theorem dX6_loopsTaken_5 : decode cX6_loopsTaken 5 = .ok (.getstatic 9, 3) := by decide +kernel
theorem dX6_loopsTaken_8 : decode cX6_loopsTaken 8 = .ok (.arraylength, 1) := by decide +kernel
theorem dX6_loopsTaken_9 : decode cX6_loopsTaken 9 = .ok (.if_icmp .lt 13, 3) := by decide +kernel
theorem dX6_loopsTaken_12 : decode cX6_loopsTaken 12 = .ok (.iload_n 0, 1) := by decide +kernel
theorem dX6_loopsTaken_13 : decode cX6_loopsTaken 13 = .ok (.invokestatic 13, 3) := by decide +kernel
theorem dX6_loopsTaken_16 : decode cX6_loopsTaken 16 = .ok (.iload_n 0, 1) := by decide +kernel
theorem dX6_loopsTaken_17 : decode cX6_loopsTaken 17 = .ok (.invokestatic 17, 3) := by decide +kernel
theorem dX6_loopsTaken_20 : decode cX6_loopsTaken 20 = .ok (.iadd, 1) := by decide +kernel
theorem dX6_loopsTaken_21 : decode cX6_loopsTaken 21 = .ok (.ireturn, 1) := by decide +kernel
theorem dX6_loopsTaken_22 : decode cX6_loopsTaken 22 = .ok (.getstatic 9, 3) := by decide +kernel
theorem dX6_loopsTaken_25 : decode cX6_loopsTaken 25 = .ok (.iload_n 0, 1) := by decide +kernel
theorem dX6_loopsTaken_26 : decode cX6_loopsTaken 26 = .ok (.iaload, 1) := by decide +kernel
theorem dX6_loopsTaken_27 : decode cX6_loopsTaken 27 = .ok (.ireturn, 1) := by decide +kernel
theorem dX6_loopsMade_0 : decode cX6_loopsMade 0 = .ok (.iload_n 0, 1) := by decide +kernel
theorem dX6_loopsMade_1 : decode cX6_loopsMade 1 = .ok (.ifCond .lt 11, 3) := by decide +kernel
theorem dX6_loopsMade_4 : decode cX6_loopsMade 4 = .ok (.iload_n 0, 1) := by decide +kernel
theorem dX6_loopsMade_5 : decode cX6_loopsMade 5 = .ok (.getstatic 20, 3) := by decide +kernel
theorem dX6_loopsMade_8 : decode cX6_loopsMade 8 = .ok (.arraylength, 1) := by decide +kernel
theorem dX6_loopsMade_9 : decode cX6_loopsMade 9 = .ok (.if_icmp .lt 13, 3) := by decide +kernel
theorem dX6_loopsMade_12 : decode cX6_loopsMade 12 = .ok (.iload_n 0, 1) := by decide +kernel
theorem dX6_loopsMade_13 : decode cX6_loopsMade 13 = .ok (.invokestatic 13, 3) := by decide +kernel
theorem dX6_loopsMade_16 : decode cX6_loopsMade 16 = .ok (.iload_n 0, 1) := by decide +kernel
theorem dX6_loopsMade_17 : decode cX6_loopsMade 17 = .ok (.invokestatic 17, 3) := by decide +kernel
theorem dX6_loopsMade_20 : decode cX6_loopsMade 20 = .ok (.iadd, 1) := by decide +kernel
theorem dX6_loopsMade_21 : decode cX6_loopsMade 21 = .ok (.ireturn, 1) := by decide +kernel
theorem dX6_loopsMade_22 : decode cX6_loopsMade 22 = .ok (.getstatic 20, 3) := by decide +kernel
theorem dX6_loopsMade_25 : decode cX6_loopsMade 25 = .ok (.iload_n 0, 1) := by decide +kernel
theorem dX6_loopsMade_26 : decode cX6_loopsMade 26 = .ok (.iaload, 1) := by decide +kernel
theorem dX6_loopsMade_27 : decode cX6_loopsMade 27 = .ok (.ireturn, 1) := by decide +kernel
theorem dX6_seenFromBehind_0 : decode cX6_seenFromBehind 0 = .ok (.iload_n 0, 1) := by decide +kernel
theorem dX6_seenFromBehind_1 : decode cX6_seenFromBehind 1 = .ok (.ifCond .ne 5, 3) := by decide +kernel
theorem dX6_seenFromBehind_4 : decode cX6_seenFromBehind 4 = .ok (.iconst 1, 1) := by decide +kernel
theorem dX6_seenFromBehind_5 : decode cX6_seenFromBehind 5 = .ok (.ireturn, 1) := by decide +kernel
theorem dX6_seenFromBehind_6 : decode cX6_seenFromBehind 6 = .ok (.iload_n 0, 1) := by decide +kernel
theorem dX6_seenFromBehind_7 : decode cX6_seenFromBehind 7 = .ok (.iconst 1, 1) := by decide +kernel
theorem dX6_seenFromBehind_8 : decode cX6_seenFromBehind 8 = .ok (.if_icmp .ne 7, 3) := by decide +kernel
theorem dX6_seenFromBehind_11 : decode cX6_seenFromBehind 11 = .ok (.iconst 0, 1) := by decide +kernel
theorem dX6_seenFromBehind_12 : decode cX6_seenFromBehind 12 = .ok (.goto 4, 3) := by decide +kernel
theorem dX6_seenFromBehind_15 : decode cX6_seenFromBehind 15 = .ok (.iload_n 0, 1) := by decide +kernel
theorem dX6_seenFromBehind_16 : decode cX6_seenFromBehind 16 = .ok (.ireturn, 1) := by decide +kernel
theorem dX6_nameOf_0 : decode cX6_nameOf 0 = .ok (.iload_n 0, 1) := by decide +kernel
theorem dX6_nameOf_1 : decode cX6_nameOf 1 = .ok (.tableswitch 78 0 8 #[51, 54, 57, 60, 63, 66, 69, 72, 75], 51) := by decide +kernel
theorem dX6_nameOf_52 : decode cX6_nameOf 52 = .ok (.ldc 23, 2) := by decide +kernel
theorem dX6_nameOf_54 : decode cX6_nameOf 54 = .ok (.areturn, 1) := by decide +kernel
theorem dX6_nameOf_55 : decode cX6_nameOf 55 = .ok (.ldc 25, 2) := by decide +kernel
theorem dX6_nameOf_57 : decode cX6_nameOf 57 = .ok (.areturn, 1) := by decide +kernel
theorem dX6_nameOf_58 : decode cX6_nameOf 58 = .ok (.ldc 27, 2) := by decide +kernel
theorem dX6_nameOf_60 : decode cX6_nameOf 60 = .ok (.areturn, 1) := by decide +kernel
theorem dX6_nameOf_61 : decode cX6_nameOf 61 = .ok (.ldc 29, 2) := by decide +kernel
theorem dX6_nameOf_63 : decode cX6_nameOf 63 = .ok (.areturn, 1) := by decide +kernel
theorem dX6_nameOf_64 : decode cX6_nameOf 64 = .ok (.ldc 31, 2) := by decide +kernel
theorem dX6_nameOf_66 : decode cX6_nameOf 66 = .ok (.areturn, 1) := by decide +kernel
theorem dX6_nameOf_67 : decode cX6_nameOf 67 = .ok (.ldc 33, 2) := by decide +kernel
theorem dX6_nameOf_69 : decode cX6_nameOf 69 = .ok (.areturn, 1) := by decide +kernel
theorem dX6_nameOf_70 : decode cX6_nameOf 70 = .ok (.ldc 35, 2) := by decide +kernel
theorem dX6_nameOf_72 : decode cX6_nameOf 72 = .ok (.areturn, 1) := by decide +kernel
theorem dX6_nameOf_73 : decode cX6_nameOf 73 = .ok (.ldc 37, 2) := by decide +kernel
theorem dX6_nameOf_75 : decode cX6_nameOf 75 = .ok (.areturn, 1) := by decide +kernel
theorem dX6_nameOf_76 : decode cX6_nameOf 76 = .ok (.ldc 39, 2) := by decide +kernel
theorem dX6_nameOf_78 : decode cX6_nameOf 78 = .ok (.areturn, 1) := by decide +kernel
theorem dX6_nameOf_79 : decode cX6_nameOf 79 = .ok (.ldc 41, 2) := by decide +kernel
theorem dX6_nameOf_81 : decode cX6_nameOf 81 = .ok (.areturn, 1) := by decide +kernel
theorem dX7_init_0 : decode cX7_init 0 = .ok (.aload_n 0, 1) := by decide +kernel
theorem dX7_init_1 : decode cX7_init 1 = .ok (.invokespecial 1, 3) := by decide +kernel
theorem dX7_init_4 : decode cX7_init 4 = .ok (.aload_n 0, 1) := by decide +kernel
theorem dX7_init_5 : decode cX7_init 5 = .ok (.sipush 200, 3) := by decide +kernel
theorem dX7_init_8 : decode cX7_init 8 = .ok (.newarray .int, 2) := by decide +kernel
theorem dX7_init_10 : decode cX7_init 10 = .ok (.putfield 9, 3) := by decide +kernel
theorem dX7_init_13 : decode cX7_init 13 = .ok (.return_, 1) := by decide +kernel
theorem dX7_length_0 : decode cX7_length 0 = .ok (.aload_n 0, 1) := by decide +kernel
theorem dX7_length_1 : decode cX7_length 1 = .ok (.getfield 13, 3) := by decide +kernel
theorem dX7_length_4 : decode cX7_length 4 = .ok (.ireturn, 1) := by decide +kernel
theorem dX7_hasRoomFor_0 : decode cX7_hasRoomFor 0 = .ok (.iload_n 1, 1) := by decide +kernel
theorem dX7_hasRoomFor_1 : decode cX7_hasRoomFor 1 = .ok (.sipush 200, 3) := by decide +kernel
theorem dX7_hasRoomFor_4 : decode cX7_hasRoomFor 4 = .ok (.aload_n 0, 1) := by decide +kernel
theorem dX7_hasRoomFor_5 : decode cX7_hasRoomFor 5 = .ok (.getfield 13, 3) := by decide +kernel
theorem dX7_hasRoomFor_8 : decode cX7_hasRoomFor 8 = .ok (.isub, 1) := by decide +kernel
theorem dX7_hasRoomFor_9 : decode cX7_hasRoomFor 9 = .ok (.if_icmp .gt 7, 3) := by decide +kernel
theorem dX7_hasRoomFor_12 : decode cX7_hasRoomFor 12 = .ok (.iconst 1, 1) := by decide +kernel
theorem dX7_hasRoomFor_13 : decode cX7_hasRoomFor 13 = .ok (.goto 4, 3) := by decide +kernel
theorem dX7_hasRoomFor_16 : decode cX7_hasRoomFor 16 = .ok (.iconst 0, 1) := by decide +kernel
theorem dX7_hasRoomFor_17 : decode cX7_hasRoomFor 17 = .ok (.ireturn, 1) := by decide +kernel
theorem dX7_add_0 : decode cX7_add 0 = .ok (.iload_n 3, 1) := by decide +kernel
theorem dX7_add_1 : decode cX7_add 1 = .ok (.iconst 1, 1) := by decide +kernel
theorem dX7_add_2 : decode cX7_add 2 = .ok (.isub, 1) := by decide +kernel
theorem dX7_add_3 : decode cX7_add 3 = .ok (.istore 4, 2) := by decide +kernel
theorem dX7_add_5 : decode cX7_add 5 = .ok (.iload 4, 2) := by decide +kernel
theorem dX7_add_7 : decode cX7_add 7 = .ok (.ifCond .lt 50, 3) := by decide +kernel
theorem dX7_add_10 : decode cX7_add 10 = .ok (.aload_n 0, 1) := by decide +kernel
theorem dX7_add_11 : decode cX7_add 11 = .ok (.getfield 13, 3) := by decide +kernel
theorem dX7_add_14 : decode cX7_add 14 = .ok (.sipush 200, 3) := by decide +kernel
theorem dX7_add_17 : decode cX7_add 17 = .ok (.if_icmp .ge 40, 3) := by decide +kernel
theorem dX7_add_20 : decode cX7_add 20 = .ok (.aload_n 0, 1) := by decide +kernel
theorem dX7_add_21 : decode cX7_add 21 = .ok (.getfield 9, 3) := by decide +kernel
theorem dX7_add_24 : decode cX7_add 24 = .ok (.aload_n 0, 1) := by decide +kernel
theorem dX7_add_25 : decode cX7_add 25 = .ok (.getfield 13, 3) := by decide +kernel
theorem dX7_add_28 : decode cX7_add 28 = .ok (.lload_n 1, 1) := by decide +kernel
theorem dX7_add_29 : decode cX7_add 29 = .ok (.bipush 8, 2) := by decide +kernel
theorem dX7_add_31 : decode cX7_add 31 = .ok (.iload 4, 2) := by decide +kernel
theorem dX7_add_33 : decode cX7_add 33 = .ok (.imul, 1) := by decide +kernel
theorem dX7_add_34 : decode cX7_add 34 = .ok (.lushr, 1) := by decide +kernel
theorem dX7_add_35 : decode cX7_add 35 = .ok (.l2i, 1) := by decide +kernel
theorem dX7_add_36 : decode cX7_add 36 = .ok (.sipush 255, 3) := by decide +kernel
theorem dX7_add_39 : decode cX7_add 39 = .ok (.iand, 1) := by decide +kernel
theorem dX7_add_40 : decode cX7_add 40 = .ok (.iastore, 1) := by decide +kernel
theorem dX7_add_41 : decode cX7_add 41 = .ok (.aload_n 0, 1) := by decide +kernel
theorem dX7_add_42 : decode cX7_add 42 = .ok (.dup, 1) := by decide +kernel
theorem dX7_add_43 : decode cX7_add 43 = .ok (.getfield 13, 3) := by decide +kernel
theorem dX7_add_46 : decode cX7_add 46 = .ok (.iconst 1, 1) := by decide +kernel
theorem dX7_add_47 : decode cX7_add 47 = .ok (.iadd, 1) := by decide +kernel
theorem dX7_add_48 : decode cX7_add 48 = .ok (.putfield 13, 3) := by decide +kernel
theorem dX7_add_51 : decode cX7_add 51 = .ok (.iinc 4 (-1), 3) := by decide +kernel
theorem dX7_add_54 : decode cX7_add 54 = .ok (.goto (-49), 3) := by decide +kernel
theorem dX7_add_57 : decode cX7_add 57 = .ok (.return_, 1) := by decide +kernel
theorem dX7_clear_0 : decode cX7_clear 0 = .ok (.aload_n 0, 1) := by decide +kernel
theorem dX7_clear_1 : decode cX7_clear 1 = .ok (.iconst 0, 1) := by decide +kernel
theorem dX7_clear_2 : decode cX7_clear 2 = .ok (.putfield 13, 3) := by decide +kernel
theorem dX7_clear_5 : decode cX7_clear 5 = .ok (.return_, 1) := by decide +kernel
theorem dX7_byteAt_0 : decode cX7_byteAt 0 = .ok (.iload_n 1, 1) := by decide +kernel
theorem dX7_byteAt_1 : decode cX7_byteAt 1 = .ok (.ifCond .lt 20, 3) := by decide +kernel
theorem dX7_byteAt_4 : decode cX7_byteAt 4 = .ok (.iload_n 1, 1) := by decide +kernel
theorem dX7_byteAt_5 : decode cX7_byteAt 5 = .ok (.aload_n 0, 1) := by decide +kernel
theorem dX7_byteAt_6 : decode cX7_byteAt 6 = .ok (.getfield 13, 3) := by decide +kernel
theorem dX7_byteAt_9 : decode cX7_byteAt 9 = .ok (.if_icmp .ge 12, 3) := by decide +kernel
theorem dX7_byteAt_12 : decode cX7_byteAt 12 = .ok (.aload_n 0, 1) := by decide +kernel
theorem dX7_byteAt_13 : decode cX7_byteAt 13 = .ok (.getfield 9, 3) := by decide +kernel
theorem dX7_byteAt_16 : decode cX7_byteAt 16 = .ok (.iload_n 1, 1) := by decide +kernel
theorem dX7_byteAt_17 : decode cX7_byteAt 17 = .ok (.iaload, 1) := by decide +kernel
theorem dX7_byteAt_18 : decode cX7_byteAt 18 = .ok (.goto 4, 3) := by decide +kernel
theorem dX7_byteAt_21 : decode cX7_byteAt 21 = .ok (.iconst (-1), 1) := by decide +kernel
theorem dX7_byteAt_22 : decode cX7_byteAt 22 = .ok (.ireturn, 1) := by decide +kernel
end
section
/-! the memory of a system: numbers by their ids, rows of ints by their ids, rows of longs by their ids -/
abbrev kb_S : Type := (Nat → Int32) × (Nat → Nat → Int32) × (Nat → Nat → Int64)
def kb_g (σ : kb_S) (k : Nat) : Int32 := σ.1 k
def kb_a (σ : kb_S) (k : Nat) : Nat → Int32 := σ.2.1 k
def kb_b (σ : kb_S) (k : Nat) : Nat → Int64 := σ.2.2 k
def kb_p (σ : kb_S) (k : Nat) (v : Int32) : kb_S := (va_up σ.1 k v, σ.2)
def kb_ap (σ : kb_S) (k i : Nat) (v : Int32) : kb_S := (σ.1, va_up σ.2.1 k (upd (σ.2.1 k) i v), σ.2.2)
def kb_bp (σ : kb_S) (k i : Nat) (v : Int64) : kb_S := (σ.1, σ.2.1, va_up σ.2.2 k (vp_updL (σ.2.2 k) i v))
/-! what is fixed for a launch: classes and slots, the classes of arrays, addresses of what was there before -/
abbrev kb_V : Type := va_G × (Nat → ClassId) × (Nat → Nat)
abbrev kb_tys (V : kb_V) : List (ClassId × FieldType) := [(V.2.1 0, .int), (V.2.1 1, .long), (V.2.1 2, .boolean)]
def kb_TAKES : Nat → Int32 := fun j => ([1, 1, 1, 2, 2, 3, 1, 0, 1, 0] : List Int32).getD j 0
def kb_MAKES : Nat → Int32 := fun j => ([1, 1, 1, 1, 1, 1, 2, 1, 0, 1] : List Int32).getD j 0
def kb_OFFS : Nat → Int32 := fun j => ([0, 80, 3280, 4880] : List Int32).getD j 0
/-- a static row of ints, never written -/
def kb_z (C n : String) (q len : Nat) (f : Nat → Int32) (A : Nat → Prop) (U : State) (H : Heap) : Prop := va_Z C n "[I" (.ref q) A U H ∧ va_X q len f U H ∧ q < H.size ∧ ¬ A q
theorem kb_z.mv {C n : String} {q len : Nat} {f : Nat → Int32} {A : Nat → Prop} {u U : State} {H H1 : Heap} (hvm : u.vm.Alike U.vm) (hs : H.size ≤ H1.size) (hq : ∀ a : Nat, a < H.size → ¬ A a → H1[a]? = H[a]?) (h : kb_z C n q len f A u H) : kb_z C n q len f A U H1 :=
  ⟨(h.1.moved hvm).kept hq, (h.2.1.moved hvm).kept (hq q h.2.2.1 h.2.2.2), Nat.lt_of_lt_of_le h.2.2.1 hs, h.2.2.2⟩
def kb_Z (V : kb_V) (A : Nat → Prop) (U : State) : Prop := kb_z "KnitBench$Stitch" "TAKES" (V.2.2 0) 10 kb_TAKES A U U.heap ∧ kb_z "KnitBench$Stitch" "MAKES" (V.2.2 1) 10 kb_MAKES A U U.heap ∧ kb_z "KnitBench$Shortest" "OFFSETS" (V.2.2 2) 4 kb_OFFS A U U.heap
def kb_E (V : kb_V) (A : Nat → Prop) (U : State) : Prop := va_K V.1 vwCl (kb_tys V) U ∧ kb_Z V A U
theorem kb_E.mv {V : kb_V} {A : Nat → Prop} {u U : State} (hW : u.WarmedH U.vm) (hs : u.heap.size ≤ U.heap.size) (hq : ∀ a : Nat, a < u.heap.size → ¬ A a → U.heap[a]? = u.heap[a]?) (h : kb_E V A u) : kb_E V A U :=
  ⟨va_K.moved hW.alike h.1, kb_z.mv hW.alike hs hq h.2.1, kb_z.mv hW.alike hs hq h.2.2.1, kb_z.mv hW.alike hs hq h.2.2.2⟩
/-- a method's contract: called with these arguments in this world it returns o, and the world is W' -/
def kb_pre (V : kb_V) (A : Nat → Prop) (W : va_W) (U : State) : Prop := kb_E V A U ∧ va_P V.1 vwCl W U.heap ∧ va_D A W ∧ ∀ q, U.heap.size ≤ q → A q
def kb_post (V : kb_V) (A : Nat → Prop) (o : Option Value) (W' : va_W) : Array Value → State → Outcome → State → Prop := fun _ st oc t => oc = .returned o ∧ va_P V.1 vwCl W' t.heap ∧ va_D A W' ∧ va_F A st t
def kb_T (l : Launch) (y : MethodName) (cc : ByteArray) (nL : Nat) (ret : Option FieldType) (rm : Room) (V : kb_V) (A : Nat → Prop) (as : List Value) (W : va_W) (o : Option Value) (W' : va_W) (mc ms : Nat) : Prop :=
  Met l y (Cond.code y cc nL ret :: kb_TB) rm (va_Pc as (kb_pre V A W)) (kb_post V A o W') mc ms A
theorem kb_blind {V : kb_V} {A : Nat → Prop} {as : List Value} {W : va_W} : FrameBlind (va_Pc as (kb_pre V A W)) := fun a U g mk h =>
  ⟨h.1, kb_E.mv (u := U) (State.WarmedH.refl U) (Nat.le_refl _) (fun _ _ _ => rfl) h.2.1, h.2.2.1, h.2.2.2.1, h.2.2.2.2⟩
/-- what is fixed while a method's body runs -/
def kb_C (p : Program) (s : State) (m : MethodId) (args : Array Value) (meth : Method) (c : Code) (cc : ByteArray) (nL : Nat) (own : String) (w0 : Cond) (ret : Option FieldType) (V : kb_V) (A : Nat → Prop) : Prop :=
  CallFix p m c cc nL s args (w0 :: kb_TB) own ∧ kb_E V A s ∧ (∀ q, s.heap.size ≤ q → A q) ∧ meth.sig.returnType = ret ∧ meth.locks = false
def kb_J (p : Program) (l : Launch) (e : Env) (R : Room) (s : State) (m : MethodId) (args : Array Value) (below : List Frame) (meth : Method) (c : Code) (nL : Nat) (V : kb_V) (A : Nat → Prop) (k n : Nat) (Q : State → Prop) (pc : Nat) (L : List (Nat × Value)) (st : List Value) (ws : va_W) : Prop :=
  ∀ (H : Heap) (locs : List Loc) (ls : Array Slot), va_P V.1 vwCl ws H → va_D A ws → va_S A s.heap H locs → lv_has ls nL L → W p l e R s m args below meth c H locs k n Q (F0 m pc ls st)
section KBR
variable {p : Program} {l : Launch} {e : Env} {R : Room} {s : State} {m : MethodId} {args : Array Value} {below : List Frame} {meth : Method} {c : Code} {k n : Nat} {Q : State → Prop}
variable {cc : ByteArray} {nL : Nat} {own : String} {w0 : Cond} {ret : Option FieldType} {V : kb_V} {A : Nat → Prop} {pc : Nat} {L L2 : List (Nat × Value)} {st : List Value} {ws ws2 : va_W}
theorem kb_w (C : kb_C p s m args meth c cc nL own w0 ret V A) {w : Cond} (h : w ∈ kb_TB) : w.before args s = true := C.1.2.2.2.2 _ (List.mem_cons_of_mem _ h)
theorem kj_sub (ks : List Nat) (hl : lv_pick L ks = L2) (K : kb_J p l e R s m args below meth c nL V A k n Q pc L2 st ws) : kb_J p l e R s m args below meth c nL V A k n Q pc L st ws :=
  fun H locs ls hP hD hS h => K H locs ls hP hD hS (lv_sub h ks hl)
theorem kj_widen {k2 n2 : Nat} (h1 : k ≤ k2) (h2 : n ≤ n2) (K : kb_J p l e R s m args below meth c nL V A k2 n2 Q pc L st ws) : kb_J p l e R s m args below meth c nL V A k n Q pc L st ws :=
  fun H locs ls hP hD hS h => W.widen h1 h2 (K H locs ls hP hD hS h)

theorem kj_iconst {i : Int} {v : Int32} (C : kb_C p s m args meth c cc nL own w0 ret V A) (d : decode cc pc = .ok (.iconst i, 1)) (hv : Int32.ofInt i = v) (K : kb_J p l e R s m args below meth c nL V A k n Q (pc + 1) L (.int v :: st) ws) : kb_J p l e R s m args below meth c nL V A k n Q pc L st ws :=
  fun H locs ls hP hD hS hl => lv_iconst C.1.1 C.1.2.1 d hv (K H locs ls hP hD hS hl)
theorem kj_bipush {i : Int} {v : Int32} (C : kb_C p s m args meth c cc nL own w0 ret V A) (d : decode cc pc = .ok (.bipush i, 2)) (hv : (Int8.ofInt i).toInt32 = v) (K : kb_J p l e R s m args below meth c nL V A k n Q (pc + 2) L (.int v :: st) ws) : kb_J p l e R s m args below meth c nL V A k n Q pc L st ws :=
  fun H locs ls hP hD hS hl => lv_bipush C.1.1 C.1.2.1 d hv (K H locs ls hP hD hS hl)
theorem kj_sipush {i : Int} {v : Int32} (C : kb_C p s m args meth c cc nL own w0 ret V A) (d : decode cc pc = .ok (.sipush i, 3)) (hv : (Int16.ofInt i).toInt32 = v) (K : kb_J p l e R s m args below meth c nL V A k n Q (pc + 3) L (.int v :: st) ws) : kb_J p l e R s m args below meth c nL V A k n Q pc L st ws :=
  fun H locs ls hP hD hS hl => lv_sipush C.1.1 C.1.2.1 d hv (K H locs ls hP hD hS hl)
theorem kj_lconst {i : Fin 2} {v : Int64} (C : kb_C p s m args meth c cc nL own w0 ret V A) (d : decode cc pc = .ok (.lconst i, 1)) (hv : Int64.ofNat (i : Nat) = v) (K : kb_J p l e R s m args below meth c nL V A k n Q (pc + 1) L (.long v :: st) ws) : kb_J p l e R s m args below meth c nL V A k n Q pc L st ws :=
  fun H locs ls hP hD hS hl => lv_lconst C.1.1 C.1.2.1 d hv (K H locs ls hP hD hS hl)
theorem kj_ldc {i : Nat} {v : Int32} (C : kb_C p s m args meth c cc nL own w0 ret V A) (d : decode cc pc = .ok (.ldc i, 2)) (hw : Jvm.Cond.constant own i v ∈ kb_TB) (K : kb_J p l e R s m args below meth c nL V A k n Q (pc + 2) L (.int v :: st) ws) : kb_J p l e R s m args below meth c nL V A k n Q pc L st ws :=
  fun H locs ls hP hD hS hl => lv_ldc C.1.1 C.1.2.1 C.1.2.2.2.1 (kb_w C hw) d (K H locs ls hP hD hS hl)
theorem kj_ldc2 {i : Nat} {v : Int64} (C : kb_C p s m args meth c cc nL own w0 ret V A) (d : decode cc pc = .ok (.ldc2_w i, 3)) (hw : Jvm.Cond.constantLong own i v ∈ kb_TB) (K : kb_J p l e R s m args below meth c nL V A k n Q (pc + 3) L (.long v :: st) ws) : kb_J p l e R s m args below meth c nL V A k n Q pc L st ws :=
  fun H locs ls hP hD hS hl => lv_ldc2 C.1.1 C.1.2.1 C.1.2.2.2.1 (kb_w C hw) d (K H locs ls hP hD hS hl)
theorem kj_iload_n {q : Fin 4} {i : Nat} {x : Int32} (C : kb_C p s m args meth c cc nL own w0 ret V A) (j : Nat) (d : decode cc pc = .ok (.iload_n q, 1)) (hi : (q : Nat) = i) (hj : L[j]? = some (i, .int x)) (K : kb_J p l e R s m args below meth c nL V A k n Q (pc + 1) L (.int x :: st) ws) : kb_J p l e R s m args below meth c nL V A k n Q pc L st ws :=
  fun H locs ls hP hD hS hl => lv_iload_n C.1.1 C.1.2.1 d hi (lv_at hl j hj) (K H locs ls hP hD hS hl)
theorem kj_iload {i : Nat} {x : Int32} (C : kb_C p s m args meth c cc nL own w0 ret V A) (j : Nat) (d : decode cc pc = .ok (.iload i, 2)) (hj : L[j]? = some (i, .int x)) (K : kb_J p l e R s m args below meth c nL V A k n Q (pc + 2) L (.int x :: st) ws) : kb_J p l e R s m args below meth c nL V A k n Q pc L st ws :=
  fun H locs ls hP hD hS hl => lv_iload C.1.1 C.1.2.1 d (lv_at hl j hj) (K H locs ls hP hD hS hl)
theorem kj_istore_n {q : Fin 4} {i : Nat} {x : Int32} (C : kb_C p s m args meth c cc nL own w0 ret V A) (ks : List Nat) (d : decode cc pc = .ok (.istore_n q, 1)) (hi : (q : Nat) = i) (hn : i < nL) (hl2 : lv_pick ((i, Value.int x) :: L.filter (fun q => !(q.1 == i) && !(q.1 + 1 == i && q.2.category == 2))) ks = L2) (K : kb_J p l e R s m args below meth c nL V A k n Q (pc + 1) L2 st ws) : kb_J p l e R s m args below meth c nL V A k n Q pc L (.int x :: st) ws :=
  fun H locs ls hP hD hS hl => lv_istore_n C.1.1 C.1.2.1 d hi hl hn rfl (fun ls2 h2 => K H locs ls2 hP hD hS (lv_sub h2 ks hl2))
theorem kj_istore {i : Nat} {x : Int32} (C : kb_C p s m args meth c cc nL own w0 ret V A) (ks : List Nat) (d : decode cc pc = .ok (.istore i, 2)) (hn : i < nL) (hl2 : lv_pick ((i, Value.int x) :: L.filter (fun q => !(q.1 == i) && !(q.1 + 1 == i && q.2.category == 2))) ks = L2) (K : kb_J p l e R s m args below meth c nL V A k n Q (pc + 2) L2 st ws) : kb_J p l e R s m args below meth c nL V A k n Q pc L (.int x :: st) ws :=
  fun H locs ls hP hD hS hl => lv_istore C.1.1 C.1.2.1 d hl hn rfl (fun ls2 h2 => K H locs ls2 hP hD hS (lv_sub h2 ks hl2))
theorem kj_lload_n {q : Fin 4} {i : Nat} {x : Int64} (C : kb_C p s m args meth c cc nL own w0 ret V A) (j : Nat) (d : decode cc pc = .ok (.lload_n q, 1)) (hi : (q : Nat) = i) (hj : L[j]? = some (i, .long x)) (K : kb_J p l e R s m args below meth c nL V A k n Q (pc + 1) L (.long x :: st) ws) : kb_J p l e R s m args below meth c nL V A k n Q pc L st ws :=
  fun H locs ls hP hD hS hl => lv_lload_n C.1.1 C.1.2.1 d hi (lv_at hl j hj) (K H locs ls hP hD hS hl)
theorem kj_lload {i : Nat} {x : Int64} (C : kb_C p s m args meth c cc nL own w0 ret V A) (j : Nat) (d : decode cc pc = .ok (.lload i, 2)) (hj : L[j]? = some (i, .long x)) (K : kb_J p l e R s m args below meth c nL V A k n Q (pc + 2) L (.long x :: st) ws) : kb_J p l e R s m args below meth c nL V A k n Q pc L st ws :=
  fun H locs ls hP hD hS hl => lv_lload C.1.1 C.1.2.1 d (lv_at hl j hj) (K H locs ls hP hD hS hl)
theorem kj_lstore_n {q : Fin 4} {i : Nat} {x : Int64} (C : kb_C p s m args meth c cc nL own w0 ret V A) (ks : List Nat) (d : decode cc pc = .ok (.lstore_n q, 1)) (hi : (q : Nat) = i) (hn : i + 1 < nL) (hl2 : lv_pick ((i, Value.long x) :: L.filter (fun q => !(q.1 == i) && (!(q.1 == i + 1) && !(q.1 + 1 == i && q.2.category == 2)))) ks = L2) (K : kb_J p l e R s m args below meth c nL V A k n Q (pc + 1) L2 st ws) : kb_J p l e R s m args below meth c nL V A k n Q pc L (.long x :: st) ws :=
  fun H locs ls hP hD hS hl => lv_lstore_n C.1.1 C.1.2.1 d hi hl hn rfl (fun ls2 h2 => K H locs ls2 hP hD hS (lv_sub h2 ks hl2))
theorem kj_lstore {i : Nat} {x : Int64} (C : kb_C p s m args meth c cc nL own w0 ret V A) (ks : List Nat) (d : decode cc pc = .ok (.lstore i, 2)) (hn : i + 1 < nL) (hl2 : lv_pick ((i, Value.long x) :: L.filter (fun q => !(q.1 == i) && (!(q.1 == i + 1) && !(q.1 + 1 == i && q.2.category == 2)))) ks = L2) (K : kb_J p l e R s m args below meth c nL V A k n Q (pc + 2) L2 st ws) : kb_J p l e R s m args below meth c nL V A k n Q pc L (.long x :: st) ws :=
  fun H locs ls hP hD hS hl => lv_lstore C.1.1 C.1.2.1 d hl hn rfl (fun ls2 h2 => K H locs ls2 hP hD hS (lv_sub h2 ks hl2))
theorem kj_aload_n {q : Fin 4} {i : Nat} {x : Nat} (C : kb_C p s m args meth c cc nL own w0 ret V A) (j : Nat) (d : decode cc pc = .ok (.aload_n q, 1)) (hi : (q : Nat) = i) (hj : L[j]? = some (i, .ref x)) (K : kb_J p l e R s m args below meth c nL V A k n Q (pc + 1) L (.ref x :: st) ws) : kb_J p l e R s m args below meth c nL V A k n Q pc L st ws :=
  fun H locs ls hP hD hS hl => lv_aload_n C.1.1 C.1.2.1 d hi (lv_at hl j hj) (K H locs ls hP hD hS hl)
theorem kj_aload {i : Nat} {x : Nat} (C : kb_C p s m args meth c cc nL own w0 ret V A) (j : Nat) (d : decode cc pc = .ok (.aload i, 2)) (hj : L[j]? = some (i, .ref x)) (K : kb_J p l e R s m args below meth c nL V A k n Q (pc + 2) L (.ref x :: st) ws) : kb_J p l e R s m args below meth c nL V A k n Q pc L st ws :=
  fun H locs ls hP hD hS hl => lv_aload C.1.1 C.1.2.1 d (lv_at hl j hj) (K H locs ls hP hD hS hl)
theorem kj_astore_n {q : Fin 4} {i : Nat} {x : Nat} (C : kb_C p s m args meth c cc nL own w0 ret V A) (ks : List Nat) (d : decode cc pc = .ok (.astore_n q, 1)) (hi : (q : Nat) = i) (hn : i < nL) (hl2 : lv_pick ((i, Value.ref x) :: L.filter (fun q => !(q.1 == i) && !(q.1 + 1 == i && q.2.category == 2))) ks = L2) (K : kb_J p l e R s m args below meth c nL V A k n Q (pc + 1) L2 st ws) : kb_J p l e R s m args below meth c nL V A k n Q pc L (.ref x :: st) ws :=
  fun H locs ls hP hD hS hl => lv_astore_n C.1.1 C.1.2.1 d hi hl hn rfl (fun ls2 h2 => K H locs ls2 hP hD hS (lv_sub h2 ks hl2))
theorem kj_astore {i : Nat} {x : Nat} (C : kb_C p s m args meth c cc nL own w0 ret V A) (ks : List Nat) (d : decode cc pc = .ok (.astore i, 2)) (hn : i < nL) (hl2 : lv_pick ((i, Value.ref x) :: L.filter (fun q => !(q.1 == i) && !(q.1 + 1 == i && q.2.category == 2))) ks = L2) (K : kb_J p l e R s m args below meth c nL V A k n Q (pc + 2) L2 st ws) : kb_J p l e R s m args below meth c nL V A k n Q pc L (.ref x :: st) ws :=
  fun H locs ls hP hD hS hl => lv_astore C.1.1 C.1.2.1 d hl hn rfl (fun ls2 h2 => K H locs ls2 hP hD hS (lv_sub h2 ks hl2))
theorem kj_iinc {i : Nat} {z : Int} {x v : Int32} (C : kb_C p s m args meth c cc nL own w0 ret V A) (j : Nat) (ks : List Nat) (d : decode cc pc = .ok (.iinc i z, 3)) (hj : L[j]? = some (i, .int x)) (hv : x + Int32.ofInt z = v) (hn : i < nL) (hl2 : lv_pick ((i, Value.int v) :: L.filter (fun q => !(q.1 == i) && !(q.1 + 1 == i && q.2.category == 2))) ks = L2) (K : kb_J p l e R s m args below meth c nL V A k n Q (pc + 3) L2 st ws) : kb_J p l e R s m args below meth c nL V A k n Q pc L st ws :=
  fun H locs ls hP hD hS hl => lv_iinc C.1.1 C.1.2.1 d hl hj hv hn rfl (fun ls2 h2 => K H locs ls2 hP hD hS (lv_sub h2 ks hl2))
theorem kj_iadd {x y : Int32} (C : kb_C p s m args meth c cc nL own w0 ret V A) (d : decode cc pc = .ok (.iadd, 1)) (K : kb_J p l e R s m args below meth c nL V A k n Q (pc + 1) L (.int (x + y) :: st) ws) : kb_J p l e R s m args below meth c nL V A k n Q pc L (.int y :: .int x :: st) ws :=
  fun H locs ls hP hD hS hl => lv_iadd C.1.1 C.1.2.1 d (K H locs ls hP hD hS hl)
theorem kj_isub {x y : Int32} (C : kb_C p s m args meth c cc nL own w0 ret V A) (d : decode cc pc = .ok (.isub, 1)) (K : kb_J p l e R s m args below meth c nL V A k n Q (pc + 1) L (.int (x - y) :: st) ws) : kb_J p l e R s m args below meth c nL V A k n Q pc L (.int y :: .int x :: st) ws :=
  fun H locs ls hP hD hS hl => lv_isub C.1.1 C.1.2.1 d (K H locs ls hP hD hS hl)
theorem kj_imul {x y : Int32} (C : kb_C p s m args meth c cc nL own w0 ret V A) (d : decode cc pc = .ok (.imul, 1)) (K : kb_J p l e R s m args below meth c nL V A k n Q (pc + 1) L (.int (x * y) :: st) ws) : kb_J p l e R s m args below meth c nL V A k n Q pc L (.int y :: .int x :: st) ws :=
  fun H locs ls hP hD hS hl => lv_imul C.1.1 C.1.2.1 d (K H locs ls hP hD hS hl)
theorem kj_iand {x y : Int32} (C : kb_C p s m args meth c cc nL own w0 ret V A) (d : decode cc pc = .ok (.iand, 1)) (K : kb_J p l e R s m args below meth c nL V A k n Q (pc + 1) L (.int (x &&& y) :: st) ws) : kb_J p l e R s m args below meth c nL V A k n Q pc L (.int y :: .int x :: st) ws :=
  fun H locs ls hP hD hS hl => lv_iand C.1.1 C.1.2.1 d (K H locs ls hP hD hS hl)
theorem kj_ior {x y : Int32} (C : kb_C p s m args meth c cc nL own w0 ret V A) (d : decode cc pc = .ok (.ior, 1)) (K : kb_J p l e R s m args below meth c nL V A k n Q (pc + 1) L (.int (x ||| y) :: st) ws) : kb_J p l e R s m args below meth c nL V A k n Q pc L (.int y :: .int x :: st) ws :=
  fun H locs ls hP hD hS hl => lv_ior C.1.1 C.1.2.1 d (K H locs ls hP hD hS hl)
theorem kj_ixor {x y : Int32} (C : kb_C p s m args meth c cc nL own w0 ret V A) (d : decode cc pc = .ok (.ixor, 1)) (K : kb_J p l e R s m args below meth c nL V A k n Q (pc + 1) L (.int (x ^^^ y) :: st) ws) : kb_J p l e R s m args below meth c nL V A k n Q pc L (.int y :: .int x :: st) ws :=
  fun H locs ls hP hD hS hl => lv_ixor C.1.1 C.1.2.1 d (K H locs ls hP hD hS hl)
theorem kj_ishl {x y : Int32} (C : kb_C p s m args meth c cc nL own w0 ret V A) (d : decode cc pc = .ok (.ishl, 1)) (K : kb_J p l e R s m args below meth c nL V A k n Q (pc + 1) L (.int (x <<< (y &&& 31)) :: st) ws) : kb_J p l e R s m args below meth c nL V A k n Q pc L (.int y :: .int x :: st) ws :=
  fun H locs ls hP hD hS hl => lv_ishl C.1.1 C.1.2.1 d (K H locs ls hP hD hS hl)
theorem kj_ishr {x y : Int32} (C : kb_C p s m args meth c cc nL own w0 ret V A) (d : decode cc pc = .ok (.ishr, 1)) (K : kb_J p l e R s m args below meth c nL V A k n Q (pc + 1) L (.int (x >>> (y &&& 31)) :: st) ws) : kb_J p l e R s m args below meth c nL V A k n Q pc L (.int y :: .int x :: st) ws :=
  fun H locs ls hP hD hS hl => lv_ishr C.1.1 C.1.2.1 d (K H locs ls hP hD hS hl)
theorem kj_idiv {x y : Int32} (C : kb_C p s m args meth c cc nL own w0 ret V A) (d : decode cc pc = .ok (.idiv, 1)) (hne : ¬ y = 0) (K : kb_J p l e R s m args below meth c nL V A k n Q (pc + 1) L (.int (x / y) :: st) ws) : kb_J p l e R s m args below meth c nL V A k n Q pc L (.int y :: .int x :: st) ws :=
  fun H locs ls hP hD hS hl => lv_idiv C.1.1 C.1.2.1 d hne (K H locs ls hP hD hS hl)
theorem kj_irem {x y : Int32} (C : kb_C p s m args meth c cc nL own w0 ret V A) (d : decode cc pc = .ok (.irem, 1)) (hne : ¬ y = 0) (K : kb_J p l e R s m args below meth c nL V A k n Q (pc + 1) L (.int (x - x / y * y) :: st) ws) : kb_J p l e R s m args below meth c nL V A k n Q pc L (.int y :: .int x :: st) ws :=
  fun H locs ls hP hD hS hl => lv_irem C.1.1 C.1.2.1 d hne (K H locs ls hP hD hS hl)
theorem kj_ineg {x : Int32} (C : kb_C p s m args meth c cc nL own w0 ret V A) (d : decode cc pc = .ok (.ineg, 1)) (K : kb_J p l e R s m args below meth c nL V A k n Q (pc + 1) L (.int (-x) :: st) ws) : kb_J p l e R s m args below meth c nL V A k n Q pc L (.int x :: st) ws :=
  fun H locs ls hP hD hS hl => lv_ineg C.1.1 C.1.2.1 d (K H locs ls hP hD hS hl)
theorem kj_ladd {x y : Int64} (C : kb_C p s m args meth c cc nL own w0 ret V A) (d : decode cc pc = .ok (.ladd, 1)) (K : kb_J p l e R s m args below meth c nL V A k n Q (pc + 1) L (.long (x + y) :: st) ws) : kb_J p l e R s m args below meth c nL V A k n Q pc L (.long y :: .long x :: st) ws :=
  fun H locs ls hP hD hS hl => lv_ladd C.1.1 C.1.2.1 d (K H locs ls hP hD hS hl)
theorem kj_lsub {x y : Int64} (C : kb_C p s m args meth c cc nL own w0 ret V A) (d : decode cc pc = .ok (.lsub, 1)) (K : kb_J p l e R s m args below meth c nL V A k n Q (pc + 1) L (.long (x - y) :: st) ws) : kb_J p l e R s m args below meth c nL V A k n Q pc L (.long y :: .long x :: st) ws :=
  fun H locs ls hP hD hS hl => lv_lsub C.1.1 C.1.2.1 d (K H locs ls hP hD hS hl)
theorem kj_lmul {x y : Int64} (C : kb_C p s m args meth c cc nL own w0 ret V A) (d : decode cc pc = .ok (.lmul, 1)) (K : kb_J p l e R s m args below meth c nL V A k n Q (pc + 1) L (.long (x * y) :: st) ws) : kb_J p l e R s m args below meth c nL V A k n Q pc L (.long y :: .long x :: st) ws :=
  fun H locs ls hP hD hS hl => lv_lmul C.1.1 C.1.2.1 d (K H locs ls hP hD hS hl)
theorem kj_land {x y : Int64} (C : kb_C p s m args meth c cc nL own w0 ret V A) (d : decode cc pc = .ok (.land, 1)) (K : kb_J p l e R s m args below meth c nL V A k n Q (pc + 1) L (.long (x &&& y) :: st) ws) : kb_J p l e R s m args below meth c nL V A k n Q pc L (.long y :: .long x :: st) ws :=
  fun H locs ls hP hD hS hl => lv_land C.1.1 C.1.2.1 d (K H locs ls hP hD hS hl)
theorem kj_lor {x y : Int64} (C : kb_C p s m args meth c cc nL own w0 ret V A) (d : decode cc pc = .ok (.lor, 1)) (K : kb_J p l e R s m args below meth c nL V A k n Q (pc + 1) L (.long (x ||| y) :: st) ws) : kb_J p l e R s m args below meth c nL V A k n Q pc L (.long y :: .long x :: st) ws :=
  fun H locs ls hP hD hS hl => lv_lor C.1.1 C.1.2.1 d (K H locs ls hP hD hS hl)
theorem kj_lxor {x y : Int64} (C : kb_C p s m args meth c cc nL own w0 ret V A) (d : decode cc pc = .ok (.lxor, 1)) (K : kb_J p l e R s m args below meth c nL V A k n Q (pc + 1) L (.long (x ^^^ y) :: st) ws) : kb_J p l e R s m args below meth c nL V A k n Q pc L (.long y :: .long x :: st) ws :=
  fun H locs ls hP hD hS hl => lv_lxor C.1.1 C.1.2.1 d (K H locs ls hP hD hS hl)
theorem kj_ldiv {x y : Int64} (C : kb_C p s m args meth c cc nL own w0 ret V A) (d : decode cc pc = .ok (.ldiv, 1)) (hne : ¬ y = 0) (K : kb_J p l e R s m args below meth c nL V A k n Q (pc + 1) L (.long (x / y) :: st) ws) : kb_J p l e R s m args below meth c nL V A k n Q pc L (.long y :: .long x :: st) ws :=
  fun H locs ls hP hD hS hl => lv_ldiv C.1.1 C.1.2.1 d hne (K H locs ls hP hD hS hl)
theorem kj_lrem {x y : Int64} (C : kb_C p s m args meth c cc nL own w0 ret V A) (d : decode cc pc = .ok (.lrem, 1)) (hne : ¬ y = 0) (K : kb_J p l e R s m args below meth c nL V A k n Q (pc + 1) L (.long (x - x / y * y) :: st) ws) : kb_J p l e R s m args below meth c nL V A k n Q pc L (.long y :: .long x :: st) ws :=
  fun H locs ls hP hD hS hl => lv_lrem C.1.1 C.1.2.1 d hne (K H locs ls hP hD hS hl)
theorem kj_lshl {x : Int64} {y : Int32} (C : kb_C p s m args meth c cc nL own w0 ret V A) (d : decode cc pc = .ok (.lshl, 1)) (K : kb_J p l e R s m args below meth c nL V A k n Q (pc + 1) L (.long (x <<< (y.toInt64 &&& 63)) :: st) ws) : kb_J p l e R s m args below meth c nL V A k n Q pc L (.int y :: .long x :: st) ws :=
  fun H locs ls hP hD hS hl => lv_lshl C.1.1 C.1.2.1 d rfl (K H locs ls hP hD hS hl)
theorem kj_lshr {x : Int64} {y : Int32} (C : kb_C p s m args meth c cc nL own w0 ret V A) (d : decode cc pc = .ok (.lshr, 1)) (K : kb_J p l e R s m args below meth c nL V A k n Q (pc + 1) L (.long (x >>> (y.toInt64 &&& 63)) :: st) ws) : kb_J p l e R s m args below meth c nL V A k n Q pc L (.int y :: .long x :: st) ws :=
  fun H locs ls hP hD hS hl => lv_lshr C.1.1 C.1.2.1 d rfl (K H locs ls hP hD hS hl)
theorem kj_lushr {x : Int64} {y : Int32} (C : kb_C p s m args meth c cc nL own w0 ret V A) (d : decode cc pc = .ok (.lushr, 1)) (K : kb_J p l e R s m args below meth c nL V A k n Q (pc + 1) L (.long ((x.toUInt64 >>> (y.toInt64.toUInt64 &&& Int64.toUInt64 63)).toInt64) :: st) ws) : kb_J p l e R s m args below meth c nL V A k n Q pc L (.int y :: .long x :: st) ws :=
  fun H locs ls hP hD hS hl => lv_lushr C.1.1 C.1.2.1 d rfl (K H locs ls hP hD hS hl)
theorem kj_lcmp {x y : Int64} (C : kb_C p s m args meth c cc nL own w0 ret V A) (d : decode cc pc = .ok (.lcmp, 1)) (K : kb_J p l e R s m args below meth c nL V A k n Q (pc + 1) L (.int (lg_cmp x y) :: st) ws) : kb_J p l e R s m args below meth c nL V A k n Q pc L (.long y :: .long x :: st) ws :=
  fun H locs ls hP hD hS hl => W.lcmp C.1.1 C.1.2.1 d (K H locs ls hP hD hS hl)
theorem kj_i2l {x : Int32} (C : kb_C p s m args meth c cc nL own w0 ret V A) (d : decode cc pc = .ok (.i2l, 1)) (K : kb_J p l e R s m args below meth c nL V A k n Q (pc + 1) L (.long x.toInt64 :: st) ws) : kb_J p l e R s m args below meth c nL V A k n Q pc L (.int x :: st) ws :=
  fun H locs ls hP hD hS hl => lv_i2l C.1.1 C.1.2.1 d rfl (K H locs ls hP hD hS hl)
theorem kj_l2i {x : Int64} (C : kb_C p s m args meth c cc nL own w0 ret V A) (d : decode cc pc = .ok (.l2i, 1)) (K : kb_J p l e R s m args below meth c nL V A k n Q (pc + 1) L (.int x.toInt32 :: st) ws) : kb_J p l e R s m args below meth c nL V A k n Q pc L (.long x :: st) ws :=
  fun H locs ls hP hD hS hl => lv_l2i C.1.1 C.1.2.1 d rfl (K H locs ls hP hD hS hl)
theorem kj_dup {v : Value} (C : kb_C p s m args meth c cc nL own w0 ret V A) (d : decode cc pc = .ok (.dup, 1)) (hv : v.category = 1) (K : kb_J p l e R s m args below meth c nL V A k n Q (pc + 1) L (v :: v :: st) ws) : kb_J p l e R s m args below meth c nL V A k n Q pc L (v :: st) ws :=
  fun H locs ls hP hD hS hl => lv_dup C.1.1 C.1.2.1 d hv (K H locs ls hP hD hS hl)
theorem kj_pop {v : Value} (C : kb_C p s m args meth c cc nL own w0 ret V A) (d : decode cc pc = .ok (.pop, 1)) (hv : v.category = 1) (K : kb_J p l e R s m args below meth c nL V A k n Q (pc + 1) L st ws) : kb_J p l e R s m args below meth c nL V A k n Q pc L (v :: st) ws :=
  fun H locs ls hP hD hS hl => lv_pop C.1.1 C.1.2.1 d hv (K H locs ls hP hD hS hl)
theorem kj_dup2 {v u : Value} (C : kb_C p s m args meth c cc nL own w0 ret V A) (d : decode cc pc = .ok (.dup2, 1)) (hv : v.category = 1) (hu : u.category = 1) (K : kb_J p l e R s m args below meth c nL V A k n Q (pc + 1) L (v :: u :: v :: u :: st) ws) : kb_J p l e R s m args below meth c nL V A k n Q pc L (v :: u :: st) ws :=
  fun H locs ls hP hD hS hl => lv_dup2_11 C.1.1 C.1.2.1 d hv hu (K H locs ls hP hD hS hl)
theorem kj_if_eq {x : Int32} {off : Int} (tgt : Nat) (C : kb_C p s m args meth c cc nL own w0 ret V A) (d : decode cc pc = .ok (.ifCond .eq off, 3)) (ht : (pc : Int) + off = (tgt : Int)) (kt : x = 0 → kb_J p l e R s m args below meth c nL V A k n Q tgt L st ws) (kf : ¬ x = 0 → kb_J p l e R s m args below meth c nL V A k n Q (pc + 3) L st ws) : kb_J p l e R s m args below meth c nL V A k n Q pc L (.int x :: st) ws :=
  fun H locs ls hP hD hS hl => lv_if_eq C.1.1 C.1.2.1 d ht (fun q => kt q H locs ls hP hD hS hl) (fun q => kf q H locs ls hP hD hS hl)
theorem kj_if_ne {x : Int32} {off : Int} (tgt : Nat) (C : kb_C p s m args meth c cc nL own w0 ret V A) (d : decode cc pc = .ok (.ifCond .ne off, 3)) (ht : (pc : Int) + off = (tgt : Int)) (kt : ¬ x = 0 → kb_J p l e R s m args below meth c nL V A k n Q tgt L st ws) (kf : x = 0 → kb_J p l e R s m args below meth c nL V A k n Q (pc + 3) L st ws) : kb_J p l e R s m args below meth c nL V A k n Q pc L (.int x :: st) ws :=
  fun H locs ls hP hD hS hl => lv_if_ne C.1.1 C.1.2.1 d ht (fun q => kt q H locs ls hP hD hS hl) (fun q => kf q H locs ls hP hD hS hl)
theorem kj_if_lt {x : Int32} {off : Int} (tgt : Nat) (C : kb_C p s m args meth c cc nL own w0 ret V A) (d : decode cc pc = .ok (.ifCond .lt off, 3)) (ht : (pc : Int) + off = (tgt : Int)) (kt : x < 0 → kb_J p l e R s m args below meth c nL V A k n Q tgt L st ws) (kf : ¬ x < 0 → kb_J p l e R s m args below meth c nL V A k n Q (pc + 3) L st ws) : kb_J p l e R s m args below meth c nL V A k n Q pc L (.int x :: st) ws :=
  fun H locs ls hP hD hS hl => lv_if_lt C.1.1 C.1.2.1 d ht (fun q => kt q H locs ls hP hD hS hl) (fun q => kf q H locs ls hP hD hS hl)
theorem kj_if_ge {x : Int32} {off : Int} (tgt : Nat) (C : kb_C p s m args meth c cc nL own w0 ret V A) (d : decode cc pc = .ok (.ifCond .ge off, 3)) (ht : (pc : Int) + off = (tgt : Int)) (kt : 0 ≤ x → kb_J p l e R s m args below meth c nL V A k n Q tgt L st ws) (kf : ¬ 0 ≤ x → kb_J p l e R s m args below meth c nL V A k n Q (pc + 3) L st ws) : kb_J p l e R s m args below meth c nL V A k n Q pc L (.int x :: st) ws :=
  fun H locs ls hP hD hS hl => lv_if_ge C.1.1 C.1.2.1 d ht (fun q => kt q H locs ls hP hD hS hl) (fun q => kf q H locs ls hP hD hS hl)
theorem kj_if_gt {x : Int32} {off : Int} (tgt : Nat) (C : kb_C p s m args meth c cc nL own w0 ret V A) (d : decode cc pc = .ok (.ifCond .gt off, 3)) (ht : (pc : Int) + off = (tgt : Int)) (kt : 0 < x → kb_J p l e R s m args below meth c nL V A k n Q tgt L st ws) (kf : ¬ 0 < x → kb_J p l e R s m args below meth c nL V A k n Q (pc + 3) L st ws) : kb_J p l e R s m args below meth c nL V A k n Q pc L (.int x :: st) ws :=
  fun H locs ls hP hD hS hl => lv_if_gt C.1.1 C.1.2.1 d ht (fun q => kt q H locs ls hP hD hS hl) (fun q => kf q H locs ls hP hD hS hl)
theorem kj_if_le {x : Int32} {off : Int} (tgt : Nat) (C : kb_C p s m args meth c cc nL own w0 ret V A) (d : decode cc pc = .ok (.ifCond .le off, 3)) (ht : (pc : Int) + off = (tgt : Int)) (kt : x ≤ 0 → kb_J p l e R s m args below meth c nL V A k n Q tgt L st ws) (kf : ¬ x ≤ 0 → kb_J p l e R s m args below meth c nL V A k n Q (pc + 3) L st ws) : kb_J p l e R s m args below meth c nL V A k n Q pc L (.int x :: st) ws :=
  fun H locs ls hP hD hS hl => lv_if_le C.1.1 C.1.2.1 d ht (fun q => kt q H locs ls hP hD hS hl) (fun q => kf q H locs ls hP hD hS hl)
theorem kj_icmp_eq {x y : Int32} {off : Int} (tgt : Nat) (C : kb_C p s m args meth c cc nL own w0 ret V A) (d : decode cc pc = .ok (.if_icmp .eq off, 3)) (ht : (pc : Int) + off = (tgt : Int)) (kt : x = y → kb_J p l e R s m args below meth c nL V A k n Q tgt L st ws) (kf : ¬ x = y → kb_J p l e R s m args below meth c nL V A k n Q (pc + 3) L st ws) : kb_J p l e R s m args below meth c nL V A k n Q pc L (.int y :: .int x :: st) ws :=
  fun H locs ls hP hD hS hl => lv_icmp_eq C.1.1 C.1.2.1 d ht (fun q => kt q H locs ls hP hD hS hl) (fun q => kf q H locs ls hP hD hS hl)
theorem kj_icmp_ne {x y : Int32} {off : Int} (tgt : Nat) (C : kb_C p s m args meth c cc nL own w0 ret V A) (d : decode cc pc = .ok (.if_icmp .ne off, 3)) (ht : (pc : Int) + off = (tgt : Int)) (kt : ¬ x = y → kb_J p l e R s m args below meth c nL V A k n Q tgt L st ws) (kf : x = y → kb_J p l e R s m args below meth c nL V A k n Q (pc + 3) L st ws) : kb_J p l e R s m args below meth c nL V A k n Q pc L (.int y :: .int x :: st) ws :=
  fun H locs ls hP hD hS hl => lv_icmp_ne C.1.1 C.1.2.1 d ht (fun q => kt q H locs ls hP hD hS hl) (fun q => kf q H locs ls hP hD hS hl)
theorem kj_icmp_lt {x y : Int32} {off : Int} (tgt : Nat) (C : kb_C p s m args meth c cc nL own w0 ret V A) (d : decode cc pc = .ok (.if_icmp .lt off, 3)) (ht : (pc : Int) + off = (tgt : Int)) (kt : x < y → kb_J p l e R s m args below meth c nL V A k n Q tgt L st ws) (kf : ¬ x < y → kb_J p l e R s m args below meth c nL V A k n Q (pc + 3) L st ws) : kb_J p l e R s m args below meth c nL V A k n Q pc L (.int y :: .int x :: st) ws :=
  fun H locs ls hP hD hS hl => lv_icmp_lt C.1.1 C.1.2.1 d ht (fun q => kt q H locs ls hP hD hS hl) (fun q => kf q H locs ls hP hD hS hl)
theorem kj_icmp_ge {x y : Int32} {off : Int} (tgt : Nat) (C : kb_C p s m args meth c cc nL own w0 ret V A) (d : decode cc pc = .ok (.if_icmp .ge off, 3)) (ht : (pc : Int) + off = (tgt : Int)) (kt : y ≤ x → kb_J p l e R s m args below meth c nL V A k n Q tgt L st ws) (kf : ¬ y ≤ x → kb_J p l e R s m args below meth c nL V A k n Q (pc + 3) L st ws) : kb_J p l e R s m args below meth c nL V A k n Q pc L (.int y :: .int x :: st) ws :=
  fun H locs ls hP hD hS hl => lv_icmp_ge C.1.1 C.1.2.1 d ht (fun q => kt q H locs ls hP hD hS hl) (fun q => kf q H locs ls hP hD hS hl)
theorem kj_icmp_gt {x y : Int32} {off : Int} (tgt : Nat) (C : kb_C p s m args meth c cc nL own w0 ret V A) (d : decode cc pc = .ok (.if_icmp .gt off, 3)) (ht : (pc : Int) + off = (tgt : Int)) (kt : y < x → kb_J p l e R s m args below meth c nL V A k n Q tgt L st ws) (kf : ¬ y < x → kb_J p l e R s m args below meth c nL V A k n Q (pc + 3) L st ws) : kb_J p l e R s m args below meth c nL V A k n Q pc L (.int y :: .int x :: st) ws :=
  fun H locs ls hP hD hS hl => lv_icmp_gt C.1.1 C.1.2.1 d ht (fun q => kt q H locs ls hP hD hS hl) (fun q => kf q H locs ls hP hD hS hl)
theorem kj_icmp_le {x y : Int32} {off : Int} (tgt : Nat) (C : kb_C p s m args meth c cc nL own w0 ret V A) (d : decode cc pc = .ok (.if_icmp .le off, 3)) (ht : (pc : Int) + off = (tgt : Int)) (kt : x ≤ y → kb_J p l e R s m args below meth c nL V A k n Q tgt L st ws) (kf : ¬ x ≤ y → kb_J p l e R s m args below meth c nL V A k n Q (pc + 3) L st ws) : kb_J p l e R s m args below meth c nL V A k n Q pc L (.int y :: .int x :: st) ws :=
  fun H locs ls hP hD hS hl => lv_icmp_le C.1.1 C.1.2.1 d ht (fun q => kt q H locs ls hP hD hS hl) (fun q => kf q H locs ls hP hD hS hl)
theorem kj_goto {off : Int} (tgt : Nat) (C : kb_C p s m args meth c cc nL own w0 ret V A) (d : decode cc pc = .ok (.goto off, 3)) (ht : (pc : Int) + off = (tgt : Int)) (K : kb_J p l e R s m args below meth c nL V A k n Q tgt L st ws) : kb_J p l e R s m args below meth c nL V A k n Q pc L st ws :=
  fun H locs ls hP hD hS hl => lv_goto C.1.1 C.1.2.1 d ht (K H locs ls hP hD hS hl)
theorem kj_tabOut {x : Int32} {df lo hi : Int} {offs : Array Int} {len : Nat} (tgt : Nat) (C : kb_C p s m args meth c cc nL own w0 ret V A) (d : decode cc pc = .ok (.tableswitch df lo hi offs, len)) (h : x.toInt < lo ∨ hi < x.toInt) (ht : (pc : Int) + df = (tgt : Int)) (K : kb_J p l e R s m args below meth c nL V A k n Q tgt L st ws) : kb_J p l e R s m args below meth c nL V A k n Q pc L (.int x :: st) ws :=
  fun H locs ls hP hD hS hl => lv_tableOut C.1.1 C.1.2.1 d h ht (K H locs ls hP hD hS hl)
theorem kj_tabIn {x : Int32} {df lo hi off : Int} {offs : Array Int} {len : Nat} (tgt : Nat) (C : kb_C p s m args meth c cc nL own w0 ret V A) (d : decode cc pc = .ok (.tableswitch df lo hi offs, len)) (h1 : ¬ x.toInt < lo) (h2 : ¬ hi < x.toInt) (ho : offs[(x.toInt - lo).toNat]? = some off) (ht : (pc : Int) + off = (tgt : Int)) (K : kb_J p l e R s m args below meth c nL V A k n Q tgt L st ws) : kb_J p l e R s m args below meth c nL V A k n Q pc L (.int x :: st) ws :=
  fun H locs ls hP hD hS hl => lv_tableIn C.1.1 C.1.2.1 d h1 h2 ho ht (K H locs ls hP hD hS hl)
theorem kj_lookup {x : Int32} {df off : Int} {ps : Array (Int × Int)} {len : Nat} (tgt : Nat) (C : kb_C p s m args meth c cc nL own w0 ret V A) (d : decode cc pc = .ok (.lookupswitch df ps, len)) (hp : (ps.toList.zip (ps.toList.drop 1)).all (fun (a, next) => a.1 < next.1) = true) (ho : Op.lookupswitch.offset ps.toList df x.toInt = off) (ht : (pc : Int) + off = (tgt : Int)) (K : kb_J p l e R s m args below meth c nL V A k n Q tgt L st ws) : kb_J p l e R s m args below meth c nL V A k n Q pc L (.int x :: st) ws :=
  fun H locs ls hP hD hS hl => lv_lookup C.1.1 C.1.2.1 d hp ho ht (K H locs ls hP hD hS hl)
/-- a field is read -/
theorem kj_get {C0 ref : String} {T0 : u_T} {N ci index a : Nat} {fs : List Value} {v : Value} (C : kb_C p s m args meth c cc nL own w0 ret V A) (hin : ∀ w ∈ u_ws C0 T0 N, w ∈ kb_TB) (q0 : Nat) (he : ws[q0]? = some (a, .inr (ci, fs))) (hc : vwCl[ci]? = some (C0, T0, N)) (f : Nat) (hk : f < N) (hlink : Cond.fieldLink own index ref (T0 f).2.1 (T0 f).2.2.1 ∈ kb_TB) (hsame : (T0 f).1 = ref) (hv : fs[f]? = some v) (d : decode cc pc = .ok (.getfield index, 3)) (K : kb_J p l e R s m args below meth c nL V A k n Q (pc + 3) L (v :: st) ws) : kb_J p l e R s m args below meth c nL V A k n Q pc L (.ref a :: st) ws :=
  fun H locs ls hP hD hS hl => va_get C.1.1 C.1.2.1 C.1.2.2.2.2 (fun w h => List.mem_cons_of_mem _ (hin w h)) C.1.2.2.2.1 C.2.1.1 hP q0 he hc f hk (kb_w C hlink) (fun x hx => hsame ▸ hx) hv d (K H locs ls hP hD hS hl)
/-- a field is written -/
theorem kj_put {C0 ref : String} {T0 : u_T} {N ci index a : Nat} {fs : List Value} {v : Value} {ty : FieldType} (C : kb_C p s m args meth c cc nL own w0 ret V A) (hin : ∀ w ∈ u_ws C0 T0 N, w ∈ kb_TB) (ty0 : Nat → FieldType) (hty : ∀ f, f < N → parseFieldDescriptor (T0 f).2.2.1 = some (ty0 f)) (hnm : ∀ a, a < N → ∀ b, b < N → a ≠ b → (T0 a).2.1 ≠ (T0 b).2.1) (q0 : Nat) (he : ws[q0]? = some (a, .inr (ci, fs))) (hc : vwCl[ci]? = some (C0, T0, N)) (f : Nat) (hk : f < N) (hlink : Cond.fieldLink own index ref (T0 f).2.1 (T0 f).2.2.1 ∈ kb_TB) (hsame : (T0 f).1 = ref) (hfin : (T0 f).2.2.2 = false) (hd : parseFieldDescriptor (T0 f).2.2.1 = some ty) (hn : narrow ty v = v) (hfit : fits ty v = true) (hlen : f < fs.length) (hw2 : ws.set q0 (a, .inr (ci, fs.set f v)) = ws2) (d : decode cc pc = .ok (.putfield index, 3)) (K : kb_J p l e R s m args below meth c nL V A k n Q (pc + 3) L st ws2) : kb_J p l e R s m args below meth c nL V A k n Q pc L (v :: .ref a :: st) ws := by
  intro H locs ls hP hD hS hl
  subst hw2
  exact va_put C.1.1 C.1.2.1 C.1.2.2.2.2 (fun w h => List.mem_cons_of_mem _ (hin w h)) ty0 hty hnm C.1.2.2.2.1 C.2.1.1 hP hD hS q0 he hc f hk (kb_w C hlink) (fun x hx => hsame ▸ hx) hfin hd hn hfit hlen d (fun H1 locs1 hP1 hD1 hS1 => K H1 locs1 ls hP1 hD1 hS1 hl)
theorem kj_iald {a len : Nat} {f : Nat → Int32} {i : Int32} (C : kb_C p s m args meth c cc nL own w0 ret V A) (q0 : Nat) (he : ws[q0]? = some (a, .inl (V.2.1 0, len, .inl f))) (hin : vp_in i len) (d : decode cc pc = .ok (.iaload, 1)) (K : kb_J p l e R s m args below meth c nL V A k n Q (pc + 1) L (.int (f i.toNatClampNeg) :: st) ws) : kb_J p l e R s m args below meth c nL V A k n Q pc L (.int i :: .ref a :: st) ws :=
  fun H locs ls hP hD hS hl => va_iald C.1.1 C.1.2.1 C.2.1.1 hP q0 0 he rfl hin d (K H locs ls hP hD hS hl)
theorem kj_lald {a len : Nat} {f : Nat → Int64} {i : Int32} (C : kb_C p s m args meth c cc nL own w0 ret V A) (q0 : Nat) (he : ws[q0]? = some (a, .inl (V.2.1 1, len, .inr (.inl f)))) (hin : vp_in i len) (d : decode cc pc = .ok (.laload, 1)) (K : kb_J p l e R s m args below meth c nL V A k n Q (pc + 1) L (.long (f i.toNatClampNeg) :: st) ws) : kb_J p l e R s m args below meth c nL V A k n Q pc L (.int i :: .ref a :: st) ws :=
  fun H locs ls hP hD hS hl => va_lald C.1.1 C.1.2.1 C.2.1.1 hP q0 1 he rfl hin d (K H locs ls hP hD hS hl)
theorem kj_zald {a len : Nat} {f : Nat → Int32} {i : Int32} (C : kb_C p s m args meth c cc nL own w0 ret V A) (q0 : Nat) (he : ws[q0]? = some (a, .inl (V.2.1 2, len, .inl f))) (hin : vp_in i len) (d : decode cc pc = .ok (.baload, 1)) (K : kb_J p l e R s m args below meth c nL V A k n Q (pc + 1) L (.int (f i.toNatClampNeg) :: st) ws) : kb_J p l e R s m args below meth c nL V A k n Q pc L (.int i :: .ref a :: st) ws :=
  fun H locs ls hP hD hS hl => va_zald C.1.1 C.1.2.1 C.2.1.1 hP q0 2 he rfl hin d (K H locs ls hP hD hS hl)
theorem kj_iast {a len : Nat} {f : Nat → Int32} {i x : Int32} (C : kb_C p s m args meth c cc nL own w0 ret V A) (q0 : Nat) (he : ws[q0]? = some (a, .inl (V.2.1 0, len, .inl f))) (hin : vp_in i len) (hw2 : ws.set q0 (a, .inl (V.2.1 0, len, .inl (upd f i.toNatClampNeg x))) = ws2) (d : decode cc pc = .ok (.iastore, 1)) (K : kb_J p l e R s m args below meth c nL V A k n Q (pc + 1) L st ws2) : kb_J p l e R s m args below meth c nL V A k n Q pc L (.int x :: .int i :: .ref a :: st) ws := by
  intro H locs ls hP hD hS hl
  subst hw2
  exact va_iast C.1.1 C.1.2.1 C.2.1.1 hP hD hS q0 0 he rfl hin d (fun H1 locs1 hP1 hD1 hS1 => K H1 locs1 ls hP1 hD1 hS1 hl)
theorem kj_zast {a len : Nat} {f : Nat → Int32} {i x : Int32} (C : kb_C p s m args meth c cc nL own w0 ret V A) (q0 : Nat) (he : ws[q0]? = some (a, .inl (V.2.1 2, len, .inl f))) (hin : vp_in i len) (hw2 : ws.set q0 (a, .inl (V.2.1 2, len, .inl (upd f i.toNatClampNeg (vp_nar .boolean x)))) = ws2) (d : decode cc pc = .ok (.bastore, 1)) (K : kb_J p l e R s m args below meth c nL V A k n Q (pc + 1) L st ws2) : kb_J p l e R s m args below meth c nL V A k n Q pc L (.int x :: .int i :: .ref a :: st) ws := by
  intro H locs ls hP hD hS hl
  subst hw2
  exact va_zast C.1.1 C.1.2.1 C.2.1.1 hP hD hS q0 2 he rfl hin d (fun H1 locs1 hP1 hD1 hS1 => K H1 locs1 ls hP1 hD1 hS1 hl)
theorem kj_last {a len : Nat} {f : Nat → Int64} {i : Int32} {x : Int64} (C : kb_C p s m args meth c cc nL own w0 ret V A) (q0 : Nat) (he : ws[q0]? = some (a, .inl (V.2.1 1, len, .inr (.inl f)))) (hin : vp_in i len) (hw2 : ws.set q0 (a, .inl (V.2.1 1, len, .inr (.inl (vp_updL f i.toNatClampNeg x)))) = ws2) (d : decode cc pc = .ok (.lastore, 1)) (K : kb_J p l e R s m args below meth c nL V A k n Q (pc + 1) L st ws2) : kb_J p l e R s m args below meth c nL V A k n Q pc L (.long x :: .int i :: .ref a :: st) ws := by
  intro H locs ls hP hD hS hl
  subst hw2
  exact va_last C.1.1 C.1.2.1 C.2.1.1 hP hD hS q0 1 he rfl hin d (fun H1 locs1 hP1 hD1 hS1 => K H1 locs1 ls hP1 hD1 hS1 hl)
/-- a static row of ints is named, read, asked for its length -/
theorem kj_gets {C0 nm : String} {q len index : Nat} {f : Nat → Int32} (C : kb_C p s m args meth c cc nL own w0 ret V A) (hz : kb_z C0 nm q len f A s s.heap) (hlink : Cond.fieldLink own index C0 nm "[I" ∈ kb_TB) (d : decode cc pc = .ok (.getstatic index, 3)) (K : kb_J p l e R s m args below meth c nL V A k n Q (pc + 3) L (.ref q :: st) ws) : kb_J p l e R s m args below meth c nL V A k n Q pc L st ws :=
  fun H locs ls hP hD hS hl => va_gets C.1.1 C.1.2.1 hz.1 hS C.1.2.2.2.1 (kb_w C hlink) (fun x hx => hx) d (K H locs ls hP hD hS hl)
theorem kj_sld {C0 nm : String} {q len : Nat} {f : Nat → Int32} {i : Int32} (C : kb_C p s m args meth c cc nL own w0 ret V A) (hz : kb_z C0 nm q len f A s s.heap) (hin : vp_in i len) (d : decode cc pc = .ok (.iaload, 1)) (K : kb_J p l e R s m args below meth c nL V A k n Q (pc + 1) L (.int (f i.toNatClampNeg) :: st) ws) : kb_J p l e R s m args below meth c nL V A k n Q pc L (.int i :: .ref q :: st) ws :=
  fun H locs ls hP hD hS hl => va_sld C.1.1 C.1.2.1 hz.2.1 hz.2.2.1 hz.2.2.2 hS hin d (K H locs ls hP hD hS hl)
theorem kj_slen {C0 nm : String} {q len : Nat} {f : Nat → Int32} (C : kb_C p s m args meth c cc nL own w0 ret V A) (hz : kb_z C0 nm q len f A s s.heap) (d : decode cc pc = .ok (.arraylength, 1)) (K : kb_J p l e R s m args below meth c nL V A k n Q (pc + 1) L (.int (Int32.ofNat len) :: st) ws) : kb_J p l e R s m args below meth c nL V A k n Q pc L (.ref q :: st) ws :=
  fun H locs ls hP hD hS hl => va_slen C.1.1 C.1.2.1 hz.2.1 hz.2.2.1 hz.2.2.2 hS d (K H locs ls hP hD hS hl)

/-- a method's contract out of its body -/
theorem kb_start {y : MethodName} {rm : Room} {as : List Value} {W0 W1 : va_W} {o : Option Value} {mc ms : Nat} (hy : plainName y.cls = true) (ho : y.cls = own) (hn : (lg_sl as).length ≤ nL)
    (body : ∀ (p : Program) (e : Env) (s : State) (m : MethodId) (args : Array Value) (below : List Frame) (meth : Method) (c : Code), kb_C p s m args meth c cc nL own (Cond.code y cc nL ret) ret V A → kb_J p l e rm s m args below meth c nL V A 0 0 (MQ below (kb_post V A o W1) args s mc ms A) 0 (lv_args 0 as) [] W0) :
    kb_T l y cc nL ret rm V A as W0 o W1 mc ms := by
  refine Met.ofW (cc := cc) (maxL := nL) (ret := ret) hy rfl ?_
  intro p e s m args below meth c s₁ B hml hv
  obtain ⟨rfl, hE, hP, hD, hA⟩ := hv
  have hts := atoms_spec (ws := Cond.code y cc nL ret :: kb_TB) B.pre
  have hown : s.vm.findClass own = some m.cls := by rw [← ho]; exact findClass_of_methodNamed B.named
  have hl := lv_entry as (n := nL) hn
  rw [lg_entry_eq]
  exact body p e s m _ below meth c ⟨⟨B.exec, B.bytes, hml, hown, hts⟩, hE, hA, B.returns, B.notSynchronized⟩ s.heap [] _ hP hD va_S.rf hl

theorem kj_iret {v : Int32} (C : kb_C p s m args meth c cc nL own w0 (some .int) V A) (d : decode cc pc = .ok (.ireturn, 1)) : kb_J p l e R s m args below meth c nL V A k n (MQ below (kb_post V A (some (.int v)) ws) args s k n A) pc L [.int v] ws :=
  fun H locs ls hP hD hS hl => W.iret C.1.1 C.1.2.1 C.2.2.2.1 (fun t ht hW => ⟨rfl, by rw [ht]; exact hP, hD, hS.F ht⟩) hS.2.2 d C.2.2.2.2
theorem kj_zret {v : Int32} (C : kb_C p s m args meth c cc nL own w0 (some .boolean) V A) (hv : narrow .boolean (.int v) = .int v) (d : decode cc pc = .ok (.ireturn, 1)) : kb_J p l e R s m args below meth c nL V A k n (MQ below (kb_post V A (some (.int v)) ws) args s k n A) pc L [.int v] ws :=
  fun H locs ls hP hD hS hl => W.zret C.1.1 C.1.2.1 C.2.2.2.1 hv (fun t ht hW => ⟨rfl, by rw [ht]; exact hP, hD, hS.F ht⟩) hS.2.2 d C.2.2.2.2
theorem kj_lret {v : Int64} (C : kb_C p s m args meth c cc nL own w0 (some .long) V A) (d : decode cc pc = .ok (.lreturn, 1)) : kb_J p l e R s m args below meth c nL V A k n (MQ below (kb_post V A (some (.long v)) ws) args s k n A) pc L [.long v] ws :=
  fun H locs ls hP hD hS hl => W.lret C.1.1 C.1.2.1 C.2.2.2.1 (fun t ht hW => ⟨rfl, by rw [ht]; exact hP, hD, hS.F ht⟩) hS.2.2 d C.2.2.2.2
theorem kj_vret (C : kb_C p s m args meth c cc nL own w0 none V A) (d : decode cc pc = .ok (.return_, 1)) : kb_J p l e R s m args below meth c nL V A k n (MQ below (kb_post V A none ws) args s k n A) pc L [] ws :=
  fun H locs ls hP hD hS hl => W.vret C.1.1 C.1.2.1 C.2.2.2.1 (fun t ht hW => ⟨rfl, by rw [ht]; exact hP, hD, hS.F ht⟩) hS.2.2 d C.2.2.2.2
theorem kj_aret {v : Nat} {nm : String} (C : kb_C p s m args meth c cc nL own w0 (some (.object nm)) V A) (d : decode cc pc = .ok (.areturn, 1)) : kb_J p l e R s m args below meth c nL V A k n (MQ below (kb_post V A (some (.ref v)) ws) args s k n A) pc L [.ref v] ws :=
  fun H locs ls hP hD hS hl => W.aret C.1.1 C.1.2.1 C.2.2.2.1 (Or.inl ⟨_, rfl⟩) (Or.inr ⟨_, rfl⟩) (fun t ht hW => ⟨rfl, by rw [ht]; exact hP, hD, hS.F ht⟩) hS.2.2 d C.2.2.2.2
/-- behind a call whose contract is known -/
theorem kj_go {a9 : Array Value} {o9 : Option Value} {rest st0 : List Value} {mc ms : Nat} {H : Heap} {locs : List Loc} {ls : Array Slot} (hS : va_S A s.heap H locs) (hl : lv_has ls nL L)
    (hr : va_Run p l e R s m args below meth c H locs k n mc ms (F0 m pc ls st0) rest (kb_post V A o9 ws2 a9) A) (K : kb_J p l e R s m args below meth c nL V A (k + mc) (n + ms) Q (pc + 3) L (o9.toList ++ rest) ws2) : W p l e R s m args below meth c H locs k n Q (F0 m pc ls st0) := by
  intro T hT X
  obtain ⟨v, st₀, t, T', L9, h0, X', hL, e1, e2, ⟨hv, hp1, hd1, hz, hk⟩, go⟩ := hr T hT X
  cases hv
  rw [h0] at hz hk
  obtain ⟨t2, a1, b1⟩ := K T'.heap (locs ++ L9) ls (by rw [e1]; exact hp1) hd1
    ⟨Nat.le_trans hS.1 (by rw [e1]; exact hz), fun q h1 h2 => by rw [e1, hk q (Nat.lt_of_lt_of_le h1 hS.1) h2]; exact hS.2.1 q h1 h2, fun q hq => by
      rcases List.mem_append.mp hq with h | h
      · exact hS.2.2 q h
      · exact hL q h⟩ hl T' rfl X'
  exact ⟨t2, go t2 a1, b1⟩
theorem kb_preU (C : kb_C p s m args meth c cc nL own w0 ret V A) {H : Heap} {locs : List Loc} {as : List Value} (hP : va_P V.1 vwCl ws H) (hD : va_D A ws) (hS : va_S A s.heap H locs) : ∀ U : State, U.heap = H → s.WarmedH U.vm → va_Pc as (kb_pre V A ws) as.toArray U := fun U hU hW =>
  ⟨rfl, kb_E.mv hW (by rw [hU]; exact hS.1) (fun a h1 h2 => by rw [hU]; exact hS.2.1 a h1 h2) C.2.1, by rw [hU]; exact hP, hD, fun q h => C.2.2.1 q (Nat.le_trans hS.1 (by rw [← hU]; exact h))⟩
/-- a method of an object is called -/
theorem kj_callV {y : MethodName} {rm : Room} {as rest : List Value} {o9 : Option Value} {mc ms index maxL ci b : Nat} {bytes : ByteArray} {ret9 : Option FieldType} {C0 : String} {fs : List Value} {r0 : vw_C} (C : kb_C p s m args meth c cc nL own w0 ret V A) (hM : kb_T l y bytes maxL ret9 rm V A (.ref b :: as) ws o9 ws2 mc ms) (h1 : Cond.code y bytes maxL ret9 ∈ kb_TB) (h2 : Cond.methodLink own index y ∈ kb_TB) (h3 : Cond.instanceMethod y ∈ kb_TB) (h4 : Cond.selects C0 y y ∈ kb_TB) (h5 : Cond.initialized C0 ∈ kb_TB) (hrc : rm.cells = mc) (hrs : rm.slots = ms)
    (hd : y.cls = C0 ∧ y.cls ≠ "java/lang/invoke/MethodHandle" ∧ y.cls ≠ "java/lang/invoke/VarHandle" ∧ (parseMethodDescriptor y.desc).map (fun d => d.parameters.length) = some as.length) (hR : rm.frames + 1 ≤ R.frames ∧ 8 + (maxL + 11) + rm.locals ≤ R.locals) (q0 : Nat) (he : ws[q0]? = some (b, .inr (ci, fs))) (hc : vwCl[ci]? = some r0) (hr0 : r0.1 = C0) (hst : as.reverse ++ .ref b :: rest = st) (hroom : (rest.map fun v => v.category).sum ≤ 8) (hcs : k + mc ≤ R.cells ∧ n + ms ≤ R.slots) (d : decode cc pc = .ok (.invokevirtual index, 3))
    (K : kb_J p l e R s m args below meth c nL V A (k + mc) (n + ms) Q (pc + 3) L (o9.toList ++ rest) ws2) : kb_J p l e R s m args below meth c nL V A k n Q pc L st ws := by
  intro H locs ls hP hD hS hl
  subst hst
  subst hr0
  exact kj_go hS hl (va_runV C.1 hM (cwV as.length C.1.2.2.2.2 (kb_gV h1 h2 h3 h4 h5) rfl hrc hrs hd hR) ⟨kb_blind, va_recv C.2.1.1 hP hc he, kb_preU C hP hD hS⟩ rfl rfl hl.1 rfl (lv_room hroom) d hcs) K
/-- a static method is called -/
theorem kj_callS {y : MethodName} {rm : Room} {as rest : List Value} {o9 : Option Value} {mc ms index maxL : Nat} {bytes : ByteArray} {ret9 : Option FieldType} (C : kb_C p s m args meth c cc nL own w0 ret V A) (hM : kb_T l y bytes maxL ret9 rm V A as ws o9 ws2 mc ms) (h1 : Cond.code y bytes maxL ret9 ∈ kb_TB) (h2 : Cond.methodLink own index y ∈ kb_TB) (h3 : Cond.static y ∈ kb_TB) (h5 : Cond.initialized y.cls ∈ kb_TB) (hrc : rm.cells = mc) (hrs : rm.slots = ms)
    (hd : y.cls ≠ "java/lang/invoke/MethodHandle" ∧ y.cls ≠ "java/lang/invoke/VarHandle" ∧ (parseMethodDescriptor y.desc).map (fun d => d.parameters.length) = some as.length) (hR : rm.frames + 1 ≤ R.frames ∧ 8 + (maxL + 11) + rm.locals ≤ R.locals) (hst : as.reverse ++ rest = st) (hroom : (rest.map fun v => v.category).sum ≤ 8) (hcs : k + mc ≤ R.cells ∧ n + ms ≤ R.slots) (d : decode cc pc = .ok (.invokestatic index, 3))
    (K : kb_J p l e R s m args below meth c nL V A (k + mc) (n + ms) Q (pc + 3) L (o9.toList ++ rest) ws2) : kb_J p l e R s m args below meth c nL V A k n Q pc L st ws := by
  intro H locs ls hP hD hS hl
  subst hst
  exact kj_go hS hl (va_runS C.1 hM (va_cwS as.length C.1.2.2.2.2 (kb_gS h1 h2 h3 h5) rfl hrc hrs hd hR) ⟨kb_blind, kb_preU C hP hD hS⟩ rfl rfl hl.1 rfl (lv_room hroom) d hcs) K

theorem kj_callV0 {y : MethodName} {rm : Room} {as rest : List Value} {o9 : Option Value} {index maxL ci b : Nat} {bytes : ByteArray} {ret9 : Option FieldType} {C0 : String} {fs : List Value} {r0 : vw_C} (C : kb_C p s m args meth c cc nL own w0 ret V A) (hM : kb_T l y bytes maxL ret9 rm V A (.ref b :: as) ws o9 ws2 0 0) (h1 : Cond.code y bytes maxL ret9 ∈ kb_TB) (h2 : Cond.methodLink own index y ∈ kb_TB) (h3 : Cond.instanceMethod y ∈ kb_TB) (h4 : Cond.selects C0 y y ∈ kb_TB) (h5 : Cond.initialized C0 ∈ kb_TB) (hrc : rm.cells = 0) (hrs : rm.slots = 0)
    (hd : y.cls = C0 ∧ y.cls ≠ "java/lang/invoke/MethodHandle" ∧ y.cls ≠ "java/lang/invoke/VarHandle" ∧ (parseMethodDescriptor y.desc).map (fun d => d.parameters.length) = some as.length) (hR : rm.frames + 1 ≤ R.frames ∧ 8 + (maxL + 11) + rm.locals ≤ R.locals) (q0 : Nat) (he : ws[q0]? = some (b, .inr (ci, fs))) (hc : vwCl[ci]? = some r0) (hr0 : r0.1 = C0) (hst : as.reverse ++ .ref b :: rest = st) (hroom : (rest.map fun v => v.category).sum ≤ 8) (hcs : k ≤ R.cells ∧ n ≤ R.slots) (d : decode cc pc = .ok (.invokevirtual index, 3))
    (K : kb_J p l e R s m args below meth c nL V A k n Q (pc + 3) L (o9.toList ++ rest) ws2) : kb_J p l e R s m args below meth c nL V A k n Q pc L st ws := kj_callV C hM h1 h2 h3 h4 h5 hrc hrs hd hR q0 he hc hr0 hst hroom hcs d K
theorem kj_callS0 {y : MethodName} {rm : Room} {as rest : List Value} {o9 : Option Value} {index maxL : Nat} {bytes : ByteArray} {ret9 : Option FieldType} (C : kb_C p s m args meth c cc nL own w0 ret V A) (hM : kb_T l y bytes maxL ret9 rm V A as ws o9 ws2 0 0) (h1 : Cond.code y bytes maxL ret9 ∈ kb_TB) (h2 : Cond.methodLink own index y ∈ kb_TB) (h3 : Cond.static y ∈ kb_TB) (h5 : Cond.initialized y.cls ∈ kb_TB) (hrc : rm.cells = 0) (hrs : rm.slots = 0)
    (hd : y.cls ≠ "java/lang/invoke/MethodHandle" ∧ y.cls ≠ "java/lang/invoke/VarHandle" ∧ (parseMethodDescriptor y.desc).map (fun d => d.parameters.length) = some as.length) (hR : rm.frames + 1 ≤ R.frames ∧ 8 + (maxL + 11) + rm.locals ≤ R.locals) (hst : as.reverse ++ rest = st) (hroom : (rest.map fun v => v.category).sum ≤ 8) (hcs : k ≤ R.cells ∧ n ≤ R.slots) (d : decode cc pc = .ok (.invokestatic index, 3))
    (K : kb_J p l e R s m args below meth c nL V A k n Q (pc + 3) L (o9.toList ++ rest) ws2) : kb_J p l e R s m args below meth c nL V A k n Q pc L st ws := kj_callS C hM h1 h2 h3 h5 hrc hrs hd hR hst hroom hcs d K

theorem kj_mmax {index : Nat} {x y : Int32} (C : kb_C p s m args meth c cc nL own w0 ret V A) (hlink : Cond.methodLink own index Lib.Math.max.name ∈ kb_TB) (hstat : Cond.static Lib.Math.max.name ∈ kb_TB) (hini : Cond.initialized "java/lang/Math" ∈ kb_TB) (hcode : Cond.code Lib.Math.max.name Lib.Math.max.code 2 (some .int) ∈ kb_TB) (hfr : 1 ≤ R.frames) (hlo : (st.map fun v => v.category).sum + 13 ≤ R.locals) (hcs : k ≤ R.cells ∧ n ≤ R.slots) (d : decode cc pc = .ok (.invokestatic index, 3)) (K : kb_J p l e R s m args below meth c nL V A k n Q (pc + 3) L (.int (if x < y then y else x) :: st) ws) : kb_J p l e R s m args below meth c nL V A k n Q pc L (.int y :: .int x :: st) ws :=
  fun H locs ls hP hD hS hl => va_mmax C.1.1 C.1.2.1 (C.1.2.2.1.trans hl.1.symm) C.1.2.2.2.1 (kb_w C hlink) (kb_w C hstat) (kb_w C hini) (kb_w C hcode) hfr hlo hcs.1 hcs.2 d (K H locs ls hP hD hS hl)
theorem kj_mmin {index : Nat} {x y : Int32} (C : kb_C p s m args meth c cc nL own w0 ret V A) (hlink : Cond.methodLink own index Lib.Math.min.name ∈ kb_TB) (hstat : Cond.static Lib.Math.min.name ∈ kb_TB) (hini : Cond.initialized "java/lang/Math" ∈ kb_TB) (hcode : Cond.code Lib.Math.min.name Lib.Math.min.code 2 (some .int) ∈ kb_TB) (hfr : 1 ≤ R.frames) (hlo : (st.map fun v => v.category).sum + 13 ≤ R.locals) (hcs : k ≤ R.cells ∧ n ≤ R.slots) (d : decode cc pc = .ok (.invokestatic index, 3)) (K : kb_J p l e R s m args below meth c nL V A k n Q (pc + 3) L (.int (if y < x then y else x) :: st) ws) : kb_J p l e R s m args below meth c nL V A k n Q pc L (.int y :: .int x :: st) ws :=
  fun H locs ls hP hD hS hl => va_mmin C.1.1 C.1.2.1 (C.1.2.2.1.trans hl.1.symm) C.1.2.2.2.1 (kb_w C hlink) (kb_w C hstat) (kb_w C hini) (kb_w C hcode) hfr hlo hcs.1 hcs.2 d (K H locs ls hP hD hS hl)
end KBR
end
section
/-! worlds and fields, printed by wip/gen/ext.py -/
def kb_in (i : Int32) (n : Nat) : Bool := decide (0 ≤ i.toInt ∧ i.toInt < n)
theorem kb_inv {i : Int32} {n : Nat} (h : kb_in i n = true) : vp_in i n := vp_in_iff.mpr (of_decide_eq_true h)
theorem kb_ift {α : Type} {c : Prop} [Decidable c] {x y z : α} (h : (if c then x else y) = z) (hc : c) : x = z := by rw [if_pos hc] at h; exact h
theorem kb_ife {α : Type} {c : Prop} [Decidable c] {x y z : α} (h : (if c then x else y) = z) (hc : ¬ c) : y = z := by rw [if_neg hc] at h; exact h
theorem kb_gd {α : Type} {c : Prop} [Decidable c] {x : Option α} {z : α} (h : (if c then x else none) = some z) : c ∧ x = some z := by
  by_cases hc : c
  · rw [if_pos hc] at h; exact ⟨hc, h⟩
  · rw [if_neg hc] at h; cases h
theorem kb_bd {α β : Type} {x : Option α} {f : α → Option β} {z : β} (h : x.bind f = some z) : ∃ q, x = some q ∧ f q = some z := by
  cases x with
  | none => cases h
  | some q => exact ⟨q, rfl, h⟩
theorem kb_no {α : Type} {z : α} (h : (none : Option α) = some z) {P : Prop} : P := nomatch h
def kb_FU : Nat := 1000000000
def kb_W (V : kb_V) (a : Nat → Nat) (σ : kb_S) (sh : Value) (ex : va_W) : va_W := (a 0, .inr (6, [.ref (a 1), .ref (a 2), .ref (a 3), .ref (a 4), sh])) :: (a 1, .inr (5, [.ref (a 6), .int (kb_g σ 0)])) :: (a 2, .inr (0, [.ref (a 7), .ref (a 8), .ref (a 9), .ref (a 10), .ref (a 11), .int (kb_g σ 1), .int (kb_g σ 2), .int (kb_g σ 3), .int (kb_g σ 4), .int (kb_g σ 5), .int (kb_g σ 6), .int (kb_g σ 7), .int (kb_g σ 8)])) :: (a 3, .inr (3, [.ref (a 1), .ref (a 5), .ref (a 12), .ref (a 13), .int (kb_g σ 9), .int (kb_g σ 10), .int (kb_g σ 11), .int (kb_g σ 12), .int (kb_g σ 13)])) :: (a 4, .inr (1, [.ref (a 5), .ref (a 2), .ref (a 14), .int (kb_g σ 14), .int (kb_g σ 15)])) :: (a 5, .inr (2, [.ref (a 15), .ref (a 16), .ref (a 17), .ref (a 18), .ref (a 19), .int (kb_g σ 16)])) :: (a 6, .inl (V.2.1 0, 200, .inl (kb_a σ 0))) :: (a 7, .inl (V.2.1 0, 32, .inl (kb_a σ 1))) :: (a 8, .inl (V.2.1 0, 32, .inl (kb_a σ 2))) :: (a 9, .inl (V.2.1 0, 1200, .inl (kb_a σ 3))) :: (a 10, .inl (V.2.1 0, 600, .inl (kb_a σ 4))) :: (a 11, .inl (V.2.1 0, 600, .inl (kb_a σ 5))) :: (a 12, .inl (V.2.1 0, 5, .inl (kb_a σ 6))) :: (a 13, .inl (V.2.1 1, 5, .inr (.inl (kb_b σ 0)))) :: (a 14, .inl (V.2.1 1, 5, .inr (.inl (kb_b σ 1)))) :: (a 15, .inl (V.2.1 0, 200, .inl (kb_a σ 7))) :: (a 16, .inl (V.2.1 0, 200, .inl (kb_a σ 8))) :: (a 17, .inl (V.2.1 0, 200, .inl (kb_a σ 9))) :: (a 18, .inl (V.2.1 0, 200, .inl (kb_a σ 10))) :: (a 19, .inl (V.2.1 1, 200, .inr (.inl (kb_b σ 2)))) :: ex
def kb_WS (V : kb_V) (b : Nat → Nat) (τ : kb_S) (ex : va_W) : va_W := (b 0, .inr (4, [.ref (b 1), .ref (b 2), .ref (b 3), .ref (b 4), .int (kb_g τ 0), .int (kb_g τ 1)])) :: (b 1, .inl (V.2.1 0, 5680, .inl (kb_a τ 0))) :: (b 2, .inl (V.2.1 0, 3200, .inl (kb_a τ 1))) :: (b 3, .inl (V.2.1 0, 80, .inl (kb_a τ 2))) :: (b 4, .inl (V.2.1 0, 480, .inl (kb_a τ 3))) :: ex
def kb_WM (V : kb_V) (d : Nat → Nat) (μ : kb_S) (ex : va_W) : va_W := (d 0, .inr (7, [.int (kb_g μ 0), .int (kb_g μ 1), .ref (d 1), .int (kb_g μ 2), .int (kb_g μ 3), .ref (d 2), .ref (d 3), .ref (d 4), .ref (d 5), .ref (d 6), .int (kb_g μ 4), .ref (d 7), .ref (d 8), .ref (d 9), .int (kb_g μ 5), .int (kb_g μ 6), .int (kb_g μ 7), .int (kb_g μ 8), .int (kb_g μ 9), .ref (d 10), .ref (d 11), .ref (d 12), .ref (d 13), .int (kb_g μ 10), .ref (d 14), .int (kb_g μ 11), .ref (d 15), .ref (d 16), .ref (d 17), .ref (d 18), .ref (d 19), .ref (d 20)])) :: (d 1, .inl (V.2.1 0, 200, .inl (kb_a μ 0))) :: (d 2, .inl (V.2.1 0, 600, .inl (kb_a μ 1))) :: (d 3, .inl (V.2.1 0, 600, .inl (kb_a μ 2))) :: (d 4, .inl (V.2.1 2, 600, .inl (kb_a μ 3))) :: (d 5, .inl (V.2.1 0, 600, .inl (kb_a μ 4))) :: (d 6, .inl (V.2.1 0, 1800, .inl (kb_a μ 5))) :: (d 7, .inl (V.2.1 0, 32, .inl (kb_a μ 6))) :: (d 8, .inl (V.2.1 0, 31, .inl (kb_a μ 7))) :: (d 9, .inl (V.2.1 0, 2480, .inl (kb_a μ 8))) :: (d 10, .inl (V.2.1 0, 220, .inl (kb_a μ 9))) :: (d 11, .inl (V.2.1 0, 220, .inl (kb_a μ 10))) :: (d 12, .inl (V.2.1 0, 220, .inl (kb_a μ 11))) :: (d 13, .inl (V.2.1 0, 220, .inl (kb_a μ 12))) :: (d 14, .inl (V.2.1 0, 700, .inl (kb_a μ 13))) :: (d 15, .inl (V.2.1 0, 1200, .inl (kb_a μ 14))) :: (d 16, .inl (V.2.1 0, 32400, .inl (kb_a μ 15))) :: (d 17, .inl (V.2.1 0, 32400, .inl (kb_a μ 16))) :: (d 18, .inl (V.2.1 0, 5, .inl (kb_a μ 17))) :: (d 19, .inl (V.2.1 0, 220, .inl (kb_a μ 18))) :: (d 20, .inl (V.2.1 0, 800, .inl (kb_a μ 19))) :: ex
section KBFK
variable {p : Program} {l : Launch} {e : Env} {R : Room} {s : State} {m : MethodId} {args : Array Value} {below : List Frame} {meth : Method} {c : Code} {k n : Nat} {Q : State → Prop} {cc : ByteArray} {nL : Nat} {own : String} {w0 : Cond} {ret : Option FieldType} {V : kb_V} {A : Nat → Prop} {pc : Nat} {L : List (Nat × Value)} {st : List Value} {a : Nat → Nat} {σ : kb_S} {sh : Value} {ex : va_W} {index : Nat}
theorem kg_X8_tape (C : kb_C p s m args meth c cc nL own w0 ret V A)  (hl : Cond.fieldLink own index "KnitBench" "tape" "LKnitBench$Tape;" ∈ kb_TB) (dg : decode cc pc = .ok (.getfield index, 3)) (K : kb_J p l e R s m args below meth c nL V A k n Q (pc + 3) L (.ref (a 1) :: st) (kb_W V a σ sh ex)) : kb_J p l e R s m args below meth c nL V A k n Q pc L (.ref (a 0) :: st) (kb_W V a σ sh ex) :=
  kj_get C hi_X8 0 rfl rfl 0 (by decide) hl rfl rfl dg K
theorem kg_X8_fabric (C : kb_C p s m args meth c cc nL own w0 ret V A)  (hl : Cond.fieldLink own index "KnitBench" "fabric" "LKnitBench$Fabric;" ∈ kb_TB) (dg : decode cc pc = .ok (.getfield index, 3)) (K : kb_J p l e R s m args below meth c nL V A k n Q (pc + 3) L (.ref (a 2) :: st) (kb_W V a σ sh ex)) : kb_J p l e R s m args below meth c nL V A k n Q pc L (.ref (a 0) :: st) (kb_W V a σ sh ex) :=
  kj_get C hi_X8 0 rfl rfl 1 (by decide) hl rfl rfl dg K
theorem kg_X8_reader (C : kb_C p s m args meth c cc nL own w0 ret V A)  (hl : Cond.fieldLink own index "KnitBench" "reader" "LKnitBench$RowReader;" ∈ kb_TB) (dg : decode cc pc = .ok (.getfield index, 3)) (K : kb_J p l e R s m args below meth c nL V A k n Q (pc + 3) L (.ref (a 3) :: st) (kb_W V a σ sh ex)) : kb_J p l e R s m args below meth c nL V A k n Q pc L (.ref (a 0) :: st) (kb_W V a σ sh ex) :=
  kj_get C hi_X8 0 rfl rfl 2 (by decide) hl rfl rfl dg K
theorem kg_X8_knitter (C : kb_C p s m args meth c cc nL own w0 ret V A)  (hl : Cond.fieldLink own index "KnitBench" "knitter" "LKnitBench$Knitter;" ∈ kb_TB) (dg : decode cc pc = .ok (.getfield index, 3)) (K : kb_J p l e R s m args below meth c nL V A k n Q (pc + 3) L (.ref (a 4) :: st) (kb_W V a σ sh ex)) : kb_J p l e R s m args below meth c nL V A k n Q pc L (.ref (a 0) :: st) (kb_W V a σ sh ex) :=
  kj_get C hi_X8 0 rfl rfl 3 (by decide) hl rfl rfl dg K
theorem kg_X8_shortest (C : kb_C p s m args meth c cc nL own w0 ret V A)  (hl : Cond.fieldLink own index "KnitBench" "shortest" "LKnitBench$Shortest;" ∈ kb_TB) (dg : decode cc pc = .ok (.getfield index, 3)) (K : kb_J p l e R s m args below meth c nL V A k n Q (pc + 3) L (sh :: st) (kb_W V a σ sh ex)) : kb_J p l e R s m args below meth c nL V A k n Q pc L (.ref (a 0) :: st) (kb_W V a σ sh ex) :=
  kj_get C hi_X8 0 rfl rfl 4 (by decide) hl rfl rfl dg K
theorem kg_X7_bytes (C : kb_C p s m args meth c cc nL own w0 ret V A)  (hl : Cond.fieldLink own index "KnitBench$Tape" "bytes" "[I" ∈ kb_TB) (dg : decode cc pc = .ok (.getfield index, 3)) (K : kb_J p l e R s m args below meth c nL V A k n Q (pc + 3) L (.ref (a 6) :: st) (kb_W V a σ sh ex)) : kb_J p l e R s m args below meth c nL V A k n Q pc L (.ref (a 1) :: st) (kb_W V a σ sh ex) :=
  kj_get C hi_X7 1 rfl rfl 0 (by decide) hl rfl rfl dg K
theorem kg_X7_length {v : Int32} (C : kb_C p s m args meth c cc nL own w0 ret V A)  (hl : Cond.fieldLink own index "KnitBench$Tape" "length" "I" ∈ kb_TB) (dg : decode cc pc = .ok (.getfield index, 3)) (hv : kb_g σ 0 = v) (K : kb_J p l e R s m args below meth c nL V A k n Q (pc + 3) L (.int v :: st) (kb_W V a σ sh ex)) : kb_J p l e R s m args below meth c nL V A k n Q pc L (.ref (a 1) :: st) (kb_W V a σ sh ex) := by
  subst hv
  exact kj_get C hi_X7 1 rfl rfl 1 (by decide) hl rfl rfl dg K
theorem kp_X7_length {v : Int32} (C : kb_C p s m args meth c cc nL own w0 ret V A)  (hl : Cond.fieldLink own index "KnitBench$Tape" "length" "I" ∈ kb_TB) (dg : decode cc pc = .ok (.putfield index, 3)) (K : kb_J p l e R s m args below meth c nL V A k n Q (pc + 3) L st (kb_W V a (kb_p σ 0 v) sh ex)) : kb_J p l e R s m args below meth c nL V A k n Q pc L (.int v :: .ref (a 1) :: st) (kb_W V a σ sh ex) :=
  kj_put C hi_X7 tyX7 tyX7_ok nmX7 1 rfl rfl 1 (by decide) hl rfl rfl rfl rfl rfl (by simp) rfl dg K
theorem kg_X0_firstLoops (C : kb_C p s m args meth c cc nL own w0 ret V A)  (hl : Cond.fieldLink own index "KnitBench$Fabric" "firstLoops" "[I" ∈ kb_TB) (dg : decode cc pc = .ok (.getfield index, 3)) (K : kb_J p l e R s m args below meth c nL V A k n Q (pc + 3) L (.ref (a 7) :: st) (kb_W V a σ sh ex)) : kb_J p l e R s m args below meth c nL V A k n Q pc L (.ref (a 2) :: st) (kb_W V a σ sh ex) :=
  kj_get C hi_X0 2 rfl rfl 0 (by decide) hl rfl rfl dg K
theorem kg_X0_firstStitches (C : kb_C p s m args meth c cc nL own w0 ret V A)  (hl : Cond.fieldLink own index "KnitBench$Fabric" "firstStitches" "[I" ∈ kb_TB) (dg : decode cc pc = .ok (.getfield index, 3)) (K : kb_J p l e R s m args below meth c nL V A k n Q (pc + 3) L (.ref (a 8) :: st) (kb_W V a σ sh ex)) : kb_J p l e R s m args below meth c nL V A k n Q pc L (.ref (a 2) :: st) (kb_W V a σ sh ex) :=
  kj_get C hi_X0 2 rfl rfl 1 (by decide) hl rfl rfl dg K
theorem kg_X0_stitches (C : kb_C p s m args meth c cc nL own w0 ret V A)  (hl : Cond.fieldLink own index "KnitBench$Fabric" "stitches" "[I" ∈ kb_TB) (dg : decode cc pc = .ok (.getfield index, 3)) (K : kb_J p l e R s m args below meth c nL V A k n Q (pc + 3) L (.ref (a 9) :: st) (kb_W V a σ sh ex)) : kb_J p l e R s m args below meth c nL V A k n Q pc L (.ref (a 2) :: st) (kb_W V a σ sh ex) :=
  kj_get C hi_X0 2 rfl rfl 2 (by decide) hl rfl rfl dg K
theorem kg_X0_parentCounts (C : kb_C p s m args meth c cc nL own w0 ret V A)  (hl : Cond.fieldLink own index "KnitBench$Fabric" "parentCounts" "[I" ∈ kb_TB) (dg : decode cc pc = .ok (.getfield index, 3)) (K : kb_J p l e R s m args below meth c nL V A k n Q (pc + 3) L (.ref (a 10) :: st) (kb_W V a σ sh ex)) : kb_J p l e R s m args below meth c nL V A k n Q pc L (.ref (a 2) :: st) (kb_W V a σ sh ex) :=
  kj_get C hi_X0 2 rfl rfl 3 (by decide) hl rfl rfl dg K
theorem kg_X0_firstParents (C : kb_C p s m args meth c cc nL own w0 ret V A)  (hl : Cond.fieldLink own index "KnitBench$Fabric" "firstParents" "[I" ∈ kb_TB) (dg : decode cc pc = .ok (.getfield index, 3)) (K : kb_J p l e R s m args below meth c nL V A k n Q (pc + 3) L (.ref (a 11) :: st) (kb_W V a σ sh ex)) : kb_J p l e R s m args below meth c nL V A k n Q pc L (.ref (a 2) :: st) (kb_W V a σ sh ex) :=
  kj_get C hi_X0 2 rfl rfl 4 (by decide) hl rfl rfl dg K
theorem kg_X0_round {v : Int32} (C : kb_C p s m args meth c cc nL own w0 ret V A)  (hl : Cond.fieldLink own index "KnitBench$Fabric" "round" "Z" ∈ kb_TB) (dg : decode cc pc = .ok (.getfield index, 3)) (hv : kb_g σ 1 = v) (K : kb_J p l e R s m args below meth c nL V A k n Q (pc + 3) L (.int v :: st) (kb_W V a σ sh ex)) : kb_J p l e R s m args below meth c nL V A k n Q pc L (.ref (a 2) :: st) (kb_W V a σ sh ex) := by
  subst hv
  exact kj_get C hi_X0 2 rfl rfl 5 (by decide) hl rfl rfl dg K
theorem kp_X0_round {v : Int32} (C : kb_C p s m args meth c cc nL own w0 ret V A)  (hl : Cond.fieldLink own index "KnitBench$Fabric" "round" "Z" ∈ kb_TB) (dg : decode cc pc = .ok (.putfield index, 3)) (hb : v = 0 ∨ v = 1) (K : kb_J p l e R s m args below meth c nL V A k n Q (pc + 3) L st (kb_W V a (kb_p σ 1 v) sh ex)) : kb_J p l e R s m args below meth c nL V A k n Q pc L (.int v :: .ref (a 2) :: st) (kb_W V a σ sh ex) :=
  kj_put C hi_X0 tyX0 tyX0_ok nmX0 2 rfl rfl 5 (by decide) hl rfl rfl rfl (by rcases hb with rfl | rfl <;> rfl) (by rcases hb with rfl | rfl <;> rfl) (by simp) rfl dg K
theorem kg_X0_rowCount {v : Int32} (C : kb_C p s m args meth c cc nL own w0 ret V A)  (hl : Cond.fieldLink own index "KnitBench$Fabric" "rowCount" "I" ∈ kb_TB) (dg : decode cc pc = .ok (.getfield index, 3)) (hv : kb_g σ 2 = v) (K : kb_J p l e R s m args below meth c nL V A k n Q (pc + 3) L (.int v :: st) (kb_W V a σ sh ex)) : kb_J p l e R s m args below meth c nL V A k n Q pc L (.ref (a 2) :: st) (kb_W V a σ sh ex) := by
  subst hv
  exact kj_get C hi_X0 2 rfl rfl 6 (by decide) hl rfl rfl dg K
theorem kp_X0_rowCount {v : Int32} (C : kb_C p s m args meth c cc nL own w0 ret V A)  (hl : Cond.fieldLink own index "KnitBench$Fabric" "rowCount" "I" ∈ kb_TB) (dg : decode cc pc = .ok (.putfield index, 3)) (K : kb_J p l e R s m args below meth c nL V A k n Q (pc + 3) L st (kb_W V a (kb_p σ 2 v) sh ex)) : kb_J p l e R s m args below meth c nL V A k n Q pc L (.int v :: .ref (a 2) :: st) (kb_W V a σ sh ex) :=
  kj_put C hi_X0 tyX0 tyX0_ok nmX0 2 rfl rfl 6 (by decide) hl rfl rfl rfl rfl rfl (by simp) rfl dg K
theorem kg_X0_needleCount {v : Int32} (C : kb_C p s m args meth c cc nL own w0 ret V A)  (hl : Cond.fieldLink own index "KnitBench$Fabric" "needleCount" "I" ∈ kb_TB) (dg : decode cc pc = .ok (.getfield index, 3)) (hv : kb_g σ 3 = v) (K : kb_J p l e R s m args below meth c nL V A k n Q (pc + 3) L (.int v :: st) (kb_W V a σ sh ex)) : kb_J p l e R s m args below meth c nL V A k n Q pc L (.ref (a 2) :: st) (kb_W V a σ sh ex) := by
  subst hv
  exact kj_get C hi_X0 2 rfl rfl 7 (by decide) hl rfl rfl dg K
theorem kp_X0_needleCount {v : Int32} (C : kb_C p s m args meth c cc nL own w0 ret V A)  (hl : Cond.fieldLink own index "KnitBench$Fabric" "needleCount" "I" ∈ kb_TB) (dg : decode cc pc = .ok (.putfield index, 3)) (K : kb_J p l e R s m args below meth c nL V A k n Q (pc + 3) L st (kb_W V a (kb_p σ 3 v) sh ex)) : kb_J p l e R s m args below meth c nL V A k n Q pc L (.int v :: .ref (a 2) :: st) (kb_W V a σ sh ex) :=
  kj_put C hi_X0 tyX0 tyX0_ok nmX0 2 rfl rfl 7 (by decide) hl rfl rfl rfl rfl rfl (by simp) rfl dg K
theorem kg_X0_needleStart {v : Int32} (C : kb_C p s m args meth c cc nL own w0 ret V A)  (hl : Cond.fieldLink own index "KnitBench$Fabric" "needleStart" "I" ∈ kb_TB) (dg : decode cc pc = .ok (.getfield index, 3)) (hv : kb_g σ 4 = v) (K : kb_J p l e R s m args below meth c nL V A k n Q (pc + 3) L (.int v :: st) (kb_W V a σ sh ex)) : kb_J p l e R s m args below meth c nL V A k n Q pc L (.ref (a 2) :: st) (kb_W V a σ sh ex) := by
  subst hv
  exact kj_get C hi_X0 2 rfl rfl 8 (by decide) hl rfl rfl dg K
theorem kp_X0_needleStart {v : Int32} (C : kb_C p s m args meth c cc nL own w0 ret V A)  (hl : Cond.fieldLink own index "KnitBench$Fabric" "needleStart" "I" ∈ kb_TB) (dg : decode cc pc = .ok (.putfield index, 3)) (K : kb_J p l e R s m args below meth c nL V A k n Q (pc + 3) L st (kb_W V a (kb_p σ 4 v) sh ex)) : kb_J p l e R s m args below meth c nL V A k n Q pc L (.int v :: .ref (a 2) :: st) (kb_W V a σ sh ex) :=
  kj_put C hi_X0 tyX0 tyX0_ok nmX0 2 rfl rfl 8 (by decide) hl rfl rfl rfl rfl rfl (by simp) rfl dg K
theorem kg_X0_needleStep {v : Int32} (C : kb_C p s m args meth c cc nL own w0 ret V A)  (hl : Cond.fieldLink own index "KnitBench$Fabric" "needleStep" "I" ∈ kb_TB) (dg : decode cc pc = .ok (.getfield index, 3)) (hv : kb_g σ 5 = v) (K : kb_J p l e R s m args below meth c nL V A k n Q (pc + 3) L (.int v :: st) (kb_W V a σ sh ex)) : kb_J p l e R s m args below meth c nL V A k n Q pc L (.ref (a 2) :: st) (kb_W V a σ sh ex) := by
  subst hv
  exact kj_get C hi_X0 2 rfl rfl 9 (by decide) hl rfl rfl dg K
theorem kp_X0_needleStep {v : Int32} (C : kb_C p s m args meth c cc nL own w0 ret V A)  (hl : Cond.fieldLink own index "KnitBench$Fabric" "needleStep" "I" ∈ kb_TB) (dg : decode cc pc = .ok (.putfield index, 3)) (K : kb_J p l e R s m args below meth c nL V A k n Q (pc + 3) L st (kb_W V a (kb_p σ 5 v) sh ex)) : kb_J p l e R s m args below meth c nL V A k n Q pc L (.int v :: .ref (a 2) :: st) (kb_W V a σ sh ex) :=
  kj_put C hi_X0 tyX0 tyX0_ok nmX0 2 rfl rfl 9 (by decide) hl rfl rfl rfl rfl rfl (by simp) rfl dg K
theorem kg_X0_taken {v : Int32} (C : kb_C p s m args meth c cc nL own w0 ret V A)  (hl : Cond.fieldLink own index "KnitBench$Fabric" "taken" "I" ∈ kb_TB) (dg : decode cc pc = .ok (.getfield index, 3)) (hv : kb_g σ 6 = v) (K : kb_J p l e R s m args below meth c nL V A k n Q (pc + 3) L (.int v :: st) (kb_W V a σ sh ex)) : kb_J p l e R s m args below meth c nL V A k n Q pc L (.ref (a 2) :: st) (kb_W V a σ sh ex) := by
  subst hv
  exact kj_get C hi_X0 2 rfl rfl 10 (by decide) hl rfl rfl dg K
theorem kp_X0_taken {v : Int32} (C : kb_C p s m args meth c cc nL own w0 ret V A)  (hl : Cond.fieldLink own index "KnitBench$Fabric" "taken" "I" ∈ kb_TB) (dg : decode cc pc = .ok (.putfield index, 3)) (K : kb_J p l e R s m args below meth c nL V A k n Q (pc + 3) L st (kb_W V a (kb_p σ 6 v) sh ex)) : kb_J p l e R s m args below meth c nL V A k n Q pc L (.int v :: .ref (a 2) :: st) (kb_W V a σ sh ex) :=
  kj_put C hi_X0 tyX0 tyX0_ok nmX0 2 rfl rfl 10 (by decide) hl rfl rfl rfl rfl rfl (by simp) rfl dg K
theorem kg_X0_loopEnd {v : Int32} (C : kb_C p s m args meth c cc nL own w0 ret V A)  (hl : Cond.fieldLink own index "KnitBench$Fabric" "loopEnd" "I" ∈ kb_TB) (dg : decode cc pc = .ok (.getfield index, 3)) (hv : kb_g σ 7 = v) (K : kb_J p l e R s m args below meth c nL V A k n Q (pc + 3) L (.int v :: st) (kb_W V a σ sh ex)) : kb_J p l e R s m args below meth c nL V A k n Q pc L (.ref (a 2) :: st) (kb_W V a σ sh ex) := by
  subst hv
  exact kj_get C hi_X0 2 rfl rfl 11 (by decide) hl rfl rfl dg K
theorem kp_X0_loopEnd {v : Int32} (C : kb_C p s m args meth c cc nL own w0 ret V A)  (hl : Cond.fieldLink own index "KnitBench$Fabric" "loopEnd" "I" ∈ kb_TB) (dg : decode cc pc = .ok (.putfield index, 3)) (K : kb_J p l e R s m args below meth c nL V A k n Q (pc + 3) L st (kb_W V a (kb_p σ 7 v) sh ex)) : kb_J p l e R s m args below meth c nL V A k n Q pc L (.int v :: .ref (a 2) :: st) (kb_W V a σ sh ex) :=
  kj_put C hi_X0 tyX0 tyX0_ok nmX0 2 rfl rfl 11 (by decide) hl rfl rfl rfl rfl rfl (by simp) rfl dg K
theorem kg_X0_stitchEnd {v : Int32} (C : kb_C p s m args meth c cc nL own w0 ret V A)  (hl : Cond.fieldLink own index "KnitBench$Fabric" "stitchEnd" "I" ∈ kb_TB) (dg : decode cc pc = .ok (.getfield index, 3)) (hv : kb_g σ 8 = v) (K : kb_J p l e R s m args below meth c nL V A k n Q (pc + 3) L (.int v :: st) (kb_W V a σ sh ex)) : kb_J p l e R s m args below meth c nL V A k n Q pc L (.ref (a 2) :: st) (kb_W V a σ sh ex) := by
  subst hv
  exact kj_get C hi_X0 2 rfl rfl 12 (by decide) hl rfl rfl dg K
theorem kp_X0_stitchEnd {v : Int32} (C : kb_C p s m args meth c cc nL own w0 ret V A)  (hl : Cond.fieldLink own index "KnitBench$Fabric" "stitchEnd" "I" ∈ kb_TB) (dg : decode cc pc = .ok (.putfield index, 3)) (K : kb_J p l e R s m args below meth c nL V A k n Q (pc + 3) L st (kb_W V a (kb_p σ 8 v) sh ex)) : kb_J p l e R s m args below meth c nL V A k n Q pc L (.int v :: .ref (a 2) :: st) (kb_W V a σ sh ex) :=
  kj_put C hi_X0 tyX0 tyX0_ok nmX0 2 rfl rfl 12 (by decide) hl rfl rfl rfl rfl rfl (by simp) rfl dg K
theorem kg_X4_tape (C : kb_C p s m args meth c cc nL own w0 ret V A)  (hl : Cond.fieldLink own index "KnitBench$RowReader" "tape" "LKnitBench$Tape;" ∈ kb_TB) (dg : decode cc pc = .ok (.getfield index, 3)) (K : kb_J p l e R s m args below meth c nL V A k n Q (pc + 3) L (.ref (a 1) :: st) (kb_W V a σ sh ex)) : kb_J p l e R s m args below meth c nL V A k n Q pc L (.ref (a 3) :: st) (kb_W V a σ sh ex) :=
  kj_get C hi_X4 3 rfl rfl 0 (by decide) hl rfl rfl dg K
theorem kg_X4_plan (C : kb_C p s m args meth c cc nL own w0 ret V A)  (hl : Cond.fieldLink own index "KnitBench$RowReader" "plan" "LKnitBench$Plan;" ∈ kb_TB) (dg : decode cc pc = .ok (.getfield index, 3)) (K : kb_J p l e R s m args below meth c nL V A k n Q (pc + 3) L (.ref (a 5) :: st) (kb_W V a σ sh ex)) : kb_J p l e R s m args below meth c nL V A k n Q pc L (.ref (a 3) :: st) (kb_W V a σ sh ex) :=
  kj_get C hi_X4 3 rfl rfl 1 (by decide) hl rfl rfl dg K
theorem kg_X4_openSteps (C : kb_C p s m args meth c cc nL own w0 ret V A)  (hl : Cond.fieldLink own index "KnitBench$RowReader" "openSteps" "[I" ∈ kb_TB) (dg : decode cc pc = .ok (.getfield index, 3)) (K : kb_J p l e R s m args below meth c nL V A k n Q (pc + 3) L (.ref (a 12) :: st) (kb_W V a σ sh ex)) : kb_J p l e R s m args below meth c nL V A k n Q pc L (.ref (a 3) :: st) (kb_W V a σ sh ex) :=
  kj_get C hi_X4 3 rfl rfl 2 (by decide) hl rfl rfl dg K
theorem kg_X4_takes (C : kb_C p s m args meth c cc nL own w0 ret V A)  (hl : Cond.fieldLink own index "KnitBench$RowReader" "takes" "[J" ∈ kb_TB) (dg : decode cc pc = .ok (.getfield index, 3)) (K : kb_J p l e R s m args below meth c nL V A k n Q (pc + 3) L (.ref (a 13) :: st) (kb_W V a σ sh ex)) : kb_J p l e R s m args below meth c nL V A k n Q pc L (.ref (a 3) :: st) (kb_W V a σ sh ex) :=
  kj_get C hi_X4 3 rfl rfl 3 (by decide) hl rfl rfl dg K
theorem kg_X4_depth {v : Int32} (C : kb_C p s m args meth c cc nL own w0 ret V A)  (hl : Cond.fieldLink own index "KnitBench$RowReader" "depth" "I" ∈ kb_TB) (dg : decode cc pc = .ok (.getfield index, 3)) (hv : kb_g σ 9 = v) (K : kb_J p l e R s m args below meth c nL V A k n Q (pc + 3) L (.int v :: st) (kb_W V a σ sh ex)) : kb_J p l e R s m args below meth c nL V A k n Q pc L (.ref (a 3) :: st) (kb_W V a σ sh ex) := by
  subst hv
  exact kj_get C hi_X4 3 rfl rfl 4 (by decide) hl rfl rfl dg K
theorem kp_X4_depth {v : Int32} (C : kb_C p s m args meth c cc nL own w0 ret V A)  (hl : Cond.fieldLink own index "KnitBench$RowReader" "depth" "I" ∈ kb_TB) (dg : decode cc pc = .ok (.putfield index, 3)) (K : kb_J p l e R s m args below meth c nL V A k n Q (pc + 3) L st (kb_W V a (kb_p σ 9 v) sh ex)) : kb_J p l e R s m args below meth c nL V A k n Q pc L (.int v :: .ref (a 3) :: st) (kb_W V a σ sh ex) :=
  kj_put C hi_X4 tyX4 tyX4_ok nmX4 3 rfl rfl 4 (by decide) hl rfl rfl rfl rfl rfl (by simp) rfl dg K
theorem kg_X4_at {v : Int32} (C : kb_C p s m args meth c cc nL own w0 ret V A)  (hl : Cond.fieldLink own index "KnitBench$RowReader" "at" "I" ∈ kb_TB) (dg : decode cc pc = .ok (.getfield index, 3)) (hv : kb_g σ 10 = v) (K : kb_J p l e R s m args below meth c nL V A k n Q (pc + 3) L (.int v :: st) (kb_W V a σ sh ex)) : kb_J p l e R s m args below meth c nL V A k n Q pc L (.ref (a 3) :: st) (kb_W V a σ sh ex) := by
  subst hv
  exact kj_get C hi_X4 3 rfl rfl 5 (by decide) hl rfl rfl dg K
theorem kp_X4_at {v : Int32} (C : kb_C p s m args meth c cc nL own w0 ret V A)  (hl : Cond.fieldLink own index "KnitBench$RowReader" "at" "I" ∈ kb_TB) (dg : decode cc pc = .ok (.putfield index, 3)) (K : kb_J p l e R s m args below meth c nL V A k n Q (pc + 3) L st (kb_W V a (kb_p σ 10 v) sh ex)) : kb_J p l e R s m args below meth c nL V A k n Q pc L (.int v :: .ref (a 3) :: st) (kb_W V a σ sh ex) :=
  kj_put C hi_X4 tyX4 tyX4_ok nmX4 3 rfl rfl 5 (by decide) hl rfl rfl rfl rfl rfl (by simp) rfl dg K
theorem kg_X4_fault {v : Int32} (C : kb_C p s m args meth c cc nL own w0 ret V A)  (hl : Cond.fieldLink own index "KnitBench$RowReader" "fault" "I" ∈ kb_TB) (dg : decode cc pc = .ok (.getfield index, 3)) (hv : kb_g σ 11 = v) (K : kb_J p l e R s m args below meth c nL V A k n Q (pc + 3) L (.int v :: st) (kb_W V a σ sh ex)) : kb_J p l e R s m args below meth c nL V A k n Q pc L (.ref (a 3) :: st) (kb_W V a σ sh ex) := by
  subst hv
  exact kj_get C hi_X4 3 rfl rfl 6 (by decide) hl rfl rfl dg K
theorem kp_X4_fault {v : Int32} (C : kb_C p s m args meth c cc nL own w0 ret V A)  (hl : Cond.fieldLink own index "KnitBench$RowReader" "fault" "I" ∈ kb_TB) (dg : decode cc pc = .ok (.putfield index, 3)) (K : kb_J p l e R s m args below meth c nL V A k n Q (pc + 3) L st (kb_W V a (kb_p σ 11 v) sh ex)) : kb_J p l e R s m args below meth c nL V A k n Q pc L (.int v :: .ref (a 3) :: st) (kb_W V a σ sh ex) :=
  kj_put C hi_X4 tyX4 tyX4_ok nmX4 3 rfl rfl 6 (by decide) hl rfl rfl rfl rfl rfl (by simp) rfl dg K
theorem kg_X4_itemIsDue {v : Int32} (C : kb_C p s m args meth c cc nL own w0 ret V A)  (hl : Cond.fieldLink own index "KnitBench$RowReader" "itemIsDue" "Z" ∈ kb_TB) (dg : decode cc pc = .ok (.getfield index, 3)) (hv : kb_g σ 12 = v) (K : kb_J p l e R s m args below meth c nL V A k n Q (pc + 3) L (.int v :: st) (kb_W V a σ sh ex)) : kb_J p l e R s m args below meth c nL V A k n Q pc L (.ref (a 3) :: st) (kb_W V a σ sh ex) := by
  subst hv
  exact kj_get C hi_X4 3 rfl rfl 7 (by decide) hl rfl rfl dg K
theorem kp_X4_itemIsDue {v : Int32} (C : kb_C p s m args meth c cc nL own w0 ret V A)  (hl : Cond.fieldLink own index "KnitBench$RowReader" "itemIsDue" "Z" ∈ kb_TB) (dg : decode cc pc = .ok (.putfield index, 3)) (hb : v = 0 ∨ v = 1) (K : kb_J p l e R s m args below meth c nL V A k n Q (pc + 3) L st (kb_W V a (kb_p σ 12 v) sh ex)) : kb_J p l e R s m args below meth c nL V A k n Q pc L (.int v :: .ref (a 3) :: st) (kb_W V a σ sh ex) :=
  kj_put C hi_X4 tyX4 tyX4_ok nmX4 3 rfl rfl 7 (by decide) hl rfl rfl rfl (by rcases hb with rfl | rfl <;> rfl) (by rcases hb with rfl | rfl <;> rfl) (by simp) rfl dg K
theorem kg_X4_ended {v : Int32} (C : kb_C p s m args meth c cc nL own w0 ret V A)  (hl : Cond.fieldLink own index "KnitBench$RowReader" "ended" "Z" ∈ kb_TB) (dg : decode cc pc = .ok (.getfield index, 3)) (hv : kb_g σ 13 = v) (K : kb_J p l e R s m args below meth c nL V A k n Q (pc + 3) L (.int v :: st) (kb_W V a σ sh ex)) : kb_J p l e R s m args below meth c nL V A k n Q pc L (.ref (a 3) :: st) (kb_W V a σ sh ex) := by
  subst hv
  exact kj_get C hi_X4 3 rfl rfl 8 (by decide) hl rfl rfl dg K
theorem kp_X4_ended {v : Int32} (C : kb_C p s m args meth c cc nL own w0 ret V A)  (hl : Cond.fieldLink own index "KnitBench$RowReader" "ended" "Z" ∈ kb_TB) (dg : decode cc pc = .ok (.putfield index, 3)) (hb : v = 0 ∨ v = 1) (K : kb_J p l e R s m args below meth c nL V A k n Q (pc + 3) L st (kb_W V a (kb_p σ 13 v) sh ex)) : kb_J p l e R s m args below meth c nL V A k n Q pc L (.int v :: .ref (a 3) :: st) (kb_W V a σ sh ex) :=
  kj_put C hi_X4 tyX4 tyX4_ok nmX4 3 rfl rfl 8 (by decide) hl rfl rfl rfl (by rcases hb with rfl | rfl <;> rfl) (by rcases hb with rfl | rfl <;> rfl) (by simp) rfl dg K
theorem kg_X2_plan (C : kb_C p s m args meth c cc nL own w0 ret V A)  (hl : Cond.fieldLink own index "KnitBench$Knitter" "plan" "LKnitBench$Plan;" ∈ kb_TB) (dg : decode cc pc = .ok (.getfield index, 3)) (K : kb_J p l e R s m args below meth c nL V A k n Q (pc + 3) L (.ref (a 5) :: st) (kb_W V a σ sh ex)) : kb_J p l e R s m args below meth c nL V A k n Q pc L (.ref (a 4) :: st) (kb_W V a σ sh ex) :=
  kj_get C hi_X2 4 rfl rfl 0 (by decide) hl rfl rfl dg K
theorem kg_X2_fabric (C : kb_C p s m args meth c cc nL own w0 ret V A)  (hl : Cond.fieldLink own index "KnitBench$Knitter" "fabric" "LKnitBench$Fabric;" ∈ kb_TB) (dg : decode cc pc = .ok (.getfield index, 3)) (K : kb_J p l e R s m args below meth c nL V A k n Q (pc + 3) L (.ref (a 2) :: st) (kb_W V a σ sh ex)) : kb_J p l e R s m args below meth c nL V A k n Q pc L (.ref (a 4) :: st) (kb_W V a σ sh ex) :=
  kj_get C hi_X2 4 rfl rfl 1 (by decide) hl rfl rfl dg K
theorem kg_X2_runsLeft (C : kb_C p s m args meth c cc nL own w0 ret V A)  (hl : Cond.fieldLink own index "KnitBench$Knitter" "runsLeft" "[J" ∈ kb_TB) (dg : decode cc pc = .ok (.getfield index, 3)) (K : kb_J p l e R s m args below meth c nL V A k n Q (pc + 3) L (.ref (a 14) :: st) (kb_W V a σ sh ex)) : kb_J p l e R s m args below meth c nL V A k n Q pc L (.ref (a 4) :: st) (kb_W V a σ sh ex) :=
  kj_get C hi_X2 4 rfl rfl 2 (by decide) hl rfl rfl dg K
theorem kg_X2_depth {v : Int32} (C : kb_C p s m args meth c cc nL own w0 ret V A)  (hl : Cond.fieldLink own index "KnitBench$Knitter" "depth" "I" ∈ kb_TB) (dg : decode cc pc = .ok (.getfield index, 3)) (hv : kb_g σ 14 = v) (K : kb_J p l e R s m args below meth c nL V A k n Q (pc + 3) L (.int v :: st) (kb_W V a σ sh ex)) : kb_J p l e R s m args below meth c nL V A k n Q pc L (.ref (a 4) :: st) (kb_W V a σ sh ex) := by
  subst hv
  exact kj_get C hi_X2 4 rfl rfl 3 (by decide) hl rfl rfl dg K
theorem kp_X2_depth {v : Int32} (C : kb_C p s m args meth c cc nL own w0 ret V A)  (hl : Cond.fieldLink own index "KnitBench$Knitter" "depth" "I" ∈ kb_TB) (dg : decode cc pc = .ok (.putfield index, 3)) (K : kb_J p l e R s m args below meth c nL V A k n Q (pc + 3) L st (kb_W V a (kb_p σ 14 v) sh ex)) : kb_J p l e R s m args below meth c nL V A k n Q pc L (.int v :: .ref (a 4) :: st) (kb_W V a σ sh ex) :=
  kj_put C hi_X2 tyX2 tyX2_ok nmX2 4 rfl rfl 3 (by decide) hl rfl rfl rfl rfl rfl (by simp) rfl dg K
theorem kg_X2_fault {v : Int32} (C : kb_C p s m args meth c cc nL own w0 ret V A)  (hl : Cond.fieldLink own index "KnitBench$Knitter" "fault" "I" ∈ kb_TB) (dg : decode cc pc = .ok (.getfield index, 3)) (hv : kb_g σ 15 = v) (K : kb_J p l e R s m args below meth c nL V A k n Q (pc + 3) L (.int v :: st) (kb_W V a σ sh ex)) : kb_J p l e R s m args below meth c nL V A k n Q pc L (.ref (a 4) :: st) (kb_W V a σ sh ex) := by
  subst hv
  exact kj_get C hi_X2 4 rfl rfl 4 (by decide) hl rfl rfl dg K
theorem kp_X2_fault {v : Int32} (C : kb_C p s m args meth c cc nL own w0 ret V A)  (hl : Cond.fieldLink own index "KnitBench$Knitter" "fault" "I" ∈ kb_TB) (dg : decode cc pc = .ok (.putfield index, 3)) (K : kb_J p l e R s m args below meth c nL V A k n Q (pc + 3) L st (kb_W V a (kb_p σ 15 v) sh ex)) : kb_J p l e R s m args below meth c nL V A k n Q pc L (.int v :: .ref (a 4) :: st) (kb_W V a σ sh ex) :=
  kj_put C hi_X2 tyX2 tyX2_ok nmX2 4 rfl rfl 4 (by decide) hl rfl rfl rfl rfl rfl (by simp) rfl dg K
theorem kg_X3_kinds (C : kb_C p s m args meth c cc nL own w0 ret V A)  (hl : Cond.fieldLink own index "KnitBench$Plan" "kinds" "[I" ∈ kb_TB) (dg : decode cc pc = .ok (.getfield index, 3)) (K : kb_J p l e R s m args below meth c nL V A k n Q (pc + 3) L (.ref (a 15) :: st) (kb_W V a σ sh ex)) : kb_J p l e R s m args below meth c nL V A k n Q pc L (.ref (a 5) :: st) (kb_W V a σ sh ex) :=
  kj_get C hi_X3 5 rfl rfl 0 (by decide) hl rfl rfl dg K
theorem kg_X3_places (C : kb_C p s m args meth c cc nL own w0 ret V A)  (hl : Cond.fieldLink own index "KnitBench$Plan" "places" "[I" ∈ kb_TB) (dg : decode cc pc = .ok (.getfield index, 3)) (K : kb_J p l e R s m args below meth c nL V A k n Q (pc + 3) L (.ref (a 16) :: st) (kb_W V a σ sh ex)) : kb_J p l e R s m args below meth c nL V A k n Q pc L (.ref (a 5) :: st) (kb_W V a σ sh ex) :=
  kj_get C hi_X3 5 rfl rfl 1 (by decide) hl rfl rfl dg K
theorem kg_X3_counts (C : kb_C p s m args meth c cc nL own w0 ret V A)  (hl : Cond.fieldLink own index "KnitBench$Plan" "counts" "[I" ∈ kb_TB) (dg : decode cc pc = .ok (.getfield index, 3)) (K : kb_J p l e R s m args below meth c nL V A k n Q (pc + 3) L (.ref (a 17) :: st) (kb_W V a σ sh ex)) : kb_J p l e R s m args below meth c nL V A k n Q pc L (.ref (a 5) :: st) (kb_W V a σ sh ex) :=
  kj_get C hi_X3 5 rfl rfl 2 (by decide) hl rfl rfl dg K
theorem kg_X3_links (C : kb_C p s m args meth c cc nL own w0 ret V A)  (hl : Cond.fieldLink own index "KnitBench$Plan" "links" "[I" ∈ kb_TB) (dg : decode cc pc = .ok (.getfield index, 3)) (K : kb_J p l e R s m args below meth c nL V A k n Q (pc + 3) L (.ref (a 18) :: st) (kb_W V a σ sh ex)) : kb_J p l e R s m args below meth c nL V A k n Q pc L (.ref (a 5) :: st) (kb_W V a σ sh ex) :=
  kj_get C hi_X3 5 rfl rfl 3 (by decide) hl rfl rfl dg K
theorem kg_X3_takes (C : kb_C p s m args meth c cc nL own w0 ret V A)  (hl : Cond.fieldLink own index "KnitBench$Plan" "takes" "[J" ∈ kb_TB) (dg : decode cc pc = .ok (.getfield index, 3)) (K : kb_J p l e R s m args below meth c nL V A k n Q (pc + 3) L (.ref (a 19) :: st) (kb_W V a σ sh ex)) : kb_J p l e R s m args below meth c nL V A k n Q pc L (.ref (a 5) :: st) (kb_W V a σ sh ex) :=
  kj_get C hi_X3 5 rfl rfl 4 (by decide) hl rfl rfl dg K
theorem kg_X3_size {v : Int32} (C : kb_C p s m args meth c cc nL own w0 ret V A)  (hl : Cond.fieldLink own index "KnitBench$Plan" "size" "I" ∈ kb_TB) (dg : decode cc pc = .ok (.getfield index, 3)) (hv : kb_g σ 16 = v) (K : kb_J p l e R s m args below meth c nL V A k n Q (pc + 3) L (.int v :: st) (kb_W V a σ sh ex)) : kb_J p l e R s m args below meth c nL V A k n Q pc L (.ref (a 5) :: st) (kb_W V a σ sh ex) := by
  subst hv
  exact kj_get C hi_X3 5 rfl rfl 5 (by decide) hl rfl rfl dg K
theorem kp_X3_size {v : Int32} (C : kb_C p s m args meth c cc nL own w0 ret V A)  (hl : Cond.fieldLink own index "KnitBench$Plan" "size" "I" ∈ kb_TB) (dg : decode cc pc = .ok (.putfield index, 3)) (K : kb_J p l e R s m args below meth c nL V A k n Q (pc + 3) L st (kb_W V a (kb_p σ 16 v) sh ex)) : kb_J p l e R s m args below meth c nL V A k n Q pc L (.int v :: .ref (a 5) :: st) (kb_W V a σ sh ex) :=
  kj_put C hi_X3 tyX3 tyX3_ok nmX3 5 rfl rfl 5 (by decide) hl rfl rfl rfl rfl rfl (by simp) rfl dg K
theorem ka_X7_bytes {i v : Int32} (C : kb_C p s m args meth c cc nL own w0 ret V A) (hin : kb_in i 200 = true) (dg : decode cc pc = .ok (.iaload, 1)) (hv : kb_a σ 0 i.toNatClampNeg = v) (K : kb_J p l e R s m args below meth c nL V A k n Q (pc + 1) L (.int v :: st) (kb_W V a σ sh ex)) : kb_J p l e R s m args below meth c nL V A k n Q pc L (.int i :: .ref (a 6) :: st) (kb_W V a σ sh ex) := by
  subst hv
  exact kj_iald C 6 rfl (kb_inv hin) dg K
theorem ks_X7_bytes {i v : Int32} (C : kb_C p s m args meth c cc nL own w0 ret V A) (hin : kb_in i 200 = true) (dg : decode cc pc = .ok (.iastore, 1)) (K : kb_J p l e R s m args below meth c nL V A k n Q (pc + 1) L st (kb_W V a (kb_ap σ 0 i.toNatClampNeg v) sh ex)) : kb_J p l e R s m args below meth c nL V A k n Q pc L (.int v :: .int i :: .ref (a 6) :: st) (kb_W V a σ sh ex) :=
  kj_iast C 6 rfl (kb_inv hin) rfl dg K
theorem ka_X0_firstLoops {i v : Int32} (C : kb_C p s m args meth c cc nL own w0 ret V A) (hin : kb_in i 32 = true) (dg : decode cc pc = .ok (.iaload, 1)) (hv : kb_a σ 1 i.toNatClampNeg = v) (K : kb_J p l e R s m args below meth c nL V A k n Q (pc + 1) L (.int v :: st) (kb_W V a σ sh ex)) : kb_J p l e R s m args below meth c nL V A k n Q pc L (.int i :: .ref (a 7) :: st) (kb_W V a σ sh ex) := by
  subst hv
  exact kj_iald C 7 rfl (kb_inv hin) dg K
theorem ks_X0_firstLoops {i v : Int32} (C : kb_C p s m args meth c cc nL own w0 ret V A) (hin : kb_in i 32 = true) (dg : decode cc pc = .ok (.iastore, 1)) (K : kb_J p l e R s m args below meth c nL V A k n Q (pc + 1) L st (kb_W V a (kb_ap σ 1 i.toNatClampNeg v) sh ex)) : kb_J p l e R s m args below meth c nL V A k n Q pc L (.int v :: .int i :: .ref (a 7) :: st) (kb_W V a σ sh ex) :=
  kj_iast C 7 rfl (kb_inv hin) rfl dg K
theorem ka_X0_firstStitches {i v : Int32} (C : kb_C p s m args meth c cc nL own w0 ret V A) (hin : kb_in i 32 = true) (dg : decode cc pc = .ok (.iaload, 1)) (hv : kb_a σ 2 i.toNatClampNeg = v) (K : kb_J p l e R s m args below meth c nL V A k n Q (pc + 1) L (.int v :: st) (kb_W V a σ sh ex)) : kb_J p l e R s m args below meth c nL V A k n Q pc L (.int i :: .ref (a 8) :: st) (kb_W V a σ sh ex) := by
  subst hv
  exact kj_iald C 8 rfl (kb_inv hin) dg K
theorem ks_X0_firstStitches {i v : Int32} (C : kb_C p s m args meth c cc nL own w0 ret V A) (hin : kb_in i 32 = true) (dg : decode cc pc = .ok (.iastore, 1)) (K : kb_J p l e R s m args below meth c nL V A k n Q (pc + 1) L st (kb_W V a (kb_ap σ 2 i.toNatClampNeg v) sh ex)) : kb_J p l e R s m args below meth c nL V A k n Q pc L (.int v :: .int i :: .ref (a 8) :: st) (kb_W V a σ sh ex) :=
  kj_iast C 8 rfl (kb_inv hin) rfl dg K
theorem ka_X0_stitches {i v : Int32} (C : kb_C p s m args meth c cc nL own w0 ret V A) (hin : kb_in i 1200 = true) (dg : decode cc pc = .ok (.iaload, 1)) (hv : kb_a σ 3 i.toNatClampNeg = v) (K : kb_J p l e R s m args below meth c nL V A k n Q (pc + 1) L (.int v :: st) (kb_W V a σ sh ex)) : kb_J p l e R s m args below meth c nL V A k n Q pc L (.int i :: .ref (a 9) :: st) (kb_W V a σ sh ex) := by
  subst hv
  exact kj_iald C 9 rfl (kb_inv hin) dg K
theorem ks_X0_stitches {i v : Int32} (C : kb_C p s m args meth c cc nL own w0 ret V A) (hin : kb_in i 1200 = true) (dg : decode cc pc = .ok (.iastore, 1)) (K : kb_J p l e R s m args below meth c nL V A k n Q (pc + 1) L st (kb_W V a (kb_ap σ 3 i.toNatClampNeg v) sh ex)) : kb_J p l e R s m args below meth c nL V A k n Q pc L (.int v :: .int i :: .ref (a 9) :: st) (kb_W V a σ sh ex) :=
  kj_iast C 9 rfl (kb_inv hin) rfl dg K
theorem ka_X0_parentCounts {i v : Int32} (C : kb_C p s m args meth c cc nL own w0 ret V A) (hin : kb_in i 600 = true) (dg : decode cc pc = .ok (.iaload, 1)) (hv : kb_a σ 4 i.toNatClampNeg = v) (K : kb_J p l e R s m args below meth c nL V A k n Q (pc + 1) L (.int v :: st) (kb_W V a σ sh ex)) : kb_J p l e R s m args below meth c nL V A k n Q pc L (.int i :: .ref (a 10) :: st) (kb_W V a σ sh ex) := by
  subst hv
  exact kj_iald C 10 rfl (kb_inv hin) dg K
theorem ks_X0_parentCounts {i v : Int32} (C : kb_C p s m args meth c cc nL own w0 ret V A) (hin : kb_in i 600 = true) (dg : decode cc pc = .ok (.iastore, 1)) (K : kb_J p l e R s m args below meth c nL V A k n Q (pc + 1) L st (kb_W V a (kb_ap σ 4 i.toNatClampNeg v) sh ex)) : kb_J p l e R s m args below meth c nL V A k n Q pc L (.int v :: .int i :: .ref (a 10) :: st) (kb_W V a σ sh ex) :=
  kj_iast C 10 rfl (kb_inv hin) rfl dg K
theorem ka_X0_firstParents {i v : Int32} (C : kb_C p s m args meth c cc nL own w0 ret V A) (hin : kb_in i 600 = true) (dg : decode cc pc = .ok (.iaload, 1)) (hv : kb_a σ 5 i.toNatClampNeg = v) (K : kb_J p l e R s m args below meth c nL V A k n Q (pc + 1) L (.int v :: st) (kb_W V a σ sh ex)) : kb_J p l e R s m args below meth c nL V A k n Q pc L (.int i :: .ref (a 11) :: st) (kb_W V a σ sh ex) := by
  subst hv
  exact kj_iald C 11 rfl (kb_inv hin) dg K
theorem ks_X0_firstParents {i v : Int32} (C : kb_C p s m args meth c cc nL own w0 ret V A) (hin : kb_in i 600 = true) (dg : decode cc pc = .ok (.iastore, 1)) (K : kb_J p l e R s m args below meth c nL V A k n Q (pc + 1) L st (kb_W V a (kb_ap σ 5 i.toNatClampNeg v) sh ex)) : kb_J p l e R s m args below meth c nL V A k n Q pc L (.int v :: .int i :: .ref (a 11) :: st) (kb_W V a σ sh ex) :=
  kj_iast C 11 rfl (kb_inv hin) rfl dg K
theorem ka_X4_openSteps {i v : Int32} (C : kb_C p s m args meth c cc nL own w0 ret V A) (hin : kb_in i 5 = true) (dg : decode cc pc = .ok (.iaload, 1)) (hv : kb_a σ 6 i.toNatClampNeg = v) (K : kb_J p l e R s m args below meth c nL V A k n Q (pc + 1) L (.int v :: st) (kb_W V a σ sh ex)) : kb_J p l e R s m args below meth c nL V A k n Q pc L (.int i :: .ref (a 12) :: st) (kb_W V a σ sh ex) := by
  subst hv
  exact kj_iald C 12 rfl (kb_inv hin) dg K
theorem ks_X4_openSteps {i v : Int32} (C : kb_C p s m args meth c cc nL own w0 ret V A) (hin : kb_in i 5 = true) (dg : decode cc pc = .ok (.iastore, 1)) (K : kb_J p l e R s m args below meth c nL V A k n Q (pc + 1) L st (kb_W V a (kb_ap σ 6 i.toNatClampNeg v) sh ex)) : kb_J p l e R s m args below meth c nL V A k n Q pc L (.int v :: .int i :: .ref (a 12) :: st) (kb_W V a σ sh ex) :=
  kj_iast C 12 rfl (kb_inv hin) rfl dg K
theorem ka_X4_takes {i : Int32} {v : Int64} (C : kb_C p s m args meth c cc nL own w0 ret V A) (hin : kb_in i 5 = true) (dg : decode cc pc = .ok (.laload, 1)) (hv : kb_b σ 0 i.toNatClampNeg = v) (K : kb_J p l e R s m args below meth c nL V A k n Q (pc + 1) L (.long v :: st) (kb_W V a σ sh ex)) : kb_J p l e R s m args below meth c nL V A k n Q pc L (.int i :: .ref (a 13) :: st) (kb_W V a σ sh ex) := by
  subst hv
  exact kj_lald C 13 rfl (kb_inv hin) dg K
theorem ks_X4_takes {i : Int32} {v : Int64} (C : kb_C p s m args meth c cc nL own w0 ret V A) (hin : kb_in i 5 = true) (dg : decode cc pc = .ok (.lastore, 1)) (K : kb_J p l e R s m args below meth c nL V A k n Q (pc + 1) L st (kb_W V a (kb_bp σ 0 i.toNatClampNeg v) sh ex)) : kb_J p l e R s m args below meth c nL V A k n Q pc L (.long v :: .int i :: .ref (a 13) :: st) (kb_W V a σ sh ex) :=
  kj_last C 13 rfl (kb_inv hin) rfl dg K
theorem ka_X2_runsLeft {i : Int32} {v : Int64} (C : kb_C p s m args meth c cc nL own w0 ret V A) (hin : kb_in i 5 = true) (dg : decode cc pc = .ok (.laload, 1)) (hv : kb_b σ 1 i.toNatClampNeg = v) (K : kb_J p l e R s m args below meth c nL V A k n Q (pc + 1) L (.long v :: st) (kb_W V a σ sh ex)) : kb_J p l e R s m args below meth c nL V A k n Q pc L (.int i :: .ref (a 14) :: st) (kb_W V a σ sh ex) := by
  subst hv
  exact kj_lald C 14 rfl (kb_inv hin) dg K
theorem ks_X2_runsLeft {i : Int32} {v : Int64} (C : kb_C p s m args meth c cc nL own w0 ret V A) (hin : kb_in i 5 = true) (dg : decode cc pc = .ok (.lastore, 1)) (K : kb_J p l e R s m args below meth c nL V A k n Q (pc + 1) L st (kb_W V a (kb_bp σ 1 i.toNatClampNeg v) sh ex)) : kb_J p l e R s m args below meth c nL V A k n Q pc L (.long v :: .int i :: .ref (a 14) :: st) (kb_W V a σ sh ex) :=
  kj_last C 14 rfl (kb_inv hin) rfl dg K
theorem ka_X3_kinds {i v : Int32} (C : kb_C p s m args meth c cc nL own w0 ret V A) (hin : kb_in i 200 = true) (dg : decode cc pc = .ok (.iaload, 1)) (hv : kb_a σ 7 i.toNatClampNeg = v) (K : kb_J p l e R s m args below meth c nL V A k n Q (pc + 1) L (.int v :: st) (kb_W V a σ sh ex)) : kb_J p l e R s m args below meth c nL V A k n Q pc L (.int i :: .ref (a 15) :: st) (kb_W V a σ sh ex) := by
  subst hv
  exact kj_iald C 15 rfl (kb_inv hin) dg K
theorem ks_X3_kinds {i v : Int32} (C : kb_C p s m args meth c cc nL own w0 ret V A) (hin : kb_in i 200 = true) (dg : decode cc pc = .ok (.iastore, 1)) (K : kb_J p l e R s m args below meth c nL V A k n Q (pc + 1) L st (kb_W V a (kb_ap σ 7 i.toNatClampNeg v) sh ex)) : kb_J p l e R s m args below meth c nL V A k n Q pc L (.int v :: .int i :: .ref (a 15) :: st) (kb_W V a σ sh ex) :=
  kj_iast C 15 rfl (kb_inv hin) rfl dg K
theorem ka_X3_places {i v : Int32} (C : kb_C p s m args meth c cc nL own w0 ret V A) (hin : kb_in i 200 = true) (dg : decode cc pc = .ok (.iaload, 1)) (hv : kb_a σ 8 i.toNatClampNeg = v) (K : kb_J p l e R s m args below meth c nL V A k n Q (pc + 1) L (.int v :: st) (kb_W V a σ sh ex)) : kb_J p l e R s m args below meth c nL V A k n Q pc L (.int i :: .ref (a 16) :: st) (kb_W V a σ sh ex) := by
  subst hv
  exact kj_iald C 16 rfl (kb_inv hin) dg K
theorem ks_X3_places {i v : Int32} (C : kb_C p s m args meth c cc nL own w0 ret V A) (hin : kb_in i 200 = true) (dg : decode cc pc = .ok (.iastore, 1)) (K : kb_J p l e R s m args below meth c nL V A k n Q (pc + 1) L st (kb_W V a (kb_ap σ 8 i.toNatClampNeg v) sh ex)) : kb_J p l e R s m args below meth c nL V A k n Q pc L (.int v :: .int i :: .ref (a 16) :: st) (kb_W V a σ sh ex) :=
  kj_iast C 16 rfl (kb_inv hin) rfl dg K
theorem ka_X3_counts {i v : Int32} (C : kb_C p s m args meth c cc nL own w0 ret V A) (hin : kb_in i 200 = true) (dg : decode cc pc = .ok (.iaload, 1)) (hv : kb_a σ 9 i.toNatClampNeg = v) (K : kb_J p l e R s m args below meth c nL V A k n Q (pc + 1) L (.int v :: st) (kb_W V a σ sh ex)) : kb_J p l e R s m args below meth c nL V A k n Q pc L (.int i :: .ref (a 17) :: st) (kb_W V a σ sh ex) := by
  subst hv
  exact kj_iald C 17 rfl (kb_inv hin) dg K
theorem ks_X3_counts {i v : Int32} (C : kb_C p s m args meth c cc nL own w0 ret V A) (hin : kb_in i 200 = true) (dg : decode cc pc = .ok (.iastore, 1)) (K : kb_J p l e R s m args below meth c nL V A k n Q (pc + 1) L st (kb_W V a (kb_ap σ 9 i.toNatClampNeg v) sh ex)) : kb_J p l e R s m args below meth c nL V A k n Q pc L (.int v :: .int i :: .ref (a 17) :: st) (kb_W V a σ sh ex) :=
  kj_iast C 17 rfl (kb_inv hin) rfl dg K
theorem ka_X3_links {i v : Int32} (C : kb_C p s m args meth c cc nL own w0 ret V A) (hin : kb_in i 200 = true) (dg : decode cc pc = .ok (.iaload, 1)) (hv : kb_a σ 10 i.toNatClampNeg = v) (K : kb_J p l e R s m args below meth c nL V A k n Q (pc + 1) L (.int v :: st) (kb_W V a σ sh ex)) : kb_J p l e R s m args below meth c nL V A k n Q pc L (.int i :: .ref (a 18) :: st) (kb_W V a σ sh ex) := by
  subst hv
  exact kj_iald C 18 rfl (kb_inv hin) dg K
theorem ks_X3_links {i v : Int32} (C : kb_C p s m args meth c cc nL own w0 ret V A) (hin : kb_in i 200 = true) (dg : decode cc pc = .ok (.iastore, 1)) (K : kb_J p l e R s m args below meth c nL V A k n Q (pc + 1) L st (kb_W V a (kb_ap σ 10 i.toNatClampNeg v) sh ex)) : kb_J p l e R s m args below meth c nL V A k n Q pc L (.int v :: .int i :: .ref (a 18) :: st) (kb_W V a σ sh ex) :=
  kj_iast C 18 rfl (kb_inv hin) rfl dg K
theorem ka_X3_takes {i : Int32} {v : Int64} (C : kb_C p s m args meth c cc nL own w0 ret V A) (hin : kb_in i 200 = true) (dg : decode cc pc = .ok (.laload, 1)) (hv : kb_b σ 2 i.toNatClampNeg = v) (K : kb_J p l e R s m args below meth c nL V A k n Q (pc + 1) L (.long v :: st) (kb_W V a σ sh ex)) : kb_J p l e R s m args below meth c nL V A k n Q pc L (.int i :: .ref (a 19) :: st) (kb_W V a σ sh ex) := by
  subst hv
  exact kj_lald C 19 rfl (kb_inv hin) dg K
theorem ks_X3_takes {i : Int32} {v : Int64} (C : kb_C p s m args meth c cc nL own w0 ret V A) (hin : kb_in i 200 = true) (dg : decode cc pc = .ok (.lastore, 1)) (K : kb_J p l e R s m args below meth c nL V A k n Q (pc + 1) L st (kb_W V a (kb_bp σ 2 i.toNatClampNeg v) sh ex)) : kb_J p l e R s m args below meth c nL V A k n Q pc L (.long v :: .int i :: .ref (a 19) :: st) (kb_W V a σ sh ex) :=
  kj_last C 19 rfl (kb_inv hin) rfl dg K
end KBFK
section KBFS
variable {p : Program} {l : Launch} {e : Env} {R : Room} {s : State} {m : MethodId} {args : Array Value} {below : List Frame} {meth : Method} {c : Code} {k n : Nat} {Q : State → Prop} {cc : ByteArray} {nL : Nat} {own : String} {w0 : Cond} {ret : Option FieldType} {V : kb_V} {A : Nat → Prop} {pc : Nat} {L : List (Nat × Value)} {st : List Value} {b : Nat → Nat} {τ : kb_S} {ex : va_W} {index : Nat}
theorem kg_X5_table (C : kb_C p s m args meth c cc nL own w0 ret V A)  (hl : Cond.fieldLink own index "KnitBench$Shortest" "table" "[I" ∈ kb_TB) (dg : decode cc pc = .ok (.getfield index, 3)) (K : kb_J p l e R s m args below meth c nL V A k n Q (pc + 3) L (.ref (b 1) :: st) (kb_WS V b τ ex)) : kb_J p l e R s m args below meth c nL V A k n Q pc L (.ref (b 0) :: st) (kb_WS V b τ ex) :=
  kj_get C hi_X5 0 rfl rfl 0 (by decide) hl rfl rfl dg K
theorem kg_X5_sames (C : kb_C p s m args meth c cc nL own w0 ret V A)  (hl : Cond.fieldLink own index "KnitBench$Shortest" "sames" "[I" ∈ kb_TB) (dg : decode cc pc = .ok (.getfield index, 3)) (K : kb_J p l e R s m args below meth c nL V A k n Q (pc + 3) L (.ref (b 2) :: st) (kb_WS V b τ ex)) : kb_J p l e R s m args below meth c nL V A k n Q pc L (.ref (b 0) :: st) (kb_WS V b τ ex) :=
  kj_get C hi_X5 0 rfl rfl 1 (by decide) hl rfl rfl dg K
theorem kg_X5_stitches (C : kb_C p s m args meth c cc nL own w0 ret V A)  (hl : Cond.fieldLink own index "KnitBench$Shortest" "stitches" "[I" ∈ kb_TB) (dg : decode cc pc = .ok (.getfield index, 3)) (K : kb_J p l e R s m args below meth c nL V A k n Q (pc + 3) L (.ref (b 3) :: st) (kb_WS V b τ ex)) : kb_J p l e R s m args below meth c nL V A k n Q pc L (.ref (b 0) :: st) (kb_WS V b τ ex) :=
  kj_get C hi_X5 0 rfl rfl 2 (by decide) hl rfl rfl dg K
theorem kg_X5_text (C : kb_C p s m args meth c cc nL own w0 ret V A)  (hl : Cond.fieldLink own index "KnitBench$Shortest" "text" "[I" ∈ kb_TB) (dg : decode cc pc = .ok (.getfield index, 3)) (K : kb_J p l e R s m args below meth c nL V A k n Q (pc + 3) L (.ref (b 4) :: st) (kb_WS V b τ ex)) : kb_J p l e R s m args below meth c nL V A k n Q pc L (.ref (b 0) :: st) (kb_WS V b τ ex) :=
  kj_get C hi_X5 0 rfl rfl 3 (by decide) hl rfl rfl dg K
theorem kg_X5_count {v : Int32} (C : kb_C p s m args meth c cc nL own w0 ret V A)  (hl : Cond.fieldLink own index "KnitBench$Shortest" "count" "I" ∈ kb_TB) (dg : decode cc pc = .ok (.getfield index, 3)) (hv : kb_g τ 0 = v) (K : kb_J p l e R s m args below meth c nL V A k n Q (pc + 3) L (.int v :: st) (kb_WS V b τ ex)) : kb_J p l e R s m args below meth c nL V A k n Q pc L (.ref (b 0) :: st) (kb_WS V b τ ex) := by
  subst hv
  exact kj_get C hi_X5 0 rfl rfl 4 (by decide) hl rfl rfl dg K
theorem kp_X5_count {v : Int32} (C : kb_C p s m args meth c cc nL own w0 ret V A)  (hl : Cond.fieldLink own index "KnitBench$Shortest" "count" "I" ∈ kb_TB) (dg : decode cc pc = .ok (.putfield index, 3)) (K : kb_J p l e R s m args below meth c nL V A k n Q (pc + 3) L st (kb_WS V b (kb_p τ 0 v) ex)) : kb_J p l e R s m args below meth c nL V A k n Q pc L (.int v :: .ref (b 0) :: st) (kb_WS V b τ ex) :=
  kj_put C hi_X5 tyX5 tyX5_ok nmX5 0 rfl rfl 4 (by decide) hl rfl rfl rfl rfl rfl (by simp) rfl dg K
theorem kg_X5_length {v : Int32} (C : kb_C p s m args meth c cc nL own w0 ret V A)  (hl : Cond.fieldLink own index "KnitBench$Shortest" "length" "I" ∈ kb_TB) (dg : decode cc pc = .ok (.getfield index, 3)) (hv : kb_g τ 1 = v) (K : kb_J p l e R s m args below meth c nL V A k n Q (pc + 3) L (.int v :: st) (kb_WS V b τ ex)) : kb_J p l e R s m args below meth c nL V A k n Q pc L (.ref (b 0) :: st) (kb_WS V b τ ex) := by
  subst hv
  exact kj_get C hi_X5 0 rfl rfl 5 (by decide) hl rfl rfl dg K
theorem kp_X5_length {v : Int32} (C : kb_C p s m args meth c cc nL own w0 ret V A)  (hl : Cond.fieldLink own index "KnitBench$Shortest" "length" "I" ∈ kb_TB) (dg : decode cc pc = .ok (.putfield index, 3)) (K : kb_J p l e R s m args below meth c nL V A k n Q (pc + 3) L st (kb_WS V b (kb_p τ 1 v) ex)) : kb_J p l e R s m args below meth c nL V A k n Q pc L (.int v :: .ref (b 0) :: st) (kb_WS V b τ ex) :=
  kj_put C hi_X5 tyX5 tyX5_ok nmX5 0 rfl rfl 5 (by decide) hl rfl rfl rfl rfl rfl (by simp) rfl dg K
theorem ka_X5_table {i v : Int32} (C : kb_C p s m args meth c cc nL own w0 ret V A) (hin : kb_in i 5680 = true) (dg : decode cc pc = .ok (.iaload, 1)) (hv : kb_a τ 0 i.toNatClampNeg = v) (K : kb_J p l e R s m args below meth c nL V A k n Q (pc + 1) L (.int v :: st) (kb_WS V b τ ex)) : kb_J p l e R s m args below meth c nL V A k n Q pc L (.int i :: .ref (b 1) :: st) (kb_WS V b τ ex) := by
  subst hv
  exact kj_iald C 1 rfl (kb_inv hin) dg K
theorem ks_X5_table {i v : Int32} (C : kb_C p s m args meth c cc nL own w0 ret V A) (hin : kb_in i 5680 = true) (dg : decode cc pc = .ok (.iastore, 1)) (K : kb_J p l e R s m args below meth c nL V A k n Q (pc + 1) L st (kb_WS V b (kb_ap τ 0 i.toNatClampNeg v) ex)) : kb_J p l e R s m args below meth c nL V A k n Q pc L (.int v :: .int i :: .ref (b 1) :: st) (kb_WS V b τ ex) :=
  kj_iast C 1 rfl (kb_inv hin) rfl dg K
theorem ka_X5_sames {i v : Int32} (C : kb_C p s m args meth c cc nL own w0 ret V A) (hin : kb_in i 3200 = true) (dg : decode cc pc = .ok (.iaload, 1)) (hv : kb_a τ 1 i.toNatClampNeg = v) (K : kb_J p l e R s m args below meth c nL V A k n Q (pc + 1) L (.int v :: st) (kb_WS V b τ ex)) : kb_J p l e R s m args below meth c nL V A k n Q pc L (.int i :: .ref (b 2) :: st) (kb_WS V b τ ex) := by
  subst hv
  exact kj_iald C 2 rfl (kb_inv hin) dg K
theorem ks_X5_sames {i v : Int32} (C : kb_C p s m args meth c cc nL own w0 ret V A) (hin : kb_in i 3200 = true) (dg : decode cc pc = .ok (.iastore, 1)) (K : kb_J p l e R s m args below meth c nL V A k n Q (pc + 1) L st (kb_WS V b (kb_ap τ 1 i.toNatClampNeg v) ex)) : kb_J p l e R s m args below meth c nL V A k n Q pc L (.int v :: .int i :: .ref (b 2) :: st) (kb_WS V b τ ex) :=
  kj_iast C 2 rfl (kb_inv hin) rfl dg K
theorem ka_X5_stitches {i v : Int32} (C : kb_C p s m args meth c cc nL own w0 ret V A) (hin : kb_in i 80 = true) (dg : decode cc pc = .ok (.iaload, 1)) (hv : kb_a τ 2 i.toNatClampNeg = v) (K : kb_J p l e R s m args below meth c nL V A k n Q (pc + 1) L (.int v :: st) (kb_WS V b τ ex)) : kb_J p l e R s m args below meth c nL V A k n Q pc L (.int i :: .ref (b 3) :: st) (kb_WS V b τ ex) := by
  subst hv
  exact kj_iald C 3 rfl (kb_inv hin) dg K
theorem ks_X5_stitches {i v : Int32} (C : kb_C p s m args meth c cc nL own w0 ret V A) (hin : kb_in i 80 = true) (dg : decode cc pc = .ok (.iastore, 1)) (K : kb_J p l e R s m args below meth c nL V A k n Q (pc + 1) L st (kb_WS V b (kb_ap τ 2 i.toNatClampNeg v) ex)) : kb_J p l e R s m args below meth c nL V A k n Q pc L (.int v :: .int i :: .ref (b 3) :: st) (kb_WS V b τ ex) :=
  kj_iast C 3 rfl (kb_inv hin) rfl dg K
theorem ka_X5_text {i v : Int32} (C : kb_C p s m args meth c cc nL own w0 ret V A) (hin : kb_in i 480 = true) (dg : decode cc pc = .ok (.iaload, 1)) (hv : kb_a τ 3 i.toNatClampNeg = v) (K : kb_J p l e R s m args below meth c nL V A k n Q (pc + 1) L (.int v :: st) (kb_WS V b τ ex)) : kb_J p l e R s m args below meth c nL V A k n Q pc L (.int i :: .ref (b 4) :: st) (kb_WS V b τ ex) := by
  subst hv
  exact kj_iald C 4 rfl (kb_inv hin) dg K
theorem ks_X5_text {i v : Int32} (C : kb_C p s m args meth c cc nL own w0 ret V A) (hin : kb_in i 480 = true) (dg : decode cc pc = .ok (.iastore, 1)) (K : kb_J p l e R s m args below meth c nL V A k n Q (pc + 1) L st (kb_WS V b (kb_ap τ 3 i.toNatClampNeg v) ex)) : kb_J p l e R s m args below meth c nL V A k n Q pc L (.int v :: .int i :: .ref (b 4) :: st) (kb_WS V b τ ex) :=
  kj_iast C 4 rfl (kb_inv hin) rfl dg K
end KBFS
section KBFM
variable {p : Program} {l : Launch} {e : Env} {R : Room} {s : State} {m : MethodId} {args : Array Value} {below : List Frame} {meth : Method} {c : Code} {k n : Nat} {Q : State → Prop} {cc : ByteArray} {nL : Nat} {own : String} {w0 : Cond} {ret : Option FieldType} {V : kb_V} {A : Nat → Prop} {pc : Nat} {L : List (Nat × Value)} {st : List Value} {d : Nat → Nat} {μ : kb_S} {ex : va_W} {index : Nat}
theorem kg_X9_thrown {v : Int32} (C : kb_C p s m args meth c cc nL own w0 ret V A)  (hl : Cond.fieldLink own index "KnitBenchModel" "thrown" "I" ∈ kb_TB) (dg : decode cc pc = .ok (.getfield index, 3)) (hv : kb_g μ 0 = v) (K : kb_J p l e R s m args below meth c nL V A k n Q (pc + 3) L (.int v :: st) (kb_WM V d μ ex)) : kb_J p l e R s m args below meth c nL V A k n Q pc L (.ref (d 0) :: st) (kb_WM V d μ ex) := by
  subst hv
  exact kj_get C hi_X9 0 rfl rfl 0 (by decide) hl rfl rfl dg K
theorem kp_X9_thrown {v : Int32} (C : kb_C p s m args meth c cc nL own w0 ret V A)  (hl : Cond.fieldLink own index "KnitBenchModel" "thrown" "I" ∈ kb_TB) (dg : decode cc pc = .ok (.putfield index, 3)) (K : kb_J p l e R s m args below meth c nL V A k n Q (pc + 3) L st (kb_WM V d (kb_p μ 0 v) ex)) : kb_J p l e R s m args below meth c nL V A k n Q pc L (.int v :: .ref (d 0) :: st) (kb_WM V d μ ex) :=
  kj_put C hi_X9 tyX9 tyX9_ok nmX9 0 rfl rfl 0 (by decide) hl rfl rfl rfl rfl rfl (by simp) rfl dg K
theorem kg_X9_taped {v : Int32} (C : kb_C p s m args meth c cc nL own w0 ret V A)  (hl : Cond.fieldLink own index "KnitBenchModel" "taped" "I" ∈ kb_TB) (dg : decode cc pc = .ok (.getfield index, 3)) (hv : kb_g μ 1 = v) (K : kb_J p l e R s m args below meth c nL V A k n Q (pc + 3) L (.int v :: st) (kb_WM V d μ ex)) : kb_J p l e R s m args below meth c nL V A k n Q pc L (.ref (d 0) :: st) (kb_WM V d μ ex) := by
  subst hv
  exact kj_get C hi_X9 0 rfl rfl 1 (by decide) hl rfl rfl dg K
theorem kp_X9_taped {v : Int32} (C : kb_C p s m args meth c cc nL own w0 ret V A)  (hl : Cond.fieldLink own index "KnitBenchModel" "taped" "I" ∈ kb_TB) (dg : decode cc pc = .ok (.putfield index, 3)) (K : kb_J p l e R s m args below meth c nL V A k n Q (pc + 3) L st (kb_WM V d (kb_p μ 1 v) ex)) : kb_J p l e R s m args below meth c nL V A k n Q pc L (.int v :: .ref (d 0) :: st) (kb_WM V d μ ex) :=
  kj_put C hi_X9 tyX9 tyX9_ok nmX9 0 rfl rfl 1 (by decide) hl rfl rfl rfl rfl rfl (by simp) rfl dg K
theorem kg_X9_tape (C : kb_C p s m args meth c cc nL own w0 ret V A)  (hl : Cond.fieldLink own index "KnitBenchModel" "tape" "[I" ∈ kb_TB) (dg : decode cc pc = .ok (.getfield index, 3)) (K : kb_J p l e R s m args below meth c nL V A k n Q (pc + 3) L (.ref (d 1) :: st) (kb_WM V d μ ex)) : kb_J p l e R s m args below meth c nL V A k n Q pc L (.ref (d 0) :: st) (kb_WM V d μ ex) :=
  kj_get C hi_X9 0 rfl rfl 2 (by decide) hl rfl rfl dg K
theorem kg_X9_round {v : Int32} (C : kb_C p s m args meth c cc nL own w0 ret V A)  (hl : Cond.fieldLink own index "KnitBenchModel" "round" "Z" ∈ kb_TB) (dg : decode cc pc = .ok (.getfield index, 3)) (hv : kb_g μ 2 = v) (K : kb_J p l e R s m args below meth c nL V A k n Q (pc + 3) L (.int v :: st) (kb_WM V d μ ex)) : kb_J p l e R s m args below meth c nL V A k n Q pc L (.ref (d 0) :: st) (kb_WM V d μ ex) := by
  subst hv
  exact kj_get C hi_X9 0 rfl rfl 3 (by decide) hl rfl rfl dg K
theorem kp_X9_round {v : Int32} (C : kb_C p s m args meth c cc nL own w0 ret V A)  (hl : Cond.fieldLink own index "KnitBenchModel" "round" "Z" ∈ kb_TB) (dg : decode cc pc = .ok (.putfield index, 3)) (hb : v = 0 ∨ v = 1) (K : kb_J p l e R s m args below meth c nL V A k n Q (pc + 3) L st (kb_WM V d (kb_p μ 2 v) ex)) : kb_J p l e R s m args below meth c nL V A k n Q pc L (.int v :: .ref (d 0) :: st) (kb_WM V d μ ex) :=
  kj_put C hi_X9 tyX9 tyX9_ok nmX9 0 rfl rfl 3 (by decide) hl rfl rfl rfl (by rcases hb with rfl | rfl <;> rfl) (by rcases hb with rfl | rfl <;> rfl) (by simp) rfl dg K
theorem kg_X9_loops {v : Int32} (C : kb_C p s m args meth c cc nL own w0 ret V A)  (hl : Cond.fieldLink own index "KnitBenchModel" "loops" "I" ∈ kb_TB) (dg : decode cc pc = .ok (.getfield index, 3)) (hv : kb_g μ 3 = v) (K : kb_J p l e R s m args below meth c nL V A k n Q (pc + 3) L (.int v :: st) (kb_WM V d μ ex)) : kb_J p l e R s m args below meth c nL V A k n Q pc L (.ref (d 0) :: st) (kb_WM V d μ ex) := by
  subst hv
  exact kj_get C hi_X9 0 rfl rfl 4 (by decide) hl rfl rfl dg K
theorem kp_X9_loops {v : Int32} (C : kb_C p s m args meth c cc nL own w0 ret V A)  (hl : Cond.fieldLink own index "KnitBenchModel" "loops" "I" ∈ kb_TB) (dg : decode cc pc = .ok (.putfield index, 3)) (K : kb_J p l e R s m args below meth c nL V A k n Q (pc + 3) L st (kb_WM V d (kb_p μ 3 v) ex)) : kb_J p l e R s m args below meth c nL V A k n Q pc L (.int v :: .ref (d 0) :: st) (kb_WM V d μ ex) :=
  kj_put C hi_X9 tyX9 tyX9_ok nmX9 0 rfl rfl 4 (by decide) hl rfl rfl rfl rfl rfl (by simp) rfl dg K
theorem kg_X9_born (C : kb_C p s m args meth c cc nL own w0 ret V A)  (hl : Cond.fieldLink own index "KnitBenchModel" "born" "[I" ∈ kb_TB) (dg : decode cc pc = .ok (.getfield index, 3)) (K : kb_J p l e R s m args below meth c nL V A k n Q (pc + 3) L (.ref (d 2) :: st) (kb_WM V d μ ex)) : kb_J p l e R s m args below meth c nL V A k n Q pc L (.ref (d 0) :: st) (kb_WM V d μ ex) :=
  kj_get C hi_X9 0 rfl rfl 5 (by decide) hl rfl rfl dg K
theorem kg_X9_died (C : kb_C p s m args meth c cc nL own w0 ret V A)  (hl : Cond.fieldLink own index "KnitBenchModel" "died" "[I" ∈ kb_TB) (dg : decode cc pc = .ok (.getfield index, 3)) (K : kb_J p l e R s m args below meth c nL V A k n Q (pc + 3) L (.ref (d 3) :: st) (kb_WM V d μ ex)) : kb_J p l e R s m args below meth c nL V A k n Q pc L (.ref (d 0) :: st) (kb_WM V d μ ex) :=
  kj_get C hi_X9 0 rfl rfl 6 (by decide) hl rfl rfl dg K
theorem kg_X9_bound (C : kb_C p s m args meth c cc nL own w0 ret V A)  (hl : Cond.fieldLink own index "KnitBenchModel" "bound" "[Z" ∈ kb_TB) (dg : decode cc pc = .ok (.getfield index, 3)) (K : kb_J p l e R s m args below meth c nL V A k n Q (pc + 3) L (.ref (d 4) :: st) (kb_WM V d μ ex)) : kb_J p l e R s m args below meth c nL V A k n Q pc L (.ref (d 0) :: st) (kb_WM V d μ ex) :=
  kj_get C hi_X9 0 rfl rfl 7 (by decide) hl rfl rfl dg K
theorem kg_X9_parents (C : kb_C p s m args meth c cc nL own w0 ret V A)  (hl : Cond.fieldLink own index "KnitBenchModel" "parents" "[I" ∈ kb_TB) (dg : decode cc pc = .ok (.getfield index, 3)) (K : kb_J p l e R s m args below meth c nL V A k n Q (pc + 3) L (.ref (d 5) :: st) (kb_WM V d μ ex)) : kb_J p l e R s m args below meth c nL V A k n Q pc L (.ref (d 0) :: st) (kb_WM V d μ ex) :=
  kj_get C hi_X9 0 rfl rfl 8 (by decide) hl rfl rfl dg K
theorem kg_X9_parent (C : kb_C p s m args meth c cc nL own w0 ret V A)  (hl : Cond.fieldLink own index "KnitBenchModel" "parent" "[I" ∈ kb_TB) (dg : decode cc pc = .ok (.getfield index, 3)) (K : kb_J p l e R s m args below meth c nL V A k n Q (pc + 3) L (.ref (d 6) :: st) (kb_WM V d μ ex)) : kb_J p l e R s m args below meth c nL V A k n Q pc L (.ref (d 0) :: st) (kb_WM V d μ ex) :=
  kj_get C hi_X9 0 rfl rfl 9 (by decide) hl rfl rfl dg K
theorem kg_X9_rows {v : Int32} (C : kb_C p s m args meth c cc nL own w0 ret V A)  (hl : Cond.fieldLink own index "KnitBenchModel" "rows" "I" ∈ kb_TB) (dg : decode cc pc = .ok (.getfield index, 3)) (hv : kb_g μ 4 = v) (K : kb_J p l e R s m args below meth c nL V A k n Q (pc + 3) L (.int v :: st) (kb_WM V d μ ex)) : kb_J p l e R s m args below meth c nL V A k n Q pc L (.ref (d 0) :: st) (kb_WM V d μ ex) := by
  subst hv
  exact kj_get C hi_X9 0 rfl rfl 10 (by decide) hl rfl rfl dg K
theorem kp_X9_rows {v : Int32} (C : kb_C p s m args meth c cc nL own w0 ret V A)  (hl : Cond.fieldLink own index "KnitBenchModel" "rows" "I" ∈ kb_TB) (dg : decode cc pc = .ok (.putfield index, 3)) (K : kb_J p l e R s m args below meth c nL V A k n Q (pc + 3) L st (kb_WM V d (kb_p μ 4 v) ex)) : kb_J p l e R s m args below meth c nL V A k n Q pc L (.int v :: .ref (d 0) :: st) (kb_WM V d μ ex) :=
  kj_put C hi_X9 tyX9 tyX9_ok nmX9 0 rfl rfl 10 (by decide) hl rfl rfl rfl rfl rfl (by simp) rfl dg K
theorem kg_X9_begin (C : kb_C p s m args meth c cc nL own w0 ret V A)  (hl : Cond.fieldLink own index "KnitBenchModel" "begin" "[I" ∈ kb_TB) (dg : decode cc pc = .ok (.getfield index, 3)) (K : kb_J p l e R s m args below meth c nL V A k n Q (pc + 3) L (.ref (d 7) :: st) (kb_WM V d μ ex)) : kb_J p l e R s m args below meth c nL V A k n Q pc L (.ref (d 0) :: st) (kb_WM V d μ ex) :=
  kj_get C hi_X9 0 rfl rfl 11 (by decide) hl rfl rfl dg K
theorem kg_X9_many (C : kb_C p s m args meth c cc nL own w0 ret V A)  (hl : Cond.fieldLink own index "KnitBenchModel" "many" "[I" ∈ kb_TB) (dg : decode cc pc = .ok (.getfield index, 3)) (K : kb_J p l e R s m args below meth c nL V A k n Q (pc + 3) L (.ref (d 8) :: st) (kb_WM V d μ ex)) : kb_J p l e R s m args below meth c nL V A k n Q pc L (.ref (d 0) :: st) (kb_WM V d μ ex) :=
  kj_get C hi_X9 0 rfl rfl 12 (by decide) hl rfl rfl dg K
theorem kg_X9_stitch (C : kb_C p s m args meth c cc nL own w0 ret V A)  (hl : Cond.fieldLink own index "KnitBenchModel" "stitch" "[I" ∈ kb_TB) (dg : decode cc pc = .ok (.getfield index, 3)) (K : kb_J p l e R s m args below meth c nL V A k n Q (pc + 3) L (.ref (d 9) :: st) (kb_WM V d μ ex)) : kb_J p l e R s m args below meth c nL V A k n Q pc L (.ref (d 0) :: st) (kb_WM V d μ ex) :=
  kj_get C hi_X9 0 rfl rfl 13 (by decide) hl rfl rfl dg K
theorem kg_X9_at {v : Int32} (C : kb_C p s m args meth c cc nL own w0 ret V A)  (hl : Cond.fieldLink own index "KnitBenchModel" "at" "I" ∈ kb_TB) (dg : decode cc pc = .ok (.getfield index, 3)) (hv : kb_g μ 5 = v) (K : kb_J p l e R s m args below meth c nL V A k n Q (pc + 3) L (.int v :: st) (kb_WM V d μ ex)) : kb_J p l e R s m args below meth c nL V A k n Q pc L (.ref (d 0) :: st) (kb_WM V d μ ex) := by
  subst hv
  exact kj_get C hi_X9 0 rfl rfl 14 (by decide) hl rfl rfl dg K
theorem kp_X9_at {v : Int32} (C : kb_C p s m args meth c cc nL own w0 ret V A)  (hl : Cond.fieldLink own index "KnitBenchModel" "at" "I" ∈ kb_TB) (dg : decode cc pc = .ok (.putfield index, 3)) (K : kb_J p l e R s m args below meth c nL V A k n Q (pc + 3) L st (kb_WM V d (kb_p μ 5 v) ex)) : kb_J p l e R s m args below meth c nL V A k n Q pc L (.int v :: .ref (d 0) :: st) (kb_WM V d μ ex) :=
  kj_put C hi_X9 tyX9 tyX9_ok nmX9 0 rfl rfl 14 (by decide) hl rfl rfl rfl rfl rfl (by simp) rfl dg K
theorem kg_X9_fault {v : Int32} (C : kb_C p s m args meth c cc nL own w0 ret V A)  (hl : Cond.fieldLink own index "KnitBenchModel" "fault" "I" ∈ kb_TB) (dg : decode cc pc = .ok (.getfield index, 3)) (hv : kb_g μ 6 = v) (K : kb_J p l e R s m args below meth c nL V A k n Q (pc + 3) L (.int v :: st) (kb_WM V d μ ex)) : kb_J p l e R s m args below meth c nL V A k n Q pc L (.ref (d 0) :: st) (kb_WM V d μ ex) := by
  subst hv
  exact kj_get C hi_X9 0 rfl rfl 15 (by decide) hl rfl rfl dg K
theorem kp_X9_fault {v : Int32} (C : kb_C p s m args meth c cc nL own w0 ret V A)  (hl : Cond.fieldLink own index "KnitBenchModel" "fault" "I" ∈ kb_TB) (dg : decode cc pc = .ok (.putfield index, 3)) (K : kb_J p l e R s m args below meth c nL V A k n Q (pc + 3) L st (kb_WM V d (kb_p μ 6 v) ex)) : kb_J p l e R s m args below meth c nL V A k n Q pc L (.int v :: .ref (d 0) :: st) (kb_WM V d μ ex) :=
  kj_put C hi_X9 tyX9 tyX9_ok nmX9 0 rfl rfl 15 (by decide) hl rfl rfl rfl rfl rfl (by simp) rfl dg K
theorem kg_X9_place {v : Int32} (C : kb_C p s m args meth c cc nL own w0 ret V A)  (hl : Cond.fieldLink own index "KnitBenchModel" "place" "I" ∈ kb_TB) (dg : decode cc pc = .ok (.getfield index, 3)) (hv : kb_g μ 7 = v) (K : kb_J p l e R s m args below meth c nL V A k n Q (pc + 3) L (.int v :: st) (kb_WM V d μ ex)) : kb_J p l e R s m args below meth c nL V A k n Q pc L (.ref (d 0) :: st) (kb_WM V d μ ex) := by
  subst hv
  exact kj_get C hi_X9 0 rfl rfl 16 (by decide) hl rfl rfl dg K
theorem kp_X9_place {v : Int32} (C : kb_C p s m args meth c cc nL own w0 ret V A)  (hl : Cond.fieldLink own index "KnitBenchModel" "place" "I" ∈ kb_TB) (dg : decode cc pc = .ok (.putfield index, 3)) (K : kb_J p l e R s m args below meth c nL V A k n Q (pc + 3) L st (kb_WM V d (kb_p μ 7 v) ex)) : kb_J p l e R s m args below meth c nL V A k n Q pc L (.int v :: .ref (d 0) :: st) (kb_WM V d μ ex) :=
  kj_put C hi_X9 tyX9 tyX9_ok nmX9 0 rfl rfl 16 (by decide) hl rfl rfl rfl rfl rfl (by simp) rfl dg K
theorem kg_X9_depth {v : Int32} (C : kb_C p s m args meth c cc nL own w0 ret V A)  (hl : Cond.fieldLink own index "KnitBenchModel" "depth" "I" ∈ kb_TB) (dg : decode cc pc = .ok (.getfield index, 3)) (hv : kb_g μ 8 = v) (K : kb_J p l e R s m args below meth c nL V A k n Q (pc + 3) L (.int v :: st) (kb_WM V d μ ex)) : kb_J p l e R s m args below meth c nL V A k n Q pc L (.ref (d 0) :: st) (kb_WM V d μ ex) := by
  subst hv
  exact kj_get C hi_X9 0 rfl rfl 17 (by decide) hl rfl rfl dg K
theorem kp_X9_depth {v : Int32} (C : kb_C p s m args meth c cc nL own w0 ret V A)  (hl : Cond.fieldLink own index "KnitBenchModel" "depth" "I" ∈ kb_TB) (dg : decode cc pc = .ok (.putfield index, 3)) (K : kb_J p l e R s m args below meth c nL V A k n Q (pc + 3) L st (kb_WM V d (kb_p μ 8 v) ex)) : kb_J p l e R s m args below meth c nL V A k n Q pc L (.int v :: .ref (d 0) :: st) (kb_WM V d μ ex) :=
  kj_put C hi_X9 tyX9 tyX9_ok nmX9 0 rfl rfl 17 (by decide) hl rfl rfl rfl rfl rfl (by simp) rfl dg K
theorem kg_X9_marks {v : Int32} (C : kb_C p s m args meth c cc nL own w0 ret V A)  (hl : Cond.fieldLink own index "KnitBenchModel" "marks" "I" ∈ kb_TB) (dg : decode cc pc = .ok (.getfield index, 3)) (hv : kb_g μ 9 = v) (K : kb_J p l e R s m args below meth c nL V A k n Q (pc + 3) L (.int v :: st) (kb_WM V d μ ex)) : kb_J p l e R s m args below meth c nL V A k n Q pc L (.ref (d 0) :: st) (kb_WM V d μ ex) := by
  subst hv
  exact kj_get C hi_X9 0 rfl rfl 18 (by decide) hl rfl rfl dg K
theorem kp_X9_marks {v : Int32} (C : kb_C p s m args meth c cc nL own w0 ret V A)  (hl : Cond.fieldLink own index "KnitBenchModel" "marks" "I" ∈ kb_TB) (dg : decode cc pc = .ok (.putfield index, 3)) (K : kb_J p l e R s m args below meth c nL V A k n Q (pc + 3) L st (kb_WM V d (kb_p μ 9 v) ex)) : kb_J p l e R s m args below meth c nL V A k n Q pc L (.int v :: .ref (d 0) :: st) (kb_WM V d μ ex) :=
  kj_put C hi_X9 tyX9 tyX9_ok nmX9 0 rfl rfl 18 (by decide) hl rfl rfl rfl rfl rfl (by simp) rfl dg K
theorem kg_X9_mark (C : kb_C p s m args meth c cc nL own w0 ret V A)  (hl : Cond.fieldLink own index "KnitBenchModel" "mark" "[I" ∈ kb_TB) (dg : decode cc pc = .ok (.getfield index, 3)) (K : kb_J p l e R s m args below meth c nL V A k n Q (pc + 3) L (.ref (d 10) :: st) (kb_WM V d μ ex)) : kb_J p l e R s m args below meth c nL V A k n Q pc L (.ref (d 0) :: st) (kb_WM V d μ ex) :=
  kj_get C hi_X9 0 rfl rfl 19 (by decide) hl rfl rfl dg K
theorem kg_X9_number (C : kb_C p s m args meth c cc nL own w0 ret V A)  (hl : Cond.fieldLink own index "KnitBenchModel" "number" "[I" ∈ kb_TB) (dg : decode cc pc = .ok (.getfield index, 3)) (K : kb_J p l e R s m args below meth c nL V A k n Q (pc + 3) L (.ref (d 11) :: st) (kb_WM V d μ ex)) : kb_J p l e R s m args below meth c nL V A k n Q pc L (.ref (d 0) :: st) (kb_WM V d μ ex) :=
  kj_get C hi_X9 0 rfl rfl 20 (by decide) hl rfl rfl dg K
theorem kg_X9_where (C : kb_C p s m args meth c cc nL own w0 ret V A)  (hl : Cond.fieldLink own index "KnitBenchModel" "where" "[I" ∈ kb_TB) (dg : decode cc pc = .ok (.getfield index, 3)) (K : kb_J p l e R s m args below meth c nL V A k n Q (pc + 3) L (.ref (d 12) :: st) (kb_WM V d μ ex)) : kb_J p l e R s m args below meth c nL V A k n Q pc L (.ref (d 0) :: st) (kb_WM V d μ ex) :=
  kj_get C hi_X9 0 rfl rfl 21 (by decide) hl rfl rfl dg K
theorem kg_X9_other (C : kb_C p s m args meth c cc nL own w0 ret V A)  (hl : Cond.fieldLink own index "KnitBenchModel" "other" "[I" ∈ kb_TB) (dg : decode cc pc = .ok (.getfield index, 3)) (K : kb_J p l e R s m args below meth c nL V A k n Q (pc + 3) L (.ref (d 13) :: st) (kb_WM V d μ ex)) : kb_J p l e R s m args below meth c nL V A k n Q pc L (.ref (d 0) :: st) (kb_WM V d μ ex) :=
  kj_get C hi_X9 0 rfl rfl 22 (by decide) hl rfl rfl dg K
theorem kg_X9_size {v : Int32} (C : kb_C p s m args meth c cc nL own w0 ret V A)  (hl : Cond.fieldLink own index "KnitBenchModel" "size" "I" ∈ kb_TB) (dg : decode cc pc = .ok (.getfield index, 3)) (hv : kb_g μ 10 = v) (K : kb_J p l e R s m args below meth c nL V A k n Q (pc + 3) L (.int v :: st) (kb_WM V d μ ex)) : kb_J p l e R s m args below meth c nL V A k n Q pc L (.ref (d 0) :: st) (kb_WM V d μ ex) := by
  subst hv
  exact kj_get C hi_X9 0 rfl rfl 23 (by decide) hl rfl rfl dg K
theorem kp_X9_size {v : Int32} (C : kb_C p s m args meth c cc nL own w0 ret V A)  (hl : Cond.fieldLink own index "KnitBenchModel" "size" "I" ∈ kb_TB) (dg : decode cc pc = .ok (.putfield index, 3)) (K : kb_J p l e R s m args below meth c nL V A k n Q (pc + 3) L st (kb_WM V d (kb_p μ 10 v) ex)) : kb_J p l e R s m args below meth c nL V A k n Q pc L (.int v :: .ref (d 0) :: st) (kb_WM V d μ ex) :=
  kj_put C hi_X9 tyX9 tyX9_ok nmX9 0 rfl rfl 23 (by decide) hl rfl rfl rfl rfl rfl (by simp) rfl dg K
theorem kg_X9_made (C : kb_C p s m args meth c cc nL own w0 ret V A)  (hl : Cond.fieldLink own index "KnitBenchModel" "made" "[I" ∈ kb_TB) (dg : decode cc pc = .ok (.getfield index, 3)) (K : kb_J p l e R s m args below meth c nL V A k n Q (pc + 3) L (.ref (d 14) :: st) (kb_WM V d μ ex)) : kb_J p l e R s m args below meth c nL V A k n Q pc L (.ref (d 0) :: st) (kb_WM V d μ ex) :=
  kj_get C hi_X9 0 rfl rfl 24 (by decide) hl rfl rfl dg K
theorem kg_X9_written {v : Int32} (C : kb_C p s m args meth c cc nL own w0 ret V A)  (hl : Cond.fieldLink own index "KnitBenchModel" "written" "I" ∈ kb_TB) (dg : decode cc pc = .ok (.getfield index, 3)) (hv : kb_g μ 11 = v) (K : kb_J p l e R s m args below meth c nL V A k n Q (pc + 3) L (.int v :: st) (kb_WM V d μ ex)) : kb_J p l e R s m args below meth c nL V A k n Q pc L (.ref (d 0) :: st) (kb_WM V d μ ex) := by
  subst hv
  exact kj_get C hi_X9 0 rfl rfl 25 (by decide) hl rfl rfl dg K
theorem kp_X9_written {v : Int32} (C : kb_C p s m args meth c cc nL own w0 ret V A)  (hl : Cond.fieldLink own index "KnitBenchModel" "written" "I" ∈ kb_TB) (dg : decode cc pc = .ok (.putfield index, 3)) (K : kb_J p l e R s m args below meth c nL V A k n Q (pc + 3) L st (kb_WM V d (kb_p μ 11 v) ex)) : kb_J p l e R s m args below meth c nL V A k n Q pc L (.int v :: .ref (d 0) :: st) (kb_WM V d μ ex) :=
  kj_put C hi_X9 tyX9 tyX9_ok nmX9 0 rfl rfl 25 (by decide) hl rfl rfl rfl rfl rfl (by simp) rfl dg K
theorem kg_X9_out (C : kb_C p s m args meth c cc nL own w0 ret V A)  (hl : Cond.fieldLink own index "KnitBenchModel" "out" "[I" ∈ kb_TB) (dg : decode cc pc = .ok (.getfield index, 3)) (K : kb_J p l e R s m args below meth c nL V A k n Q (pc + 3) L (.ref (d 15) :: st) (kb_WM V d μ ex)) : kb_J p l e R s m args below meth c nL V A k n Q pc L (.ref (d 0) :: st) (kb_WM V d μ ex) :=
  kj_get C hi_X9 0 rfl rfl 26 (by decide) hl rfl rfl dg K
theorem kg_X9_words (C : kb_C p s m args meth c cc nL own w0 ret V A)  (hl : Cond.fieldLink own index "KnitBenchModel" "words" "[I" ∈ kb_TB) (dg : decode cc pc = .ok (.getfield index, 3)) (K : kb_J p l e R s m args below meth c nL V A k n Q (pc + 3) L (.ref (d 16) :: st) (kb_WM V d μ ex)) : kb_J p l e R s m args below meth c nL V A k n Q pc L (.ref (d 0) :: st) (kb_WM V d μ ex) :=
  kj_get C hi_X9 0 rfl rfl 27 (by decide) hl rfl rfl dg K
theorem kg_X9_way (C : kb_C p s m args meth c cc nL own w0 ret V A)  (hl : Cond.fieldLink own index "KnitBenchModel" "way" "[I" ∈ kb_TB) (dg : decode cc pc = .ok (.getfield index, 3)) (K : kb_J p l e R s m args below meth c nL V A k n Q (pc + 3) L (.ref (d 17) :: st) (kb_WM V d μ ex)) : kb_J p l e R s m args below meth c nL V A k n Q pc L (.ref (d 0) :: st) (kb_WM V d μ ex) :=
  kj_get C hi_X9 0 rfl rfl 28 (by decide) hl rfl rfl dg K
theorem kg_X9_open (C : kb_C p s m args meth c cc nL own w0 ret V A)  (hl : Cond.fieldLink own index "KnitBenchModel" "open" "[I" ∈ kb_TB) (dg : decode cc pc = .ok (.getfield index, 3)) (K : kb_J p l e R s m args below meth c nL V A k n Q (pc + 3) L (.ref (d 18) :: st) (kb_WM V d μ ex)) : kb_J p l e R s m args below meth c nL V A k n Q pc L (.ref (d 0) :: st) (kb_WM V d μ ex) :=
  kj_get C hi_X9 0 rfl rfl 29 (by decide) hl rfl rfl dg K
theorem kg_X9_turns (C : kb_C p s m args meth c cc nL own w0 ret V A)  (hl : Cond.fieldLink own index "KnitBenchModel" "turns" "[I" ∈ kb_TB) (dg : decode cc pc = .ok (.getfield index, 3)) (K : kb_J p l e R s m args below meth c nL V A k n Q (pc + 3) L (.ref (d 19) :: st) (kb_WM V d μ ex)) : kb_J p l e R s m args below meth c nL V A k n Q pc L (.ref (d 0) :: st) (kb_WM V d μ ex) :=
  kj_get C hi_X9 0 rfl rfl 30 (by decide) hl rfl rfl dg K
theorem kg_X9_task (C : kb_C p s m args meth c cc nL own w0 ret V A)  (hl : Cond.fieldLink own index "KnitBenchModel" "task" "[I" ∈ kb_TB) (dg : decode cc pc = .ok (.getfield index, 3)) (K : kb_J p l e R s m args below meth c nL V A k n Q (pc + 3) L (.ref (d 20) :: st) (kb_WM V d μ ex)) : kb_J p l e R s m args below meth c nL V A k n Q pc L (.ref (d 0) :: st) (kb_WM V d μ ex) :=
  kj_get C hi_X9 0 rfl rfl 31 (by decide) hl rfl rfl dg K
theorem ka_X9_tape {i v : Int32} (C : kb_C p s m args meth c cc nL own w0 ret V A) (hin : kb_in i 200 = true) (dg : decode cc pc = .ok (.iaload, 1)) (hv : kb_a μ 0 i.toNatClampNeg = v) (K : kb_J p l e R s m args below meth c nL V A k n Q (pc + 1) L (.int v :: st) (kb_WM V d μ ex)) : kb_J p l e R s m args below meth c nL V A k n Q pc L (.int i :: .ref (d 1) :: st) (kb_WM V d μ ex) := by
  subst hv
  exact kj_iald C 1 rfl (kb_inv hin) dg K
theorem ks_X9_tape {i v : Int32} (C : kb_C p s m args meth c cc nL own w0 ret V A) (hin : kb_in i 200 = true) (dg : decode cc pc = .ok (.iastore, 1)) (K : kb_J p l e R s m args below meth c nL V A k n Q (pc + 1) L st (kb_WM V d (kb_ap μ 0 i.toNatClampNeg v) ex)) : kb_J p l e R s m args below meth c nL V A k n Q pc L (.int v :: .int i :: .ref (d 1) :: st) (kb_WM V d μ ex) :=
  kj_iast C 1 rfl (kb_inv hin) rfl dg K
theorem ka_X9_born {i v : Int32} (C : kb_C p s m args meth c cc nL own w0 ret V A) (hin : kb_in i 600 = true) (dg : decode cc pc = .ok (.iaload, 1)) (hv : kb_a μ 1 i.toNatClampNeg = v) (K : kb_J p l e R s m args below meth c nL V A k n Q (pc + 1) L (.int v :: st) (kb_WM V d μ ex)) : kb_J p l e R s m args below meth c nL V A k n Q pc L (.int i :: .ref (d 2) :: st) (kb_WM V d μ ex) := by
  subst hv
  exact kj_iald C 2 rfl (kb_inv hin) dg K
theorem ks_X9_born {i v : Int32} (C : kb_C p s m args meth c cc nL own w0 ret V A) (hin : kb_in i 600 = true) (dg : decode cc pc = .ok (.iastore, 1)) (K : kb_J p l e R s m args below meth c nL V A k n Q (pc + 1) L st (kb_WM V d (kb_ap μ 1 i.toNatClampNeg v) ex)) : kb_J p l e R s m args below meth c nL V A k n Q pc L (.int v :: .int i :: .ref (d 2) :: st) (kb_WM V d μ ex) :=
  kj_iast C 2 rfl (kb_inv hin) rfl dg K
theorem ka_X9_died {i v : Int32} (C : kb_C p s m args meth c cc nL own w0 ret V A) (hin : kb_in i 600 = true) (dg : decode cc pc = .ok (.iaload, 1)) (hv : kb_a μ 2 i.toNatClampNeg = v) (K : kb_J p l e R s m args below meth c nL V A k n Q (pc + 1) L (.int v :: st) (kb_WM V d μ ex)) : kb_J p l e R s m args below meth c nL V A k n Q pc L (.int i :: .ref (d 3) :: st) (kb_WM V d μ ex) := by
  subst hv
  exact kj_iald C 3 rfl (kb_inv hin) dg K
theorem ks_X9_died {i v : Int32} (C : kb_C p s m args meth c cc nL own w0 ret V A) (hin : kb_in i 600 = true) (dg : decode cc pc = .ok (.iastore, 1)) (K : kb_J p l e R s m args below meth c nL V A k n Q (pc + 1) L st (kb_WM V d (kb_ap μ 2 i.toNatClampNeg v) ex)) : kb_J p l e R s m args below meth c nL V A k n Q pc L (.int v :: .int i :: .ref (d 3) :: st) (kb_WM V d μ ex) :=
  kj_iast C 3 rfl (kb_inv hin) rfl dg K
theorem ka_X9_bound {i v : Int32} (C : kb_C p s m args meth c cc nL own w0 ret V A) (hin : kb_in i 600 = true) (dg : decode cc pc = .ok (.baload, 1)) (hv : kb_a μ 3 i.toNatClampNeg = v) (K : kb_J p l e R s m args below meth c nL V A k n Q (pc + 1) L (.int v :: st) (kb_WM V d μ ex)) : kb_J p l e R s m args below meth c nL V A k n Q pc L (.int i :: .ref (d 4) :: st) (kb_WM V d μ ex) := by
  subst hv
  exact kj_zald C 4 rfl (kb_inv hin) dg K
theorem ks_X9_bound {i v : Int32} (C : kb_C p s m args meth c cc nL own w0 ret V A) (hin : kb_in i 600 = true) (dg : decode cc pc = .ok (.bastore, 1)) (K : kb_J p l e R s m args below meth c nL V A k n Q (pc + 1) L st (kb_WM V d (kb_ap μ 3 i.toNatClampNeg (vp_nar .boolean v)) ex)) : kb_J p l e R s m args below meth c nL V A k n Q pc L (.int v :: .int i :: .ref (d 4) :: st) (kb_WM V d μ ex) :=
  kj_zast C 4 rfl (kb_inv hin) rfl dg K
theorem ka_X9_parents {i v : Int32} (C : kb_C p s m args meth c cc nL own w0 ret V A) (hin : kb_in i 600 = true) (dg : decode cc pc = .ok (.iaload, 1)) (hv : kb_a μ 4 i.toNatClampNeg = v) (K : kb_J p l e R s m args below meth c nL V A k n Q (pc + 1) L (.int v :: st) (kb_WM V d μ ex)) : kb_J p l e R s m args below meth c nL V A k n Q pc L (.int i :: .ref (d 5) :: st) (kb_WM V d μ ex) := by
  subst hv
  exact kj_iald C 5 rfl (kb_inv hin) dg K
theorem ks_X9_parents {i v : Int32} (C : kb_C p s m args meth c cc nL own w0 ret V A) (hin : kb_in i 600 = true) (dg : decode cc pc = .ok (.iastore, 1)) (K : kb_J p l e R s m args below meth c nL V A k n Q (pc + 1) L st (kb_WM V d (kb_ap μ 4 i.toNatClampNeg v) ex)) : kb_J p l e R s m args below meth c nL V A k n Q pc L (.int v :: .int i :: .ref (d 5) :: st) (kb_WM V d μ ex) :=
  kj_iast C 5 rfl (kb_inv hin) rfl dg K
theorem ka_X9_parent {i v : Int32} (C : kb_C p s m args meth c cc nL own w0 ret V A) (hin : kb_in i 1800 = true) (dg : decode cc pc = .ok (.iaload, 1)) (hv : kb_a μ 5 i.toNatClampNeg = v) (K : kb_J p l e R s m args below meth c nL V A k n Q (pc + 1) L (.int v :: st) (kb_WM V d μ ex)) : kb_J p l e R s m args below meth c nL V A k n Q pc L (.int i :: .ref (d 6) :: st) (kb_WM V d μ ex) := by
  subst hv
  exact kj_iald C 6 rfl (kb_inv hin) dg K
theorem ks_X9_parent {i v : Int32} (C : kb_C p s m args meth c cc nL own w0 ret V A) (hin : kb_in i 1800 = true) (dg : decode cc pc = .ok (.iastore, 1)) (K : kb_J p l e R s m args below meth c nL V A k n Q (pc + 1) L st (kb_WM V d (kb_ap μ 5 i.toNatClampNeg v) ex)) : kb_J p l e R s m args below meth c nL V A k n Q pc L (.int v :: .int i :: .ref (d 6) :: st) (kb_WM V d μ ex) :=
  kj_iast C 6 rfl (kb_inv hin) rfl dg K
theorem ka_X9_begin {i v : Int32} (C : kb_C p s m args meth c cc nL own w0 ret V A) (hin : kb_in i 32 = true) (dg : decode cc pc = .ok (.iaload, 1)) (hv : kb_a μ 6 i.toNatClampNeg = v) (K : kb_J p l e R s m args below meth c nL V A k n Q (pc + 1) L (.int v :: st) (kb_WM V d μ ex)) : kb_J p l e R s m args below meth c nL V A k n Q pc L (.int i :: .ref (d 7) :: st) (kb_WM V d μ ex) := by
  subst hv
  exact kj_iald C 7 rfl (kb_inv hin) dg K
theorem ks_X9_begin {i v : Int32} (C : kb_C p s m args meth c cc nL own w0 ret V A) (hin : kb_in i 32 = true) (dg : decode cc pc = .ok (.iastore, 1)) (K : kb_J p l e R s m args below meth c nL V A k n Q (pc + 1) L st (kb_WM V d (kb_ap μ 6 i.toNatClampNeg v) ex)) : kb_J p l e R s m args below meth c nL V A k n Q pc L (.int v :: .int i :: .ref (d 7) :: st) (kb_WM V d μ ex) :=
  kj_iast C 7 rfl (kb_inv hin) rfl dg K
theorem ka_X9_many {i v : Int32} (C : kb_C p s m args meth c cc nL own w0 ret V A) (hin : kb_in i 31 = true) (dg : decode cc pc = .ok (.iaload, 1)) (hv : kb_a μ 7 i.toNatClampNeg = v) (K : kb_J p l e R s m args below meth c nL V A k n Q (pc + 1) L (.int v :: st) (kb_WM V d μ ex)) : kb_J p l e R s m args below meth c nL V A k n Q pc L (.int i :: .ref (d 8) :: st) (kb_WM V d μ ex) := by
  subst hv
  exact kj_iald C 8 rfl (kb_inv hin) dg K
theorem ks_X9_many {i v : Int32} (C : kb_C p s m args meth c cc nL own w0 ret V A) (hin : kb_in i 31 = true) (dg : decode cc pc = .ok (.iastore, 1)) (K : kb_J p l e R s m args below meth c nL V A k n Q (pc + 1) L st (kb_WM V d (kb_ap μ 7 i.toNatClampNeg v) ex)) : kb_J p l e R s m args below meth c nL V A k n Q pc L (.int v :: .int i :: .ref (d 8) :: st) (kb_WM V d μ ex) :=
  kj_iast C 8 rfl (kb_inv hin) rfl dg K
theorem ka_X9_stitch {i v : Int32} (C : kb_C p s m args meth c cc nL own w0 ret V A) (hin : kb_in i 2480 = true) (dg : decode cc pc = .ok (.iaload, 1)) (hv : kb_a μ 8 i.toNatClampNeg = v) (K : kb_J p l e R s m args below meth c nL V A k n Q (pc + 1) L (.int v :: st) (kb_WM V d μ ex)) : kb_J p l e R s m args below meth c nL V A k n Q pc L (.int i :: .ref (d 9) :: st) (kb_WM V d μ ex) := by
  subst hv
  exact kj_iald C 9 rfl (kb_inv hin) dg K
theorem ks_X9_stitch {i v : Int32} (C : kb_C p s m args meth c cc nL own w0 ret V A) (hin : kb_in i 2480 = true) (dg : decode cc pc = .ok (.iastore, 1)) (K : kb_J p l e R s m args below meth c nL V A k n Q (pc + 1) L st (kb_WM V d (kb_ap μ 8 i.toNatClampNeg v) ex)) : kb_J p l e R s m args below meth c nL V A k n Q pc L (.int v :: .int i :: .ref (d 9) :: st) (kb_WM V d μ ex) :=
  kj_iast C 9 rfl (kb_inv hin) rfl dg K
theorem ka_X9_mark {i v : Int32} (C : kb_C p s m args meth c cc nL own w0 ret V A) (hin : kb_in i 220 = true) (dg : decode cc pc = .ok (.iaload, 1)) (hv : kb_a μ 9 i.toNatClampNeg = v) (K : kb_J p l e R s m args below meth c nL V A k n Q (pc + 1) L (.int v :: st) (kb_WM V d μ ex)) : kb_J p l e R s m args below meth c nL V A k n Q pc L (.int i :: .ref (d 10) :: st) (kb_WM V d μ ex) := by
  subst hv
  exact kj_iald C 10 rfl (kb_inv hin) dg K
theorem ks_X9_mark {i v : Int32} (C : kb_C p s m args meth c cc nL own w0 ret V A) (hin : kb_in i 220 = true) (dg : decode cc pc = .ok (.iastore, 1)) (K : kb_J p l e R s m args below meth c nL V A k n Q (pc + 1) L st (kb_WM V d (kb_ap μ 9 i.toNatClampNeg v) ex)) : kb_J p l e R s m args below meth c nL V A k n Q pc L (.int v :: .int i :: .ref (d 10) :: st) (kb_WM V d μ ex) :=
  kj_iast C 10 rfl (kb_inv hin) rfl dg K
theorem ka_X9_number {i v : Int32} (C : kb_C p s m args meth c cc nL own w0 ret V A) (hin : kb_in i 220 = true) (dg : decode cc pc = .ok (.iaload, 1)) (hv : kb_a μ 10 i.toNatClampNeg = v) (K : kb_J p l e R s m args below meth c nL V A k n Q (pc + 1) L (.int v :: st) (kb_WM V d μ ex)) : kb_J p l e R s m args below meth c nL V A k n Q pc L (.int i :: .ref (d 11) :: st) (kb_WM V d μ ex) := by
  subst hv
  exact kj_iald C 11 rfl (kb_inv hin) dg K
theorem ks_X9_number {i v : Int32} (C : kb_C p s m args meth c cc nL own w0 ret V A) (hin : kb_in i 220 = true) (dg : decode cc pc = .ok (.iastore, 1)) (K : kb_J p l e R s m args below meth c nL V A k n Q (pc + 1) L st (kb_WM V d (kb_ap μ 10 i.toNatClampNeg v) ex)) : kb_J p l e R s m args below meth c nL V A k n Q pc L (.int v :: .int i :: .ref (d 11) :: st) (kb_WM V d μ ex) :=
  kj_iast C 11 rfl (kb_inv hin) rfl dg K
theorem ka_X9_where {i v : Int32} (C : kb_C p s m args meth c cc nL own w0 ret V A) (hin : kb_in i 220 = true) (dg : decode cc pc = .ok (.iaload, 1)) (hv : kb_a μ 11 i.toNatClampNeg = v) (K : kb_J p l e R s m args below meth c nL V A k n Q (pc + 1) L (.int v :: st) (kb_WM V d μ ex)) : kb_J p l e R s m args below meth c nL V A k n Q pc L (.int i :: .ref (d 12) :: st) (kb_WM V d μ ex) := by
  subst hv
  exact kj_iald C 12 rfl (kb_inv hin) dg K
theorem ks_X9_where {i v : Int32} (C : kb_C p s m args meth c cc nL own w0 ret V A) (hin : kb_in i 220 = true) (dg : decode cc pc = .ok (.iastore, 1)) (K : kb_J p l e R s m args below meth c nL V A k n Q (pc + 1) L st (kb_WM V d (kb_ap μ 11 i.toNatClampNeg v) ex)) : kb_J p l e R s m args below meth c nL V A k n Q pc L (.int v :: .int i :: .ref (d 12) :: st) (kb_WM V d μ ex) :=
  kj_iast C 12 rfl (kb_inv hin) rfl dg K
theorem ka_X9_other {i v : Int32} (C : kb_C p s m args meth c cc nL own w0 ret V A) (hin : kb_in i 220 = true) (dg : decode cc pc = .ok (.iaload, 1)) (hv : kb_a μ 12 i.toNatClampNeg = v) (K : kb_J p l e R s m args below meth c nL V A k n Q (pc + 1) L (.int v :: st) (kb_WM V d μ ex)) : kb_J p l e R s m args below meth c nL V A k n Q pc L (.int i :: .ref (d 13) :: st) (kb_WM V d μ ex) := by
  subst hv
  exact kj_iald C 13 rfl (kb_inv hin) dg K
theorem ks_X9_other {i v : Int32} (C : kb_C p s m args meth c cc nL own w0 ret V A) (hin : kb_in i 220 = true) (dg : decode cc pc = .ok (.iastore, 1)) (K : kb_J p l e R s m args below meth c nL V A k n Q (pc + 1) L st (kb_WM V d (kb_ap μ 12 i.toNatClampNeg v) ex)) : kb_J p l e R s m args below meth c nL V A k n Q pc L (.int v :: .int i :: .ref (d 13) :: st) (kb_WM V d μ ex) :=
  kj_iast C 13 rfl (kb_inv hin) rfl dg K
theorem ka_X9_made {i v : Int32} (C : kb_C p s m args meth c cc nL own w0 ret V A) (hin : kb_in i 700 = true) (dg : decode cc pc = .ok (.iaload, 1)) (hv : kb_a μ 13 i.toNatClampNeg = v) (K : kb_J p l e R s m args below meth c nL V A k n Q (pc + 1) L (.int v :: st) (kb_WM V d μ ex)) : kb_J p l e R s m args below meth c nL V A k n Q pc L (.int i :: .ref (d 14) :: st) (kb_WM V d μ ex) := by
  subst hv
  exact kj_iald C 14 rfl (kb_inv hin) dg K
theorem ks_X9_made {i v : Int32} (C : kb_C p s m args meth c cc nL own w0 ret V A) (hin : kb_in i 700 = true) (dg : decode cc pc = .ok (.iastore, 1)) (K : kb_J p l e R s m args below meth c nL V A k n Q (pc + 1) L st (kb_WM V d (kb_ap μ 13 i.toNatClampNeg v) ex)) : kb_J p l e R s m args below meth c nL V A k n Q pc L (.int v :: .int i :: .ref (d 14) :: st) (kb_WM V d μ ex) :=
  kj_iast C 14 rfl (kb_inv hin) rfl dg K
theorem ka_X9_out {i v : Int32} (C : kb_C p s m args meth c cc nL own w0 ret V A) (hin : kb_in i 1200 = true) (dg : decode cc pc = .ok (.iaload, 1)) (hv : kb_a μ 14 i.toNatClampNeg = v) (K : kb_J p l e R s m args below meth c nL V A k n Q (pc + 1) L (.int v :: st) (kb_WM V d μ ex)) : kb_J p l e R s m args below meth c nL V A k n Q pc L (.int i :: .ref (d 15) :: st) (kb_WM V d μ ex) := by
  subst hv
  exact kj_iald C 15 rfl (kb_inv hin) dg K
theorem ks_X9_out {i v : Int32} (C : kb_C p s m args meth c cc nL own w0 ret V A) (hin : kb_in i 1200 = true) (dg : decode cc pc = .ok (.iastore, 1)) (K : kb_J p l e R s m args below meth c nL V A k n Q (pc + 1) L st (kb_WM V d (kb_ap μ 14 i.toNatClampNeg v) ex)) : kb_J p l e R s m args below meth c nL V A k n Q pc L (.int v :: .int i :: .ref (d 15) :: st) (kb_WM V d μ ex) :=
  kj_iast C 15 rfl (kb_inv hin) rfl dg K
theorem ka_X9_words {i v : Int32} (C : kb_C p s m args meth c cc nL own w0 ret V A) (hin : kb_in i 32400 = true) (dg : decode cc pc = .ok (.iaload, 1)) (hv : kb_a μ 15 i.toNatClampNeg = v) (K : kb_J p l e R s m args below meth c nL V A k n Q (pc + 1) L (.int v :: st) (kb_WM V d μ ex)) : kb_J p l e R s m args below meth c nL V A k n Q pc L (.int i :: .ref (d 16) :: st) (kb_WM V d μ ex) := by
  subst hv
  exact kj_iald C 16 rfl (kb_inv hin) dg K
theorem ks_X9_words {i v : Int32} (C : kb_C p s m args meth c cc nL own w0 ret V A) (hin : kb_in i 32400 = true) (dg : decode cc pc = .ok (.iastore, 1)) (K : kb_J p l e R s m args below meth c nL V A k n Q (pc + 1) L st (kb_WM V d (kb_ap μ 15 i.toNatClampNeg v) ex)) : kb_J p l e R s m args below meth c nL V A k n Q pc L (.int v :: .int i :: .ref (d 16) :: st) (kb_WM V d μ ex) :=
  kj_iast C 16 rfl (kb_inv hin) rfl dg K
theorem ka_X9_way {i v : Int32} (C : kb_C p s m args meth c cc nL own w0 ret V A) (hin : kb_in i 32400 = true) (dg : decode cc pc = .ok (.iaload, 1)) (hv : kb_a μ 16 i.toNatClampNeg = v) (K : kb_J p l e R s m args below meth c nL V A k n Q (pc + 1) L (.int v :: st) (kb_WM V d μ ex)) : kb_J p l e R s m args below meth c nL V A k n Q pc L (.int i :: .ref (d 17) :: st) (kb_WM V d μ ex) := by
  subst hv
  exact kj_iald C 17 rfl (kb_inv hin) dg K
theorem ks_X9_way {i v : Int32} (C : kb_C p s m args meth c cc nL own w0 ret V A) (hin : kb_in i 32400 = true) (dg : decode cc pc = .ok (.iastore, 1)) (K : kb_J p l e R s m args below meth c nL V A k n Q (pc + 1) L st (kb_WM V d (kb_ap μ 16 i.toNatClampNeg v) ex)) : kb_J p l e R s m args below meth c nL V A k n Q pc L (.int v :: .int i :: .ref (d 17) :: st) (kb_WM V d μ ex) :=
  kj_iast C 17 rfl (kb_inv hin) rfl dg K
theorem ka_X9_open {i v : Int32} (C : kb_C p s m args meth c cc nL own w0 ret V A) (hin : kb_in i 5 = true) (dg : decode cc pc = .ok (.iaload, 1)) (hv : kb_a μ 17 i.toNatClampNeg = v) (K : kb_J p l e R s m args below meth c nL V A k n Q (pc + 1) L (.int v :: st) (kb_WM V d μ ex)) : kb_J p l e R s m args below meth c nL V A k n Q pc L (.int i :: .ref (d 18) :: st) (kb_WM V d μ ex) := by
  subst hv
  exact kj_iald C 18 rfl (kb_inv hin) dg K
theorem ks_X9_open {i v : Int32} (C : kb_C p s m args meth c cc nL own w0 ret V A) (hin : kb_in i 5 = true) (dg : decode cc pc = .ok (.iastore, 1)) (K : kb_J p l e R s m args below meth c nL V A k n Q (pc + 1) L st (kb_WM V d (kb_ap μ 17 i.toNatClampNeg v) ex)) : kb_J p l e R s m args below meth c nL V A k n Q pc L (.int v :: .int i :: .ref (d 18) :: st) (kb_WM V d μ ex) :=
  kj_iast C 18 rfl (kb_inv hin) rfl dg K
theorem ka_X9_turns {i v : Int32} (C : kb_C p s m args meth c cc nL own w0 ret V A) (hin : kb_in i 220 = true) (dg : decode cc pc = .ok (.iaload, 1)) (hv : kb_a μ 18 i.toNatClampNeg = v) (K : kb_J p l e R s m args below meth c nL V A k n Q (pc + 1) L (.int v :: st) (kb_WM V d μ ex)) : kb_J p l e R s m args below meth c nL V A k n Q pc L (.int i :: .ref (d 19) :: st) (kb_WM V d μ ex) := by
  subst hv
  exact kj_iald C 19 rfl (kb_inv hin) dg K
theorem ks_X9_turns {i v : Int32} (C : kb_C p s m args meth c cc nL own w0 ret V A) (hin : kb_in i 220 = true) (dg : decode cc pc = .ok (.iastore, 1)) (K : kb_J p l e R s m args below meth c nL V A k n Q (pc + 1) L st (kb_WM V d (kb_ap μ 18 i.toNatClampNeg v) ex)) : kb_J p l e R s m args below meth c nL V A k n Q pc L (.int v :: .int i :: .ref (d 19) :: st) (kb_WM V d μ ex) :=
  kj_iast C 19 rfl (kb_inv hin) rfl dg K
theorem ka_X9_task {i v : Int32} (C : kb_C p s m args meth c cc nL own w0 ret V A) (hin : kb_in i 800 = true) (dg : decode cc pc = .ok (.iaload, 1)) (hv : kb_a μ 19 i.toNatClampNeg = v) (K : kb_J p l e R s m args below meth c nL V A k n Q (pc + 1) L (.int v :: st) (kb_WM V d μ ex)) : kb_J p l e R s m args below meth c nL V A k n Q pc L (.int i :: .ref (d 20) :: st) (kb_WM V d μ ex) := by
  subst hv
  exact kj_iald C 20 rfl (kb_inv hin) dg K
theorem ks_X9_task {i v : Int32} (C : kb_C p s m args meth c cc nL own w0 ret V A) (hin : kb_in i 800 = true) (dg : decode cc pc = .ok (.iastore, 1)) (K : kb_J p l e R s m args below meth c nL V A k n Q (pc + 1) L st (kb_WM V d (kb_ap μ 19 i.toNatClampNeg v) ex)) : kb_J p l e R s m args below meth c nL V A k n Q pc L (.int v :: .int i :: .ref (d 20) :: st) (kb_WM V d μ ex) :=
  kj_iast C 20 rfl (kb_inv hin) rfl dg K
end KBFM
end
section
def fp_X0_fillNeedle_60  (y0 : Int32) (σ : kb_S) : Option (kb_S) :=
  some (kb_p σ 5 y0)
theorem fp_X0_fillNeedle_60_e  (y0 : Int32) (σ : kb_S) : fp_X0_fillNeedle_60  y0 σ =
  some (kb_p σ 5 y0) := rfl
def fp_X0_fillNeedle_44  (y0 : Int32) (σ : kb_S) : Option (kb_S) :=
  if (kb_g σ 1) = 0 then
    fp_X0_fillNeedle_60  (-1 : Int32) (kb_p σ 4 y0)
  else
    fp_X0_fillNeedle_60  (1 : Int32) (kb_p σ 4 y0)
theorem fp_X0_fillNeedle_44_e  (y0 : Int32) (σ : kb_S) : fp_X0_fillNeedle_44  y0 σ =
  if (kb_g σ 1) = 0 then
    fp_X0_fillNeedle_60  (-1 : Int32) (kb_p σ 4 y0)
  else
    fp_X0_fillNeedle_60  (1 : Int32) (kb_p σ 4 y0) := rfl
def fn_X0_fillNeedle  (σ : kb_S) : Option (kb_S) :=
  if kb_in (kb_g σ 2) 32 = true then
    if kb_in ((kb_g σ 2) + (1 : Int32)) 32 = true then
      if (kb_g σ 1) = 0 then
        fp_X0_fillNeedle_44  ((kb_a σ 1 ((kb_g σ 2) + (1 : Int32)).toNatClampNeg) - (1 : Int32)) (kb_p σ 3 ((kb_a σ 1 ((kb_g σ 2) + (1 : Int32)).toNatClampNeg) - (kb_a σ 1 (kb_g σ 2).toNatClampNeg)))
      else
        fp_X0_fillNeedle_44  (kb_a σ 1 (kb_g σ 2).toNatClampNeg) (kb_p σ 3 ((kb_a σ 1 ((kb_g σ 2) + (1 : Int32)).toNatClampNeg) - (kb_a σ 1 (kb_g σ 2).toNatClampNeg)))
    else none
  else none
theorem fe_X0_fillNeedle  (σ : kb_S) : fn_X0_fillNeedle  σ =
  if kb_in (kb_g σ 2) 32 = true then
    if kb_in ((kb_g σ 2) + (1 : Int32)) 32 = true then
      if (kb_g σ 1) = 0 then
        fp_X0_fillNeedle_44  ((kb_a σ 1 ((kb_g σ 2) + (1 : Int32)).toNatClampNeg) - (1 : Int32)) (kb_p σ 3 ((kb_a σ 1 ((kb_g σ 2) + (1 : Int32)).toNatClampNeg) - (kb_a σ 1 (kb_g σ 2).toNatClampNeg)))
      else
        fp_X0_fillNeedle_44  (kb_a σ 1 (kb_g σ 2).toNatClampNeg) (kb_p σ 3 ((kb_a σ 1 ((kb_g σ 2) + (1 : Int32)).toNatClampNeg) - (kb_a σ 1 (kb_g σ 2).toNatClampNeg)))
    else none
  else none := rfl
theorem hd_X0_fillNeedle : yX0_fillNeedle.cls = RX0 ∧ yX0_fillNeedle.cls ≠ "java/lang/invoke/MethodHandle" ∧ yX0_fillNeedle.cls ≠ "java/lang/invoke/VarHandle" ∧ (parseMethodDescriptor yX0_fillNeedle.desc).map (fun d => d.parameters.length) = some 0 := by decide +kernel
set_option maxRecDepth 100000 in
set_option maxHeartbeats 4000000 in
theorem ct_X0_fillNeedle (l : Launch) (V : kb_V) (A : Nat → Prop)  (a : Nat → Nat) (σ : kb_S) (sh : Value) (ex : va_W) {σ9 : kb_S} (hf : fn_X0_fillNeedle  σ = some σ9) : kb_T l yX0_fillNeedle cX0_fillNeedle 3 none ({ frames := 0, cells := 0, slots := 0, locals := 0 } : Room) V A [.ref (a 2)] (kb_W V a σ sh ex) none (kb_W V a σ9 sh ex) 0 0 := by
  refine kb_start (cc := cX0_fillNeedle) (nL := 3) (ret := none) (own := RX0) (by decide) rfl (Nat.le_of_ble_eq_true rfl) ?_
  intro p e s m args below meth c C
  have hp60 : ∀ (y0 : Int32) (σ : kb_S), fp_X0_fillNeedle_60  y0 σ = some σ9 → kb_J p l e ({ frames := 0, cells := 0, slots := 0, locals := 0 } : Room) s m args below meth c 3 V A 0 0 (MQ below (kb_post V A none (kb_W V a σ9 sh ex)) args s 0 0 A) 60 [] [.int y0, .ref (a 2)] (kb_W V a σ sh ex) := by
    intro y0 σ hf
    rw [fp_X0_fillNeedle_60_e] at hf
    refine kp_X0_needleStep (pc := 60) C wf_X0_55 dX0_fillNeedle_60 ?_
    cases hf
    exact kj_vret (pc := 63) C dX0_fillNeedle_63
  have hp44 : ∀ (y0 : Int32) (σ : kb_S), fp_X0_fillNeedle_44  y0 σ = some σ9 → kb_J p l e ({ frames := 0, cells := 0, slots := 0, locals := 0 } : Room) s m args below meth c 3 V A 0 0 (MQ below (kb_post V A none (kb_W V a σ9 sh ex)) args s 0 0 A) 44 [(0, .ref (a 2))] [.int y0, .ref (a 2)] (kb_W V a σ sh ex) := by
    intro y0 σ hf
    rw [fp_X0_fillNeedle_44_e] at hf
    refine kp_X0_needleStart (pc := 44) C wf_X0_52 dX0_fillNeedle_44 ?_
    refine kj_aload_n (pc := 47) C 0 dX0_fillNeedle_47 rfl rfl ?_
    refine kj_aload_n (pc := 48) C 0 dX0_fillNeedle_48 rfl rfl ?_
    refine kg_X0_round (pc := 49) (v := (kb_g σ 1)) C wf_X0_25 dX0_fillNeedle_49 rfl ?_
    refine kj_if_eq (pc := 52) 59 C dX0_fillNeedle_52 (by decide) (fun c1 => ?_) (fun c1 => ?_)
    · have hf := kb_ift hf c1
      refine kj_iconst (pc := 59) (v := (-1 : Int32)) C dX0_fillNeedle_59 (by decide) ?_
      refine kj_sub [] (L2 := []) rfl ?_
      exact hp60 (-1 : Int32) (kb_p σ 4 y0) hf
    · have hf := kb_ife hf c1
      refine kj_iconst (pc := 55) (v := (1 : Int32)) C dX0_fillNeedle_55 (by decide) ?_
      refine kj_goto (pc := 56) 60 C dX0_fillNeedle_56 (by decide) ?_
      refine kj_sub [] (L2 := []) rfl ?_
      exact hp60 (1 : Int32) (kb_p σ 4 y0) hf
  refine kj_sub [0] (L2 := [(0, .ref (a 2))]) rfl ?_
  rw [fe_X0_fillNeedle] at hf
  refine kj_aload_n (pc := 0) C 0 dX0_fillNeedle_0 rfl rfl ?_
  refine kg_X0_firstLoops (pc := 1) C wf_X0_9 dX0_fillNeedle_1 ?_
  refine kj_aload_n (pc := 4) C 0 dX0_fillNeedle_4 rfl rfl ?_
  refine kg_X0_rowCount (pc := 5) (v := (kb_g σ 2)) C wf_X0_29 dX0_fillNeedle_5 rfl ?_
  obtain ⟨g1, hf⟩ := kb_gd hf
  refine ka_X0_firstLoops (pc := 8) (v := (kb_a σ 1 (kb_g σ 2).toNatClampNeg)) C g1 dX0_fillNeedle_8 rfl ?_
  refine kj_istore_n (pc := 9) C [1, 0] (L2 := [(0, .ref (a 2)), (1, .int (kb_a σ 1 (kb_g σ 2).toNatClampNeg))]) dX0_fillNeedle_9 rfl (by decide) rfl ?_
  refine kj_aload_n (pc := 10) C 0 dX0_fillNeedle_10 rfl rfl ?_
  refine kg_X0_firstLoops (pc := 11) C wf_X0_9 dX0_fillNeedle_11 ?_
  refine kj_aload_n (pc := 14) C 0 dX0_fillNeedle_14 rfl rfl ?_
  refine kg_X0_rowCount (pc := 15) (v := (kb_g σ 2)) C wf_X0_29 dX0_fillNeedle_15 rfl ?_
  refine kj_iconst (pc := 18) (v := (1 : Int32)) C dX0_fillNeedle_18 (by decide) ?_
  refine kj_iadd (pc := 19) C dX0_fillNeedle_19 ?_
  obtain ⟨g2, hf⟩ := kb_gd hf
  refine ka_X0_firstLoops (pc := 20) (v := (kb_a σ 1 ((kb_g σ 2) + (1 : Int32)).toNatClampNeg)) C g2 dX0_fillNeedle_20 rfl ?_
  refine kj_istore_n (pc := 21) C [1, 2, 0] (L2 := [(0, .ref (a 2)), (1, .int (kb_a σ 1 (kb_g σ 2).toNatClampNeg)), (2, .int (kb_a σ 1 ((kb_g σ 2) + (1 : Int32)).toNatClampNeg))]) dX0_fillNeedle_21 rfl (by decide) rfl ?_
  refine kj_aload_n (pc := 22) C 0 dX0_fillNeedle_22 rfl rfl ?_
  refine kj_iload_n (pc := 23) C 2 dX0_fillNeedle_23 rfl rfl ?_
  refine kj_iload_n (pc := 24) C 1 dX0_fillNeedle_24 rfl rfl ?_
  refine kj_isub (pc := 25) C dX0_fillNeedle_25 ?_
  refine kp_X0_needleCount (pc := 26) C wf_X0_49 dX0_fillNeedle_26 ?_
  refine kj_aload_n (pc := 29) C 0 dX0_fillNeedle_29 rfl rfl ?_
  refine kj_aload_n (pc := 30) C 0 dX0_fillNeedle_30 rfl rfl ?_
  refine kg_X0_round (pc := 31) (v := (kb_g σ 1)) C wf_X0_25 dX0_fillNeedle_31 rfl ?_
  refine kj_if_eq (pc := 34) 41 C dX0_fillNeedle_34 (by decide) (fun c3 => ?_) (fun c3 => ?_)
  · have hf := kb_ift hf c3
    refine kj_iload_n (pc := 41) C 2 dX0_fillNeedle_41 rfl rfl ?_
    refine kj_iconst (pc := 42) (v := (1 : Int32)) C dX0_fillNeedle_42 (by decide) ?_
    refine kj_isub (pc := 43) C dX0_fillNeedle_43 ?_
    refine kj_sub [0] (L2 := [(0, .ref (a 2))]) rfl ?_
    exact hp44 ((kb_a σ 1 ((kb_g σ 2) + (1 : Int32)).toNatClampNeg) - (1 : Int32)) (kb_p σ 3 ((kb_a σ 1 ((kb_g σ 2) + (1 : Int32)).toNatClampNeg) - (kb_a σ 1 (kb_g σ 2).toNatClampNeg))) hf
  · have hf := kb_ife hf c3
    refine kj_iload_n (pc := 37) C 1 dX0_fillNeedle_37 rfl rfl ?_
    refine kj_goto (pc := 38) 44 C dX0_fillNeedle_38 (by decide) ?_
    refine kj_sub [0] (L2 := [(0, .ref (a 2))]) rfl ?_
    exact hp44 (kb_a σ 1 (kb_g σ 2).toNatClampNeg) (kb_p σ 3 ((kb_a σ 1 ((kb_g σ 2) + (1 : Int32)).toNatClampNeg) - (kb_a σ 1 (kb_g σ 2).toNatClampNeg))) hf
def fn_X0_needleLoop (x1 : Int32) (σ : kb_S) : Int32 :=
  if x1 < 0 then
    (-1 : Int32)
  else
    if (kb_g σ 3) ≤ x1 then
      (-1 : Int32)
    else
      ((kb_g σ 4) + (x1 * (kb_g σ 5)))
theorem fe_X0_needleLoop (x1 : Int32) (σ : kb_S) : fn_X0_needleLoop x1 σ =
  if x1 < 0 then
    (-1 : Int32)
  else
    if (kb_g σ 3) ≤ x1 then
      (-1 : Int32)
    else
      ((kb_g σ 4) + (x1 * (kb_g σ 5))) := rfl
theorem hd_X0_needleLoop : yX0_needleLoop.cls = RX0 ∧ yX0_needleLoop.cls ≠ "java/lang/invoke/MethodHandle" ∧ yX0_needleLoop.cls ≠ "java/lang/invoke/VarHandle" ∧ (parseMethodDescriptor yX0_needleLoop.desc).map (fun d => d.parameters.length) = some 1 := by decide +kernel
set_option maxRecDepth 100000 in
set_option maxHeartbeats 4000000 in
theorem ct_X0_needleLoop (l : Launch) (V : kb_V) (A : Nat → Prop) (x1 : Int32) (a : Nat → Nat) (σ : kb_S) (sh : Value) (ex : va_W) {r : Int32} (hf : fn_X0_needleLoop x1 σ = r) : kb_T l yX0_needleLoop cX0_needleLoop 2 (some .int) ({ frames := 0, cells := 0, slots := 0, locals := 0 } : Room) V A [.ref (a 2), .int x1] (kb_W V a σ sh ex) (some (.int r)) (kb_W V a σ sh ex) 0 0 := by
  refine kb_start (cc := cX0_needleLoop) (nL := 2) (ret := (some .int)) (own := RX0) (by decide) rfl (Nat.le_of_ble_eq_true rfl) ?_
  intro p e s m args below meth c C
  refine kj_sub [0, 1] (L2 := [(0, .ref (a 2)), (1, .int x1)]) rfl ?_
  rw [fe_X0_needleLoop] at hf
  refine kj_iload_n (pc := 0) C 1 dX0_needleLoop_0 rfl rfl ?_
  refine kj_if_lt (pc := 1) 26 C dX0_needleLoop_1 (by decide) (fun c1 => ?_) (fun c1 => ?_)
  · have hf := kb_ift hf c1
    refine kj_iconst (pc := 26) (v := (-1 : Int32)) C dX0_needleLoop_26 (by decide) ?_
    subst hf
    exact kj_iret (pc := 27) C dX0_needleLoop_27
  · have hf := kb_ife hf c1
    refine kj_iload_n (pc := 4) C 1 dX0_needleLoop_4 rfl rfl ?_
    refine kj_aload_n (pc := 5) C 0 dX0_needleLoop_5 rfl rfl ?_
    refine kg_X0_needleCount (pc := 6) (v := (kb_g σ 3)) C wf_X0_49 dX0_needleLoop_6 rfl ?_
    refine kj_icmp_ge (pc := 9) 26 C dX0_needleLoop_9 (by decide) (fun c2 => ?_) (fun c2 => ?_)
    · have hf := kb_ift hf c2
      refine kj_iconst (pc := 26) (v := (-1 : Int32)) C dX0_needleLoop_26 (by decide) ?_
      subst hf
      exact kj_iret (pc := 27) C dX0_needleLoop_27
    · have hf := kb_ife hf c2
      refine kj_aload_n (pc := 12) C 0 dX0_needleLoop_12 rfl rfl ?_
      refine kg_X0_needleStart (pc := 13) (v := (kb_g σ 4)) C wf_X0_52 dX0_needleLoop_13 rfl ?_
      refine kj_iload_n (pc := 16) C 1 dX0_needleLoop_16 rfl rfl ?_
      refine kj_aload_n (pc := 17) C 0 dX0_needleLoop_17 rfl rfl ?_
      refine kg_X0_needleStep (pc := 18) (v := (kb_g σ 5)) C wf_X0_55 dX0_needleLoop_18 rfl ?_
      refine kj_imul (pc := 21) C dX0_needleLoop_21 ?_
      refine kj_iadd (pc := 22) C dX0_needleLoop_22 ?_
      refine kj_goto (pc := 23) 27 C dX0_needleLoop_23 (by decide) ?_
      subst hf
      exact kj_iret (pc := 27) C dX0_needleLoop_27
def fp_X0_makeLoop_31  (x2 : Int32) (y0 : Int32) (y1 : Int32) (σ : kb_S) : Option (kb_S) :=
  if kb_in y1 600 = true then
    if kb_in (kb_g σ 7) 600 = true then
      some (kb_p (kb_ap (kb_ap σ 5 y1.toNatClampNeg y0) 4 (kb_g σ 7).toNatClampNeg x2) 7 ((kb_g σ 7) + (1 : Int32)))
    else none
  else none
theorem fp_X0_makeLoop_31_e  (x2 : Int32) (y0 : Int32) (y1 : Int32) (σ : kb_S) : fp_X0_makeLoop_31  x2 y0 y1 σ =
  if kb_in y1 600 = true then
    if kb_in (kb_g σ 7) 600 = true then
      some (kb_p (kb_ap (kb_ap σ 5 y1.toNatClampNeg y0) 4 (kb_g σ 7).toNatClampNeg x2) 7 ((kb_g σ 7) + (1 : Int32)))
    else none
  else none := rfl
def fn_X0_makeLoop (x1 : Int32) (x2 : Int32) (σ : kb_S) : Option (kb_S) :=
  if (600 : Int32) ≤ (kb_g σ 7) then
    some σ
  else
    if x2 ≤ 0 then
      fp_X0_makeLoop_31  x2 (-1 : Int32) (kb_g σ 7) σ
    else
      fp_X0_makeLoop_31  x2 (fn_X0_needleLoop x1 σ) (kb_g σ 7) σ
theorem fe_X0_makeLoop (x1 : Int32) (x2 : Int32) (σ : kb_S) : fn_X0_makeLoop x1 x2 σ =
  if (600 : Int32) ≤ (kb_g σ 7) then
    some σ
  else
    if x2 ≤ 0 then
      fp_X0_makeLoop_31  x2 (-1 : Int32) (kb_g σ 7) σ
    else
      fp_X0_makeLoop_31  x2 (fn_X0_needleLoop x1 σ) (kb_g σ 7) σ := rfl
theorem hd_X0_makeLoop : yX0_makeLoop.cls = RX0 ∧ yX0_makeLoop.cls ≠ "java/lang/invoke/MethodHandle" ∧ yX0_makeLoop.cls ≠ "java/lang/invoke/VarHandle" ∧ (parseMethodDescriptor yX0_makeLoop.desc).map (fun d => d.parameters.length) = some 2 := by decide +kernel
set_option maxRecDepth 100000 in
set_option maxHeartbeats 4000000 in
theorem ct_X0_makeLoop (l : Launch) (V : kb_V) (A : Nat → Prop) (x1 : Int32) (x2 : Int32) (a : Nat → Nat) (σ : kb_S) (sh : Value) (ex : va_W) {σ9 : kb_S} (hf : fn_X0_makeLoop x1 x2 σ = some σ9) : kb_T l yX0_makeLoop cX0_makeLoop 3 none ({ frames := 1, cells := 0, slots := 0, locals := 21 } : Room) V A [.ref (a 2), .int x1, .int x2] (kb_W V a σ sh ex) none (kb_W V a σ9 sh ex) 0 0 := by
  refine kb_start (cc := cX0_makeLoop) (nL := 3) (ret := none) (own := RX0) (by decide) rfl (Nat.le_of_ble_eq_true rfl) ?_
  intro p e s m args below meth c C
  have hp31 : ∀ (x2 : Int32) (y0 : Int32) (y1 : Int32) (σ : kb_S), fp_X0_makeLoop_31  x2 y0 y1 σ = some σ9 → kb_J p l e ({ frames := 1, cells := 0, slots := 0, locals := 21 } : Room) s m args below meth c 3 V A 0 0 (MQ below (kb_post V A none (kb_W V a σ9 sh ex)) args s 0 0 A) 31 [(0, .ref (a 2)), (2, .int x2)] [.int y0, .int y1, .ref (a 11)] (kb_W V a σ sh ex) := by
    intro x2 y0 y1 σ hf
    rw [fp_X0_makeLoop_31_e] at hf
    obtain ⟨g1, hf⟩ := kb_gd hf
    refine ks_X0_firstParents (pc := 31) C g1 dX0_makeLoop_31 ?_
    refine kj_aload_n (pc := 32) C 0 dX0_makeLoop_32 rfl rfl ?_
    refine kg_X0_parentCounts (pc := 33) C wf_X0_19 dX0_makeLoop_33 ?_
    refine kj_aload_n (pc := 36) C 0 dX0_makeLoop_36 rfl rfl ?_
    refine kg_X0_loopEnd (pc := 37) (v := (kb_g σ 7)) C wf_X0_33 dX0_makeLoop_37 rfl ?_
    refine kj_iload_n (pc := 40) C 1 dX0_makeLoop_40 rfl rfl ?_
    obtain ⟨g2, hf⟩ := kb_gd hf
    refine ks_X0_parentCounts (pc := 41) C g2 dX0_makeLoop_41 ?_
    refine kj_aload_n (pc := 42) C 0 dX0_makeLoop_42 rfl rfl ?_
    refine kj_dup (pc := 43) C dX0_makeLoop_43 rfl ?_
    refine kg_X0_loopEnd (pc := 44) (v := (kb_g σ 7)) C wf_X0_33 dX0_makeLoop_44 rfl ?_
    refine kj_iconst (pc := 47) (v := (1 : Int32)) C dX0_makeLoop_47 (by decide) ?_
    refine kj_iadd (pc := 48) C dX0_makeLoop_48 ?_
    refine kp_X0_loopEnd (pc := 49) C wf_X0_33 dX0_makeLoop_49 ?_
    cases hf
    exact kj_vret (pc := 52) C dX0_makeLoop_52
  refine kj_sub [0, 1, 2] (L2 := [(0, .ref (a 2)), (1, .int x1), (2, .int x2)]) rfl ?_
  rw [fe_X0_makeLoop] at hf
  refine kj_aload_n (pc := 0) C 0 dX0_makeLoop_0 rfl rfl ?_
  refine kg_X0_loopEnd (pc := 1) (v := (kb_g σ 7)) C wf_X0_33 dX0_makeLoop_1 rfl ?_
  refine kj_sipush (pc := 4) (v := (600 : Int32)) C dX0_makeLoop_4 (by decide) ?_
  refine kj_icmp_ge (pc := 7) 52 C dX0_makeLoop_7 (by decide) (fun c1 => ?_) (fun c1 => ?_)
  · have hf := kb_ift hf c1
    cases hf
    exact kj_vret (pc := 52) C dX0_makeLoop_52
  · have hf := kb_ife hf c1
    refine kj_aload_n (pc := 10) C 0 dX0_makeLoop_10 rfl rfl ?_
    refine kg_X0_firstParents (pc := 11) C wf_X0_22 dX0_makeLoop_11 ?_
    refine kj_aload_n (pc := 14) C 0 dX0_makeLoop_14 rfl rfl ?_
    refine kg_X0_loopEnd (pc := 15) (v := (kb_g σ 7)) C wf_X0_33 dX0_makeLoop_15 rfl ?_
    refine kj_iload_n (pc := 18) C 2 dX0_makeLoop_18 rfl rfl ?_
    refine kj_if_le (pc := 19) 30 C dX0_makeLoop_19 (by decide) (fun c2 => ?_) (fun c2 => ?_)
    · have hf := kb_ift hf c2
      refine kj_iconst (pc := 30) (v := (-1 : Int32)) C dX0_makeLoop_30 (by decide) ?_
      refine kj_sub [0, 2] (L2 := [(0, .ref (a 2)), (2, .int x2)]) rfl ?_
      exact hp31 x2 (-1 : Int32) (kb_g σ 7) σ hf
    · have hf := kb_ife hf c2
      refine kj_aload_n (pc := 22) C 0 dX0_makeLoop_22 rfl rfl ?_
      refine kj_iload_n (pc := 23) C 1 dX0_makeLoop_23 rfl rfl ?_
      refine kj_callV0 (pc := 24) (as := [.int x1]) (rest := [.int (kb_g σ 7), .ref (a 11)]) (b := (a 2)) C (ct_X0_needleLoop l V A x1 a σ sh ex rfl) wd_X0_needleLoop wk_X0_98 wi_X0_needleLoop ws_X0_needleLoop wz_X0 rfl rfl hd_X0_needleLoop ⟨by decide, by decide⟩ 2 rfl rfl rfl rfl (Nat.le_of_ble_eq_true rfl) (by decide) dX0_makeLoop_24 ?_
      refine kj_goto (pc := 27) 31 C dX0_makeLoop_27 (by decide) ?_
      refine kj_sub [0, 2] (L2 := [(0, .ref (a 2)), (2, .int x2)]) rfl ?_
      exact hp31 x2 (fn_X0_needleLoop x1 σ) (kb_g σ 7) σ hf
def fp_X0_castOn_38  : Nat → Int32 → Int32 → kb_S → Option (kb_S)
  | 0 => fun _ _ _ => none
  | nn + 1 => fun x1 x3 σ => 
  if x1 ≤ x3 then
    if kb_in (1 : Int32) 32 = true then
      (fn_X0_fillNeedle  (kb_ap σ 1 (1 : Int32).toNatClampNeg (kb_g σ 7))).bind fun q3 =>
      some q3
    else none
  else
    (fn_X0_makeLoop (0 : Int32) (0 : Int32) σ).bind fun q2 =>
    (fp_X0_castOn_38  nn) x1 (x3 + (1 : Int32)) q2
theorem fp_X0_castOn_38_s  (nn : Nat) (x1 : Int32) (x3 : Int32) (σ : kb_S) : fp_X0_castOn_38  (nn + 1) x1 x3 σ =
  if x1 ≤ x3 then
    if kb_in (1 : Int32) 32 = true then
      (fn_X0_fillNeedle  (kb_ap σ 1 (1 : Int32).toNatClampNeg (kb_g σ 7))).bind fun q3 =>
      some q3
    else none
  else
    (fn_X0_makeLoop (0 : Int32) (0 : Int32) σ).bind fun q2 =>
    (fp_X0_castOn_38  nn) x1 (x3 + (1 : Int32)) q2 := rfl
def fn_X0_castOn (x1 : Int32) (x2 : Int32) (σ : kb_S) : Option (kb_S) :=
  if x2 = 0 ∨ x2 = 1 then
    if kb_in (0 : Int32) 32 = true then
      if kb_in (0 : Int32) 32 = true then
        if kb_in (1 : Int32) 32 = true then
          fp_X0_castOn_38  kb_FU x1 (0 : Int32) (kb_p (kb_ap (kb_ap (kb_ap (kb_p (kb_p σ 1 x2) 2 (0 : Int32)) 1 (0 : Int32).toNatClampNeg (0 : Int32)) 2 (0 : Int32).toNatClampNeg (0 : Int32)) 2 (1 : Int32).toNatClampNeg (0 : Int32)) 7 (0 : Int32))
        else none
      else none
    else none
  else none
theorem fe_X0_castOn (x1 : Int32) (x2 : Int32) (σ : kb_S) : fn_X0_castOn x1 x2 σ =
  if x2 = 0 ∨ x2 = 1 then
    if kb_in (0 : Int32) 32 = true then
      if kb_in (0 : Int32) 32 = true then
        if kb_in (1 : Int32) 32 = true then
          fp_X0_castOn_38  kb_FU x1 (0 : Int32) (kb_p (kb_ap (kb_ap (kb_ap (kb_p (kb_p σ 1 x2) 2 (0 : Int32)) 1 (0 : Int32).toNatClampNeg (0 : Int32)) 2 (0 : Int32).toNatClampNeg (0 : Int32)) 2 (1 : Int32).toNatClampNeg (0 : Int32)) 7 (0 : Int32))
        else none
      else none
    else none
  else none := rfl
theorem hd_X0_castOn : yX0_castOn.cls = RX0 ∧ yX0_castOn.cls ≠ "java/lang/invoke/MethodHandle" ∧ yX0_castOn.cls ≠ "java/lang/invoke/VarHandle" ∧ (parseMethodDescriptor yX0_castOn.desc).map (fun d => d.parameters.length) = some 2 := by decide +kernel
set_option maxRecDepth 100000 in
set_option maxHeartbeats 4000000 in
theorem ct_X0_castOn (l : Launch) (V : kb_V) (A : Nat → Prop) (x1 : Int32) (x2 : Int32) (a : Nat → Nat) (σ : kb_S) (sh : Value) (ex : va_W) {σ9 : kb_S} (hf : fn_X0_castOn x1 x2 σ = some σ9) : kb_T l yX0_castOn cX0_castOn 4 none ({ frames := 2, cells := 0, slots := 0, locals := 43 } : Room) V A [.ref (a 2), .int x1, .int x2] (kb_W V a σ sh ex) none (kb_W V a σ9 sh ex) 0 0 := by
  refine kb_start (cc := cX0_castOn) (nL := 4) (ret := none) (own := RX0) (by decide) rfl (Nat.le_of_ble_eq_true rfl) ?_
  intro p e s m args below meth c C
  have hp38 : ∀ (nn : Nat) (x1 : Int32) (x3 : Int32) (σ : kb_S), fp_X0_castOn_38  nn x1 x3 σ = some σ9 → kb_J p l e ({ frames := 2, cells := 0, slots := 0, locals := 43 } : Room) s m args below meth c 4 V A 0 0 (MQ below (kb_post V A none (kb_W V a σ9 sh ex)) args s 0 0 A) 38 [(0, .ref (a 2)), (1, .int x1), (3, .int x3)] [] (kb_W V a σ sh ex) := by
    intro nn38
    induction nn38 with
    | zero => intro x1 x3 σ hf; exact kb_no hf
    | succ nn38 ih38 =>
      intro x1 x3 σ hf
      rw [fp_X0_castOn_38_s] at hf
      refine kj_iload_n (pc := 38) C 2 dX0_castOn_38 rfl rfl ?_
      refine kj_iload_n (pc := 39) C 1 dX0_castOn_39 rfl rfl ?_
      refine kj_icmp_ge (pc := 40) 55 C dX0_castOn_40 (by decide) (fun c1 => ?_) (fun c1 => ?_)
      · have hf := kb_ift hf c1
        refine kj_aload_n (pc := 55) C 0 dX0_castOn_55 rfl rfl ?_
        refine kg_X0_firstLoops (pc := 56) C wf_X0_9 dX0_castOn_56 ?_
        refine kj_iconst (pc := 59) (v := (1 : Int32)) C dX0_castOn_59 (by decide) ?_
        refine kj_aload_n (pc := 60) C 0 dX0_castOn_60 rfl rfl ?_
        refine kg_X0_loopEnd (pc := 61) (v := (kb_g σ 7)) C wf_X0_33 dX0_castOn_61 rfl ?_
        obtain ⟨g2, hf⟩ := kb_gd hf
        refine ks_X0_firstLoops (pc := 64) C g2 dX0_castOn_64 ?_
        refine kj_aload_n (pc := 65) C 0 dX0_castOn_65 rfl rfl ?_
        obtain ⟨q3, hq3, hf⟩ := kb_bd hf
        refine kj_callV0 (pc := 66) (as := []) (rest := []) (b := (a 2)) C (ct_X0_fillNeedle l V A  a (kb_ap σ 1 (1 : Int32).toNatClampNeg (kb_g σ 7)) sh ex hq3) wd_X0_fillNeedle wk_X0_40 wi_X0_fillNeedle ws_X0_fillNeedle wz_X0 rfl rfl hd_X0_fillNeedle ⟨by decide, by decide⟩ 2 rfl rfl rfl rfl (Nat.le_of_ble_eq_true rfl) (by decide) dX0_castOn_66 ?_
        cases hf
        exact kj_vret (pc := 69) C dX0_castOn_69
      · have hf := kb_ife hf c1
        refine kj_aload_n (pc := 43) C 0 dX0_castOn_43 rfl rfl ?_
        refine kj_iconst (pc := 44) (v := (0 : Int32)) C dX0_castOn_44 (by decide) ?_
        refine kj_iconst (pc := 45) (v := (0 : Int32)) C dX0_castOn_45 (by decide) ?_
        obtain ⟨q2, hq2, hf⟩ := kb_bd hf
        refine kj_callV0 (pc := 46) (as := [.int (0 : Int32), .int (0 : Int32)]) (rest := []) (b := (a 2)) C (ct_X0_makeLoop l V A (0 : Int32) (0 : Int32) a σ sh ex hq2) wd_X0_makeLoop wk_X0_36 wi_X0_makeLoop ws_X0_makeLoop wz_X0 rfl rfl hd_X0_makeLoop ⟨by decide, by decide⟩ 2 rfl rfl rfl rfl (Nat.le_of_ble_eq_true rfl) (by decide) dX0_castOn_46 ?_
        refine kj_iinc (pc := 49) C 2 [1, 2, 0] (L2 := [(0, .ref (a 2)), (1, .int x1), (3, .int (x3 + (1 : Int32)))]) dX0_castOn_49 rfl rfl (by decide) rfl ?_
        refine kj_goto (pc := 52) 38 C dX0_castOn_52 (by decide) ?_
        exact ih38 x1 (x3 + (1 : Int32)) q2 hf
  refine kj_sub [0, 1, 2] (L2 := [(0, .ref (a 2)), (1, .int x1), (2, .int x2)]) rfl ?_
  rw [fe_X0_castOn] at hf
  refine kj_aload_n (pc := 0) C 0 dX0_castOn_0 rfl rfl ?_
  refine kj_iload_n (pc := 1) C 2 dX0_castOn_1 rfl rfl ?_
  obtain ⟨g1, hf⟩ := kb_gd hf
  refine kp_X0_round (pc := 2) C wf_X0_25 dX0_castOn_2 g1 ?_
  refine kj_aload_n (pc := 5) C 0 dX0_castOn_5 rfl rfl ?_
  refine kj_iconst (pc := 6) (v := (0 : Int32)) C dX0_castOn_6 (by decide) ?_
  refine kp_X0_rowCount (pc := 7) C wf_X0_29 dX0_castOn_7 ?_
  refine kj_aload_n (pc := 10) C 0 dX0_castOn_10 rfl rfl ?_
  refine kg_X0_firstLoops (pc := 11) C wf_X0_9 dX0_castOn_11 ?_
  refine kj_iconst (pc := 14) (v := (0 : Int32)) C dX0_castOn_14 (by decide) ?_
  refine kj_iconst (pc := 15) (v := (0 : Int32)) C dX0_castOn_15 (by decide) ?_
  obtain ⟨g2, hf⟩ := kb_gd hf
  refine ks_X0_firstLoops (pc := 16) C g2 dX0_castOn_16 ?_
  refine kj_aload_n (pc := 17) C 0 dX0_castOn_17 rfl rfl ?_
  refine kg_X0_firstStitches (pc := 18) C wf_X0_13 dX0_castOn_18 ?_
  refine kj_iconst (pc := 21) (v := (0 : Int32)) C dX0_castOn_21 (by decide) ?_
  refine kj_iconst (pc := 22) (v := (0 : Int32)) C dX0_castOn_22 (by decide) ?_
  obtain ⟨g3, hf⟩ := kb_gd hf
  refine ks_X0_firstStitches (pc := 23) C g3 dX0_castOn_23 ?_
  refine kj_aload_n (pc := 24) C 0 dX0_castOn_24 rfl rfl ?_
  refine kg_X0_firstStitches (pc := 25) C wf_X0_13 dX0_castOn_25 ?_
  refine kj_iconst (pc := 28) (v := (1 : Int32)) C dX0_castOn_28 (by decide) ?_
  refine kj_iconst (pc := 29) (v := (0 : Int32)) C dX0_castOn_29 (by decide) ?_
  obtain ⟨g4, hf⟩ := kb_gd hf
  refine ks_X0_firstStitches (pc := 30) C g4 dX0_castOn_30 ?_
  refine kj_aload_n (pc := 31) C 0 dX0_castOn_31 rfl rfl ?_
  refine kj_iconst (pc := 32) (v := (0 : Int32)) C dX0_castOn_32 (by decide) ?_
  refine kp_X0_loopEnd (pc := 33) C wf_X0_33 dX0_castOn_33 ?_
  refine kj_iconst (pc := 36) (v := (0 : Int32)) C dX0_castOn_36 (by decide) ?_
  refine kj_istore_n (pc := 37) C [1, 2, 3, 0] (L2 := [(0, .ref (a 2)), (1, .int x1), (2, .int x2), (3, .int (0 : Int32))]) dX0_castOn_37 rfl (by decide) rfl ?_
  refine kj_sub [0, 1, 3] (L2 := [(0, .ref (a 2)), (1, .int x1), (3, .int (0 : Int32))]) rfl ?_
  exact hp38 kb_FU x1 (0 : Int32) (kb_p (kb_ap (kb_ap (kb_ap (kb_p (kb_p σ 1 x2) 2 (0 : Int32)) 1 (0 : Int32).toNatClampNeg (0 : Int32)) 2 (0 : Int32).toNatClampNeg (0 : Int32)) 2 (1 : Int32).toNatClampNeg (0 : Int32)) 7 (0 : Int32)) hf
def fn_X0_rowCount  (σ : kb_S) : Int32 :=
  (kb_g σ 2)
theorem fe_X0_rowCount  (σ : kb_S) : fn_X0_rowCount  σ =
  (kb_g σ 2) := rfl
theorem hd_X0_rowCount : yX0_rowCount.cls = RX0 ∧ yX0_rowCount.cls ≠ "java/lang/invoke/MethodHandle" ∧ yX0_rowCount.cls ≠ "java/lang/invoke/VarHandle" ∧ (parseMethodDescriptor yX0_rowCount.desc).map (fun d => d.parameters.length) = some 0 := by decide +kernel
set_option maxRecDepth 100000 in
set_option maxHeartbeats 4000000 in
theorem ct_X0_rowCount (l : Launch) (V : kb_V) (A : Nat → Prop)  (a : Nat → Nat) (σ : kb_S) (sh : Value) (ex : va_W) {r : Int32} (hf : fn_X0_rowCount  σ = r) : kb_T l yX0_rowCount cX0_rowCount 1 (some .int) ({ frames := 0, cells := 0, slots := 0, locals := 0 } : Room) V A [.ref (a 2)] (kb_W V a σ sh ex) (some (.int r)) (kb_W V a σ sh ex) 0 0 := by
  refine kb_start (cc := cX0_rowCount) (nL := 1) (ret := (some .int)) (own := RX0) (by decide) rfl (Nat.le_of_ble_eq_true rfl) ?_
  intro p e s m args below meth c C
  refine kj_sub [0] (L2 := [(0, .ref (a 2))]) rfl ?_
  rw [fe_X0_rowCount] at hf
  refine kj_aload_n (pc := 0) C 0 dX0_rowCount_0 rfl rfl ?_
  refine kg_X0_rowCount (pc := 1) (v := (kb_g σ 2)) C wf_X0_29 dX0_rowCount_1 rfl ?_
  subst hf
  exact kj_iret (pc := 4) C dX0_rowCount_4
def fn_X0_takeBack (x1 : Int32) (σ : kb_S) : Option (kb_S) :=
  (fn_X0_fillNeedle  (kb_p σ 2 (if ((kb_g σ 2) - x1) < (0 : Int32) then (0 : Int32) else ((kb_g σ 2) - x1)))).bind fun q1 =>
  some q1
theorem fe_X0_takeBack (x1 : Int32) (σ : kb_S) : fn_X0_takeBack x1 σ =
  (fn_X0_fillNeedle  (kb_p σ 2 (if ((kb_g σ 2) - x1) < (0 : Int32) then (0 : Int32) else ((kb_g σ 2) - x1)))).bind fun q1 =>
  some q1 := rfl
theorem hd_X0_takeBack : yX0_takeBack.cls = RX0 ∧ yX0_takeBack.cls ≠ "java/lang/invoke/MethodHandle" ∧ yX0_takeBack.cls ≠ "java/lang/invoke/VarHandle" ∧ (parseMethodDescriptor yX0_takeBack.desc).map (fun d => d.parameters.length) = some 1 := by decide +kernel
set_option maxRecDepth 100000 in
set_option maxHeartbeats 4000000 in
theorem ct_X0_takeBack (l : Launch) (V : kb_V) (A : Nat → Prop) (x1 : Int32) (a : Nat → Nat) (σ : kb_S) (sh : Value) (ex : va_W) {σ9 : kb_S} (hf : fn_X0_takeBack x1 σ = some σ9) : kb_T l yX0_takeBack cX0_takeBack 2 none ({ frames := 1, cells := 0, slots := 0, locals := 30 } : Room) V A [.ref (a 2), .int x1] (kb_W V a σ sh ex) none (kb_W V a σ9 sh ex) 0 0 := by
  refine kb_start (cc := cX0_takeBack) (nL := 2) (ret := none) (own := RX0) (by decide) rfl (Nat.le_of_ble_eq_true rfl) ?_
  intro p e s m args below meth c C
  refine kj_sub [0, 1] (L2 := [(0, .ref (a 2)), (1, .int x1)]) rfl ?_
  rw [fe_X0_takeBack] at hf
  refine kj_aload_n (pc := 0) C 0 dX0_takeBack_0 rfl rfl ?_
  refine kj_aload_n (pc := 1) C 0 dX0_takeBack_1 rfl rfl ?_
  refine kg_X0_rowCount (pc := 2) (v := (kb_g σ 2)) C wf_X0_29 dX0_takeBack_2 rfl ?_
  refine kj_iload_n (pc := 5) C 1 dX0_takeBack_5 rfl rfl ?_
  refine kj_isub (pc := 6) C dX0_takeBack_6 ?_
  refine kj_iconst (pc := 7) (v := (0 : Int32)) C dX0_takeBack_7 (by decide) ?_
  refine kj_mmax (pc := 8) C wk_X0_43 wi_Mmax wz_Math wd_Mmax (by decide) (Nat.le_of_ble_eq_true rfl) (by decide) dX0_takeBack_8 ?_
  refine kp_X0_rowCount (pc := 11) C wf_X0_29 dX0_takeBack_11 ?_
  refine kj_aload_n (pc := 14) C 0 dX0_takeBack_14 rfl rfl ?_
  obtain ⟨q1, hq1, hf⟩ := kb_bd hf
  refine kj_callV0 (pc := 15) (as := []) (rest := []) (b := (a 2)) C (ct_X0_fillNeedle l V A  a (kb_p σ 2 (if ((kb_g σ 2) - x1) < (0 : Int32) then (0 : Int32) else ((kb_g σ 2) - x1))) sh ex hq1) wd_X0_fillNeedle wk_X0_40 wi_X0_fillNeedle ws_X0_fillNeedle wz_X0 rfl rfl hd_X0_fillNeedle ⟨by decide, by decide⟩ 2 rfl rfl rfl rfl (Nat.le_of_ble_eq_true rfl) (by decide) dX0_takeBack_15 ?_
  cases hf
  exact kj_vret (pc := 18) C dX0_takeBack_18
def fn_X0_loopCount  (σ : kb_S) : Option (Int32) :=
  if kb_in ((kb_g σ 2) + (1 : Int32)) 32 = true then
    some (kb_a σ 1 ((kb_g σ 2) + (1 : Int32)).toNatClampNeg)
  else none
theorem fe_X0_loopCount  (σ : kb_S) : fn_X0_loopCount  σ =
  if kb_in ((kb_g σ 2) + (1 : Int32)) 32 = true then
    some (kb_a σ 1 ((kb_g σ 2) + (1 : Int32)).toNatClampNeg)
  else none := rfl
theorem hd_X0_loopCount : yX0_loopCount.cls = RX0 ∧ yX0_loopCount.cls ≠ "java/lang/invoke/MethodHandle" ∧ yX0_loopCount.cls ≠ "java/lang/invoke/VarHandle" ∧ (parseMethodDescriptor yX0_loopCount.desc).map (fun d => d.parameters.length) = some 0 := by decide +kernel
set_option maxRecDepth 100000 in
set_option maxHeartbeats 4000000 in
theorem ct_X0_loopCount (l : Launch) (V : kb_V) (A : Nat → Prop)  (a : Nat → Nat) (σ : kb_S) (sh : Value) (ex : va_W) {r : Int32} (hf : fn_X0_loopCount  σ = some r) : kb_T l yX0_loopCount cX0_loopCount 1 (some .int) ({ frames := 0, cells := 0, slots := 0, locals := 0 } : Room) V A [.ref (a 2)] (kb_W V a σ sh ex) (some (.int r)) (kb_W V a σ sh ex) 0 0 := by
  refine kb_start (cc := cX0_loopCount) (nL := 1) (ret := (some .int)) (own := RX0) (by decide) rfl (Nat.le_of_ble_eq_true rfl) ?_
  intro p e s m args below meth c C
  refine kj_sub [0] (L2 := [(0, .ref (a 2))]) rfl ?_
  rw [fe_X0_loopCount] at hf
  refine kj_aload_n (pc := 0) C 0 dX0_loopCount_0 rfl rfl ?_
  refine kg_X0_firstLoops (pc := 1) C wf_X0_9 dX0_loopCount_1 ?_
  refine kj_aload_n (pc := 4) C 0 dX0_loopCount_4 rfl rfl ?_
  refine kg_X0_rowCount (pc := 5) (v := (kb_g σ 2)) C wf_X0_29 dX0_loopCount_5 rfl ?_
  refine kj_iconst (pc := 8) (v := (1 : Int32)) C dX0_loopCount_8 (by decide) ?_
  refine kj_iadd (pc := 9) C dX0_loopCount_9 ?_
  obtain ⟨g1, hf⟩ := kb_gd hf
  refine ka_X0_firstLoops (pc := 10) (v := (kb_a σ 1 ((kb_g σ 2) + (1 : Int32)).toNatClampNeg)) C g1 dX0_loopCount_10 rfl ?_
  cases hf
  exact kj_iret (pc := 11) C dX0_loopCount_11
def fn_X0_startRow  (σ : kb_S) : Option (kb_S) :=
  (fn_X0_loopCount  (kb_p σ 6 (0 : Int32))).bind fun q1 =>
  if kb_in ((kb_g σ 2) + (1 : Int32)) 32 = true then
    some (kb_p (kb_p (kb_p σ 6 (0 : Int32)) 7 q1) 8 (kb_a σ 2 ((kb_g σ 2) + (1 : Int32)).toNatClampNeg))
  else none
theorem fe_X0_startRow  (σ : kb_S) : fn_X0_startRow  σ =
  (fn_X0_loopCount  (kb_p σ 6 (0 : Int32))).bind fun q1 =>
  if kb_in ((kb_g σ 2) + (1 : Int32)) 32 = true then
    some (kb_p (kb_p (kb_p σ 6 (0 : Int32)) 7 q1) 8 (kb_a σ 2 ((kb_g σ 2) + (1 : Int32)).toNatClampNeg))
  else none := rfl
theorem hd_X0_startRow : yX0_startRow.cls = RX0 ∧ yX0_startRow.cls ≠ "java/lang/invoke/MethodHandle" ∧ yX0_startRow.cls ≠ "java/lang/invoke/VarHandle" ∧ (parseMethodDescriptor yX0_startRow.desc).map (fun d => d.parameters.length) = some 0 := by decide +kernel
set_option maxRecDepth 100000 in
set_option maxHeartbeats 4000000 in
theorem ct_X0_startRow (l : Launch) (V : kb_V) (A : Nat → Prop)  (a : Nat → Nat) (σ : kb_S) (sh : Value) (ex : va_W) {σ9 : kb_S} (hf : fn_X0_startRow  σ = some σ9) : kb_T l yX0_startRow cX0_startRow 1 none ({ frames := 1, cells := 0, slots := 0, locals := 20 } : Room) V A [.ref (a 2)] (kb_W V a σ sh ex) none (kb_W V a σ9 sh ex) 0 0 := by
  refine kb_start (cc := cX0_startRow) (nL := 1) (ret := none) (own := RX0) (by decide) rfl (Nat.le_of_ble_eq_true rfl) ?_
  intro p e s m args below meth c C
  refine kj_sub [0] (L2 := [(0, .ref (a 2))]) rfl ?_
  rw [fe_X0_startRow] at hf
  refine kj_aload_n (pc := 0) C 0 dX0_startRow_0 rfl rfl ?_
  refine kj_iconst (pc := 1) (v := (0 : Int32)) C dX0_startRow_1 (by decide) ?_
  refine kp_X0_taken (pc := 2) C wf_X0_58 dX0_startRow_2 ?_
  refine kj_aload_n (pc := 5) C 0 dX0_startRow_5 rfl rfl ?_
  refine kj_aload_n (pc := 6) C 0 dX0_startRow_6 rfl rfl ?_
  obtain ⟨q1, hq1, hf⟩ := kb_bd hf
  refine kj_callV0 (pc := 7) (as := []) (rest := [.ref (a 2)]) (b := (a 2)) C (ct_X0_loopCount l V A  a (kb_p σ 6 (0 : Int32)) sh ex hq1) wd_X0_loopCount wk_X0_61 wi_X0_loopCount ws_X0_loopCount wz_X0 rfl rfl hd_X0_loopCount ⟨by decide, by decide⟩ 2 rfl rfl rfl rfl (Nat.le_of_ble_eq_true rfl) (by decide) dX0_startRow_7 ?_
  refine kp_X0_loopEnd (pc := 10) C wf_X0_33 dX0_startRow_10 ?_
  refine kj_aload_n (pc := 13) C 0 dX0_startRow_13 rfl rfl ?_
  refine kj_aload_n (pc := 14) C 0 dX0_startRow_14 rfl rfl ?_
  refine kg_X0_firstStitches (pc := 15) C wf_X0_13 dX0_startRow_15 ?_
  refine kj_aload_n (pc := 18) C 0 dX0_startRow_18 rfl rfl ?_
  refine kg_X0_rowCount (pc := 19) (v := (kb_g σ 2)) C wf_X0_29 dX0_startRow_19 rfl ?_
  refine kj_iconst (pc := 22) (v := (1 : Int32)) C dX0_startRow_22 (by decide) ?_
  refine kj_iadd (pc := 23) C dX0_startRow_23 ?_
  obtain ⟨g2, hf⟩ := kb_gd hf
  refine ka_X0_firstStitches (pc := 24) (v := (kb_a σ 2 ((kb_g σ 2) + (1 : Int32)).toNatClampNeg)) C g2 dX0_startRow_24 rfl ?_
  refine kp_X0_stitchEnd (pc := 25) C wf_X0_65 dX0_startRow_25 ?_
  cases hf
  exact kj_vret (pc := 28) C dX0_startRow_28
def fn_X0_leftCount  (σ : kb_S) : Int32 :=
  ((kb_g σ 3) - (kb_g σ 6))
theorem fe_X0_leftCount  (σ : kb_S) : fn_X0_leftCount  σ =
  ((kb_g σ 3) - (kb_g σ 6)) := rfl
theorem hd_X0_leftCount : yX0_leftCount.cls = RX0 ∧ yX0_leftCount.cls ≠ "java/lang/invoke/MethodHandle" ∧ yX0_leftCount.cls ≠ "java/lang/invoke/VarHandle" ∧ (parseMethodDescriptor yX0_leftCount.desc).map (fun d => d.parameters.length) = some 0 := by decide +kernel
set_option maxRecDepth 100000 in
set_option maxHeartbeats 4000000 in
theorem ct_X0_leftCount (l : Launch) (V : kb_V) (A : Nat → Prop)  (a : Nat → Nat) (σ : kb_S) (sh : Value) (ex : va_W) {r : Int32} (hf : fn_X0_leftCount  σ = r) : kb_T l yX0_leftCount cX0_leftCount 1 (some .int) ({ frames := 0, cells := 0, slots := 0, locals := 0 } : Room) V A [.ref (a 2)] (kb_W V a σ sh ex) (some (.int r)) (kb_W V a σ sh ex) 0 0 := by
  refine kb_start (cc := cX0_leftCount) (nL := 1) (ret := (some .int)) (own := RX0) (by decide) rfl (Nat.le_of_ble_eq_true rfl) ?_
  intro p e s m args below meth c C
  refine kj_sub [0] (L2 := [(0, .ref (a 2))]) rfl ?_
  rw [fe_X0_leftCount] at hf
  refine kj_aload_n (pc := 0) C 0 dX0_leftCount_0 rfl rfl ?_
  refine kg_X0_needleCount (pc := 1) (v := (kb_g σ 3)) C wf_X0_49 dX0_leftCount_1 rfl ?_
  refine kj_aload_n (pc := 4) C 0 dX0_leftCount_4 rfl rfl ?_
  refine kg_X0_taken (pc := 5) (v := (kb_g σ 6)) C wf_X0_58 dX0_leftCount_5 rfl ?_
  refine kj_isub (pc := 8) C dX0_leftCount_8 ?_
  subst hf
  exact kj_iret (pc := 9) C dX0_leftCount_9
def fn_X0_madeSoFar  (σ : kb_S) : Option (Int32) :=
  (fn_X0_loopCount  σ).bind fun q1 =>
  some ((kb_g σ 7) - q1)
theorem fe_X0_madeSoFar  (σ : kb_S) : fn_X0_madeSoFar  σ =
  (fn_X0_loopCount  σ).bind fun q1 =>
  some ((kb_g σ 7) - q1) := rfl
theorem hd_X0_madeSoFar : yX0_madeSoFar.cls = RX0 ∧ yX0_madeSoFar.cls ≠ "java/lang/invoke/MethodHandle" ∧ yX0_madeSoFar.cls ≠ "java/lang/invoke/VarHandle" ∧ (parseMethodDescriptor yX0_madeSoFar.desc).map (fun d => d.parameters.length) = some 0 := by decide +kernel
set_option maxRecDepth 100000 in
set_option maxHeartbeats 4000000 in
theorem ct_X0_madeSoFar (l : Launch) (V : kb_V) (A : Nat → Prop)  (a : Nat → Nat) (σ : kb_S) (sh : Value) (ex : va_W) {r : Int32} (hf : fn_X0_madeSoFar  σ = some r) : kb_T l yX0_madeSoFar cX0_madeSoFar 1 (some .int) ({ frames := 1, cells := 0, slots := 0, locals := 20 } : Room) V A [.ref (a 2)] (kb_W V a σ sh ex) (some (.int r)) (kb_W V a σ sh ex) 0 0 := by
  refine kb_start (cc := cX0_madeSoFar) (nL := 1) (ret := (some .int)) (own := RX0) (by decide) rfl (Nat.le_of_ble_eq_true rfl) ?_
  intro p e s m args below meth c C
  refine kj_sub [0] (L2 := [(0, .ref (a 2))]) rfl ?_
  rw [fe_X0_madeSoFar] at hf
  refine kj_aload_n (pc := 0) C 0 dX0_madeSoFar_0 rfl rfl ?_
  refine kg_X0_loopEnd (pc := 1) (v := (kb_g σ 7)) C wf_X0_33 dX0_madeSoFar_1 rfl ?_
  refine kj_aload_n (pc := 4) C 0 dX0_madeSoFar_4 rfl rfl ?_
  obtain ⟨q1, hq1, hf⟩ := kb_bd hf
  refine kj_callV0 (pc := 5) (as := []) (rest := [.int (kb_g σ 7)]) (b := (a 2)) C (ct_X0_loopCount l V A  a σ sh ex hq1) wd_X0_loopCount wk_X0_61 wi_X0_loopCount ws_X0_loopCount wz_X0 rfl rfl hd_X0_loopCount ⟨by decide, by decide⟩ 2 rfl rfl rfl rfl (Nat.le_of_ble_eq_true rfl) (by decide) dX0_madeSoFar_5 ?_
  refine kj_isub (pc := 8) C dX0_madeSoFar_8 ?_
  cases hf
  exact kj_iret (pc := 9) C dX0_madeSoFar_9
def fn_X6_cableA (x0 : Int32)  : Int32 :=
  (x0 / (100 : Int32))
theorem fe_X6_cableA (x0 : Int32)  : fn_X6_cableA x0  =
  (x0 / (100 : Int32)) := rfl
theorem hd_X6_cableA : yX6_cableA.cls ≠ "java/lang/invoke/MethodHandle" ∧ yX6_cableA.cls ≠ "java/lang/invoke/VarHandle" ∧ (parseMethodDescriptor yX6_cableA.desc).map (fun d => d.parameters.length) = some 1 := by decide +kernel
set_option maxRecDepth 100000 in
set_option maxHeartbeats 4000000 in
theorem ct_X6_cableA (l : Launch) (V : kb_V) (A : Nat → Prop) (x0 : Int32) (ws : va_W) {r : Int32} (hf : fn_X6_cableA x0  = r) : kb_T l yX6_cableA cX6_cableA 1 (some .int) ({ frames := 0, cells := 0, slots := 0, locals := 0 } : Room) V A [.int x0] ws (some (.int r)) ws 0 0 := by
  refine kb_start (cc := cX6_cableA) (nL := 1) (ret := (some .int)) (own := RX6) (by decide) rfl (Nat.le_of_ble_eq_true rfl) ?_
  intro p e s m args below meth c C
  refine kj_sub [0] (L2 := [(0, .int x0)]) rfl ?_
  rw [fe_X6_cableA] at hf
  refine kj_iload_n (pc := 0) C 0 dX6_cableA_0 rfl rfl ?_
  refine kj_bipush (pc := 1) (v := (100 : Int32)) C dX6_cableA_1 (by decide) ?_
  refine kj_idiv (pc := 3) C dX6_cableA_3 (by decide) ?_
  subst hf
  exact kj_iret (pc := 4) C dX6_cableA_4
def fn_X6_cableB (x0 : Int32)  : Int32 :=
  (((x0 / (10 : Int32)) - (x0 / (10 : Int32)) / (10 : Int32) * (10 : Int32)) - (1 : Int32))
theorem fe_X6_cableB (x0 : Int32)  : fn_X6_cableB x0  =
  (((x0 / (10 : Int32)) - (x0 / (10 : Int32)) / (10 : Int32) * (10 : Int32)) - (1 : Int32)) := rfl
theorem hd_X6_cableB : yX6_cableB.cls ≠ "java/lang/invoke/MethodHandle" ∧ yX6_cableB.cls ≠ "java/lang/invoke/VarHandle" ∧ (parseMethodDescriptor yX6_cableB.desc).map (fun d => d.parameters.length) = some 1 := by decide +kernel
set_option maxRecDepth 100000 in
set_option maxHeartbeats 4000000 in
theorem ct_X6_cableB (l : Launch) (V : kb_V) (A : Nat → Prop) (x0 : Int32) (ws : va_W) {r : Int32} (hf : fn_X6_cableB x0  = r) : kb_T l yX6_cableB cX6_cableB 1 (some .int) ({ frames := 0, cells := 0, slots := 0, locals := 0 } : Room) V A [.int x0] ws (some (.int r)) ws 0 0 := by
  refine kb_start (cc := cX6_cableB) (nL := 1) (ret := (some .int)) (own := RX6) (by decide) rfl (Nat.le_of_ble_eq_true rfl) ?_
  intro p e s m args below meth c C
  refine kj_sub [0] (L2 := [(0, .int x0)]) rfl ?_
  rw [fe_X6_cableB] at hf
  refine kj_iload_n (pc := 0) C 0 dX6_cableB_0 rfl rfl ?_
  refine kj_bipush (pc := 1) (v := (10 : Int32)) C dX6_cableB_1 (by decide) ?_
  refine kj_idiv (pc := 3) C dX6_cableB_3 (by decide) ?_
  refine kj_bipush (pc := 4) (v := (10 : Int32)) C dX6_cableB_4 (by decide) ?_
  refine kj_irem (pc := 6) C dX6_cableB_6 (by decide) ?_
  refine kj_iconst (pc := 7) (v := (1 : Int32)) C dX6_cableB_7 (by decide) ?_
  refine kj_isub (pc := 8) C dX6_cableB_8 ?_
  subst hf
  exact kj_iret (pc := 9) C dX6_cableB_9
def fp_X6_loopsMade_12  (x0 : Int32) : Option (Int32) :=
  some ((fn_X6_cableA x0) + (fn_X6_cableB x0))
theorem fp_X6_loopsMade_12_e  (x0 : Int32) : fp_X6_loopsMade_12  x0 =
  some ((fn_X6_cableA x0) + (fn_X6_cableB x0)) := rfl
def fn_X6_loopsMade (x0 : Int32)  : Option (Int32) :=
  if x0 < 0 then
    fp_X6_loopsMade_12  x0
  else
    if x0 < (Int32.ofNat 10) then
      if kb_in x0 10 = true then
        some (kb_MAKES x0.toNatClampNeg)
      else none
    else
      fp_X6_loopsMade_12  x0
theorem fe_X6_loopsMade (x0 : Int32)  : fn_X6_loopsMade x0  =
  if x0 < 0 then
    fp_X6_loopsMade_12  x0
  else
    if x0 < (Int32.ofNat 10) then
      if kb_in x0 10 = true then
        some (kb_MAKES x0.toNatClampNeg)
      else none
    else
      fp_X6_loopsMade_12  x0 := rfl
theorem hd_X6_loopsMade : yX6_loopsMade.cls ≠ "java/lang/invoke/MethodHandle" ∧ yX6_loopsMade.cls ≠ "java/lang/invoke/VarHandle" ∧ (parseMethodDescriptor yX6_loopsMade.desc).map (fun d => d.parameters.length) = some 1 := by decide +kernel
set_option maxRecDepth 100000 in
set_option maxHeartbeats 4000000 in
theorem ct_X6_loopsMade (l : Launch) (V : kb_V) (A : Nat → Prop) (x0 : Int32) (ws : va_W) {r : Int32} (hf : fn_X6_loopsMade x0  = some r) : kb_T l yX6_loopsMade cX6_loopsMade 1 (some .int) ({ frames := 1, cells := 0, slots := 0, locals := 20 } : Room) V A [.int x0] ws (some (.int r)) ws 0 0 := by
  refine kb_start (cc := cX6_loopsMade) (nL := 1) (ret := (some .int)) (own := RX6) (by decide) rfl (Nat.le_of_ble_eq_true rfl) ?_
  intro p e s m args below meth c C
  have hp12 : ∀ (x0 : Int32), fp_X6_loopsMade_12  x0 = some r → kb_J p l e ({ frames := 1, cells := 0, slots := 0, locals := 20 } : Room) s m args below meth c 1 V A 0 0 (MQ below (kb_post V A (some (.int r)) ws) args s 0 0 A) 12 [(0, .int x0)] [] ws := by
    intro x0 hf
    rw [fp_X6_loopsMade_12_e] at hf
    refine kj_iload_n (pc := 12) C 0 dX6_loopsMade_12 rfl rfl ?_
    refine kj_callS0 (pc := 13) (as := [.int x0]) (rest := []) C (ct_X6_cableA l V A x0 ws rfl) wd_X6_cableA wk_X6_13 wi_X6_cableA wz_X6 rfl rfl hd_X6_cableA ⟨by decide, by decide⟩ rfl (Nat.le_of_ble_eq_true rfl) (by decide) dX6_loopsMade_13 ?_
    refine kj_iload_n (pc := 16) C 0 dX6_loopsMade_16 rfl rfl ?_
    refine kj_callS0 (pc := 17) (as := [.int x0]) (rest := [.int (fn_X6_cableA x0)]) C (ct_X6_cableB l V A x0 ws rfl) wd_X6_cableB wk_X6_17 wi_X6_cableB wz_X6 rfl rfl hd_X6_cableB ⟨by decide, by decide⟩ rfl (Nat.le_of_ble_eq_true rfl) (by decide) dX6_loopsMade_17 ?_
    refine kj_iadd (pc := 20) C dX6_loopsMade_20 ?_
    cases hf
    exact kj_iret (pc := 21) C dX6_loopsMade_21
  refine kj_sub [0] (L2 := [(0, .int x0)]) rfl ?_
  rw [fe_X6_loopsMade] at hf
  refine kj_iload_n (pc := 0) C 0 dX6_loopsMade_0 rfl rfl ?_
  refine kj_if_lt (pc := 1) 12 C dX6_loopsMade_1 (by decide) (fun c1 => ?_) (fun c1 => ?_)
  · have hf := kb_ift hf c1
    exact hp12 x0 hf
  · have hf := kb_ife hf c1
    refine kj_iload_n (pc := 4) C 0 dX6_loopsMade_4 rfl rfl ?_
    refine kj_gets (pc := 5) C C.2.1.2.2.1 wf_X6_20 dX6_loopsMade_5 ?_
    refine kj_slen (pc := 8) C C.2.1.2.2.1 dX6_loopsMade_8 ?_
    refine kj_icmp_lt (pc := 9) 22 C dX6_loopsMade_9 (by decide) (fun c2 => ?_) (fun c2 => ?_)
    · have hf := kb_ift hf c2
      refine kj_gets (pc := 22) C C.2.1.2.2.1 wf_X6_20 dX6_loopsMade_22 ?_
      refine kj_iload_n (pc := 25) C 0 dX6_loopsMade_25 rfl rfl ?_
      obtain ⟨g3, hf⟩ := kb_gd hf
      refine kj_sld (pc := 26) C C.2.1.2.2.1 (kb_inv g3) dX6_loopsMade_26 ?_
      cases hf
      exact kj_iret (pc := 27) C dX6_loopsMade_27
    · have hf := kb_ife hf c2
      exact hp12 x0 hf
def fp_X6_loopsTaken_12  (x0 : Int32) : Option (Int32) :=
  some ((fn_X6_cableA x0) + (fn_X6_cableB x0))
theorem fp_X6_loopsTaken_12_e  (x0 : Int32) : fp_X6_loopsTaken_12  x0 =
  some ((fn_X6_cableA x0) + (fn_X6_cableB x0)) := rfl
def fn_X6_loopsTaken (x0 : Int32)  : Option (Int32) :=
  if x0 < 0 then
    fp_X6_loopsTaken_12  x0
  else
    if x0 < (Int32.ofNat 10) then
      if kb_in x0 10 = true then
        some (kb_TAKES x0.toNatClampNeg)
      else none
    else
      fp_X6_loopsTaken_12  x0
theorem fe_X6_loopsTaken (x0 : Int32)  : fn_X6_loopsTaken x0  =
  if x0 < 0 then
    fp_X6_loopsTaken_12  x0
  else
    if x0 < (Int32.ofNat 10) then
      if kb_in x0 10 = true then
        some (kb_TAKES x0.toNatClampNeg)
      else none
    else
      fp_X6_loopsTaken_12  x0 := rfl
theorem hd_X6_loopsTaken : yX6_loopsTaken.cls ≠ "java/lang/invoke/MethodHandle" ∧ yX6_loopsTaken.cls ≠ "java/lang/invoke/VarHandle" ∧ (parseMethodDescriptor yX6_loopsTaken.desc).map (fun d => d.parameters.length) = some 1 := by decide +kernel
set_option maxRecDepth 100000 in
set_option maxHeartbeats 4000000 in
theorem ct_X6_loopsTaken (l : Launch) (V : kb_V) (A : Nat → Prop) (x0 : Int32) (ws : va_W) {r : Int32} (hf : fn_X6_loopsTaken x0  = some r) : kb_T l yX6_loopsTaken cX6_loopsTaken 1 (some .int) ({ frames := 1, cells := 0, slots := 0, locals := 20 } : Room) V A [.int x0] ws (some (.int r)) ws 0 0 := by
  refine kb_start (cc := cX6_loopsTaken) (nL := 1) (ret := (some .int)) (own := RX6) (by decide) rfl (Nat.le_of_ble_eq_true rfl) ?_
  intro p e s m args below meth c C
  have hp12 : ∀ (x0 : Int32), fp_X6_loopsTaken_12  x0 = some r → kb_J p l e ({ frames := 1, cells := 0, slots := 0, locals := 20 } : Room) s m args below meth c 1 V A 0 0 (MQ below (kb_post V A (some (.int r)) ws) args s 0 0 A) 12 [(0, .int x0)] [] ws := by
    intro x0 hf
    rw [fp_X6_loopsTaken_12_e] at hf
    refine kj_iload_n (pc := 12) C 0 dX6_loopsTaken_12 rfl rfl ?_
    refine kj_callS0 (pc := 13) (as := [.int x0]) (rest := []) C (ct_X6_cableA l V A x0 ws rfl) wd_X6_cableA wk_X6_13 wi_X6_cableA wz_X6 rfl rfl hd_X6_cableA ⟨by decide, by decide⟩ rfl (Nat.le_of_ble_eq_true rfl) (by decide) dX6_loopsTaken_13 ?_
    refine kj_iload_n (pc := 16) C 0 dX6_loopsTaken_16 rfl rfl ?_
    refine kj_callS0 (pc := 17) (as := [.int x0]) (rest := [.int (fn_X6_cableA x0)]) C (ct_X6_cableB l V A x0 ws rfl) wd_X6_cableB wk_X6_17 wi_X6_cableB wz_X6 rfl rfl hd_X6_cableB ⟨by decide, by decide⟩ rfl (Nat.le_of_ble_eq_true rfl) (by decide) dX6_loopsTaken_17 ?_
    refine kj_iadd (pc := 20) C dX6_loopsTaken_20 ?_
    cases hf
    exact kj_iret (pc := 21) C dX6_loopsTaken_21
  refine kj_sub [0] (L2 := [(0, .int x0)]) rfl ?_
  rw [fe_X6_loopsTaken] at hf
  refine kj_iload_n (pc := 0) C 0 dX6_loopsTaken_0 rfl rfl ?_
  refine kj_if_lt (pc := 1) 12 C dX6_loopsTaken_1 (by decide) (fun c1 => ?_) (fun c1 => ?_)
  · have hf := kb_ift hf c1
    exact hp12 x0 hf
  · have hf := kb_ife hf c1
    refine kj_iload_n (pc := 4) C 0 dX6_loopsTaken_4 rfl rfl ?_
    refine kj_gets (pc := 5) C C.2.1.2.1 wf_X6_9 dX6_loopsTaken_5 ?_
    refine kj_slen (pc := 8) C C.2.1.2.1 dX6_loopsTaken_8 ?_
    refine kj_icmp_lt (pc := 9) 22 C dX6_loopsTaken_9 (by decide) (fun c2 => ?_) (fun c2 => ?_)
    · have hf := kb_ift hf c2
      refine kj_gets (pc := 22) C C.2.1.2.1 wf_X6_9 dX6_loopsTaken_22 ?_
      refine kj_iload_n (pc := 25) C 0 dX6_loopsTaken_25 rfl rfl ?_
      obtain ⟨g3, hf⟩ := kb_gd hf
      refine kj_sld (pc := 26) C C.2.1.2.1 (kb_inv g3) dX6_loopsTaken_26 ?_
      cases hf
      exact kj_iret (pc := 27) C dX6_loopsTaken_27
    · have hf := kb_ife hf c2
      exact hp12 x0 hf
def fp_X0_faultOfStitch_34  (x1 : Int32) (σ : kb_S) : Option (Int32) :=
  (fn_X6_loopsMade x1).bind fun q1 =>
  if ((kb_g σ 7) + q1) ≤ (600 : Int32) then
    some (0 : Int32)
  else
    some (6 : Int32)
theorem fp_X0_faultOfStitch_34_e  (x1 : Int32) (σ : kb_S) : fp_X0_faultOfStitch_34  x1 σ =
  (fn_X6_loopsMade x1).bind fun q1 =>
  if ((kb_g σ 7) + q1) ≤ (600 : Int32) then
    some (0 : Int32)
  else
    some (6 : Int32) := rfl
def fn_X0_faultOfStitch (x1 : Int32) (σ : kb_S) : Option (Int32) :=
  (fn_X6_loopsTaken x1).bind fun q1 =>
  if q1 ≤ (fn_X0_leftCount  σ) then
    if x1 = (8 : Int32) then
      (fn_X0_madeSoFar  σ).bind fun q4 =>
      if ((fn_X0_leftCount  σ) + q4) = (1 : Int32) then
        some (5 : Int32)
      else
        fp_X0_faultOfStitch_34  x1 σ
    else
      fp_X0_faultOfStitch_34  x1 σ
  else
    some (4 : Int32)
theorem fe_X0_faultOfStitch (x1 : Int32) (σ : kb_S) : fn_X0_faultOfStitch x1 σ =
  (fn_X6_loopsTaken x1).bind fun q1 =>
  if q1 ≤ (fn_X0_leftCount  σ) then
    if x1 = (8 : Int32) then
      (fn_X0_madeSoFar  σ).bind fun q4 =>
      if ((fn_X0_leftCount  σ) + q4) = (1 : Int32) then
        some (5 : Int32)
      else
        fp_X0_faultOfStitch_34  x1 σ
    else
      fp_X0_faultOfStitch_34  x1 σ
  else
    some (4 : Int32) := rfl
theorem hd_X0_faultOfStitch : yX0_faultOfStitch.cls = RX0 ∧ yX0_faultOfStitch.cls ≠ "java/lang/invoke/MethodHandle" ∧ yX0_faultOfStitch.cls ≠ "java/lang/invoke/VarHandle" ∧ (parseMethodDescriptor yX0_faultOfStitch.desc).map (fun d => d.parameters.length) = some 1 := by decide +kernel
set_option maxRecDepth 100000 in
set_option maxHeartbeats 4000000 in
theorem ct_X0_faultOfStitch (l : Launch) (V : kb_V) (A : Nat → Prop) (x1 : Int32) (a : Nat → Nat) (σ : kb_S) (sh : Value) (ex : va_W) {r : Int32} (hf : fn_X0_faultOfStitch x1 σ = some r) : kb_T l yX0_faultOfStitch cX0_faultOfStitch 2 (some .int) ({ frames := 2, cells := 0, slots := 0, locals := 40 } : Room) V A [.ref (a 2), .int x1] (kb_W V a σ sh ex) (some (.int r)) (kb_W V a σ sh ex) 0 0 := by
  refine kb_start (cc := cX0_faultOfStitch) (nL := 2) (ret := (some .int)) (own := RX0) (by decide) rfl (Nat.le_of_ble_eq_true rfl) ?_
  intro p e s m args below meth c C
  have hp34 : ∀ (x1 : Int32) (σ : kb_S), fp_X0_faultOfStitch_34  x1 σ = some r → kb_J p l e ({ frames := 2, cells := 0, slots := 0, locals := 40 } : Room) s m args below meth c 2 V A 0 0 (MQ below (kb_post V A (some (.int r)) (kb_W V a σ sh ex)) args s 0 0 A) 34 [(0, .ref (a 2)), (1, .int x1)] [] (kb_W V a σ sh ex) := by
    intro x1 σ hf
    rw [fp_X0_faultOfStitch_34_e] at hf
    refine kj_aload_n (pc := 34) C 0 dX0_faultOfStitch_34 rfl rfl ?_
    refine kg_X0_loopEnd (pc := 35) (v := (kb_g σ 7)) C wf_X0_33 dX0_faultOfStitch_35 rfl ?_
    refine kj_iload_n (pc := 38) C 1 dX0_faultOfStitch_38 rfl rfl ?_
    obtain ⟨q1, hq1, hf⟩ := kb_bd hf
    refine kj_callS0 (pc := 39) (as := [.int x1]) (rest := [.int (kb_g σ 7)]) C (ct_X6_loopsMade l V A x1 (kb_W V a σ sh ex) hq1) wd_X6_loopsMade wk_X0_82 wi_X6_loopsMade wz_X6 rfl rfl hd_X6_loopsMade ⟨by decide, by decide⟩ rfl (Nat.le_of_ble_eq_true rfl) (by decide) dX0_faultOfStitch_39 ?_
    refine kj_iadd (pc := 42) C dX0_faultOfStitch_42 ?_
    refine kj_sipush (pc := 43) (v := (600 : Int32)) C dX0_faultOfStitch_43 (by decide) ?_
    refine kj_icmp_le (pc := 46) 52 C dX0_faultOfStitch_46 (by decide) (fun c2 => ?_) (fun c2 => ?_)
    · have hf := kb_ift hf c2
      refine kj_iconst (pc := 52) (v := (0 : Int32)) C dX0_faultOfStitch_52 (by decide) ?_
      cases hf
      exact kj_iret (pc := 53) C dX0_faultOfStitch_53
    · have hf := kb_ife hf c2
      refine kj_bipush (pc := 49) (v := (6 : Int32)) C dX0_faultOfStitch_49 (by decide) ?_
      cases hf
      exact kj_iret (pc := 51) C dX0_faultOfStitch_51
  refine kj_sub [0, 1] (L2 := [(0, .ref (a 2)), (1, .int x1)]) rfl ?_
  rw [fe_X0_faultOfStitch] at hf
  refine kj_iload_n (pc := 0) C 1 dX0_faultOfStitch_0 rfl rfl ?_
  obtain ⟨q1, hq1, hf⟩ := kb_bd hf
  refine kj_callS0 (pc := 1) (as := [.int x1]) (rest := []) C (ct_X6_loopsTaken l V A x1 (kb_W V a σ sh ex) hq1) wd_X6_loopsTaken wk_X0_68 wi_X6_loopsTaken wz_X6 rfl rfl hd_X6_loopsTaken ⟨by decide, by decide⟩ rfl (Nat.le_of_ble_eq_true rfl) (by decide) dX0_faultOfStitch_1 ?_
  refine kj_aload_n (pc := 4) C 0 dX0_faultOfStitch_4 rfl rfl ?_
  refine kj_callV0 (pc := 5) (as := []) (rest := [.int q1]) (b := (a 2)) C (ct_X0_leftCount l V A  a σ sh ex rfl) wd_X0_leftCount wk_X0_74 wi_X0_leftCount ws_X0_leftCount wz_X0 rfl rfl hd_X0_leftCount ⟨by decide, by decide⟩ 2 rfl rfl rfl rfl (Nat.le_of_ble_eq_true rfl) (by decide) dX0_faultOfStitch_5 ?_
  refine kj_icmp_le (pc := 8) 13 C dX0_faultOfStitch_8 (by decide) (fun c2 => ?_) (fun c2 => ?_)
  · have hf := kb_ift hf c2
    refine kj_iload_n (pc := 13) C 1 dX0_faultOfStitch_13 rfl rfl ?_
    refine kj_bipush (pc := 14) (v := (8 : Int32)) C dX0_faultOfStitch_14 (by decide) ?_
    refine kj_icmp_ne (pc := 16) 34 C dX0_faultOfStitch_16 (by decide) (fun c3 => ?_) (fun c3 => ?_)
    · have hf := kb_ife hf c3
      exact hp34 x1 σ hf
    · have hf := kb_ift hf c3
      refine kj_aload_n (pc := 19) C 0 dX0_faultOfStitch_19 rfl rfl ?_
      refine kj_callV0 (pc := 20) (as := []) (rest := []) (b := (a 2)) C (ct_X0_leftCount l V A  a σ sh ex rfl) wd_X0_leftCount wk_X0_74 wi_X0_leftCount ws_X0_leftCount wz_X0 rfl rfl hd_X0_leftCount ⟨by decide, by decide⟩ 2 rfl rfl rfl rfl (Nat.le_of_ble_eq_true rfl) (by decide) dX0_faultOfStitch_20 ?_
      refine kj_aload_n (pc := 23) C 0 dX0_faultOfStitch_23 rfl rfl ?_
      obtain ⟨q4, hq4, hf⟩ := kb_bd hf
      refine kj_callV0 (pc := 24) (as := []) (rest := [.int (fn_X0_leftCount  σ)]) (b := (a 2)) C (ct_X0_madeSoFar l V A  a σ sh ex hq4) wd_X0_madeSoFar wk_X0_79 wi_X0_madeSoFar ws_X0_madeSoFar wz_X0 rfl rfl hd_X0_madeSoFar ⟨by decide, by decide⟩ 2 rfl rfl rfl rfl (Nat.le_of_ble_eq_true rfl) (by decide) dX0_faultOfStitch_24 ?_
      refine kj_iadd (pc := 27) C dX0_faultOfStitch_27 ?_
      refine kj_iconst (pc := 28) (v := (1 : Int32)) C dX0_faultOfStitch_28 (by decide) ?_
      refine kj_icmp_ne (pc := 29) 34 C dX0_faultOfStitch_29 (by decide) (fun c5 => ?_) (fun c5 => ?_)
      · have hf := kb_ife hf c5
        exact hp34 x1 σ hf
      · have hf := kb_ift hf c5
        refine kj_iconst (pc := 32) (v := (5 : Int32)) C dX0_faultOfStitch_32 (by decide) ?_
        cases hf
        exact kj_iret (pc := 33) C dX0_faultOfStitch_33
  · have hf := kb_ife hf c2
    refine kj_iconst (pc := 11) (v := (4 : Int32)) C dX0_faultOfStitch_11 (by decide) ?_
    cases hf
    exact kj_iret (pc := 12) C dX0_faultOfStitch_12
def fp_X0_makeCableLoops_28  : Nat → Int32 → Int32 → kb_S → Option (kb_S)
  | 0 => fun _ _ _ => none
  | nn + 1 => fun x1 x3 σ => 
  if x1 ≤ x3 then
    some σ
  else
    (fn_X0_makeLoop ((kb_g σ 6) + x3) (1 : Int32) σ).bind fun q2 =>
    (fp_X0_makeCableLoops_28  nn) x1 (x3 + (1 : Int32)) q2
theorem fp_X0_makeCableLoops_28_s  (nn : Nat) (x1 : Int32) (x3 : Int32) (σ : kb_S) : fp_X0_makeCableLoops_28  (nn + 1) x1 x3 σ =
  if x1 ≤ x3 then
    some σ
  else
    (fn_X0_makeLoop ((kb_g σ 6) + x3) (1 : Int32) σ).bind fun q2 =>
    (fp_X0_makeCableLoops_28  nn) x1 (x3 + (1 : Int32)) q2 := rfl
def fp_X0_makeCableLoops_2  : Nat → Int32 → Int32 → Int32 → kb_S → Option (kb_S)
  | 0 => fun _ _ _ _ => none
  | nn + 1 => fun x1 x2 x3 σ => 
  if x2 ≤ x3 then
    fp_X0_makeCableLoops_28  kb_FU x1 (0 : Int32) σ
  else
    (fn_X0_makeLoop (((kb_g σ 6) + x1) + x3) (1 : Int32) σ).bind fun q2 =>
    (fp_X0_makeCableLoops_2  nn) x1 x2 (x3 + (1 : Int32)) q2
theorem fp_X0_makeCableLoops_2_s  (nn : Nat) (x1 : Int32) (x2 : Int32) (x3 : Int32) (σ : kb_S) : fp_X0_makeCableLoops_2  (nn + 1) x1 x2 x3 σ =
  if x2 ≤ x3 then
    fp_X0_makeCableLoops_28  kb_FU x1 (0 : Int32) σ
  else
    (fn_X0_makeLoop (((kb_g σ 6) + x1) + x3) (1 : Int32) σ).bind fun q2 =>
    (fp_X0_makeCableLoops_2  nn) x1 x2 (x3 + (1 : Int32)) q2 := rfl
def fn_X0_makeCableLoops (x1 : Int32) (x2 : Int32) (σ : kb_S) : Option (kb_S) :=
  fp_X0_makeCableLoops_2  kb_FU x1 x2 (0 : Int32) σ
theorem fe_X0_makeCableLoops (x1 : Int32) (x2 : Int32) (σ : kb_S) : fn_X0_makeCableLoops x1 x2 σ =
  fp_X0_makeCableLoops_2  kb_FU x1 x2 (0 : Int32) σ := rfl
theorem hd_X0_makeCableLoops : yX0_makeCableLoops.cls = RX0 ∧ yX0_makeCableLoops.cls ≠ "java/lang/invoke/MethodHandle" ∧ yX0_makeCableLoops.cls ≠ "java/lang/invoke/VarHandle" ∧ (parseMethodDescriptor yX0_makeCableLoops.desc).map (fun d => d.parameters.length) = some 2 := by decide +kernel
set_option maxRecDepth 100000 in
set_option maxHeartbeats 4000000 in
theorem ct_X0_makeCableLoops (l : Launch) (V : kb_V) (A : Nat → Prop) (x1 : Int32) (x2 : Int32) (a : Nat → Nat) (σ : kb_S) (sh : Value) (ex : va_W) {σ9 : kb_S} (hf : fn_X0_makeCableLoops x1 x2 σ = some σ9) : kb_T l yX0_makeCableLoops cX0_makeCableLoops 4 none ({ frames := 2, cells := 0, slots := 0, locals := 43 } : Room) V A [.ref (a 2), .int x1, .int x2] (kb_W V a σ sh ex) none (kb_W V a σ9 sh ex) 0 0 := by
  refine kb_start (cc := cX0_makeCableLoops) (nL := 4) (ret := none) (own := RX0) (by decide) rfl (Nat.le_of_ble_eq_true rfl) ?_
  intro p e s m args below meth c C
  have hp28 : ∀ (nn : Nat) (x1 : Int32) (x3 : Int32) (σ : kb_S), fp_X0_makeCableLoops_28  nn x1 x3 σ = some σ9 → kb_J p l e ({ frames := 2, cells := 0, slots := 0, locals := 43 } : Room) s m args below meth c 4 V A 0 0 (MQ below (kb_post V A none (kb_W V a σ9 sh ex)) args s 0 0 A) 28 [(0, .ref (a 2)), (1, .int x1), (3, .int x3)] [] (kb_W V a σ sh ex) := by
    intro nn28
    induction nn28 with
    | zero => intro x1 x3 σ hf; exact kb_no hf
    | succ nn28 ih28 =>
      intro x1 x3 σ hf
      rw [fp_X0_makeCableLoops_28_s] at hf
      refine kj_iload_n (pc := 28) C 2 dX0_makeCableLoops_28 rfl rfl ?_
      refine kj_iload_n (pc := 29) C 1 dX0_makeCableLoops_29 rfl rfl ?_
      refine kj_icmp_ge (pc := 30) 50 C dX0_makeCableLoops_30 (by decide) (fun c1 => ?_) (fun c1 => ?_)
      · have hf := kb_ift hf c1
        cases hf
        exact kj_vret (pc := 50) C dX0_makeCableLoops_50
      · have hf := kb_ife hf c1
        refine kj_aload_n (pc := 33) C 0 dX0_makeCableLoops_33 rfl rfl ?_
        refine kj_aload_n (pc := 34) C 0 dX0_makeCableLoops_34 rfl rfl ?_
        refine kg_X0_taken (pc := 35) (v := (kb_g σ 6)) C wf_X0_58 dX0_makeCableLoops_35 rfl ?_
        refine kj_iload_n (pc := 38) C 2 dX0_makeCableLoops_38 rfl rfl ?_
        refine kj_iadd (pc := 39) C dX0_makeCableLoops_39 ?_
        refine kj_iconst (pc := 40) (v := (1 : Int32)) C dX0_makeCableLoops_40 (by decide) ?_
        obtain ⟨q2, hq2, hf⟩ := kb_bd hf
        refine kj_callV0 (pc := 41) (as := [.int ((kb_g σ 6) + x3), .int (1 : Int32)]) (rest := []) (b := (a 2)) C (ct_X0_makeLoop l V A ((kb_g σ 6) + x3) (1 : Int32) a σ sh ex hq2) wd_X0_makeLoop wk_X0_36 wi_X0_makeLoop ws_X0_makeLoop wz_X0 rfl rfl hd_X0_makeLoop ⟨by decide, by decide⟩ 2 rfl rfl rfl rfl (Nat.le_of_ble_eq_true rfl) (by decide) dX0_makeCableLoops_41 ?_
        refine kj_iinc (pc := 44) C 2 [1, 2, 0] (L2 := [(0, .ref (a 2)), (1, .int x1), (3, .int (x3 + (1 : Int32)))]) dX0_makeCableLoops_44 rfl rfl (by decide) rfl ?_
        refine kj_goto (pc := 47) 28 C dX0_makeCableLoops_47 (by decide) ?_
        exact ih28 x1 (x3 + (1 : Int32)) q2 hf
  have hp2 : ∀ (nn : Nat) (x1 : Int32) (x2 : Int32) (x3 : Int32) (σ : kb_S), fp_X0_makeCableLoops_2  nn x1 x2 x3 σ = some σ9 → kb_J p l e ({ frames := 2, cells := 0, slots := 0, locals := 43 } : Room) s m args below meth c 4 V A 0 0 (MQ below (kb_post V A none (kb_W V a σ9 sh ex)) args s 0 0 A) 2 [(0, .ref (a 2)), (1, .int x1), (2, .int x2), (3, .int x3)] [] (kb_W V a σ sh ex) := by
    intro nn2
    induction nn2 with
    | zero => intro x1 x2 x3 σ hf; exact kb_no hf
    | succ nn2 ih2 =>
      intro x1 x2 x3 σ hf
      rw [fp_X0_makeCableLoops_2_s] at hf
      refine kj_iload_n (pc := 2) C 3 dX0_makeCableLoops_2 rfl rfl ?_
      refine kj_iload_n (pc := 3) C 2 dX0_makeCableLoops_3 rfl rfl ?_
      refine kj_icmp_ge (pc := 4) 26 C dX0_makeCableLoops_4 (by decide) (fun c1 => ?_) (fun c1 => ?_)
      · have hf := kb_ift hf c1
        refine kj_iconst (pc := 26) (v := (0 : Int32)) C dX0_makeCableLoops_26 (by decide) ?_
        refine kj_istore_n (pc := 27) C [1, 2, 3, 0] (L2 := [(0, .ref (a 2)), (1, .int x1), (2, .int x2), (3, .int (0 : Int32))]) dX0_makeCableLoops_27 rfl (by decide) rfl ?_
        refine kj_sub [0, 1, 3] (L2 := [(0, .ref (a 2)), (1, .int x1), (3, .int (0 : Int32))]) rfl ?_
        exact hp28 kb_FU x1 (0 : Int32) σ hf
      · have hf := kb_ife hf c1
        refine kj_aload_n (pc := 7) C 0 dX0_makeCableLoops_7 rfl rfl ?_
        refine kj_aload_n (pc := 8) C 0 dX0_makeCableLoops_8 rfl rfl ?_
        refine kg_X0_taken (pc := 9) (v := (kb_g σ 6)) C wf_X0_58 dX0_makeCableLoops_9 rfl ?_
        refine kj_iload_n (pc := 12) C 1 dX0_makeCableLoops_12 rfl rfl ?_
        refine kj_iadd (pc := 13) C dX0_makeCableLoops_13 ?_
        refine kj_iload_n (pc := 14) C 3 dX0_makeCableLoops_14 rfl rfl ?_
        refine kj_iadd (pc := 15) C dX0_makeCableLoops_15 ?_
        refine kj_iconst (pc := 16) (v := (1 : Int32)) C dX0_makeCableLoops_16 (by decide) ?_
        obtain ⟨q2, hq2, hf⟩ := kb_bd hf
        refine kj_callV0 (pc := 17) (as := [.int (((kb_g σ 6) + x1) + x3), .int (1 : Int32)]) (rest := []) (b := (a 2)) C (ct_X0_makeLoop l V A (((kb_g σ 6) + x1) + x3) (1 : Int32) a σ sh ex hq2) wd_X0_makeLoop wk_X0_36 wi_X0_makeLoop ws_X0_makeLoop wz_X0 rfl rfl hd_X0_makeLoop ⟨by decide, by decide⟩ 2 rfl rfl rfl rfl (Nat.le_of_ble_eq_true rfl) (by decide) dX0_makeCableLoops_17 ?_
        refine kj_iinc (pc := 20) C 3 [1, 2, 3, 0] (L2 := [(0, .ref (a 2)), (1, .int x1), (2, .int x2), (3, .int (x3 + (1 : Int32)))]) dX0_makeCableLoops_20 rfl rfl (by decide) rfl ?_
        refine kj_goto (pc := 23) 2 C dX0_makeCableLoops_23 (by decide) ?_
        exact ih2 x1 x2 (x3 + (1 : Int32)) q2 hf
  refine kj_sub [0, 1, 2] (L2 := [(0, .ref (a 2)), (1, .int x1), (2, .int x2)]) rfl ?_
  rw [fe_X0_makeCableLoops] at hf
  refine kj_iconst (pc := 0) (v := (0 : Int32)) C dX0_makeCableLoops_0 (by decide) ?_
  refine kj_istore_n (pc := 1) C [1, 2, 3, 0] (L2 := [(0, .ref (a 2)), (1, .int x1), (2, .int x2), (3, .int (0 : Int32))]) dX0_makeCableLoops_1 rfl (by decide) rfl ?_
  exact hp2 kb_FU x1 x2 (0 : Int32) σ hf
def fn_X6_isCable (x0 : Int32)  : Int32 :=
  if x0 < (10 : Int32) then
    (0 : Int32)
  else
    (1 : Int32)
theorem fe_X6_isCable (x0 : Int32)  : fn_X6_isCable x0  =
  if x0 < (10 : Int32) then
    (0 : Int32)
  else
    (1 : Int32) := rfl
theorem hd_X6_isCable : yX6_isCable.cls ≠ "java/lang/invoke/MethodHandle" ∧ yX6_isCable.cls ≠ "java/lang/invoke/VarHandle" ∧ (parseMethodDescriptor yX6_isCable.desc).map (fun d => d.parameters.length) = some 1 := by decide +kernel
set_option maxRecDepth 100000 in
set_option maxHeartbeats 4000000 in
theorem ct_X6_isCable (l : Launch) (V : kb_V) (A : Nat → Prop) (x0 : Int32) (ws : va_W) {r : Int32} (hf : fn_X6_isCable x0  = r) : kb_T l yX6_isCable cX6_isCable 1 (some .boolean) ({ frames := 0, cells := 0, slots := 0, locals := 0 } : Room) V A [.int x0] ws (some (.int r)) ws 0 0 := by
  refine kb_start (cc := cX6_isCable) (nL := 1) (ret := (some .boolean)) (own := RX6) (by decide) rfl (Nat.le_of_ble_eq_true rfl) ?_
  intro p e s m args below meth c C
  refine kj_sub [0] (L2 := [(0, .int x0)]) rfl ?_
  rw [fe_X6_isCable] at hf
  refine kj_iload_n (pc := 0) C 0 dX6_isCable_0 rfl rfl ?_
  refine kj_bipush (pc := 1) (v := (10 : Int32)) C dX6_isCable_1 (by decide) ?_
  refine kj_icmp_lt (pc := 3) 10 C dX6_isCable_3 (by decide) (fun c1 => ?_) (fun c1 => ?_)
  · have hf := kb_ift hf c1
    refine kj_iconst (pc := 10) (v := (0 : Int32)) C dX6_isCable_10 (by decide) ?_
    subst hf
    exact kj_zret (pc := 11) C (by decide) dX6_isCable_11
  · have hf := kb_ife hf c1
    refine kj_iconst (pc := 6) (v := (1 : Int32)) C dX6_isCable_6 (by decide) ?_
    refine kj_goto (pc := 7) 11 C dX6_isCable_7 (by decide) ?_
    subst hf
    exact kj_zret (pc := 11) C (by decide) dX6_isCable_11
def fp_X0_addStitch_52  (x1 : Int32) (σ : kb_S) : Option (kb_S) :=
  (fn_X6_loopsTaken x1).bind fun q1 =>
  if (1200 : Int32) ≤ (kb_g σ 8) then
    some (kb_p σ 6 ((kb_g σ 6) + q1))
  else
    if kb_in (kb_g σ 8) 1200 = true then
      some (kb_p (kb_ap (kb_p σ 6 ((kb_g σ 6) + q1)) 3 (kb_g σ 8).toNatClampNeg x1) 8 ((kb_g σ 8) + (1 : Int32)))
    else none
theorem fp_X0_addStitch_52_e  (x1 : Int32) (σ : kb_S) : fp_X0_addStitch_52  x1 σ =
  (fn_X6_loopsTaken x1).bind fun q1 =>
  if (1200 : Int32) ≤ (kb_g σ 8) then
    some (kb_p σ 6 ((kb_g σ 6) + q1))
  else
    if kb_in (kb_g σ 8) 1200 = true then
      some (kb_p (kb_ap (kb_p σ 6 ((kb_g σ 6) + q1)) 3 (kb_g σ 8).toNatClampNeg x1) 8 ((kb_g σ 8) + (1 : Int32)))
    else none := rfl
def fp_X0_addStitch_29  : Nat → Int32 → Int32 → Int32 → kb_S → Option (kb_S)
  | 0 => fun _ _ _ _ => none
  | nn + 1 => fun x1 x2 x3 σ => 
  if x2 ≤ x3 then
    fp_X0_addStitch_52  x1 σ
  else
    (fn_X6_loopsTaken x1).bind fun q2 =>
    (fn_X0_makeLoop (kb_g σ 6) q2 σ).bind fun q3 =>
    (fp_X0_addStitch_29  nn) x1 x2 (x3 + (1 : Int32)) q3
theorem fp_X0_addStitch_29_s  (nn : Nat) (x1 : Int32) (x2 : Int32) (x3 : Int32) (σ : kb_S) : fp_X0_addStitch_29  (nn + 1) x1 x2 x3 σ =
  if x2 ≤ x3 then
    fp_X0_addStitch_52  x1 σ
  else
    (fn_X6_loopsTaken x1).bind fun q2 =>
    (fn_X0_makeLoop (kb_g σ 6) q2 σ).bind fun q3 =>
    (fp_X0_addStitch_29  nn) x1 x2 (x3 + (1 : Int32)) q3 := rfl
def fn_X0_addStitch (x1 : Int32) (σ : kb_S) : Option (kb_S) :=
  if (fn_X6_isCable x1) = 0 then
    (fn_X6_loopsMade x1).bind fun q2 =>
    fp_X0_addStitch_29  kb_FU x1 q2 (0 : Int32) σ
  else
    (fn_X0_makeCableLoops (fn_X6_cableA x1) (fn_X6_cableB x1) σ).bind fun q2 =>
    fp_X0_addStitch_52  x1 q2
theorem fe_X0_addStitch (x1 : Int32) (σ : kb_S) : fn_X0_addStitch x1 σ =
  if (fn_X6_isCable x1) = 0 then
    (fn_X6_loopsMade x1).bind fun q2 =>
    fp_X0_addStitch_29  kb_FU x1 q2 (0 : Int32) σ
  else
    (fn_X0_makeCableLoops (fn_X6_cableA x1) (fn_X6_cableB x1) σ).bind fun q2 =>
    fp_X0_addStitch_52  x1 q2 := rfl
theorem hd_X0_addStitch : yX0_addStitch.cls = RX0 ∧ yX0_addStitch.cls ≠ "java/lang/invoke/MethodHandle" ∧ yX0_addStitch.cls ≠ "java/lang/invoke/VarHandle" ∧ (parseMethodDescriptor yX0_addStitch.desc).map (fun d => d.parameters.length) = some 1 := by decide +kernel
set_option maxRecDepth 100000 in
set_option maxHeartbeats 4000000 in
theorem ct_X0_addStitch (l : Launch) (V : kb_V) (A : Nat → Prop) (x1 : Int32) (a : Nat → Nat) (σ : kb_S) (sh : Value) (ex : va_W) {σ9 : kb_S} (hf : fn_X0_addStitch x1 σ = some σ9) : kb_T l yX0_addStitch cX0_addStitch 4 none ({ frames := 3, cells := 0, slots := 0, locals := 66 } : Room) V A [.ref (a 2), .int x1] (kb_W V a σ sh ex) none (kb_W V a σ9 sh ex) 0 0 := by
  refine kb_start (cc := cX0_addStitch) (nL := 4) (ret := none) (own := RX0) (by decide) rfl (Nat.le_of_ble_eq_true rfl) ?_
  intro p e s m args below meth c C
  have hp52 : ∀ (x1 : Int32) (σ : kb_S), fp_X0_addStitch_52  x1 σ = some σ9 → kb_J p l e ({ frames := 3, cells := 0, slots := 0, locals := 66 } : Room) s m args below meth c 4 V A 0 0 (MQ below (kb_post V A none (kb_W V a σ9 sh ex)) args s 0 0 A) 52 [(0, .ref (a 2)), (1, .int x1)] [] (kb_W V a σ sh ex) := by
    intro x1 σ hf
    rw [fp_X0_addStitch_52_e] at hf
    refine kj_aload_n (pc := 52) C 0 dX0_addStitch_52 rfl rfl ?_
    refine kj_dup (pc := 53) C dX0_addStitch_53 rfl ?_
    refine kg_X0_taken (pc := 54) (v := (kb_g σ 6)) C wf_X0_58 dX0_addStitch_54 rfl ?_
    refine kj_iload_n (pc := 57) C 1 dX0_addStitch_57 rfl rfl ?_
    obtain ⟨q1, hq1, hf⟩ := kb_bd hf
    refine kj_callS0 (pc := 58) (as := [.int x1]) (rest := [.int (kb_g σ 6), .ref (a 2)]) C (ct_X6_loopsTaken l V A x1 (kb_W V a σ sh ex) hq1) wd_X6_loopsTaken wk_X0_68 wi_X6_loopsTaken wz_X6 rfl rfl hd_X6_loopsTaken ⟨by decide, by decide⟩ rfl (Nat.le_of_ble_eq_true rfl) (by decide) dX0_addStitch_58 ?_
    refine kj_iadd (pc := 61) C dX0_addStitch_61 ?_
    refine kp_X0_taken (pc := 62) C wf_X0_58 dX0_addStitch_62 ?_
    refine kj_aload_n (pc := 65) C 0 dX0_addStitch_65 rfl rfl ?_
    refine kg_X0_stitchEnd (pc := 66) (v := (kb_g σ 8)) C wf_X0_65 dX0_addStitch_66 rfl ?_
    refine kj_sipush (pc := 69) (v := (1200 : Int32)) C dX0_addStitch_69 (by decide) ?_
    refine kj_icmp_ge (pc := 72) 95 C dX0_addStitch_72 (by decide) (fun c2 => ?_) (fun c2 => ?_)
    · have hf := kb_ift hf c2
      cases hf
      exact kj_vret (pc := 95) C dX0_addStitch_95
    · have hf := kb_ife hf c2
      refine kj_aload_n (pc := 75) C 0 dX0_addStitch_75 rfl rfl ?_
      refine kg_X0_stitches (pc := 76) C wf_X0_16 dX0_addStitch_76 ?_
      refine kj_aload_n (pc := 79) C 0 dX0_addStitch_79 rfl rfl ?_
      refine kg_X0_stitchEnd (pc := 80) (v := (kb_g σ 8)) C wf_X0_65 dX0_addStitch_80 rfl ?_
      refine kj_iload_n (pc := 83) C 1 dX0_addStitch_83 rfl rfl ?_
      obtain ⟨g3, hf⟩ := kb_gd hf
      refine ks_X0_stitches (pc := 84) C g3 dX0_addStitch_84 ?_
      refine kj_aload_n (pc := 85) C 0 dX0_addStitch_85 rfl rfl ?_
      refine kj_dup (pc := 86) C dX0_addStitch_86 rfl ?_
      refine kg_X0_stitchEnd (pc := 87) (v := (kb_g σ 8)) C wf_X0_65 dX0_addStitch_87 rfl ?_
      refine kj_iconst (pc := 90) (v := (1 : Int32)) C dX0_addStitch_90 (by decide) ?_
      refine kj_iadd (pc := 91) C dX0_addStitch_91 ?_
      refine kp_X0_stitchEnd (pc := 92) C wf_X0_65 dX0_addStitch_92 ?_
      cases hf
      exact kj_vret (pc := 95) C dX0_addStitch_95
  have hp29 : ∀ (nn : Nat) (x1 : Int32) (x2 : Int32) (x3 : Int32) (σ : kb_S), fp_X0_addStitch_29  nn x1 x2 x3 σ = some σ9 → kb_J p l e ({ frames := 3, cells := 0, slots := 0, locals := 66 } : Room) s m args below meth c 4 V A 0 0 (MQ below (kb_post V A none (kb_W V a σ9 sh ex)) args s 0 0 A) 29 [(0, .ref (a 2)), (1, .int x1), (2, .int x2), (3, .int x3)] [] (kb_W V a σ sh ex) := by
    intro nn29
    induction nn29 with
    | zero => intro x1 x2 x3 σ hf; exact kb_no hf
    | succ nn29 ih29 =>
      intro x1 x2 x3 σ hf
      rw [fp_X0_addStitch_29_s] at hf
      refine kj_iload_n (pc := 29) C 3 dX0_addStitch_29 rfl rfl ?_
      refine kj_iload_n (pc := 30) C 2 dX0_addStitch_30 rfl rfl ?_
      refine kj_icmp_ge (pc := 31) 52 C dX0_addStitch_31 (by decide) (fun c1 => ?_) (fun c1 => ?_)
      · have hf := kb_ift hf c1
        refine kj_sub [0, 1] (L2 := [(0, .ref (a 2)), (1, .int x1)]) rfl ?_
        exact hp52 x1 σ hf
      · have hf := kb_ife hf c1
        refine kj_aload_n (pc := 34) C 0 dX0_addStitch_34 rfl rfl ?_
        refine kj_aload_n (pc := 35) C 0 dX0_addStitch_35 rfl rfl ?_
        refine kg_X0_taken (pc := 36) (v := (kb_g σ 6)) C wf_X0_58 dX0_addStitch_36 rfl ?_
        refine kj_iload_n (pc := 39) C 1 dX0_addStitch_39 rfl rfl ?_
        obtain ⟨q2, hq2, hf⟩ := kb_bd hf
        refine kj_callS0 (pc := 40) (as := [.int x1]) (rest := [.int (kb_g σ 6), .ref (a 2)]) C (ct_X6_loopsTaken l V A x1 (kb_W V a σ sh ex) hq2) wd_X6_loopsTaken wk_X0_68 wi_X6_loopsTaken wz_X6 rfl rfl hd_X6_loopsTaken ⟨by decide, by decide⟩ rfl (Nat.le_of_ble_eq_true rfl) (by decide) dX0_addStitch_40 ?_
        obtain ⟨q3, hq3, hf⟩ := kb_bd hf
        refine kj_callV0 (pc := 43) (as := [.int (kb_g σ 6), .int q2]) (rest := []) (b := (a 2)) C (ct_X0_makeLoop l V A (kb_g σ 6) q2 a σ sh ex hq3) wd_X0_makeLoop wk_X0_36 wi_X0_makeLoop ws_X0_makeLoop wz_X0 rfl rfl hd_X0_makeLoop ⟨by decide, by decide⟩ 2 rfl rfl rfl rfl (Nat.le_of_ble_eq_true rfl) (by decide) dX0_addStitch_43 ?_
        refine kj_iinc (pc := 46) C 3 [1, 2, 3, 0] (L2 := [(0, .ref (a 2)), (1, .int x1), (2, .int x2), (3, .int (x3 + (1 : Int32)))]) dX0_addStitch_46 rfl rfl (by decide) rfl ?_
        refine kj_goto (pc := 49) 29 C dX0_addStitch_49 (by decide) ?_
        exact ih29 x1 x2 (x3 + (1 : Int32)) q3 hf
  refine kj_sub [0, 1] (L2 := [(0, .ref (a 2)), (1, .int x1)]) rfl ?_
  rw [fe_X0_addStitch] at hf
  refine kj_iload_n (pc := 0) C 1 dX0_addStitch_0 rfl rfl ?_
  refine kj_callS0 (pc := 1) (as := [.int x1]) (rest := []) C (ct_X6_isCable l V A x1 (kb_W V a σ sh ex) rfl) wd_X6_isCable wk_X0_85 wi_X6_isCable wz_X6 rfl rfl hd_X6_isCable ⟨by decide, by decide⟩ rfl (Nat.le_of_ble_eq_true rfl) (by decide) dX0_addStitch_1 ?_
  refine kj_if_eq (pc := 4) 22 C dX0_addStitch_4 (by decide) (fun c1 => ?_) (fun c1 => ?_)
  · have hf := kb_ift hf c1
    refine kj_iload_n (pc := 22) C 1 dX0_addStitch_22 rfl rfl ?_
    obtain ⟨q2, hq2, hf⟩ := kb_bd hf
    refine kj_callS0 (pc := 23) (as := [.int x1]) (rest := []) C (ct_X6_loopsMade l V A x1 (kb_W V a σ sh ex) hq2) wd_X6_loopsMade wk_X0_82 wi_X6_loopsMade wz_X6 rfl rfl hd_X6_loopsMade ⟨by decide, by decide⟩ rfl (Nat.le_of_ble_eq_true rfl) (by decide) dX0_addStitch_23 ?_
    refine kj_istore_n (pc := 26) C [1, 2, 0] (L2 := [(0, .ref (a 2)), (1, .int x1), (2, .int q2)]) dX0_addStitch_26 rfl (by decide) rfl ?_
    refine kj_iconst (pc := 27) (v := (0 : Int32)) C dX0_addStitch_27 (by decide) ?_
    refine kj_istore_n (pc := 28) C [1, 2, 3, 0] (L2 := [(0, .ref (a 2)), (1, .int x1), (2, .int q2), (3, .int (0 : Int32))]) dX0_addStitch_28 rfl (by decide) rfl ?_
    exact hp29 kb_FU x1 q2 (0 : Int32) σ hf
  · have hf := kb_ife hf c1
    refine kj_aload_n (pc := 7) C 0 dX0_addStitch_7 rfl rfl ?_
    refine kj_iload_n (pc := 8) C 1 dX0_addStitch_8 rfl rfl ?_
    refine kj_callS0 (pc := 9) (as := [.int x1]) (rest := [.ref (a 2)]) C (ct_X6_cableA l V A x1 (kb_W V a σ sh ex) rfl) wd_X6_cableA wk_X0_89 wi_X6_cableA wz_X6 rfl rfl hd_X6_cableA ⟨by decide, by decide⟩ rfl (Nat.le_of_ble_eq_true rfl) (by decide) dX0_addStitch_9 ?_
    refine kj_iload_n (pc := 12) C 1 dX0_addStitch_12 rfl rfl ?_
    refine kj_callS0 (pc := 13) (as := [.int x1]) (rest := [.int (fn_X6_cableA x1), .ref (a 2)]) C (ct_X6_cableB l V A x1 (kb_W V a σ sh ex) rfl) wd_X6_cableB wk_X0_92 wi_X6_cableB wz_X6 rfl rfl hd_X6_cableB ⟨by decide, by decide⟩ rfl (Nat.le_of_ble_eq_true rfl) (by decide) dX0_addStitch_13 ?_
    obtain ⟨q2, hq2, hf⟩ := kb_bd hf
    refine kj_callV0 (pc := 16) (as := [.int (fn_X6_cableA x1), .int (fn_X6_cableB x1)]) (rest := []) (b := (a 2)) C (ct_X0_makeCableLoops l V A (fn_X6_cableA x1) (fn_X6_cableB x1) a σ sh ex hq2) wd_X0_makeCableLoops wk_X0_95 wi_X0_makeCableLoops ws_X0_makeCableLoops wz_X0 rfl rfl hd_X0_makeCableLoops ⟨by decide, by decide⟩ 2 rfl rfl rfl rfl (Nat.le_of_ble_eq_true rfl) (by decide) dX0_addStitch_16 ?_
    refine kj_goto (pc := 19) 52 C dX0_addStitch_19 (by decide) ?_
    exact hp52 x1 q2 hf
def fn_X0_faultOfRow  (σ : kb_S) : Option (Int32) :=
  if (fn_X0_leftCount  σ) ≤ 0 then
    (fn_X0_madeSoFar  σ).bind fun q2 =>
    if q2 ≤ (40 : Int32) then
      if (kb_g σ 2) < (30 : Int32) then
        some (0 : Int32)
      else
        some (9 : Int32)
    else
      some (8 : Int32)
  else
    some (7 : Int32)
theorem fe_X0_faultOfRow  (σ : kb_S) : fn_X0_faultOfRow  σ =
  if (fn_X0_leftCount  σ) ≤ 0 then
    (fn_X0_madeSoFar  σ).bind fun q2 =>
    if q2 ≤ (40 : Int32) then
      if (kb_g σ 2) < (30 : Int32) then
        some (0 : Int32)
      else
        some (9 : Int32)
    else
      some (8 : Int32)
  else
    some (7 : Int32) := rfl
theorem hd_X0_faultOfRow : yX0_faultOfRow.cls = RX0 ∧ yX0_faultOfRow.cls ≠ "java/lang/invoke/MethodHandle" ∧ yX0_faultOfRow.cls ≠ "java/lang/invoke/VarHandle" ∧ (parseMethodDescriptor yX0_faultOfRow.desc).map (fun d => d.parameters.length) = some 0 := by decide +kernel
set_option maxRecDepth 100000 in
set_option maxHeartbeats 4000000 in
theorem ct_X0_faultOfRow (l : Launch) (V : kb_V) (A : Nat → Prop)  (a : Nat → Nat) (σ : kb_S) (sh : Value) (ex : va_W) {r : Int32} (hf : fn_X0_faultOfRow  σ = some r) : kb_T l yX0_faultOfRow cX0_faultOfRow 1 (some .int) ({ frames := 2, cells := 0, slots := 0, locals := 40 } : Room) V A [.ref (a 2)] (kb_W V a σ sh ex) (some (.int r)) (kb_W V a σ sh ex) 0 0 := by
  refine kb_start (cc := cX0_faultOfRow) (nL := 1) (ret := (some .int)) (own := RX0) (by decide) rfl (Nat.le_of_ble_eq_true rfl) ?_
  intro p e s m args below meth c C
  refine kj_sub [0] (L2 := [(0, .ref (a 2))]) rfl ?_
  rw [fe_X0_faultOfRow] at hf
  refine kj_aload_n (pc := 0) C 0 dX0_faultOfRow_0 rfl rfl ?_
  refine kj_callV0 (pc := 1) (as := []) (rest := []) (b := (a 2)) C (ct_X0_leftCount l V A  a σ sh ex rfl) wd_X0_leftCount wk_X0_74 wi_X0_leftCount ws_X0_leftCount wz_X0 rfl rfl hd_X0_leftCount ⟨by decide, by decide⟩ 2 rfl rfl rfl rfl (Nat.le_of_ble_eq_true rfl) (by decide) dX0_faultOfRow_1 ?_
  refine kj_if_le (pc := 4) 10 C dX0_faultOfRow_4 (by decide) (fun c1 => ?_) (fun c1 => ?_)
  · have hf := kb_ift hf c1
    refine kj_aload_n (pc := 10) C 0 dX0_faultOfRow_10 rfl rfl ?_
    obtain ⟨q2, hq2, hf⟩ := kb_bd hf
    refine kj_callV0 (pc := 11) (as := []) (rest := []) (b := (a 2)) C (ct_X0_madeSoFar l V A  a σ sh ex hq2) wd_X0_madeSoFar wk_X0_79 wi_X0_madeSoFar ws_X0_madeSoFar wz_X0 rfl rfl hd_X0_madeSoFar ⟨by decide, by decide⟩ 2 rfl rfl rfl rfl (Nat.le_of_ble_eq_true rfl) (by decide) dX0_faultOfRow_11 ?_
    refine kj_bipush (pc := 14) (v := (40 : Int32)) C dX0_faultOfRow_14 (by decide) ?_
    refine kj_icmp_le (pc := 16) 22 C dX0_faultOfRow_16 (by decide) (fun c3 => ?_) (fun c3 => ?_)
    · have hf := kb_ift hf c3
      refine kj_aload_n (pc := 22) C 0 dX0_faultOfRow_22 rfl rfl ?_
      refine kg_X0_rowCount (pc := 23) (v := (kb_g σ 2)) C wf_X0_29 dX0_faultOfRow_23 rfl ?_
      refine kj_bipush (pc := 26) (v := (30 : Int32)) C dX0_faultOfRow_26 (by decide) ?_
      refine kj_icmp_lt (pc := 28) 36 C dX0_faultOfRow_28 (by decide) (fun c4 => ?_) (fun c4 => ?_)
      · have hf := kb_ift hf c4
        refine kj_iconst (pc := 36) (v := (0 : Int32)) C dX0_faultOfRow_36 (by decide) ?_
        cases hf
        exact kj_iret (pc := 37) C dX0_faultOfRow_37
      · have hf := kb_ife hf c4
        refine kj_bipush (pc := 31) (v := (9 : Int32)) C dX0_faultOfRow_31 (by decide) ?_
        refine kj_goto (pc := 33) 37 C dX0_faultOfRow_33 (by decide) ?_
        cases hf
        exact kj_iret (pc := 37) C dX0_faultOfRow_37
    · have hf := kb_ife hf c3
      refine kj_bipush (pc := 19) (v := (8 : Int32)) C dX0_faultOfRow_19 (by decide) ?_
      cases hf
      exact kj_iret (pc := 21) C dX0_faultOfRow_21
  · have hf := kb_ife hf c1
    refine kj_bipush (pc := 7) (v := (7 : Int32)) C dX0_faultOfRow_7 (by decide) ?_
    cases hf
    exact kj_iret (pc := 9) C dX0_faultOfRow_9
def fn_X0_keepRow  (σ : kb_S) : Option (kb_S) :=
  if (30 : Int32) ≤ (kb_g σ 2) then
    some σ
  else
    if kb_in (((kb_g σ 2) + (1 : Int32)) + (1 : Int32)) 32 = true then
      if kb_in (((kb_g σ 2) + (1 : Int32)) + (1 : Int32)) 32 = true then
        (fn_X0_fillNeedle  (kb_ap (kb_ap (kb_p σ 2 ((kb_g σ 2) + (1 : Int32))) 1 (((kb_g σ 2) + (1 : Int32)) + (1 : Int32)).toNatClampNeg (kb_g σ 7)) 2 (((kb_g σ 2) + (1 : Int32)) + (1 : Int32)).toNatClampNeg (kb_g σ 8))).bind fun q4 =>
        some q4
      else none
    else none
theorem fe_X0_keepRow  (σ : kb_S) : fn_X0_keepRow  σ =
  if (30 : Int32) ≤ (kb_g σ 2) then
    some σ
  else
    if kb_in (((kb_g σ 2) + (1 : Int32)) + (1 : Int32)) 32 = true then
      if kb_in (((kb_g σ 2) + (1 : Int32)) + (1 : Int32)) 32 = true then
        (fn_X0_fillNeedle  (kb_ap (kb_ap (kb_p σ 2 ((kb_g σ 2) + (1 : Int32))) 1 (((kb_g σ 2) + (1 : Int32)) + (1 : Int32)).toNatClampNeg (kb_g σ 7)) 2 (((kb_g σ 2) + (1 : Int32)) + (1 : Int32)).toNatClampNeg (kb_g σ 8))).bind fun q4 =>
        some q4
      else none
    else none := rfl
theorem hd_X0_keepRow : yX0_keepRow.cls = RX0 ∧ yX0_keepRow.cls ≠ "java/lang/invoke/MethodHandle" ∧ yX0_keepRow.cls ≠ "java/lang/invoke/VarHandle" ∧ (parseMethodDescriptor yX0_keepRow.desc).map (fun d => d.parameters.length) = some 0 := by decide +kernel
set_option maxRecDepth 100000 in
set_option maxHeartbeats 4000000 in
theorem ct_X0_keepRow (l : Launch) (V : kb_V) (A : Nat → Prop)  (a : Nat → Nat) (σ : kb_S) (sh : Value) (ex : va_W) {σ9 : kb_S} (hf : fn_X0_keepRow  σ = some σ9) : kb_T l yX0_keepRow cX0_keepRow 1 none ({ frames := 1, cells := 0, slots := 0, locals := 22 } : Room) V A [.ref (a 2)] (kb_W V a σ sh ex) none (kb_W V a σ9 sh ex) 0 0 := by
  refine kb_start (cc := cX0_keepRow) (nL := 1) (ret := none) (own := RX0) (by decide) rfl (Nat.le_of_ble_eq_true rfl) ?_
  intro p e s m args below meth c C
  refine kj_sub [0] (L2 := [(0, .ref (a 2))]) rfl ?_
  rw [fe_X0_keepRow] at hf
  refine kj_aload_n (pc := 0) C 0 dX0_keepRow_0 rfl rfl ?_
  refine kg_X0_rowCount (pc := 1) (v := (kb_g σ 2)) C wf_X0_29 dX0_keepRow_1 rfl ?_
  refine kj_bipush (pc := 4) (v := (30 : Int32)) C dX0_keepRow_4 (by decide) ?_
  refine kj_icmp_ge (pc := 6) 53 C dX0_keepRow_6 (by decide) (fun c1 => ?_) (fun c1 => ?_)
  · have hf := kb_ift hf c1
    cases hf
    exact kj_vret (pc := 53) C dX0_keepRow_53
  · have hf := kb_ife hf c1
    refine kj_aload_n (pc := 9) C 0 dX0_keepRow_9 rfl rfl ?_
    refine kj_dup (pc := 10) C dX0_keepRow_10 rfl ?_
    refine kg_X0_rowCount (pc := 11) (v := (kb_g σ 2)) C wf_X0_29 dX0_keepRow_11 rfl ?_
    refine kj_iconst (pc := 14) (v := (1 : Int32)) C dX0_keepRow_14 (by decide) ?_
    refine kj_iadd (pc := 15) C dX0_keepRow_15 ?_
    refine kp_X0_rowCount (pc := 16) C wf_X0_29 dX0_keepRow_16 ?_
    refine kj_aload_n (pc := 19) C 0 dX0_keepRow_19 rfl rfl ?_
    refine kg_X0_firstLoops (pc := 20) C wf_X0_9 dX0_keepRow_20 ?_
    refine kj_aload_n (pc := 23) C 0 dX0_keepRow_23 rfl rfl ?_
    refine kg_X0_rowCount (pc := 24) (v := ((kb_g σ 2) + (1 : Int32))) C wf_X0_29 dX0_keepRow_24 rfl ?_
    refine kj_iconst (pc := 27) (v := (1 : Int32)) C dX0_keepRow_27 (by decide) ?_
    refine kj_iadd (pc := 28) C dX0_keepRow_28 ?_
    refine kj_aload_n (pc := 29) C 0 dX0_keepRow_29 rfl rfl ?_
    refine kg_X0_loopEnd (pc := 30) (v := (kb_g σ 7)) C wf_X0_33 dX0_keepRow_30 rfl ?_
    obtain ⟨g2, hf⟩ := kb_gd hf
    refine ks_X0_firstLoops (pc := 33) C g2 dX0_keepRow_33 ?_
    refine kj_aload_n (pc := 34) C 0 dX0_keepRow_34 rfl rfl ?_
    refine kg_X0_firstStitches (pc := 35) C wf_X0_13 dX0_keepRow_35 ?_
    refine kj_aload_n (pc := 38) C 0 dX0_keepRow_38 rfl rfl ?_
    refine kg_X0_rowCount (pc := 39) (v := ((kb_g σ 2) + (1 : Int32))) C wf_X0_29 dX0_keepRow_39 rfl ?_
    refine kj_iconst (pc := 42) (v := (1 : Int32)) C dX0_keepRow_42 (by decide) ?_
    refine kj_iadd (pc := 43) C dX0_keepRow_43 ?_
    refine kj_aload_n (pc := 44) C 0 dX0_keepRow_44 rfl rfl ?_
    refine kg_X0_stitchEnd (pc := 45) (v := (kb_g σ 8)) C wf_X0_65 dX0_keepRow_45 rfl ?_
    obtain ⟨g3, hf⟩ := kb_gd hf
    refine ks_X0_firstStitches (pc := 48) C g3 dX0_keepRow_48 ?_
    refine kj_aload_n (pc := 49) C 0 dX0_keepRow_49 rfl rfl ?_
    obtain ⟨q4, hq4, hf⟩ := kb_bd hf
    refine kj_callV0 (pc := 50) (as := []) (rest := []) (b := (a 2)) C (ct_X0_fillNeedle l V A  a (kb_ap (kb_ap (kb_p σ 2 ((kb_g σ 2) + (1 : Int32))) 1 (((kb_g σ 2) + (1 : Int32)) + (1 : Int32)).toNatClampNeg (kb_g σ 7)) 2 (((kb_g σ 2) + (1 : Int32)) + (1 : Int32)).toNatClampNeg (kb_g σ 8)) sh ex hq4) wd_X0_fillNeedle wk_X0_40 wi_X0_fillNeedle ws_X0_fillNeedle wz_X0 rfl rfl hd_X0_fillNeedle ⟨by decide, by decide⟩ 2 rfl rfl rfl rfl (Nat.le_of_ble_eq_true rfl) (by decide) dX0_keepRow_50 ?_
    cases hf
    exact kj_vret (pc := 53) C dX0_keepRow_53
def fn_X0_liveCount  (σ : kb_S) : Int32 :=
  (kb_g σ 3)
theorem fe_X0_liveCount  (σ : kb_S) : fn_X0_liveCount  σ =
  (kb_g σ 3) := rfl
theorem hd_X0_liveCount : yX0_liveCount.cls = RX0 ∧ yX0_liveCount.cls ≠ "java/lang/invoke/MethodHandle" ∧ yX0_liveCount.cls ≠ "java/lang/invoke/VarHandle" ∧ (parseMethodDescriptor yX0_liveCount.desc).map (fun d => d.parameters.length) = some 0 := by decide +kernel
set_option maxRecDepth 100000 in
set_option maxHeartbeats 4000000 in
theorem ct_X0_liveCount (l : Launch) (V : kb_V) (A : Nat → Prop)  (a : Nat → Nat) (σ : kb_S) (sh : Value) (ex : va_W) {r : Int32} (hf : fn_X0_liveCount  σ = r) : kb_T l yX0_liveCount cX0_liveCount 1 (some .int) ({ frames := 0, cells := 0, slots := 0, locals := 0 } : Room) V A [.ref (a 2)] (kb_W V a σ sh ex) (some (.int r)) (kb_W V a σ sh ex) 0 0 := by
  refine kb_start (cc := cX0_liveCount) (nL := 1) (ret := (some .int)) (own := RX0) (by decide) rfl (Nat.le_of_ble_eq_true rfl) ?_
  intro p e s m args below meth c C
  refine kj_sub [0] (L2 := [(0, .ref (a 2))]) rfl ?_
  rw [fe_X0_liveCount] at hf
  refine kj_aload_n (pc := 0) C 0 dX0_liveCount_0 rfl rfl ?_
  refine kg_X0_needleCount (pc := 1) (v := (kb_g σ 3)) C wf_X0_49 dX0_liveCount_1 rfl ?_
  subst hf
  exact kj_iret (pc := 4) C dX0_liveCount_4
def fn_X0_hasRow (x1 : Int32) (σ : kb_S) : Int32 :=
  if x1 < 0 then
    (0 : Int32)
  else
    if (kb_g σ 2) < x1 then
      (0 : Int32)
    else
      (1 : Int32)
theorem fe_X0_hasRow (x1 : Int32) (σ : kb_S) : fn_X0_hasRow x1 σ =
  if x1 < 0 then
    (0 : Int32)
  else
    if (kb_g σ 2) < x1 then
      (0 : Int32)
    else
      (1 : Int32) := rfl
theorem hd_X0_hasRow : yX0_hasRow.cls = RX0 ∧ yX0_hasRow.cls ≠ "java/lang/invoke/MethodHandle" ∧ yX0_hasRow.cls ≠ "java/lang/invoke/VarHandle" ∧ (parseMethodDescriptor yX0_hasRow.desc).map (fun d => d.parameters.length) = some 1 := by decide +kernel
set_option maxRecDepth 100000 in
set_option maxHeartbeats 4000000 in
theorem ct_X0_hasRow (l : Launch) (V : kb_V) (A : Nat → Prop) (x1 : Int32) (a : Nat → Nat) (σ : kb_S) (sh : Value) (ex : va_W) {r : Int32} (hf : fn_X0_hasRow x1 σ = r) : kb_T l yX0_hasRow cX0_hasRow 2 (some .boolean) ({ frames := 0, cells := 0, slots := 0, locals := 0 } : Room) V A [.ref (a 2), .int x1] (kb_W V a σ sh ex) (some (.int r)) (kb_W V a σ sh ex) 0 0 := by
  refine kb_start (cc := cX0_hasRow) (nL := 2) (ret := (some .boolean)) (own := RX0) (by decide) rfl (Nat.le_of_ble_eq_true rfl) ?_
  intro p e s m args below meth c C
  refine kj_sub [0, 1] (L2 := [(0, .ref (a 2)), (1, .int x1)]) rfl ?_
  rw [fe_X0_hasRow] at hf
  refine kj_iload_n (pc := 0) C 1 dX0_hasRow_0 rfl rfl ?_
  refine kj_if_lt (pc := 1) 16 C dX0_hasRow_1 (by decide) (fun c1 => ?_) (fun c1 => ?_)
  · have hf := kb_ift hf c1
    refine kj_iconst (pc := 16) (v := (0 : Int32)) C dX0_hasRow_16 (by decide) ?_
    subst hf
    exact kj_zret (pc := 17) C (by decide) dX0_hasRow_17
  · have hf := kb_ife hf c1
    refine kj_iload_n (pc := 4) C 1 dX0_hasRow_4 rfl rfl ?_
    refine kj_aload_n (pc := 5) C 0 dX0_hasRow_5 rfl rfl ?_
    refine kg_X0_rowCount (pc := 6) (v := (kb_g σ 2)) C wf_X0_29 dX0_hasRow_6 rfl ?_
    refine kj_icmp_gt (pc := 9) 16 C dX0_hasRow_9 (by decide) (fun c2 => ?_) (fun c2 => ?_)
    · have hf := kb_ift hf c2
      refine kj_iconst (pc := 16) (v := (0 : Int32)) C dX0_hasRow_16 (by decide) ?_
      subst hf
      exact kj_zret (pc := 17) C (by decide) dX0_hasRow_17
    · have hf := kb_ife hf c2
      refine kj_iconst (pc := 12) (v := (1 : Int32)) C dX0_hasRow_12 (by decide) ?_
      refine kj_goto (pc := 13) 17 C dX0_hasRow_13 (by decide) ?_
      subst hf
      exact kj_zret (pc := 17) C (by decide) dX0_hasRow_17
def fn_X0_hasLoop (x1 : Int32) (σ : kb_S) : Option (Int32) :=
  if x1 < 0 then
    some (0 : Int32)
  else
    (fn_X0_loopCount  σ).bind fun q2 =>
    if q2 ≤ x1 then
      some (0 : Int32)
    else
      some (1 : Int32)
theorem fe_X0_hasLoop (x1 : Int32) (σ : kb_S) : fn_X0_hasLoop x1 σ =
  if x1 < 0 then
    some (0 : Int32)
  else
    (fn_X0_loopCount  σ).bind fun q2 =>
    if q2 ≤ x1 then
      some (0 : Int32)
    else
      some (1 : Int32) := rfl
theorem hd_X0_hasLoop : yX0_hasLoop.cls = RX0 ∧ yX0_hasLoop.cls ≠ "java/lang/invoke/MethodHandle" ∧ yX0_hasLoop.cls ≠ "java/lang/invoke/VarHandle" ∧ (parseMethodDescriptor yX0_hasLoop.desc).map (fun d => d.parameters.length) = some 1 := by decide +kernel
set_option maxRecDepth 100000 in
set_option maxHeartbeats 4000000 in
theorem ct_X0_hasLoop (l : Launch) (V : kb_V) (A : Nat → Prop) (x1 : Int32) (a : Nat → Nat) (σ : kb_S) (sh : Value) (ex : va_W) {r : Int32} (hf : fn_X0_hasLoop x1 σ = some r) : kb_T l yX0_hasLoop cX0_hasLoop 2 (some .boolean) ({ frames := 1, cells := 0, slots := 0, locals := 20 } : Room) V A [.ref (a 2), .int x1] (kb_W V a σ sh ex) (some (.int r)) (kb_W V a σ sh ex) 0 0 := by
  refine kb_start (cc := cX0_hasLoop) (nL := 2) (ret := (some .boolean)) (own := RX0) (by decide) rfl (Nat.le_of_ble_eq_true rfl) ?_
  intro p e s m args below meth c C
  refine kj_sub [0, 1] (L2 := [(0, .ref (a 2)), (1, .int x1)]) rfl ?_
  rw [fe_X0_hasLoop] at hf
  refine kj_iload_n (pc := 0) C 1 dX0_hasLoop_0 rfl rfl ?_
  refine kj_if_lt (pc := 1) 16 C dX0_hasLoop_1 (by decide) (fun c1 => ?_) (fun c1 => ?_)
  · have hf := kb_ift hf c1
    refine kj_iconst (pc := 16) (v := (0 : Int32)) C dX0_hasLoop_16 (by decide) ?_
    cases hf
    exact kj_zret (pc := 17) C (by decide) dX0_hasLoop_17
  · have hf := kb_ife hf c1
    refine kj_iload_n (pc := 4) C 1 dX0_hasLoop_4 rfl rfl ?_
    refine kj_aload_n (pc := 5) C 0 dX0_hasLoop_5 rfl rfl ?_
    obtain ⟨q2, hq2, hf⟩ := kb_bd hf
    refine kj_callV0 (pc := 6) (as := []) (rest := [.int x1]) (b := (a 2)) C (ct_X0_loopCount l V A  a σ sh ex hq2) wd_X0_loopCount wk_X0_61 wi_X0_loopCount ws_X0_loopCount wz_X0 rfl rfl hd_X0_loopCount ⟨by decide, by decide⟩ 2 rfl rfl rfl rfl (Nat.le_of_ble_eq_true rfl) (by decide) dX0_hasLoop_6 ?_
    refine kj_icmp_ge (pc := 9) 16 C dX0_hasLoop_9 (by decide) (fun c3 => ?_) (fun c3 => ?_)
    · have hf := kb_ift hf c3
      refine kj_iconst (pc := 16) (v := (0 : Int32)) C dX0_hasLoop_16 (by decide) ?_
      cases hf
      exact kj_zret (pc := 17) C (by decide) dX0_hasLoop_17
    · have hf := kb_ife hf c3
      refine kj_iconst (pc := 12) (v := (1 : Int32)) C dX0_hasLoop_12 (by decide) ?_
      refine kj_goto (pc := 13) 17 C dX0_hasLoop_13 (by decide) ?_
      cases hf
      exact kj_zret (pc := 17) C (by decide) dX0_hasLoop_17
def fn_X0_madeIn (x1 : Int32) (σ : kb_S) : Option (Int32) :=
  if (fn_X0_hasRow x1 σ) = 0 then
    some (0 : Int32)
  else
    if kb_in (x1 + (1 : Int32)) 32 = true then
      if kb_in x1 32 = true then
        some ((kb_a σ 1 (x1 + (1 : Int32)).toNatClampNeg) - (kb_a σ 1 x1.toNatClampNeg))
      else none
    else none
theorem fe_X0_madeIn (x1 : Int32) (σ : kb_S) : fn_X0_madeIn x1 σ =
  if (fn_X0_hasRow x1 σ) = 0 then
    some (0 : Int32)
  else
    if kb_in (x1 + (1 : Int32)) 32 = true then
      if kb_in x1 32 = true then
        some ((kb_a σ 1 (x1 + (1 : Int32)).toNatClampNeg) - (kb_a σ 1 x1.toNatClampNeg))
      else none
    else none := rfl
theorem hd_X0_madeIn : yX0_madeIn.cls = RX0 ∧ yX0_madeIn.cls ≠ "java/lang/invoke/MethodHandle" ∧ yX0_madeIn.cls ≠ "java/lang/invoke/VarHandle" ∧ (parseMethodDescriptor yX0_madeIn.desc).map (fun d => d.parameters.length) = some 1 := by decide +kernel
set_option maxRecDepth 100000 in
set_option maxHeartbeats 4000000 in
theorem ct_X0_madeIn (l : Launch) (V : kb_V) (A : Nat → Prop) (x1 : Int32) (a : Nat → Nat) (σ : kb_S) (sh : Value) (ex : va_W) {r : Int32} (hf : fn_X0_madeIn x1 σ = some r) : kb_T l yX0_madeIn cX0_madeIn 2 (some .int) ({ frames := 1, cells := 0, slots := 0, locals := 21 } : Room) V A [.ref (a 2), .int x1] (kb_W V a σ sh ex) (some (.int r)) (kb_W V a σ sh ex) 0 0 := by
  refine kb_start (cc := cX0_madeIn) (nL := 2) (ret := (some .int)) (own := RX0) (by decide) rfl (Nat.le_of_ble_eq_true rfl) ?_
  intro p e s m args below meth c C
  refine kj_sub [0, 1] (L2 := [(0, .ref (a 2)), (1, .int x1)]) rfl ?_
  rw [fe_X0_madeIn] at hf
  refine kj_aload_n (pc := 0) C 0 dX0_madeIn_0 rfl rfl ?_
  refine kj_iload_n (pc := 1) C 1 dX0_madeIn_1 rfl rfl ?_
  refine kj_callV0 (pc := 2) (as := [.int x1]) (rest := []) (b := (a 2)) C (ct_X0_hasRow l V A x1 a σ sh ex rfl) wd_X0_hasRow wk_X0_101 wi_X0_hasRow ws_X0_hasRow wz_X0 rfl rfl hd_X0_hasRow ⟨by decide, by decide⟩ 2 rfl rfl rfl rfl (Nat.le_of_ble_eq_true rfl) (by decide) dX0_madeIn_2 ?_
  refine kj_if_eq (pc := 5) 26 C dX0_madeIn_5 (by decide) (fun c1 => ?_) (fun c1 => ?_)
  · have hf := kb_ift hf c1
    refine kj_iconst (pc := 26) (v := (0 : Int32)) C dX0_madeIn_26 (by decide) ?_
    cases hf
    exact kj_iret (pc := 27) C dX0_madeIn_27
  · have hf := kb_ife hf c1
    refine kj_aload_n (pc := 8) C 0 dX0_madeIn_8 rfl rfl ?_
    refine kg_X0_firstLoops (pc := 9) C wf_X0_9 dX0_madeIn_9 ?_
    refine kj_iload_n (pc := 12) C 1 dX0_madeIn_12 rfl rfl ?_
    refine kj_iconst (pc := 13) (v := (1 : Int32)) C dX0_madeIn_13 (by decide) ?_
    refine kj_iadd (pc := 14) C dX0_madeIn_14 ?_
    obtain ⟨g2, hf⟩ := kb_gd hf
    refine ka_X0_firstLoops (pc := 15) (v := (kb_a σ 1 (x1 + (1 : Int32)).toNatClampNeg)) C g2 dX0_madeIn_15 rfl ?_
    refine kj_aload_n (pc := 16) C 0 dX0_madeIn_16 rfl rfl ?_
    refine kg_X0_firstLoops (pc := 17) C wf_X0_9 dX0_madeIn_17 ?_
    refine kj_iload_n (pc := 20) C 1 dX0_madeIn_20 rfl rfl ?_
    obtain ⟨g3, hf⟩ := kb_gd hf
    refine ka_X0_firstLoops (pc := 21) (v := (kb_a σ 1 x1.toNatClampNeg)) C g3 dX0_madeIn_21 rfl ?_
    refine kj_isub (pc := 22) C dX0_madeIn_22 ?_
    refine kj_goto (pc := 23) 27 C dX0_madeIn_23 (by decide) ?_
    cases hf
    exact kj_iret (pc := 27) C dX0_madeIn_27
def fp_X0_bornIn_2  : Nat → Int32 → Int32 → kb_S → Option (Int32)
  | 0 => fun _ _ _ => none
  | nn + 1 => fun x1 x2 σ => 
  if (kb_g σ 2) ≤ x2 then
    some (kb_g σ 2)
  else
    if kb_in (x2 + (1 : Int32)) 32 = true then
      if (kb_a σ 1 (x2 + (1 : Int32)).toNatClampNeg) ≤ x1 then
        (fp_X0_bornIn_2  nn) x1 (x2 + (1 : Int32)) σ
      else
        some x2
    else none
theorem fp_X0_bornIn_2_s  (nn : Nat) (x1 : Int32) (x2 : Int32) (σ : kb_S) : fp_X0_bornIn_2  (nn + 1) x1 x2 σ =
  if (kb_g σ 2) ≤ x2 then
    some (kb_g σ 2)
  else
    if kb_in (x2 + (1 : Int32)) 32 = true then
      if (kb_a σ 1 (x2 + (1 : Int32)).toNatClampNeg) ≤ x1 then
        (fp_X0_bornIn_2  nn) x1 (x2 + (1 : Int32)) σ
      else
        some x2
    else none := rfl
def fn_X0_bornIn (x1 : Int32) (σ : kb_S) : Option (Int32) :=
  fp_X0_bornIn_2  kb_FU x1 (0 : Int32) σ
theorem fe_X0_bornIn (x1 : Int32) (σ : kb_S) : fn_X0_bornIn x1 σ =
  fp_X0_bornIn_2  kb_FU x1 (0 : Int32) σ := rfl
theorem hd_X0_bornIn : yX0_bornIn.cls = RX0 ∧ yX0_bornIn.cls ≠ "java/lang/invoke/MethodHandle" ∧ yX0_bornIn.cls ≠ "java/lang/invoke/VarHandle" ∧ (parseMethodDescriptor yX0_bornIn.desc).map (fun d => d.parameters.length) = some 1 := by decide +kernel
set_option maxRecDepth 100000 in
set_option maxHeartbeats 4000000 in
theorem ct_X0_bornIn (l : Launch) (V : kb_V) (A : Nat → Prop) (x1 : Int32) (a : Nat → Nat) (σ : kb_S) (sh : Value) (ex : va_W) {r : Int32} (hf : fn_X0_bornIn x1 σ = some r) : kb_T l yX0_bornIn cX0_bornIn 3 (some .int) ({ frames := 0, cells := 0, slots := 0, locals := 0 } : Room) V A [.ref (a 2), .int x1] (kb_W V a σ sh ex) (some (.int r)) (kb_W V a σ sh ex) 0 0 := by
  refine kb_start (cc := cX0_bornIn) (nL := 3) (ret := (some .int)) (own := RX0) (by decide) rfl (Nat.le_of_ble_eq_true rfl) ?_
  intro p e s m args below meth c C
  have hp2 : ∀ (nn : Nat) (x1 : Int32) (x2 : Int32) (σ : kb_S), fp_X0_bornIn_2  nn x1 x2 σ = some r → kb_J p l e ({ frames := 0, cells := 0, slots := 0, locals := 0 } : Room) s m args below meth c 3 V A 0 0 (MQ below (kb_post V A (some (.int r)) (kb_W V a σ sh ex)) args s 0 0 A) 2 [(0, .ref (a 2)), (1, .int x1), (2, .int x2)] [] (kb_W V a σ sh ex) := by
    intro nn2
    induction nn2 with
    | zero => intro x1 x2 σ hf; exact kb_no hf
    | succ nn2 ih2 =>
      intro x1 x2 σ hf
      rw [fp_X0_bornIn_2_s] at hf
      refine kj_iload_n (pc := 2) C 2 dX0_bornIn_2 rfl rfl ?_
      refine kj_aload_n (pc := 3) C 0 dX0_bornIn_3 rfl rfl ?_
      refine kg_X0_rowCount (pc := 4) (v := (kb_g σ 2)) C wf_X0_29 dX0_bornIn_4 rfl ?_
      refine kj_icmp_ge (pc := 7) 30 C dX0_bornIn_7 (by decide) (fun c1 => ?_) (fun c1 => ?_)
      · have hf := kb_ift hf c1
        refine kj_aload_n (pc := 30) C 0 dX0_bornIn_30 rfl rfl ?_
        refine kg_X0_rowCount (pc := 31) (v := (kb_g σ 2)) C wf_X0_29 dX0_bornIn_31 rfl ?_
        cases hf
        exact kj_iret (pc := 34) C dX0_bornIn_34
      · have hf := kb_ife hf c1
        refine kj_iload_n (pc := 10) C 1 dX0_bornIn_10 rfl rfl ?_
        refine kj_aload_n (pc := 11) C 0 dX0_bornIn_11 rfl rfl ?_
        refine kg_X0_firstLoops (pc := 12) C wf_X0_9 dX0_bornIn_12 ?_
        refine kj_iload_n (pc := 15) C 2 dX0_bornIn_15 rfl rfl ?_
        refine kj_iconst (pc := 16) (v := (1 : Int32)) C dX0_bornIn_16 (by decide) ?_
        refine kj_iadd (pc := 17) C dX0_bornIn_17 ?_
        obtain ⟨g2, hf⟩ := kb_gd hf
        refine ka_X0_firstLoops (pc := 18) (v := (kb_a σ 1 (x2 + (1 : Int32)).toNatClampNeg)) C g2 dX0_bornIn_18 rfl ?_
        refine kj_icmp_ge (pc := 19) 24 C dX0_bornIn_19 (by decide) (fun c3 => ?_) (fun c3 => ?_)
        · have hf := kb_ift hf c3
          refine kj_iinc (pc := 24) C 2 [1, 2, 0] (L2 := [(0, .ref (a 2)), (1, .int x1), (2, .int (x2 + (1 : Int32)))]) dX0_bornIn_24 rfl rfl (by decide) rfl ?_
          refine kj_goto (pc := 27) 2 C dX0_bornIn_27 (by decide) ?_
          exact ih2 x1 (x2 + (1 : Int32)) σ hf
        · have hf := kb_ife hf c3
          refine kj_iload_n (pc := 22) C 2 dX0_bornIn_22 rfl rfl ?_
          cases hf
          exact kj_iret (pc := 23) C dX0_bornIn_23
  refine kj_sub [0, 1] (L2 := [(0, .ref (a 2)), (1, .int x1)]) rfl ?_
  rw [fe_X0_bornIn] at hf
  refine kj_iconst (pc := 0) (v := (0 : Int32)) C dX0_bornIn_0 (by decide) ?_
  refine kj_istore_n (pc := 1) C [1, 2, 0] (L2 := [(0, .ref (a 2)), (1, .int x1), (2, .int (0 : Int32))]) dX0_bornIn_1 rfl (by decide) rfl ?_
  exact hp2 kb_FU x1 (0 : Int32) σ hf
def fn_X0_diedIn (x1 : Int32) (σ : kb_S) : Option (Int32) :=
  (fn_X0_bornIn x1 σ).bind fun q1 =>
  if (kb_g σ 2) ≤ q1 then
    some (0 : Int32)
  else
    some (q1 + (1 : Int32))
theorem fe_X0_diedIn (x1 : Int32) (σ : kb_S) : fn_X0_diedIn x1 σ =
  (fn_X0_bornIn x1 σ).bind fun q1 =>
  if (kb_g σ 2) ≤ q1 then
    some (0 : Int32)
  else
    some (q1 + (1 : Int32)) := rfl
theorem hd_X0_diedIn : yX0_diedIn.cls = RX0 ∧ yX0_diedIn.cls ≠ "java/lang/invoke/MethodHandle" ∧ yX0_diedIn.cls ≠ "java/lang/invoke/VarHandle" ∧ (parseMethodDescriptor yX0_diedIn.desc).map (fun d => d.parameters.length) = some 1 := by decide +kernel
set_option maxRecDepth 100000 in
set_option maxHeartbeats 4000000 in
theorem ct_X0_diedIn (l : Launch) (V : kb_V) (A : Nat → Prop) (x1 : Int32) (a : Nat → Nat) (σ : kb_S) (sh : Value) (ex : va_W) {r : Int32} (hf : fn_X0_diedIn x1 σ = some r) : kb_T l yX0_diedIn cX0_diedIn 3 (some .int) ({ frames := 1, cells := 0, slots := 0, locals := 22 } : Room) V A [.ref (a 2), .int x1] (kb_W V a σ sh ex) (some (.int r)) (kb_W V a σ sh ex) 0 0 := by
  refine kb_start (cc := cX0_diedIn) (nL := 3) (ret := (some .int)) (own := RX0) (by decide) rfl (Nat.le_of_ble_eq_true rfl) ?_
  intro p e s m args below meth c C
  refine kj_sub [0, 1] (L2 := [(0, .ref (a 2)), (1, .int x1)]) rfl ?_
  rw [fe_X0_diedIn] at hf
  refine kj_aload_n (pc := 0) C 0 dX0_diedIn_0 rfl rfl ?_
  refine kj_iload_n (pc := 1) C 1 dX0_diedIn_1 rfl rfl ?_
  obtain ⟨q1, hq1, hf⟩ := kb_bd hf
  refine kj_callV0 (pc := 2) (as := [.int x1]) (rest := []) (b := (a 2)) C (ct_X0_bornIn l V A x1 a σ sh ex hq1) wd_X0_bornIn wk_X0_104 wi_X0_bornIn ws_X0_bornIn wz_X0 rfl rfl hd_X0_bornIn ⟨by decide, by decide⟩ 2 rfl rfl rfl rfl (Nat.le_of_ble_eq_true rfl) (by decide) dX0_diedIn_2 ?_
  refine kj_istore_n (pc := 5) C [1, 2, 0] (L2 := [(0, .ref (a 2)), (1, .int x1), (2, .int q1)]) dX0_diedIn_5 rfl (by decide) rfl ?_
  refine kj_iload_n (pc := 6) C 2 dX0_diedIn_6 rfl rfl ?_
  refine kj_aload_n (pc := 7) C 0 dX0_diedIn_7 rfl rfl ?_
  refine kg_X0_rowCount (pc := 8) (v := (kb_g σ 2)) C wf_X0_29 dX0_diedIn_8 rfl ?_
  refine kj_icmp_ge (pc := 11) 20 C dX0_diedIn_11 (by decide) (fun c2 => ?_) (fun c2 => ?_)
  · have hf := kb_ift hf c2
    refine kj_iconst (pc := 20) (v := (0 : Int32)) C dX0_diedIn_20 (by decide) ?_
    cases hf
    exact kj_iret (pc := 21) C dX0_diedIn_21
  · have hf := kb_ife hf c2
    refine kj_iload_n (pc := 14) C 2 dX0_diedIn_14 rfl rfl ?_
    refine kj_iconst (pc := 15) (v := (1 : Int32)) C dX0_diedIn_15 (by decide) ?_
    refine kj_iadd (pc := 16) C dX0_diedIn_16 ?_
    refine kj_goto (pc := 17) 21 C dX0_diedIn_17 (by decide) ?_
    cases hf
    exact kj_iret (pc := 21) C dX0_diedIn_21
def fn_X0_parentCount (x1 : Int32) (σ : kb_S) : Option (Int32) :=
  (fn_X0_hasLoop x1 σ).bind fun q1 =>
  if q1 = 0 then
    some (0 : Int32)
  else
    if kb_in x1 600 = true then
      some (kb_a σ 4 x1.toNatClampNeg)
    else none
theorem fe_X0_parentCount (x1 : Int32) (σ : kb_S) : fn_X0_parentCount x1 σ =
  (fn_X0_hasLoop x1 σ).bind fun q1 =>
  if q1 = 0 then
    some (0 : Int32)
  else
    if kb_in x1 600 = true then
      some (kb_a σ 4 x1.toNatClampNeg)
    else none := rfl
theorem hd_X0_parentCount : yX0_parentCount.cls = RX0 ∧ yX0_parentCount.cls ≠ "java/lang/invoke/MethodHandle" ∧ yX0_parentCount.cls ≠ "java/lang/invoke/VarHandle" ∧ (parseMethodDescriptor yX0_parentCount.desc).map (fun d => d.parameters.length) = some 1 := by decide +kernel
set_option maxRecDepth 100000 in
set_option maxHeartbeats 4000000 in
theorem ct_X0_parentCount (l : Launch) (V : kb_V) (A : Nat → Prop) (x1 : Int32) (a : Nat → Nat) (σ : kb_S) (sh : Value) (ex : va_W) {r : Int32} (hf : fn_X0_parentCount x1 σ = some r) : kb_T l yX0_parentCount cX0_parentCount 2 (some .int) ({ frames := 2, cells := 0, slots := 0, locals := 41 } : Room) V A [.ref (a 2), .int x1] (kb_W V a σ sh ex) (some (.int r)) (kb_W V a σ sh ex) 0 0 := by
  refine kb_start (cc := cX0_parentCount) (nL := 2) (ret := (some .int)) (own := RX0) (by decide) rfl (Nat.le_of_ble_eq_true rfl) ?_
  intro p e s m args below meth c C
  refine kj_sub [0, 1] (L2 := [(0, .ref (a 2)), (1, .int x1)]) rfl ?_
  rw [fe_X0_parentCount] at hf
  refine kj_aload_n (pc := 0) C 0 dX0_parentCount_0 rfl rfl ?_
  refine kj_iload_n (pc := 1) C 1 dX0_parentCount_1 rfl rfl ?_
  obtain ⟨q1, hq1, hf⟩ := kb_bd hf
  refine kj_callV0 (pc := 2) (as := [.int x1]) (rest := []) (b := (a 2)) C (ct_X0_hasLoop l V A x1 a σ sh ex hq1) wd_X0_hasLoop wk_X0_107 wi_X0_hasLoop ws_X0_hasLoop wz_X0 rfl rfl hd_X0_hasLoop ⟨by decide, by decide⟩ 2 rfl rfl rfl rfl (Nat.le_of_ble_eq_true rfl) (by decide) dX0_parentCount_2 ?_
  refine kj_if_eq (pc := 5) 17 C dX0_parentCount_5 (by decide) (fun c2 => ?_) (fun c2 => ?_)
  · have hf := kb_ift hf c2
    refine kj_iconst (pc := 17) (v := (0 : Int32)) C dX0_parentCount_17 (by decide) ?_
    cases hf
    exact kj_iret (pc := 18) C dX0_parentCount_18
  · have hf := kb_ife hf c2
    refine kj_aload_n (pc := 8) C 0 dX0_parentCount_8 rfl rfl ?_
    refine kg_X0_parentCounts (pc := 9) C wf_X0_19 dX0_parentCount_9 ?_
    refine kj_iload_n (pc := 12) C 1 dX0_parentCount_12 rfl rfl ?_
    obtain ⟨g3, hf⟩ := kb_gd hf
    refine ka_X0_parentCounts (pc := 13) (v := (kb_a σ 4 x1.toNatClampNeg)) C g3 dX0_parentCount_13 rfl ?_
    refine kj_goto (pc := 14) 18 C dX0_parentCount_14 (by decide) ?_
    cases hf
    exact kj_iret (pc := 18) C dX0_parentCount_18
def fn_X0_parent (x1 : Int32) (x2 : Int32) (σ : kb_S) : Option (Int32) :=
  (fn_X0_hasLoop x1 σ).bind fun q1 =>
  if q1 = 0 then
    some (-1 : Int32)
  else
    if kb_in x1 600 = true then
      some ((kb_a σ 5 x1.toNatClampNeg) + (x2 * (kb_g σ 5)))
    else none
theorem fe_X0_parent (x1 : Int32) (x2 : Int32) (σ : kb_S) : fn_X0_parent x1 x2 σ =
  (fn_X0_hasLoop x1 σ).bind fun q1 =>
  if q1 = 0 then
    some (-1 : Int32)
  else
    if kb_in x1 600 = true then
      some ((kb_a σ 5 x1.toNatClampNeg) + (x2 * (kb_g σ 5)))
    else none := rfl
theorem hd_X0_parent : yX0_parent.cls = RX0 ∧ yX0_parent.cls ≠ "java/lang/invoke/MethodHandle" ∧ yX0_parent.cls ≠ "java/lang/invoke/VarHandle" ∧ (parseMethodDescriptor yX0_parent.desc).map (fun d => d.parameters.length) = some 2 := by decide +kernel
set_option maxRecDepth 100000 in
set_option maxHeartbeats 4000000 in
theorem ct_X0_parent (l : Launch) (V : kb_V) (A : Nat → Prop) (x1 : Int32) (x2 : Int32) (a : Nat → Nat) (σ : kb_S) (sh : Value) (ex : va_W) {r : Int32} (hf : fn_X0_parent x1 x2 σ = some r) : kb_T l yX0_parent cX0_parent 3 (some .int) ({ frames := 2, cells := 0, slots := 0, locals := 41 } : Room) V A [.ref (a 2), .int x1, .int x2] (kb_W V a σ sh ex) (some (.int r)) (kb_W V a σ sh ex) 0 0 := by
  refine kb_start (cc := cX0_parent) (nL := 3) (ret := (some .int)) (own := RX0) (by decide) rfl (Nat.le_of_ble_eq_true rfl) ?_
  intro p e s m args below meth c C
  refine kj_sub [0, 1, 2] (L2 := [(0, .ref (a 2)), (1, .int x1), (2, .int x2)]) rfl ?_
  rw [fe_X0_parent] at hf
  refine kj_aload_n (pc := 0) C 0 dX0_parent_0 rfl rfl ?_
  refine kj_iload_n (pc := 1) C 1 dX0_parent_1 rfl rfl ?_
  obtain ⟨q1, hq1, hf⟩ := kb_bd hf
  refine kj_callV0 (pc := 2) (as := [.int x1]) (rest := []) (b := (a 2)) C (ct_X0_hasLoop l V A x1 a σ sh ex hq1) wd_X0_hasLoop wk_X0_107 wi_X0_hasLoop ws_X0_hasLoop wz_X0 rfl rfl hd_X0_hasLoop ⟨by decide, by decide⟩ 2 rfl rfl rfl rfl (Nat.le_of_ble_eq_true rfl) (by decide) dX0_parent_2 ?_
  refine kj_if_eq (pc := 5) 24 C dX0_parent_5 (by decide) (fun c2 => ?_) (fun c2 => ?_)
  · have hf := kb_ift hf c2
    refine kj_iconst (pc := 24) (v := (-1 : Int32)) C dX0_parent_24 (by decide) ?_
    cases hf
    exact kj_iret (pc := 25) C dX0_parent_25
  · have hf := kb_ife hf c2
    refine kj_aload_n (pc := 8) C 0 dX0_parent_8 rfl rfl ?_
    refine kg_X0_firstParents (pc := 9) C wf_X0_22 dX0_parent_9 ?_
    refine kj_iload_n (pc := 12) C 1 dX0_parent_12 rfl rfl ?_
    obtain ⟨g3, hf⟩ := kb_gd hf
    refine ka_X0_firstParents (pc := 13) (v := (kb_a σ 5 x1.toNatClampNeg)) C g3 dX0_parent_13 rfl ?_
    refine kj_iload_n (pc := 14) C 2 dX0_parent_14 rfl rfl ?_
    refine kj_aload_n (pc := 15) C 0 dX0_parent_15 rfl rfl ?_
    refine kg_X0_needleStep (pc := 16) (v := (kb_g σ 5)) C wf_X0_55 dX0_parent_16 rfl ?_
    refine kj_imul (pc := 19) C dX0_parent_19 ?_
    refine kj_iadd (pc := 20) C dX0_parent_20 ?_
    refine kj_goto (pc := 21) 25 C dX0_parent_21 (by decide) ?_
    cases hf
    exact kj_iret (pc := 25) C dX0_parent_25
def fp_X0_ladderLength_7  : Nat → Int32 → Int32 → Int32 → kb_S → Option (Int32)
  | 0 => fun _ _ _ _ => none
  | nn + 1 => fun x2 x3 x4 σ => 
  if (kb_g σ 2) ≤ x4 then
    some x2
  else
    (fn_X0_parentCount x3 σ).bind fun q2 =>
    if q2 ≤ 0 then
      some x2
    else
      (fn_X0_parent x3 (0 : Int32) σ).bind fun q4 =>
      (fp_X0_ladderLength_7  nn) (x2 + (1 : Int32)) q4 (x4 + (1 : Int32)) σ
theorem fp_X0_ladderLength_7_s  (nn : Nat) (x2 : Int32) (x3 : Int32) (x4 : Int32) (σ : kb_S) : fp_X0_ladderLength_7  (nn + 1) x2 x3 x4 σ =
  if (kb_g σ 2) ≤ x4 then
    some x2
  else
    (fn_X0_parentCount x3 σ).bind fun q2 =>
    if q2 ≤ 0 then
      some x2
    else
      (fn_X0_parent x3 (0 : Int32) σ).bind fun q4 =>
      (fp_X0_ladderLength_7  nn) (x2 + (1 : Int32)) q4 (x4 + (1 : Int32)) σ := rfl
def fn_X0_ladderLength (x1 : Int32) (σ : kb_S) : Option (Int32) :=
  fp_X0_ladderLength_7  kb_FU (1 : Int32) x1 (0 : Int32) σ
theorem fe_X0_ladderLength (x1 : Int32) (σ : kb_S) : fn_X0_ladderLength x1 σ =
  fp_X0_ladderLength_7  kb_FU (1 : Int32) x1 (0 : Int32) σ := rfl
theorem hd_X0_ladderLength : yX0_ladderLength.cls = RX0 ∧ yX0_ladderLength.cls ≠ "java/lang/invoke/MethodHandle" ∧ yX0_ladderLength.cls ≠ "java/lang/invoke/VarHandle" ∧ (parseMethodDescriptor yX0_ladderLength.desc).map (fun d => d.parameters.length) = some 1 := by decide +kernel
set_option maxRecDepth 100000 in
set_option maxHeartbeats 4000000 in
theorem ct_X0_ladderLength (l : Launch) (V : kb_V) (A : Nat → Prop) (x1 : Int32) (a : Nat → Nat) (σ : kb_S) (sh : Value) (ex : va_W) {r : Int32} (hf : fn_X0_ladderLength x1 σ = some r) : kb_T l yX0_ladderLength cX0_ladderLength 5 (some .int) ({ frames := 3, cells := 0, slots := 0, locals := 63 } : Room) V A [.ref (a 2), .int x1] (kb_W V a σ sh ex) (some (.int r)) (kb_W V a σ sh ex) 0 0 := by
  refine kb_start (cc := cX0_ladderLength) (nL := 5) (ret := (some .int)) (own := RX0) (by decide) rfl (Nat.le_of_ble_eq_true rfl) ?_
  intro p e s m args below meth c C
  have hp7 : ∀ (nn : Nat) (x2 : Int32) (x3 : Int32) (x4 : Int32) (σ : kb_S), fp_X0_ladderLength_7  nn x2 x3 x4 σ = some r → kb_J p l e ({ frames := 3, cells := 0, slots := 0, locals := 63 } : Room) s m args below meth c 5 V A 0 0 (MQ below (kb_post V A (some (.int r)) (kb_W V a σ sh ex)) args s 0 0 A) 7 [(0, .ref (a 2)), (2, .int x2), (3, .int x3), (4, .int x4)] [] (kb_W V a σ sh ex) := by
    intro nn7
    induction nn7 with
    | zero => intro x2 x3 x4 σ hf; exact kb_no hf
    | succ nn7 ih7 =>
      intro x2 x3 x4 σ hf
      rw [fp_X0_ladderLength_7_s] at hf
      refine kj_iload (pc := 7) C 3 dX0_ladderLength_7 rfl ?_
      refine kj_aload_n (pc := 9) C 0 dX0_ladderLength_9 rfl rfl ?_
      refine kg_X0_rowCount (pc := 10) (v := (kb_g σ 2)) C wf_X0_29 dX0_ladderLength_10 rfl ?_
      refine kj_icmp_ge (pc := 13) 40 C dX0_ladderLength_13 (by decide) (fun c1 => ?_) (fun c1 => ?_)
      · have hf := kb_ift hf c1
        refine kj_iload_n (pc := 40) C 1 dX0_ladderLength_40 rfl rfl ?_
        cases hf
        exact kj_iret (pc := 41) C dX0_ladderLength_41
      · have hf := kb_ife hf c1
        refine kj_aload_n (pc := 16) C 0 dX0_ladderLength_16 rfl rfl ?_
        refine kj_iload_n (pc := 17) C 2 dX0_ladderLength_17 rfl rfl ?_
        obtain ⟨q2, hq2, hf⟩ := kb_bd hf
        refine kj_callV0 (pc := 18) (as := [.int x3]) (rest := []) (b := (a 2)) C (ct_X0_parentCount l V A x3 a σ sh ex hq2) wd_X0_parentCount wk_X0_110 wi_X0_parentCount ws_X0_parentCount wz_X0 rfl rfl hd_X0_parentCount ⟨by decide, by decide⟩ 2 rfl rfl rfl rfl (Nat.le_of_ble_eq_true rfl) (by decide) dX0_ladderLength_18 ?_
        refine kj_if_le (pc := 21) 40 C dX0_ladderLength_21 (by decide) (fun c3 => ?_) (fun c3 => ?_)
        · have hf := kb_ift hf c3
          refine kj_iload_n (pc := 40) C 1 dX0_ladderLength_40 rfl rfl ?_
          cases hf
          exact kj_iret (pc := 41) C dX0_ladderLength_41
        · have hf := kb_ife hf c3
          refine kj_aload_n (pc := 24) C 0 dX0_ladderLength_24 rfl rfl ?_
          refine kj_iload_n (pc := 25) C 2 dX0_ladderLength_25 rfl rfl ?_
          refine kj_iconst (pc := 26) (v := (0 : Int32)) C dX0_ladderLength_26 (by decide) ?_
          obtain ⟨q4, hq4, hf⟩ := kb_bd hf
          refine kj_callV0 (pc := 27) (as := [.int x3, .int (0 : Int32)]) (rest := []) (b := (a 2)) C (ct_X0_parent l V A x3 (0 : Int32) a σ sh ex hq4) wd_X0_parent wk_X0_113 wi_X0_parent ws_X0_parent wz_X0 rfl rfl hd_X0_parent ⟨by decide, by decide⟩ 2 rfl rfl rfl rfl (Nat.le_of_ble_eq_true rfl) (by decide) dX0_ladderLength_27 ?_
          refine kj_istore_n (pc := 30) C [1, 2, 0, 3] (L2 := [(0, .ref (a 2)), (2, .int x2), (3, .int q4), (4, .int x4)]) dX0_ladderLength_30 rfl (by decide) rfl ?_
          refine kj_iinc (pc := 31) C 1 [1, 0, 2, 3] (L2 := [(0, .ref (a 2)), (2, .int (x2 + (1 : Int32))), (3, .int q4), (4, .int x4)]) dX0_ladderLength_31 rfl rfl (by decide) rfl ?_
          refine kj_iinc (pc := 34) C 3 [1, 2, 3, 0] (L2 := [(0, .ref (a 2)), (2, .int (x2 + (1 : Int32))), (3, .int q4), (4, .int (x4 + (1 : Int32)))]) dX0_ladderLength_34 rfl rfl (by decide) rfl ?_
          refine kj_goto (pc := 37) 7 C dX0_ladderLength_37 (by decide) ?_
          exact ih7 (x2 + (1 : Int32)) q4 (x4 + (1 : Int32)) σ hf
  refine kj_sub [0, 1] (L2 := [(0, .ref (a 2)), (1, .int x1)]) rfl ?_
  rw [fe_X0_ladderLength] at hf
  refine kj_iconst (pc := 0) (v := (1 : Int32)) C dX0_ladderLength_0 (by decide) ?_
  refine kj_istore_n (pc := 1) C [1, 2, 0] (L2 := [(0, .ref (a 2)), (1, .int x1), (2, .int (1 : Int32))]) dX0_ladderLength_1 rfl (by decide) rfl ?_
  refine kj_iload_n (pc := 2) C 1 dX0_ladderLength_2 rfl rfl ?_
  refine kj_istore_n (pc := 3) C [1, 2, 3, 0] (L2 := [(0, .ref (a 2)), (1, .int x1), (2, .int (1 : Int32)), (3, .int x1)]) dX0_ladderLength_3 rfl (by decide) rfl ?_
  refine kj_iconst (pc := 4) (v := (0 : Int32)) C dX0_ladderLength_4 (by decide) ?_
  refine kj_istore (pc := 5) C [1, 2, 3, 4, 0] (L2 := [(0, .ref (a 2)), (1, .int x1), (2, .int (1 : Int32)), (3, .int x1), (4, .int (0 : Int32))]) dX0_ladderLength_5 (by decide) rfl ?_
  refine kj_sub [0, 2, 3, 4] (L2 := [(0, .ref (a 2)), (2, .int (1 : Int32)), (3, .int x1), (4, .int (0 : Int32))]) rfl ?_
  exact hp7 kb_FU (1 : Int32) x1 (0 : Int32) σ hf
def fn_X0_stitchCount (x1 : Int32) (σ : kb_S) : Option (Int32) :=
  if (fn_X0_hasRow x1 σ) = 0 then
    some (0 : Int32)
  else
    if kb_in (x1 + (1 : Int32)) 32 = true then
      if kb_in x1 32 = true then
        some ((kb_a σ 2 (x1 + (1 : Int32)).toNatClampNeg) - (kb_a σ 2 x1.toNatClampNeg))
      else none
    else none
theorem fe_X0_stitchCount (x1 : Int32) (σ : kb_S) : fn_X0_stitchCount x1 σ =
  if (fn_X0_hasRow x1 σ) = 0 then
    some (0 : Int32)
  else
    if kb_in (x1 + (1 : Int32)) 32 = true then
      if kb_in x1 32 = true then
        some ((kb_a σ 2 (x1 + (1 : Int32)).toNatClampNeg) - (kb_a σ 2 x1.toNatClampNeg))
      else none
    else none := rfl
theorem hd_X0_stitchCount : yX0_stitchCount.cls = RX0 ∧ yX0_stitchCount.cls ≠ "java/lang/invoke/MethodHandle" ∧ yX0_stitchCount.cls ≠ "java/lang/invoke/VarHandle" ∧ (parseMethodDescriptor yX0_stitchCount.desc).map (fun d => d.parameters.length) = some 1 := by decide +kernel
set_option maxRecDepth 100000 in
set_option maxHeartbeats 4000000 in
theorem ct_X0_stitchCount (l : Launch) (V : kb_V) (A : Nat → Prop) (x1 : Int32) (a : Nat → Nat) (σ : kb_S) (sh : Value) (ex : va_W) {r : Int32} (hf : fn_X0_stitchCount x1 σ = some r) : kb_T l yX0_stitchCount cX0_stitchCount 2 (some .int) ({ frames := 1, cells := 0, slots := 0, locals := 21 } : Room) V A [.ref (a 2), .int x1] (kb_W V a σ sh ex) (some (.int r)) (kb_W V a σ sh ex) 0 0 := by
  refine kb_start (cc := cX0_stitchCount) (nL := 2) (ret := (some .int)) (own := RX0) (by decide) rfl (Nat.le_of_ble_eq_true rfl) ?_
  intro p e s m args below meth c C
  refine kj_sub [0, 1] (L2 := [(0, .ref (a 2)), (1, .int x1)]) rfl ?_
  rw [fe_X0_stitchCount] at hf
  refine kj_aload_n (pc := 0) C 0 dX0_stitchCount_0 rfl rfl ?_
  refine kj_iload_n (pc := 1) C 1 dX0_stitchCount_1 rfl rfl ?_
  refine kj_callV0 (pc := 2) (as := [.int x1]) (rest := []) (b := (a 2)) C (ct_X0_hasRow l V A x1 a σ sh ex rfl) wd_X0_hasRow wk_X0_101 wi_X0_hasRow ws_X0_hasRow wz_X0 rfl rfl hd_X0_hasRow ⟨by decide, by decide⟩ 2 rfl rfl rfl rfl (Nat.le_of_ble_eq_true rfl) (by decide) dX0_stitchCount_2 ?_
  refine kj_if_eq (pc := 5) 26 C dX0_stitchCount_5 (by decide) (fun c1 => ?_) (fun c1 => ?_)
  · have hf := kb_ift hf c1
    refine kj_iconst (pc := 26) (v := (0 : Int32)) C dX0_stitchCount_26 (by decide) ?_
    cases hf
    exact kj_iret (pc := 27) C dX0_stitchCount_27
  · have hf := kb_ife hf c1
    refine kj_aload_n (pc := 8) C 0 dX0_stitchCount_8 rfl rfl ?_
    refine kg_X0_firstStitches (pc := 9) C wf_X0_13 dX0_stitchCount_9 ?_
    refine kj_iload_n (pc := 12) C 1 dX0_stitchCount_12 rfl rfl ?_
    refine kj_iconst (pc := 13) (v := (1 : Int32)) C dX0_stitchCount_13 (by decide) ?_
    refine kj_iadd (pc := 14) C dX0_stitchCount_14 ?_
    obtain ⟨g2, hf⟩ := kb_gd hf
    refine ka_X0_firstStitches (pc := 15) (v := (kb_a σ 2 (x1 + (1 : Int32)).toNatClampNeg)) C g2 dX0_stitchCount_15 rfl ?_
    refine kj_aload_n (pc := 16) C 0 dX0_stitchCount_16 rfl rfl ?_
    refine kg_X0_firstStitches (pc := 17) C wf_X0_13 dX0_stitchCount_17 ?_
    refine kj_iload_n (pc := 20) C 1 dX0_stitchCount_20 rfl rfl ?_
    obtain ⟨g3, hf⟩ := kb_gd hf
    refine ka_X0_firstStitches (pc := 21) (v := (kb_a σ 2 x1.toNatClampNeg)) C g3 dX0_stitchCount_21 rfl ?_
    refine kj_isub (pc := 22) C dX0_stitchCount_22 ?_
    refine kj_goto (pc := 23) 27 C dX0_stitchCount_23 (by decide) ?_
    cases hf
    exact kj_iret (pc := 27) C dX0_stitchCount_27
def fn_X0_stitchAt (x1 : Int32) (x2 : Int32) (σ : kb_S) : Option (Int32) :=
  if x2 < 0 then
    some (0 : Int32)
  else
    (fn_X0_stitchCount x1 σ).bind fun q2 =>
    if x2 < q2 then
      if kb_in x1 32 = true then
        if kb_in ((kb_a σ 2 x1.toNatClampNeg) + x2) 1200 = true then
          some (kb_a σ 3 ((kb_a σ 2 x1.toNatClampNeg) + x2).toNatClampNeg)
        else none
      else none
    else
      some (0 : Int32)
theorem fe_X0_stitchAt (x1 : Int32) (x2 : Int32) (σ : kb_S) : fn_X0_stitchAt x1 x2 σ =
  if x2 < 0 then
    some (0 : Int32)
  else
    (fn_X0_stitchCount x1 σ).bind fun q2 =>
    if x2 < q2 then
      if kb_in x1 32 = true then
        if kb_in ((kb_a σ 2 x1.toNatClampNeg) + x2) 1200 = true then
          some (kb_a σ 3 ((kb_a σ 2 x1.toNatClampNeg) + x2).toNatClampNeg)
        else none
      else none
    else
      some (0 : Int32) := rfl
theorem hd_X0_stitchAt : yX0_stitchAt.cls = RX0 ∧ yX0_stitchAt.cls ≠ "java/lang/invoke/MethodHandle" ∧ yX0_stitchAt.cls ≠ "java/lang/invoke/VarHandle" ∧ (parseMethodDescriptor yX0_stitchAt.desc).map (fun d => d.parameters.length) = some 2 := by decide +kernel
set_option maxRecDepth 100000 in
set_option maxHeartbeats 4000000 in
theorem ct_X0_stitchAt (l : Launch) (V : kb_V) (A : Nat → Prop) (x1 : Int32) (x2 : Int32) (a : Nat → Nat) (σ : kb_S) (sh : Value) (ex : va_W) {r : Int32} (hf : fn_X0_stitchAt x1 x2 σ = some r) : kb_T l yX0_stitchAt cX0_stitchAt 3 (some .int) ({ frames := 2, cells := 0, slots := 0, locals := 42 } : Room) V A [.ref (a 2), .int x1, .int x2] (kb_W V a σ sh ex) (some (.int r)) (kb_W V a σ sh ex) 0 0 := by
  refine kb_start (cc := cX0_stitchAt) (nL := 3) (ret := (some .int)) (own := RX0) (by decide) rfl (Nat.le_of_ble_eq_true rfl) ?_
  intro p e s m args below meth c C
  refine kj_sub [0, 1, 2] (L2 := [(0, .ref (a 2)), (1, .int x1), (2, .int x2)]) rfl ?_
  rw [fe_X0_stitchAt] at hf
  refine kj_iload_n (pc := 0) C 2 dX0_stitchAt_0 rfl rfl ?_
  refine kj_if_lt (pc := 1) 13 C dX0_stitchAt_1 (by decide) (fun c1 => ?_) (fun c1 => ?_)
  · have hf := kb_ift hf c1
    refine kj_iconst (pc := 13) (v := (0 : Int32)) C dX0_stitchAt_13 (by decide) ?_
    cases hf
    exact kj_iret (pc := 14) C dX0_stitchAt_14
  · have hf := kb_ife hf c1
    refine kj_iload_n (pc := 4) C 2 dX0_stitchAt_4 rfl rfl ?_
    refine kj_aload_n (pc := 5) C 0 dX0_stitchAt_5 rfl rfl ?_
    refine kj_iload_n (pc := 6) C 1 dX0_stitchAt_6 rfl rfl ?_
    obtain ⟨q2, hq2, hf⟩ := kb_bd hf
    refine kj_callV0 (pc := 7) (as := [.int x1]) (rest := [.int x2]) (b := (a 2)) C (ct_X0_stitchCount l V A x1 a σ sh ex hq2) wd_X0_stitchCount wk_X0_116 wi_X0_stitchCount ws_X0_stitchCount wz_X0 rfl rfl hd_X0_stitchCount ⟨by decide, by decide⟩ 2 rfl rfl rfl rfl (Nat.le_of_ble_eq_true rfl) (by decide) dX0_stitchAt_7 ?_
    refine kj_icmp_lt (pc := 10) 15 C dX0_stitchAt_10 (by decide) (fun c3 => ?_) (fun c3 => ?_)
    · have hf := kb_ift hf c3
      refine kj_aload_n (pc := 15) C 0 dX0_stitchAt_15 rfl rfl ?_
      refine kg_X0_stitches (pc := 16) C wf_X0_16 dX0_stitchAt_16 ?_
      refine kj_aload_n (pc := 19) C 0 dX0_stitchAt_19 rfl rfl ?_
      refine kg_X0_firstStitches (pc := 20) C wf_X0_13 dX0_stitchAt_20 ?_
      refine kj_iload_n (pc := 23) C 1 dX0_stitchAt_23 rfl rfl ?_
      obtain ⟨g4, hf⟩ := kb_gd hf
      refine ka_X0_firstStitches (pc := 24) (v := (kb_a σ 2 x1.toNatClampNeg)) C g4 dX0_stitchAt_24 rfl ?_
      refine kj_iload_n (pc := 25) C 2 dX0_stitchAt_25 rfl rfl ?_
      refine kj_iadd (pc := 26) C dX0_stitchAt_26 ?_
      obtain ⟨g5, hf⟩ := kb_gd hf
      refine ka_X0_stitches (pc := 27) (v := (kb_a σ 3 ((kb_a σ 2 x1.toNatClampNeg) + x2).toNatClampNeg)) C g5 dX0_stitchAt_27 rfl ?_
      cases hf
      exact kj_iret (pc := 28) C dX0_stitchAt_28
    · have hf := kb_ife hf c3
      refine kj_iconst (pc := 13) (v := (0 : Int32)) C dX0_stitchAt_13 (by decide) ?_
      cases hf
      exact kj_iret (pc := 14) C dX0_stitchAt_14
def fn_X6_seenFromBehind (x0 : Int32)  : Int32 :=
  if x0 = 0 then
    (1 : Int32)
  else
    if x0 = (1 : Int32) then
      (0 : Int32)
    else
      x0
theorem fe_X6_seenFromBehind (x0 : Int32)  : fn_X6_seenFromBehind x0  =
  if x0 = 0 then
    (1 : Int32)
  else
    if x0 = (1 : Int32) then
      (0 : Int32)
    else
      x0 := rfl
theorem hd_X6_seenFromBehind : yX6_seenFromBehind.cls ≠ "java/lang/invoke/MethodHandle" ∧ yX6_seenFromBehind.cls ≠ "java/lang/invoke/VarHandle" ∧ (parseMethodDescriptor yX6_seenFromBehind.desc).map (fun d => d.parameters.length) = some 1 := by decide +kernel
set_option maxRecDepth 100000 in
set_option maxHeartbeats 4000000 in
theorem ct_X6_seenFromBehind (l : Launch) (V : kb_V) (A : Nat → Prop) (x0 : Int32) (ws : va_W) {r : Int32} (hf : fn_X6_seenFromBehind x0  = r) : kb_T l yX6_seenFromBehind cX6_seenFromBehind 1 (some .int) ({ frames := 0, cells := 0, slots := 0, locals := 0 } : Room) V A [.int x0] ws (some (.int r)) ws 0 0 := by
  refine kb_start (cc := cX6_seenFromBehind) (nL := 1) (ret := (some .int)) (own := RX6) (by decide) rfl (Nat.le_of_ble_eq_true rfl) ?_
  intro p e s m args below meth c C
  refine kj_sub [0] (L2 := [(0, .int x0)]) rfl ?_
  rw [fe_X6_seenFromBehind] at hf
  refine kj_iload_n (pc := 0) C 0 dX6_seenFromBehind_0 rfl rfl ?_
  refine kj_if_ne (pc := 1) 6 C dX6_seenFromBehind_1 (by decide) (fun c1 => ?_) (fun c1 => ?_)
  · have hf := kb_ife hf c1
    refine kj_iload_n (pc := 6) C 0 dX6_seenFromBehind_6 rfl rfl ?_
    refine kj_iconst (pc := 7) (v := (1 : Int32)) C dX6_seenFromBehind_7 (by decide) ?_
    refine kj_icmp_ne (pc := 8) 15 C dX6_seenFromBehind_8 (by decide) (fun c2 => ?_) (fun c2 => ?_)
    · have hf := kb_ife hf c2
      refine kj_iload_n (pc := 15) C 0 dX6_seenFromBehind_15 rfl rfl ?_
      subst hf
      exact kj_iret (pc := 16) C dX6_seenFromBehind_16
    · have hf := kb_ift hf c2
      refine kj_iconst (pc := 11) (v := (0 : Int32)) C dX6_seenFromBehind_11 (by decide) ?_
      refine kj_goto (pc := 12) 16 C dX6_seenFromBehind_12 (by decide) ?_
      subst hf
      exact kj_iret (pc := 16) C dX6_seenFromBehind_16
  · have hf := kb_ift hf c1
    refine kj_iconst (pc := 4) (v := (1 : Int32)) C dX6_seenFromBehind_4 (by decide) ?_
    subst hf
    exact kj_iret (pc := 5) C dX6_seenFromBehind_5
def fp_X0_stitchSeen_18  (x1 : Int32) (x2 : Int32) (y0 : Int32) (σ : kb_S) : Option (Int32) :=
  if y0 = 0 then
    (fn_X0_stitchAt x1 x2 σ).bind fun q2 =>
    some q2
  else
    (fn_X0_stitchCount x1 σ).bind fun q2 =>
    (fn_X0_stitchAt x1 ((q2 - (1 : Int32)) - x2) σ).bind fun q3 =>
    some (fn_X6_seenFromBehind q3)
theorem fp_X0_stitchSeen_18_e  (x1 : Int32) (x2 : Int32) (y0 : Int32) (σ : kb_S) : fp_X0_stitchSeen_18  x1 x2 y0 σ =
  if y0 = 0 then
    (fn_X0_stitchAt x1 x2 σ).bind fun q2 =>
    some q2
  else
    (fn_X0_stitchCount x1 σ).bind fun q2 =>
    (fn_X0_stitchAt x1 ((q2 - (1 : Int32)) - x2) σ).bind fun q3 =>
    some (fn_X6_seenFromBehind q3) := rfl
def fp_X0_stitchSeen_17  (x1 : Int32) (x2 : Int32) (σ : kb_S) : Option (Int32) :=
  fp_X0_stitchSeen_18  x1 x2 (0 : Int32) σ
theorem fp_X0_stitchSeen_17_e  (x1 : Int32) (x2 : Int32) (σ : kb_S) : fp_X0_stitchSeen_17  x1 x2 σ =
  fp_X0_stitchSeen_18  x1 x2 (0 : Int32) σ := rfl
def fn_X0_stitchSeen (x1 : Int32) (x2 : Int32) (σ : kb_S) : Option (Int32) :=
  if (kb_g σ 1) = 0 then
    if (x1 - x1 / (2 : Int32) * (2 : Int32)) = 0 then
      fp_X0_stitchSeen_18  x1 x2 (1 : Int32) σ
    else
      fp_X0_stitchSeen_17  x1 x2 σ
  else
    fp_X0_stitchSeen_17  x1 x2 σ
theorem fe_X0_stitchSeen (x1 : Int32) (x2 : Int32) (σ : kb_S) : fn_X0_stitchSeen x1 x2 σ =
  if (kb_g σ 1) = 0 then
    if (x1 - x1 / (2 : Int32) * (2 : Int32)) = 0 then
      fp_X0_stitchSeen_18  x1 x2 (1 : Int32) σ
    else
      fp_X0_stitchSeen_17  x1 x2 σ
  else
    fp_X0_stitchSeen_17  x1 x2 σ := rfl
theorem hd_X0_stitchSeen : yX0_stitchSeen.cls = RX0 ∧ yX0_stitchSeen.cls ≠ "java/lang/invoke/MethodHandle" ∧ yX0_stitchSeen.cls ≠ "java/lang/invoke/VarHandle" ∧ (parseMethodDescriptor yX0_stitchSeen.desc).map (fun d => d.parameters.length) = some 2 := by decide +kernel
set_option maxRecDepth 100000 in
set_option maxHeartbeats 4000000 in
theorem ct_X0_stitchSeen (l : Launch) (V : kb_V) (A : Nat → Prop) (x1 : Int32) (x2 : Int32) (a : Nat → Nat) (σ : kb_S) (sh : Value) (ex : va_W) {r : Int32} (hf : fn_X0_stitchSeen x1 x2 σ = some r) : kb_T l yX0_stitchSeen cX0_stitchSeen 4 (some .int) ({ frames := 3, cells := 0, slots := 0, locals := 64 } : Room) V A [.ref (a 2), .int x1, .int x2] (kb_W V a σ sh ex) (some (.int r)) (kb_W V a σ sh ex) 0 0 := by
  refine kb_start (cc := cX0_stitchSeen) (nL := 4) (ret := (some .int)) (own := RX0) (by decide) rfl (Nat.le_of_ble_eq_true rfl) ?_
  intro p e s m args below meth c C
  have hp18 : ∀ (x1 : Int32) (x2 : Int32) (y0 : Int32) (σ : kb_S), fp_X0_stitchSeen_18  x1 x2 y0 σ = some r → kb_J p l e ({ frames := 3, cells := 0, slots := 0, locals := 64 } : Room) s m args below meth c 4 V A 0 0 (MQ below (kb_post V A (some (.int r)) (kb_W V a σ sh ex)) args s 0 0 A) 18 [(0, .ref (a 2)), (1, .int x1), (2, .int x2)] [.int y0] (kb_W V a σ sh ex) := by
    intro x1 x2 y0 σ hf
    rw [fp_X0_stitchSeen_18_e] at hf
    refine kj_istore_n (pc := 18) C [1, 2, 3, 0] (L2 := [(0, .ref (a 2)), (1, .int x1), (2, .int x2), (3, .int y0)]) dX0_stitchSeen_18 rfl (by decide) rfl ?_
    refine kj_iload_n (pc := 19) C 3 dX0_stitchSeen_19 rfl rfl ?_
    refine kj_if_eq (pc := 20) 41 C dX0_stitchSeen_20 (by decide) (fun c1 => ?_) (fun c1 => ?_)
    · have hf := kb_ift hf c1
      refine kj_aload_n (pc := 41) C 0 dX0_stitchSeen_41 rfl rfl ?_
      refine kj_iload_n (pc := 42) C 1 dX0_stitchSeen_42 rfl rfl ?_
      refine kj_iload_n (pc := 43) C 2 dX0_stitchSeen_43 rfl rfl ?_
      obtain ⟨q2, hq2, hf⟩ := kb_bd hf
      refine kj_callV0 (pc := 44) (as := [.int x1, .int x2]) (rest := []) (b := (a 2)) C (ct_X0_stitchAt l V A x1 x2 a σ sh ex hq2) wd_X0_stitchAt wk_X0_119 wi_X0_stitchAt ws_X0_stitchAt wz_X0 rfl rfl hd_X0_stitchAt ⟨by decide, by decide⟩ 2 rfl rfl rfl rfl (Nat.le_of_ble_eq_true rfl) (by decide) dX0_stitchSeen_44 ?_
      cases hf
      exact kj_iret (pc := 47) C dX0_stitchSeen_47
    · have hf := kb_ife hf c1
      refine kj_aload_n (pc := 23) C 0 dX0_stitchSeen_23 rfl rfl ?_
      refine kj_iload_n (pc := 24) C 1 dX0_stitchSeen_24 rfl rfl ?_
      refine kj_aload_n (pc := 25) C 0 dX0_stitchSeen_25 rfl rfl ?_
      refine kj_iload_n (pc := 26) C 1 dX0_stitchSeen_26 rfl rfl ?_
      obtain ⟨q2, hq2, hf⟩ := kb_bd hf
      refine kj_callV0 (pc := 27) (as := [.int x1]) (rest := [.int x1, .ref (a 2)]) (b := (a 2)) C (ct_X0_stitchCount l V A x1 a σ sh ex hq2) wd_X0_stitchCount wk_X0_116 wi_X0_stitchCount ws_X0_stitchCount wz_X0 rfl rfl hd_X0_stitchCount ⟨by decide, by decide⟩ 2 rfl rfl rfl rfl (Nat.le_of_ble_eq_true rfl) (by decide) dX0_stitchSeen_27 ?_
      refine kj_iconst (pc := 30) (v := (1 : Int32)) C dX0_stitchSeen_30 (by decide) ?_
      refine kj_isub (pc := 31) C dX0_stitchSeen_31 ?_
      refine kj_iload_n (pc := 32) C 2 dX0_stitchSeen_32 rfl rfl ?_
      refine kj_isub (pc := 33) C dX0_stitchSeen_33 ?_
      obtain ⟨q3, hq3, hf⟩ := kb_bd hf
      refine kj_callV0 (pc := 34) (as := [.int x1, .int ((q2 - (1 : Int32)) - x2)]) (rest := []) (b := (a 2)) C (ct_X0_stitchAt l V A x1 ((q2 - (1 : Int32)) - x2) a σ sh ex hq3) wd_X0_stitchAt wk_X0_119 wi_X0_stitchAt ws_X0_stitchAt wz_X0 rfl rfl hd_X0_stitchAt ⟨by decide, by decide⟩ 2 rfl rfl rfl rfl (Nat.le_of_ble_eq_true rfl) (by decide) dX0_stitchSeen_34 ?_
      refine kj_callS0 (pc := 37) (as := [.int q3]) (rest := []) C (ct_X6_seenFromBehind l V A q3 (kb_W V a σ sh ex) rfl) wd_X6_seenFromBehind wk_X0_122 wi_X6_seenFromBehind wz_X6 rfl rfl hd_X6_seenFromBehind ⟨by decide, by decide⟩ rfl (Nat.le_of_ble_eq_true rfl) (by decide) dX0_stitchSeen_37 ?_
      cases hf
      exact kj_iret (pc := 40) C dX0_stitchSeen_40
  have hp17 : ∀ (x1 : Int32) (x2 : Int32) (σ : kb_S), fp_X0_stitchSeen_17  x1 x2 σ = some r → kb_J p l e ({ frames := 3, cells := 0, slots := 0, locals := 64 } : Room) s m args below meth c 4 V A 0 0 (MQ below (kb_post V A (some (.int r)) (kb_W V a σ sh ex)) args s 0 0 A) 17 [(0, .ref (a 2)), (1, .int x1), (2, .int x2)] [] (kb_W V a σ sh ex) := by
    intro x1 x2 σ hf
    rw [fp_X0_stitchSeen_17_e] at hf
    refine kj_iconst (pc := 17) (v := (0 : Int32)) C dX0_stitchSeen_17 (by decide) ?_
    exact hp18 x1 x2 (0 : Int32) σ hf
  refine kj_sub [0, 1, 2] (L2 := [(0, .ref (a 2)), (1, .int x1), (2, .int x2)]) rfl ?_
  rw [fe_X0_stitchSeen] at hf
  refine kj_aload_n (pc := 0) C 0 dX0_stitchSeen_0 rfl rfl ?_
  refine kg_X0_round (pc := 1) (v := (kb_g σ 1)) C wf_X0_25 dX0_stitchSeen_1 rfl ?_
  refine kj_if_ne (pc := 4) 17 C dX0_stitchSeen_4 (by decide) (fun c1 => ?_) (fun c1 => ?_)
  · have hf := kb_ife hf c1
    exact hp17 x1 x2 σ hf
  · have hf := kb_ift hf c1
    refine kj_iload_n (pc := 7) C 1 dX0_stitchSeen_7 rfl rfl ?_
    refine kj_iconst (pc := 8) (v := (2 : Int32)) C dX0_stitchSeen_8 (by decide) ?_
    refine kj_irem (pc := 9) C dX0_stitchSeen_9 (by decide) ?_
    refine kj_if_ne (pc := 10) 17 C dX0_stitchSeen_10 (by decide) (fun c2 => ?_) (fun c2 => ?_)
    · have hf := kb_ife hf c2
      exact hp17 x1 x2 σ hf
    · have hf := kb_ift hf c2
      refine kj_iconst (pc := 13) (v := (1 : Int32)) C dX0_stitchSeen_13 (by decide) ?_
      refine kj_goto (pc := 14) 18 C dX0_stitchSeen_14 (by decide) ?_
      exact hp18 x1 x2 (1 : Int32) σ hf
def fp_X0_crossings_48 (kc11 : Int32 → Int32 → Int32 → Int32 → kb_S → Option (Int32)) (x1 : Int32) (x2 : Int32) (x3 : Int32) (x4 : Int32) (σ : kb_S) : Option (Int32) :=
  kc11 x1 x2 x3 (x4 + (1 : Int32)) σ
theorem fp_X0_crossings_48_e (kc11 : Int32 → Int32 → Int32 → Int32 → kb_S → Option (Int32)) (x1 : Int32) (x2 : Int32) (x3 : Int32) (x4 : Int32) (σ : kb_S) : fp_X0_crossings_48 kc11 x1 x2 x3 x4 σ =
  kc11 x1 x2 x3 (x4 + (1 : Int32)) σ := rfl
def fp_X0_crossings_11  : Nat → Int32 → Int32 → Int32 → Int32 → kb_S → Option (Int32)
  | 0 => fun _ _ _ _ _ => none
  | nn + 1 => fun x1 x2 x3 x4 σ => 
  if x3 ≤ x4 then
    some x2
  else
    (fn_X0_stitchAt x1 x4 σ).bind fun q2 =>
    if (fn_X6_isCable q2) = 0 then
      fp_X0_crossings_48 (fp_X0_crossings_11  nn) x1 x2 x3 x4 σ
    else
      fp_X0_crossings_48 (fp_X0_crossings_11  nn) x1 (x2 + ((fn_X6_cableA q2) * (fn_X6_cableB q2))) x3 x4 σ
theorem fp_X0_crossings_11_s  (nn : Nat) (x1 : Int32) (x2 : Int32) (x3 : Int32) (x4 : Int32) (σ : kb_S) : fp_X0_crossings_11  (nn + 1) x1 x2 x3 x4 σ =
  if x3 ≤ x4 then
    some x2
  else
    (fn_X0_stitchAt x1 x4 σ).bind fun q2 =>
    if (fn_X6_isCable q2) = 0 then
      fp_X0_crossings_48 (fp_X0_crossings_11  nn) x1 x2 x3 x4 σ
    else
      fp_X0_crossings_48 (fp_X0_crossings_11  nn) x1 (x2 + ((fn_X6_cableA q2) * (fn_X6_cableB q2))) x3 x4 σ := rfl
def fn_X0_crossings (x1 : Int32) (σ : kb_S) : Option (Int32) :=
  (fn_X0_stitchCount x1 σ).bind fun q1 =>
  fp_X0_crossings_11  kb_FU x1 (0 : Int32) q1 (0 : Int32) σ
theorem fe_X0_crossings (x1 : Int32) (σ : kb_S) : fn_X0_crossings x1 σ =
  (fn_X0_stitchCount x1 σ).bind fun q1 =>
  fp_X0_crossings_11  kb_FU x1 (0 : Int32) q1 (0 : Int32) σ := rfl
theorem hd_X0_crossings : yX0_crossings.cls = RX0 ∧ yX0_crossings.cls ≠ "java/lang/invoke/MethodHandle" ∧ yX0_crossings.cls ≠ "java/lang/invoke/VarHandle" ∧ (parseMethodDescriptor yX0_crossings.desc).map (fun d => d.parameters.length) = some 1 := by decide +kernel
set_option maxRecDepth 100000 in
set_option maxHeartbeats 4000000 in
theorem ct_X0_crossings (l : Launch) (V : kb_V) (A : Nat → Prop) (x1 : Int32) (a : Nat → Nat) (σ : kb_S) (sh : Value) (ex : va_W) {r : Int32} (hf : fn_X0_crossings x1 σ = some r) : kb_T l yX0_crossings cX0_crossings 6 (some .int) ({ frames := 3, cells := 0, slots := 0, locals := 64 } : Room) V A [.ref (a 2), .int x1] (kb_W V a σ sh ex) (some (.int r)) (kb_W V a σ sh ex) 0 0 := by
  refine kb_start (cc := cX0_crossings) (nL := 6) (ret := (some .int)) (own := RX0) (by decide) rfl (Nat.le_of_ble_eq_true rfl) ?_
  intro p e s m args below meth c C
  have hp11 : ∀ (nn : Nat) (x1 : Int32) (x2 : Int32) (x3 : Int32) (x4 : Int32) (σ : kb_S), fp_X0_crossings_11  nn x1 x2 x3 x4 σ = some r → kb_J p l e ({ frames := 3, cells := 0, slots := 0, locals := 64 } : Room) s m args below meth c 6 V A 0 0 (MQ below (kb_post V A (some (.int r)) (kb_W V a σ sh ex)) args s 0 0 A) 11 [(0, .ref (a 2)), (1, .int x1), (2, .int x2), (3, .int x3), (4, .int x4)] [] (kb_W V a σ sh ex) := by
    intro nn11
    induction nn11 with
    | zero => intro x1 x2 x3 x4 σ hf; exact kb_no hf
    | succ nn11 ih11 =>
      have hp48 : ∀ (x1 : Int32) (x2 : Int32) (x3 : Int32) (x4 : Int32) (σ : kb_S), fp_X0_crossings_48 (fp_X0_crossings_11  nn11) x1 x2 x3 x4 σ = some r → kb_J p l e ({ frames := 3, cells := 0, slots := 0, locals := 64 } : Room) s m args below meth c 6 V A 0 0 (MQ below (kb_post V A (some (.int r)) (kb_W V a σ sh ex)) args s 0 0 A) 48 [(0, .ref (a 2)), (1, .int x1), (2, .int x2), (3, .int x3), (4, .int x4)] [] (kb_W V a σ sh ex) := by
        intro x1 x2 x3 x4 σ hf
        rw [fp_X0_crossings_48_e] at hf
        refine kj_iinc (pc := 48) C 4 [1, 2, 3, 4, 0] (L2 := [(0, .ref (a 2)), (1, .int x1), (2, .int x2), (3, .int x3), (4, .int (x4 + (1 : Int32)))]) dX0_crossings_48 rfl rfl (by decide) rfl ?_
        refine kj_goto (pc := 51) 11 C dX0_crossings_51 (by decide) ?_
        exact ih11 x1 x2 x3 (x4 + (1 : Int32)) σ hf
      intro x1 x2 x3 x4 σ hf
      rw [fp_X0_crossings_11_s] at hf
      refine kj_iload (pc := 11) C 4 dX0_crossings_11 rfl ?_
      refine kj_iload_n (pc := 13) C 3 dX0_crossings_13 rfl rfl ?_
      refine kj_icmp_ge (pc := 14) 54 C dX0_crossings_14 (by decide) (fun c1 => ?_) (fun c1 => ?_)
      · have hf := kb_ift hf c1
        refine kj_iload_n (pc := 54) C 2 dX0_crossings_54 rfl rfl ?_
        cases hf
        exact kj_iret (pc := 55) C dX0_crossings_55
      · have hf := kb_ife hf c1
        refine kj_aload_n (pc := 17) C 0 dX0_crossings_17 rfl rfl ?_
        refine kj_iload_n (pc := 18) C 1 dX0_crossings_18 rfl rfl ?_
        refine kj_iload (pc := 19) C 4 dX0_crossings_19 rfl ?_
        obtain ⟨q2, hq2, hf⟩ := kb_bd hf
        refine kj_callV0 (pc := 21) (as := [.int x1, .int x4]) (rest := []) (b := (a 2)) C (ct_X0_stitchAt l V A x1 x4 a σ sh ex hq2) wd_X0_stitchAt wk_X0_119 wi_X0_stitchAt ws_X0_stitchAt wz_X0 rfl rfl hd_X0_stitchAt ⟨by decide, by decide⟩ 2 rfl rfl rfl rfl (Nat.le_of_ble_eq_true rfl) (by decide) dX0_crossings_21 ?_
        refine kj_istore (pc := 24) C [1, 2, 3, 4, 5, 0] (L2 := [(0, .ref (a 2)), (1, .int x1), (2, .int x2), (3, .int x3), (4, .int x4), (5, .int q2)]) dX0_crossings_24 (by decide) rfl ?_
        refine kj_iload (pc := 26) C 5 dX0_crossings_26 rfl ?_
        refine kj_callS0 (pc := 28) (as := [.int q2]) (rest := []) C (ct_X6_isCable l V A q2 (kb_W V a σ sh ex) rfl) wd_X6_isCable wk_X0_85 wi_X6_isCable wz_X6 rfl rfl hd_X6_isCable ⟨by decide, by decide⟩ rfl (Nat.le_of_ble_eq_true rfl) (by decide) dX0_crossings_28 ?_
        refine kj_if_eq (pc := 31) 48 C dX0_crossings_31 (by decide) (fun c3 => ?_) (fun c3 => ?_)
        · have hf := kb_ift hf c3
          refine kj_sub [0, 1, 2, 3, 4] (L2 := [(0, .ref (a 2)), (1, .int x1), (2, .int x2), (3, .int x3), (4, .int x4)]) rfl ?_
          exact hp48 x1 x2 x3 x4 σ hf
        · have hf := kb_ife hf c3
          refine kj_iload_n (pc := 34) C 2 dX0_crossings_34 rfl rfl ?_
          refine kj_iload (pc := 35) C 5 dX0_crossings_35 rfl ?_
          refine kj_callS0 (pc := 37) (as := [.int q2]) (rest := [.int x2]) C (ct_X6_cableA l V A q2 (kb_W V a σ sh ex) rfl) wd_X6_cableA wk_X0_89 wi_X6_cableA wz_X6 rfl rfl hd_X6_cableA ⟨by decide, by decide⟩ rfl (Nat.le_of_ble_eq_true rfl) (by decide) dX0_crossings_37 ?_
          refine kj_iload (pc := 40) C 5 dX0_crossings_40 rfl ?_
          refine kj_callS0 (pc := 42) (as := [.int q2]) (rest := [.int (fn_X6_cableA q2), .int x2]) C (ct_X6_cableB l V A q2 (kb_W V a σ sh ex) rfl) wd_X6_cableB wk_X0_92 wi_X6_cableB wz_X6 rfl rfl hd_X6_cableB ⟨by decide, by decide⟩ rfl (Nat.le_of_ble_eq_true rfl) (by decide) dX0_crossings_42 ?_
          refine kj_imul (pc := 45) C dX0_crossings_45 ?_
          refine kj_iadd (pc := 46) C dX0_crossings_46 ?_
          refine kj_istore_n (pc := 47) C [1, 2, 0, 3, 4, 5] (L2 := [(0, .ref (a 2)), (1, .int x1), (2, .int (x2 + ((fn_X6_cableA q2) * (fn_X6_cableB q2)))), (3, .int x3), (4, .int x4), (5, .int q2)]) dX0_crossings_47 rfl (by decide) rfl ?_
          refine kj_sub [0, 1, 2, 3, 4] (L2 := [(0, .ref (a 2)), (1, .int x1), (2, .int (x2 + ((fn_X6_cableA q2) * (fn_X6_cableB q2)))), (3, .int x3), (4, .int x4)]) rfl ?_
          exact hp48 x1 (x2 + ((fn_X6_cableA q2) * (fn_X6_cableB q2))) x3 x4 σ hf
  refine kj_sub [0, 1] (L2 := [(0, .ref (a 2)), (1, .int x1)]) rfl ?_
  rw [fe_X0_crossings] at hf
  refine kj_iconst (pc := 0) (v := (0 : Int32)) C dX0_crossings_0 (by decide) ?_
  refine kj_istore_n (pc := 1) C [1, 2, 0] (L2 := [(0, .ref (a 2)), (1, .int x1), (2, .int (0 : Int32))]) dX0_crossings_1 rfl (by decide) rfl ?_
  refine kj_aload_n (pc := 2) C 0 dX0_crossings_2 rfl rfl ?_
  refine kj_iload_n (pc := 3) C 1 dX0_crossings_3 rfl rfl ?_
  obtain ⟨q1, hq1, hf⟩ := kb_bd hf
  refine kj_callV0 (pc := 4) (as := [.int x1]) (rest := []) (b := (a 2)) C (ct_X0_stitchCount l V A x1 a σ sh ex hq1) wd_X0_stitchCount wk_X0_116 wi_X0_stitchCount ws_X0_stitchCount wz_X0 rfl rfl hd_X0_stitchCount ⟨by decide, by decide⟩ 2 rfl rfl rfl rfl (Nat.le_of_ble_eq_true rfl) (by decide) dX0_crossings_4 ?_
  refine kj_istore_n (pc := 7) C [1, 2, 3, 0] (L2 := [(0, .ref (a 2)), (1, .int x1), (2, .int (0 : Int32)), (3, .int q1)]) dX0_crossings_7 rfl (by decide) rfl ?_
  refine kj_iconst (pc := 8) (v := (0 : Int32)) C dX0_crossings_8 (by decide) ?_
  refine kj_istore (pc := 9) C [1, 2, 3, 4, 0] (L2 := [(0, .ref (a 2)), (1, .int x1), (2, .int (0 : Int32)), (3, .int q1), (4, .int (0 : Int32))]) dX0_crossings_9 (by decide) rfl ?_
  exact hp11 kb_FU x1 (0 : Int32) q1 (0 : Int32) σ hf
def fp_X0_boundIn_56 (kc28 : Int32 → Int32 → Int32 → kb_S → Option (Int32)) (x2 : Int32) (x3 : Int32) (x4 : Int32) (σ : kb_S) : Option (Int32) :=
  kc28 x2 x3 (x4 + (1 : Int32)) σ
theorem fp_X0_boundIn_56_e (kc28 : Int32 → Int32 → Int32 → kb_S → Option (Int32)) (x2 : Int32) (x3 : Int32) (x4 : Int32) (σ : kb_S) : fp_X0_boundIn_56 kc28 x2 x3 x4 σ =
  kc28 x2 x3 (x4 + (1 : Int32)) σ := rfl
def fp_X0_boundIn_28  : Nat → Int32 → Int32 → Int32 → kb_S → Option (Int32)
  | 0 => fun _ _ _ _ => none
  | nn + 1 => fun x2 x3 x4 σ => 
  if kb_in (x2 + (1 : Int32)) 32 = true then
    if (kb_a σ 2 (x2 + (1 : Int32)).toNatClampNeg) ≤ x4 then
      some x3
    else
      if kb_in x4 1200 = true then
        if (kb_a σ 3 x4.toNatClampNeg) = (8 : Int32) then
          fp_X0_boundIn_56 (fp_X0_boundIn_28  nn) x2 (x3 + (1 : Int32)) x4 σ
        else
          fp_X0_boundIn_56 (fp_X0_boundIn_28  nn) x2 x3 x4 σ
      else none
  else none
theorem fp_X0_boundIn_28_s  (nn : Nat) (x2 : Int32) (x3 : Int32) (x4 : Int32) (σ : kb_S) : fp_X0_boundIn_28  (nn + 1) x2 x3 x4 σ =
  if kb_in (x2 + (1 : Int32)) 32 = true then
    if (kb_a σ 2 (x2 + (1 : Int32)).toNatClampNeg) ≤ x4 then
      some x3
    else
      if kb_in x4 1200 = true then
        if (kb_a σ 3 x4.toNatClampNeg) = (8 : Int32) then
          fp_X0_boundIn_56 (fp_X0_boundIn_28  nn) x2 (x3 + (1 : Int32)) x4 σ
        else
          fp_X0_boundIn_56 (fp_X0_boundIn_28  nn) x2 x3 x4 σ
      else none
  else none := rfl
def fn_X0_boundIn (x1 : Int32) (x2 : Int32) (σ : kb_S) : Option (Int32) :=
  if (fn_X0_hasRow x1 σ) = 0 then
    some (0 : Int32)
  else
    if (fn_X0_hasRow x2 σ) = 0 then
      some (0 : Int32)
    else
      if kb_in x1 32 = true then
        fp_X0_boundIn_28  kb_FU x2 (0 : Int32) (kb_a σ 2 x1.toNatClampNeg) σ
      else none
theorem fe_X0_boundIn (x1 : Int32) (x2 : Int32) (σ : kb_S) : fn_X0_boundIn x1 x2 σ =
  if (fn_X0_hasRow x1 σ) = 0 then
    some (0 : Int32)
  else
    if (fn_X0_hasRow x2 σ) = 0 then
      some (0 : Int32)
    else
      if kb_in x1 32 = true then
        fp_X0_boundIn_28  kb_FU x2 (0 : Int32) (kb_a σ 2 x1.toNatClampNeg) σ
      else none := rfl
theorem hd_X0_boundIn : yX0_boundIn.cls = RX0 ∧ yX0_boundIn.cls ≠ "java/lang/invoke/MethodHandle" ∧ yX0_boundIn.cls ≠ "java/lang/invoke/VarHandle" ∧ (parseMethodDescriptor yX0_boundIn.desc).map (fun d => d.parameters.length) = some 2 := by decide +kernel
set_option maxRecDepth 100000 in
set_option maxHeartbeats 4000000 in
theorem ct_X0_boundIn (l : Launch) (V : kb_V) (A : Nat → Prop) (x1 : Int32) (x2 : Int32) (a : Nat → Nat) (σ : kb_S) (sh : Value) (ex : va_W) {r : Int32} (hf : fn_X0_boundIn x1 x2 σ = some r) : kb_T l yX0_boundIn cX0_boundIn 5 (some .int) ({ frames := 1, cells := 0, slots := 0, locals := 21 } : Room) V A [.ref (a 2), .int x1, .int x2] (kb_W V a σ sh ex) (some (.int r)) (kb_W V a σ sh ex) 0 0 := by
  refine kb_start (cc := cX0_boundIn) (nL := 5) (ret := (some .int)) (own := RX0) (by decide) rfl (Nat.le_of_ble_eq_true rfl) ?_
  intro p e s m args below meth c C
  have hp28 : ∀ (nn : Nat) (x2 : Int32) (x3 : Int32) (x4 : Int32) (σ : kb_S), fp_X0_boundIn_28  nn x2 x3 x4 σ = some r → kb_J p l e ({ frames := 1, cells := 0, slots := 0, locals := 21 } : Room) s m args below meth c 5 V A 0 0 (MQ below (kb_post V A (some (.int r)) (kb_W V a σ sh ex)) args s 0 0 A) 28 [(0, .ref (a 2)), (2, .int x2), (3, .int x3), (4, .int x4)] [] (kb_W V a σ sh ex) := by
    intro nn28
    induction nn28 with
    | zero => intro x2 x3 x4 σ hf; exact kb_no hf
    | succ nn28 ih28 =>
      have hp56 : ∀ (x2 : Int32) (x3 : Int32) (x4 : Int32) (σ : kb_S), fp_X0_boundIn_56 (fp_X0_boundIn_28  nn28) x2 x3 x4 σ = some r → kb_J p l e ({ frames := 1, cells := 0, slots := 0, locals := 21 } : Room) s m args below meth c 5 V A 0 0 (MQ below (kb_post V A (some (.int r)) (kb_W V a σ sh ex)) args s 0 0 A) 56 [(0, .ref (a 2)), (2, .int x2), (3, .int x3), (4, .int x4)] [] (kb_W V a σ sh ex) := by
        intro x2 x3 x4 σ hf
        rw [fp_X0_boundIn_56_e] at hf
        refine kj_iinc (pc := 56) C 3 [1, 2, 3, 0] (L2 := [(0, .ref (a 2)), (2, .int x2), (3, .int x3), (4, .int (x4 + (1 : Int32)))]) dX0_boundIn_56 rfl rfl (by decide) rfl ?_
        refine kj_goto (pc := 59) 28 C dX0_boundIn_59 (by decide) ?_
        exact ih28 x2 x3 (x4 + (1 : Int32)) σ hf
      intro x2 x3 x4 σ hf
      rw [fp_X0_boundIn_28_s] at hf
      refine kj_iload (pc := 28) C 3 dX0_boundIn_28 rfl ?_
      refine kj_aload_n (pc := 30) C 0 dX0_boundIn_30 rfl rfl ?_
      refine kg_X0_firstStitches (pc := 31) C wf_X0_13 dX0_boundIn_31 ?_
      refine kj_iload_n (pc := 34) C 1 dX0_boundIn_34 rfl rfl ?_
      refine kj_iconst (pc := 35) (v := (1 : Int32)) C dX0_boundIn_35 (by decide) ?_
      refine kj_iadd (pc := 36) C dX0_boundIn_36 ?_
      obtain ⟨g1, hf⟩ := kb_gd hf
      refine ka_X0_firstStitches (pc := 37) (v := (kb_a σ 2 (x2 + (1 : Int32)).toNatClampNeg)) C g1 dX0_boundIn_37 rfl ?_
      refine kj_icmp_ge (pc := 38) 62 C dX0_boundIn_38 (by decide) (fun c2 => ?_) (fun c2 => ?_)
      · have hf := kb_ift hf c2
        refine kj_iload_n (pc := 62) C 2 dX0_boundIn_62 rfl rfl ?_
        cases hf
        exact kj_iret (pc := 63) C dX0_boundIn_63
      · have hf := kb_ife hf c2
        refine kj_aload_n (pc := 41) C 0 dX0_boundIn_41 rfl rfl ?_
        refine kg_X0_stitches (pc := 42) C wf_X0_16 dX0_boundIn_42 ?_
        refine kj_iload (pc := 45) C 3 dX0_boundIn_45 rfl ?_
        obtain ⟨g3, hf⟩ := kb_gd hf
        refine ka_X0_stitches (pc := 47) (v := (kb_a σ 3 x4.toNatClampNeg)) C g3 dX0_boundIn_47 rfl ?_
        refine kj_bipush (pc := 48) (v := (8 : Int32)) C dX0_boundIn_48 (by decide) ?_
        refine kj_icmp_ne (pc := 50) 56 C dX0_boundIn_50 (by decide) (fun c4 => ?_) (fun c4 => ?_)
        · have hf := kb_ife hf c4
          exact hp56 x2 x3 x4 σ hf
        · have hf := kb_ift hf c4
          refine kj_iinc (pc := 53) C 2 [1, 2, 0, 3] (L2 := [(0, .ref (a 2)), (2, .int x2), (3, .int (x3 + (1 : Int32))), (4, .int x4)]) dX0_boundIn_53 rfl rfl (by decide) rfl ?_
          exact hp56 x2 (x3 + (1 : Int32)) x4 σ hf
  refine kj_sub [0, 1, 2] (L2 := [(0, .ref (a 2)), (1, .int x1), (2, .int x2)]) rfl ?_
  rw [fe_X0_boundIn] at hf
  refine kj_aload_n (pc := 0) C 0 dX0_boundIn_0 rfl rfl ?_
  refine kj_iload_n (pc := 1) C 1 dX0_boundIn_1 rfl rfl ?_
  refine kj_callV0 (pc := 2) (as := [.int x1]) (rest := []) (b := (a 2)) C (ct_X0_hasRow l V A x1 a σ sh ex rfl) wd_X0_hasRow wk_X0_101 wi_X0_hasRow ws_X0_hasRow wz_X0 rfl rfl hd_X0_hasRow ⟨by decide, by decide⟩ 2 rfl rfl rfl rfl (Nat.le_of_ble_eq_true rfl) (by decide) dX0_boundIn_2 ?_
  refine kj_if_eq (pc := 5) 16 C dX0_boundIn_5 (by decide) (fun c1 => ?_) (fun c1 => ?_)
  · have hf := kb_ift hf c1
    refine kj_iconst (pc := 16) (v := (0 : Int32)) C dX0_boundIn_16 (by decide) ?_
    cases hf
    exact kj_iret (pc := 17) C dX0_boundIn_17
  · have hf := kb_ife hf c1
    refine kj_aload_n (pc := 8) C 0 dX0_boundIn_8 rfl rfl ?_
    refine kj_iload_n (pc := 9) C 2 dX0_boundIn_9 rfl rfl ?_
    refine kj_callV0 (pc := 10) (as := [.int x2]) (rest := []) (b := (a 2)) C (ct_X0_hasRow l V A x2 a σ sh ex rfl) wd_X0_hasRow wk_X0_101 wi_X0_hasRow ws_X0_hasRow wz_X0 rfl rfl hd_X0_hasRow ⟨by decide, by decide⟩ 2 rfl rfl rfl rfl (Nat.le_of_ble_eq_true rfl) (by decide) dX0_boundIn_10 ?_
    refine kj_if_ne (pc := 13) 18 C dX0_boundIn_13 (by decide) (fun c2 => ?_) (fun c2 => ?_)
    · have hf := kb_ife hf c2
      refine kj_iconst (pc := 18) (v := (0 : Int32)) C dX0_boundIn_18 (by decide) ?_
      refine kj_istore_n (pc := 19) C [1, 2, 3, 0] (L2 := [(0, .ref (a 2)), (1, .int x1), (2, .int x2), (3, .int (0 : Int32))]) dX0_boundIn_19 rfl (by decide) rfl ?_
      refine kj_aload_n (pc := 20) C 0 dX0_boundIn_20 rfl rfl ?_
      refine kg_X0_firstStitches (pc := 21) C wf_X0_13 dX0_boundIn_21 ?_
      refine kj_iload_n (pc := 24) C 1 dX0_boundIn_24 rfl rfl ?_
      obtain ⟨g3, hf⟩ := kb_gd hf
      refine ka_X0_firstStitches (pc := 25) (v := (kb_a σ 2 x1.toNatClampNeg)) C g3 dX0_boundIn_25 rfl ?_
      refine kj_istore (pc := 26) C [1, 2, 3, 4, 0] (L2 := [(0, .ref (a 2)), (1, .int x1), (2, .int x2), (3, .int (0 : Int32)), (4, .int (kb_a σ 2 x1.toNatClampNeg))]) dX0_boundIn_26 (by decide) rfl ?_
      refine kj_sub [0, 2, 3, 4] (L2 := [(0, .ref (a 2)), (2, .int x2), (3, .int (0 : Int32)), (4, .int (kb_a σ 2 x1.toNatClampNeg))]) rfl ?_
      exact hp28 kb_FU x2 (0 : Int32) (kb_a σ 2 x1.toNatClampNeg) σ hf
    · have hf := kb_ift hf c2
      refine kj_iconst (pc := 16) (v := (0 : Int32)) C dX0_boundIn_16 (by decide) ?_
      cases hf
      exact kj_iret (pc := 17) C dX0_boundIn_17
def fn_X1_answer (x0 : Int32) (x1 : Int32)  : Int32 :=
  (-(((1000 : Int32) * x0) + x1))
theorem fe_X1_answer (x0 : Int32) (x1 : Int32)  : fn_X1_answer x0 x1  =
  (-(((1000 : Int32) * x0) + x1)) := rfl
theorem hd_X1_answer : yX1_answer.cls ≠ "java/lang/invoke/MethodHandle" ∧ yX1_answer.cls ≠ "java/lang/invoke/VarHandle" ∧ (parseMethodDescriptor yX1_answer.desc).map (fun d => d.parameters.length) = some 2 := by decide +kernel
set_option maxRecDepth 100000 in
set_option maxHeartbeats 4000000 in
theorem ct_X1_answer (l : Launch) (V : kb_V) (A : Nat → Prop) (x0 : Int32) (x1 : Int32) (ws : va_W) {r : Int32} (hf : fn_X1_answer x0 x1  = r) : kb_T l yX1_answer cX1_answer 2 (some .int) ({ frames := 0, cells := 0, slots := 0, locals := 0 } : Room) V A [.int x0, .int x1] ws (some (.int r)) ws 0 0 := by
  refine kb_start (cc := cX1_answer) (nL := 2) (ret := (some .int)) (own := RX1) (by decide) rfl (Nat.le_of_ble_eq_true rfl) ?_
  intro p e s m args below meth c C
  refine kj_sub [0, 1] (L2 := [(0, .int x0), (1, .int x1)]) rfl ?_
  rw [fe_X1_answer] at hf
  refine kj_sipush (pc := 0) (v := (1000 : Int32)) C dX1_answer_0 (by decide) ?_
  refine kj_iload_n (pc := 3) C 0 dX1_answer_3 rfl rfl ?_
  refine kj_imul (pc := 4) C dX1_answer_4 ?_
  refine kj_iload_n (pc := 5) C 1 dX1_answer_5 rfl rfl ?_
  refine kj_iadd (pc := 6) C dX1_answer_6 ?_
  refine kj_ineg (pc := 7) C dX1_answer_7 ?_
  subst hf
  exact kj_iret (pc := 8) C dX1_answer_8
def fn_X3_clear  (σ : kb_S) : Option (kb_S) :=
  some (kb_p σ 16 (0 : Int32))
theorem fe_X3_clear  (σ : kb_S) : fn_X3_clear  σ =
  some (kb_p σ 16 (0 : Int32)) := rfl
theorem hd_X3_clear : yX3_clear.cls = RX3 ∧ yX3_clear.cls ≠ "java/lang/invoke/MethodHandle" ∧ yX3_clear.cls ≠ "java/lang/invoke/VarHandle" ∧ (parseMethodDescriptor yX3_clear.desc).map (fun d => d.parameters.length) = some 0 := by decide +kernel
set_option maxRecDepth 100000 in
set_option maxHeartbeats 4000000 in
theorem ct_X3_clear (l : Launch) (V : kb_V) (A : Nat → Prop)  (a : Nat → Nat) (σ : kb_S) (sh : Value) (ex : va_W) {σ9 : kb_S} (hf : fn_X3_clear  σ = some σ9) : kb_T l yX3_clear cX3_clear 1 none ({ frames := 0, cells := 0, slots := 0, locals := 0 } : Room) V A [.ref (a 5)] (kb_W V a σ sh ex) none (kb_W V a σ9 sh ex) 0 0 := by
  refine kb_start (cc := cX3_clear) (nL := 1) (ret := none) (own := RX3) (by decide) rfl (Nat.le_of_ble_eq_true rfl) ?_
  intro p e s m args below meth c C
  refine kj_sub [0] (L2 := [(0, .ref (a 5))]) rfl ?_
  rw [fe_X3_clear] at hf
  refine kj_aload_n (pc := 0) C 0 dX3_clear_0 rfl rfl ?_
  refine kj_iconst (pc := 1) (v := (0 : Int32)) C dX3_clear_1 (by decide) ?_
  refine kp_X3_size (pc := 2) C wf_X3_28 dX3_clear_2 ?_
  cases hf
  exact kj_vret (pc := 5) C dX3_clear_5
def fn_X3_size  (σ : kb_S) : Int32 :=
  (kb_g σ 16)
theorem fe_X3_size  (σ : kb_S) : fn_X3_size  σ =
  (kb_g σ 16) := rfl
theorem hd_X3_size : yX3_size.cls = RX3 ∧ yX3_size.cls ≠ "java/lang/invoke/MethodHandle" ∧ yX3_size.cls ≠ "java/lang/invoke/VarHandle" ∧ (parseMethodDescriptor yX3_size.desc).map (fun d => d.parameters.length) = some 0 := by decide +kernel
set_option maxRecDepth 100000 in
set_option maxHeartbeats 4000000 in
theorem ct_X3_size (l : Launch) (V : kb_V) (A : Nat → Prop)  (a : Nat → Nat) (σ : kb_S) (sh : Value) (ex : va_W) {r : Int32} (hf : fn_X3_size  σ = r) : kb_T l yX3_size cX3_size 1 (some .int) ({ frames := 0, cells := 0, slots := 0, locals := 0 } : Room) V A [.ref (a 5)] (kb_W V a σ sh ex) (some (.int r)) (kb_W V a σ sh ex) 0 0 := by
  refine kb_start (cc := cX3_size) (nL := 1) (ret := (some .int)) (own := RX3) (by decide) rfl (Nat.le_of_ble_eq_true rfl) ?_
  intro p e s m args below meth c C
  refine kj_sub [0] (L2 := [(0, .ref (a 5))]) rfl ?_
  rw [fe_X3_size] at hf
  refine kj_aload_n (pc := 0) C 0 dX3_size_0 rfl rfl ?_
  refine kg_X3_size (pc := 1) (v := (kb_g σ 16)) C wf_X3_28 dX3_size_1 rfl ?_
  subst hf
  exact kj_iret (pc := 4) C dX3_size_4
def fn_X3_add (x1 : Int32) (x2 : Int32) (x3 : Int32) (x4 : Int32) (σ : kb_S) : Option (kb_S) :=
  if (200 : Int32) ≤ (kb_g σ 16) then
    some σ
  else
    if kb_in (kb_g σ 16) 200 = true then
      if kb_in (kb_g σ 16) 200 = true then
        if kb_in (kb_g σ 16) 200 = true then
          if kb_in (kb_g σ 16) 200 = true then
            if kb_in (kb_g σ 16) 200 = true then
              some (kb_p (kb_bp (kb_ap (kb_ap (kb_ap (kb_ap σ 7 (kb_g σ 16).toNatClampNeg x1) 10 (kb_g σ 16).toNatClampNeg x2) 9 (kb_g σ 16).toNatClampNeg x3) 8 (kb_g σ 16).toNatClampNeg x4) 2 (kb_g σ 16).toNatClampNeg (0 : Int64)) 16 ((kb_g σ 16) + (1 : Int32)))
            else none
          else none
        else none
      else none
    else none
theorem fe_X3_add (x1 : Int32) (x2 : Int32) (x3 : Int32) (x4 : Int32) (σ : kb_S) : fn_X3_add x1 x2 x3 x4 σ =
  if (200 : Int32) ≤ (kb_g σ 16) then
    some σ
  else
    if kb_in (kb_g σ 16) 200 = true then
      if kb_in (kb_g σ 16) 200 = true then
        if kb_in (kb_g σ 16) 200 = true then
          if kb_in (kb_g σ 16) 200 = true then
            if kb_in (kb_g σ 16) 200 = true then
              some (kb_p (kb_bp (kb_ap (kb_ap (kb_ap (kb_ap σ 7 (kb_g σ 16).toNatClampNeg x1) 10 (kb_g σ 16).toNatClampNeg x2) 9 (kb_g σ 16).toNatClampNeg x3) 8 (kb_g σ 16).toNatClampNeg x4) 2 (kb_g σ 16).toNatClampNeg (0 : Int64)) 16 ((kb_g σ 16) + (1 : Int32)))
            else none
          else none
        else none
      else none
    else none := rfl
theorem hd_X3_add : yX3_add.cls = RX3 ∧ yX3_add.cls ≠ "java/lang/invoke/MethodHandle" ∧ yX3_add.cls ≠ "java/lang/invoke/VarHandle" ∧ (parseMethodDescriptor yX3_add.desc).map (fun d => d.parameters.length) = some 4 := by decide +kernel
set_option maxRecDepth 100000 in
set_option maxHeartbeats 4000000 in
theorem ct_X3_add (l : Launch) (V : kb_V) (A : Nat → Prop) (x1 : Int32) (x2 : Int32) (x3 : Int32) (x4 : Int32) (a : Nat → Nat) (σ : kb_S) (sh : Value) (ex : va_W) {σ9 : kb_S} (hf : fn_X3_add x1 x2 x3 x4 σ = some σ9) : kb_T l yX3_add cX3_add 5 none ({ frames := 0, cells := 0, slots := 0, locals := 0 } : Room) V A [.ref (a 5), .int x1, .int x2, .int x3, .int x4] (kb_W V a σ sh ex) none (kb_W V a σ9 sh ex) 0 0 := by
  refine kb_start (cc := cX3_add) (nL := 5) (ret := none) (own := RX3) (by decide) rfl (Nat.le_of_ble_eq_true rfl) ?_
  intro p e s m args below meth c C
  refine kj_sub [0, 1, 2, 3, 4] (L2 := [(0, .ref (a 5)), (1, .int x1), (2, .int x2), (3, .int x3), (4, .int x4)]) rfl ?_
  rw [fe_X3_add] at hf
  refine kj_aload_n (pc := 0) C 0 dX3_add_0 rfl rfl ?_
  refine kg_X3_size (pc := 1) (v := (kb_g σ 16)) C wf_X3_28 dX3_add_1 rfl ?_
  refine kj_sipush (pc := 4) (v := (200 : Int32)) C dX3_add_4 (by decide) ?_
  refine kj_icmp_ge (pc := 7) 71 C dX3_add_7 (by decide) (fun c1 => ?_) (fun c1 => ?_)
  · have hf := kb_ift hf c1
    cases hf
    exact kj_vret (pc := 71) C dX3_add_71
  · have hf := kb_ife hf c1
    refine kj_aload_n (pc := 10) C 0 dX3_add_10 rfl rfl ?_
    refine kg_X3_kinds (pc := 11) C wf_X3_11 dX3_add_11 ?_
    refine kj_aload_n (pc := 14) C 0 dX3_add_14 rfl rfl ?_
    refine kg_X3_size (pc := 15) (v := (kb_g σ 16)) C wf_X3_28 dX3_add_15 rfl ?_
    refine kj_iload_n (pc := 18) C 1 dX3_add_18 rfl rfl ?_
    obtain ⟨g2, hf⟩ := kb_gd hf
    refine ks_X3_kinds (pc := 19) C g2 dX3_add_19 ?_
    refine kj_aload_n (pc := 20) C 0 dX3_add_20 rfl rfl ?_
    refine kg_X3_links (pc := 21) C wf_X3_21 dX3_add_21 ?_
    refine kj_aload_n (pc := 24) C 0 dX3_add_24 rfl rfl ?_
    refine kg_X3_size (pc := 25) (v := (kb_g σ 16)) C wf_X3_28 dX3_add_25 rfl ?_
    refine kj_iload_n (pc := 28) C 2 dX3_add_28 rfl rfl ?_
    obtain ⟨g3, hf⟩ := kb_gd hf
    refine ks_X3_links (pc := 29) C g3 dX3_add_29 ?_
    refine kj_aload_n (pc := 30) C 0 dX3_add_30 rfl rfl ?_
    refine kg_X3_counts (pc := 31) C wf_X3_18 dX3_add_31 ?_
    refine kj_aload_n (pc := 34) C 0 dX3_add_34 rfl rfl ?_
    refine kg_X3_size (pc := 35) (v := (kb_g σ 16)) C wf_X3_28 dX3_add_35 rfl ?_
    refine kj_iload_n (pc := 38) C 3 dX3_add_38 rfl rfl ?_
    obtain ⟨g4, hf⟩ := kb_gd hf
    refine ks_X3_counts (pc := 39) C g4 dX3_add_39 ?_
    refine kj_aload_n (pc := 40) C 0 dX3_add_40 rfl rfl ?_
    refine kg_X3_places (pc := 41) C wf_X3_15 dX3_add_41 ?_
    refine kj_aload_n (pc := 44) C 0 dX3_add_44 rfl rfl ?_
    refine kg_X3_size (pc := 45) (v := (kb_g σ 16)) C wf_X3_28 dX3_add_45 rfl ?_
    refine kj_iload (pc := 48) C 4 dX3_add_48 rfl ?_
    obtain ⟨g5, hf⟩ := kb_gd hf
    refine ks_X3_places (pc := 50) C g5 dX3_add_50 ?_
    refine kj_aload_n (pc := 51) C 0 dX3_add_51 rfl rfl ?_
    refine kg_X3_takes (pc := 52) C wf_X3_24 dX3_add_52 ?_
    refine kj_aload_n (pc := 55) C 0 dX3_add_55 rfl rfl ?_
    refine kg_X3_size (pc := 56) (v := (kb_g σ 16)) C wf_X3_28 dX3_add_56 rfl ?_
    refine kj_lconst (pc := 59) (v := (0 : Int64)) C dX3_add_59 (by decide) ?_
    obtain ⟨g6, hf⟩ := kb_gd hf
    refine ks_X3_takes (pc := 60) C g6 dX3_add_60 ?_
    refine kj_aload_n (pc := 61) C 0 dX3_add_61 rfl rfl ?_
    refine kj_dup (pc := 62) C dX3_add_62 rfl ?_
    refine kg_X3_size (pc := 63) (v := (kb_g σ 16)) C wf_X3_28 dX3_add_63 rfl ?_
    refine kj_iconst (pc := 66) (v := (1 : Int32)) C dX3_add_66 (by decide) ?_
    refine kj_iadd (pc := 67) C dX3_add_67 ?_
    refine kp_X3_size (pc := 68) C wf_X3_28 dX3_add_68 ?_
    cases hf
    exact kj_vret (pc := 71) C dX3_add_71
def fn_X3_addStitches (x1 : Int32) (x2 : Int32) (x3 : Int32) (σ : kb_S) : Option (kb_S) :=
  (fn_X3_add (0 : Int32) x1 x2 x3 σ).bind fun q1 =>
  some q1
theorem fe_X3_addStitches (x1 : Int32) (x2 : Int32) (x3 : Int32) (σ : kb_S) : fn_X3_addStitches x1 x2 x3 σ =
  (fn_X3_add (0 : Int32) x1 x2 x3 σ).bind fun q1 =>
  some q1 := rfl
theorem hd_X3_addStitches : yX3_addStitches.cls = RX3 ∧ yX3_addStitches.cls ≠ "java/lang/invoke/MethodHandle" ∧ yX3_addStitches.cls ≠ "java/lang/invoke/VarHandle" ∧ (parseMethodDescriptor yX3_addStitches.desc).map (fun d => d.parameters.length) = some 3 := by decide +kernel
set_option maxRecDepth 100000 in
set_option maxHeartbeats 4000000 in
theorem ct_X3_addStitches (l : Launch) (V : kb_V) (A : Nat → Prop) (x1 : Int32) (x2 : Int32) (x3 : Int32) (a : Nat → Nat) (σ : kb_S) (sh : Value) (ex : va_W) {σ9 : kb_S} (hf : fn_X3_addStitches x1 x2 x3 σ = some σ9) : kb_T l yX3_addStitches cX3_addStitches 4 none ({ frames := 1, cells := 0, slots := 0, locals := 24 } : Room) V A [.ref (a 5), .int x1, .int x2, .int x3] (kb_W V a σ sh ex) none (kb_W V a σ9 sh ex) 0 0 := by
  refine kb_start (cc := cX3_addStitches) (nL := 4) (ret := none) (own := RX3) (by decide) rfl (Nat.le_of_ble_eq_true rfl) ?_
  intro p e s m args below meth c C
  refine kj_sub [0, 1, 2, 3] (L2 := [(0, .ref (a 5)), (1, .int x1), (2, .int x2), (3, .int x3)]) rfl ?_
  rw [fe_X3_addStitches] at hf
  refine kj_aload_n (pc := 0) C 0 dX3_addStitches_0 rfl rfl ?_
  refine kj_iconst (pc := 1) (v := (0 : Int32)) C dX3_addStitches_1 (by decide) ?_
  refine kj_iload_n (pc := 2) C 1 dX3_addStitches_2 rfl rfl ?_
  refine kj_iload_n (pc := 3) C 2 dX3_addStitches_3 rfl rfl ?_
  refine kj_iload_n (pc := 4) C 3 dX3_addStitches_4 rfl rfl ?_
  obtain ⟨q1, hq1, hf⟩ := kb_bd hf
  refine kj_callV0 (pc := 5) (as := [.int (0 : Int32), .int x1, .int x2, .int x3]) (rest := []) (b := (a 5)) C (ct_X3_add l V A (0 : Int32) x1 x2 x3 a σ sh ex hq1) wd_X3_add wk_X3_32 wi_X3_add ws_X3_add wz_X3 rfl rfl hd_X3_add ⟨by decide, by decide⟩ 5 rfl rfl rfl rfl (Nat.le_of_ble_eq_true rfl) (by decide) dX3_addStitches_5 ?_
  cases hf
  exact kj_vret (pc := 8) C dX3_addStitches_8
def fn_X3_addOpen (x1 : Int32) (x2 : Int32) (σ : kb_S) : Option (kb_S) :=
  (fn_X3_add x1 (0 : Int32) (0 : Int32) x2 σ).bind fun q1 =>
  some q1
theorem fe_X3_addOpen (x1 : Int32) (x2 : Int32) (σ : kb_S) : fn_X3_addOpen x1 x2 σ =
  (fn_X3_add x1 (0 : Int32) (0 : Int32) x2 σ).bind fun q1 =>
  some q1 := rfl
theorem hd_X3_addOpen : yX3_addOpen.cls = RX3 ∧ yX3_addOpen.cls ≠ "java/lang/invoke/MethodHandle" ∧ yX3_addOpen.cls ≠ "java/lang/invoke/VarHandle" ∧ (parseMethodDescriptor yX3_addOpen.desc).map (fun d => d.parameters.length) = some 2 := by decide +kernel
set_option maxRecDepth 100000 in
set_option maxHeartbeats 4000000 in
theorem ct_X3_addOpen (l : Launch) (V : kb_V) (A : Nat → Prop) (x1 : Int32) (x2 : Int32) (a : Nat → Nat) (σ : kb_S) (sh : Value) (ex : va_W) {σ9 : kb_S} (hf : fn_X3_addOpen x1 x2 σ = some σ9) : kb_T l yX3_addOpen cX3_addOpen 3 none ({ frames := 1, cells := 0, slots := 0, locals := 24 } : Room) V A [.ref (a 5), .int x1, .int x2] (kb_W V a σ sh ex) none (kb_W V a σ9 sh ex) 0 0 := by
  refine kb_start (cc := cX3_addOpen) (nL := 3) (ret := none) (own := RX3) (by decide) rfl (Nat.le_of_ble_eq_true rfl) ?_
  intro p e s m args below meth c C
  refine kj_sub [0, 1, 2] (L2 := [(0, .ref (a 5)), (1, .int x1), (2, .int x2)]) rfl ?_
  rw [fe_X3_addOpen] at hf
  refine kj_aload_n (pc := 0) C 0 dX3_addOpen_0 rfl rfl ?_
  refine kj_iload_n (pc := 1) C 1 dX3_addOpen_1 rfl rfl ?_
  refine kj_iconst (pc := 2) (v := (0 : Int32)) C dX3_addOpen_2 (by decide) ?_
  refine kj_iconst (pc := 3) (v := (0 : Int32)) C dX3_addOpen_3 (by decide) ?_
  refine kj_iload_n (pc := 4) C 2 dX3_addOpen_4 rfl rfl ?_
  obtain ⟨q1, hq1, hf⟩ := kb_bd hf
  refine kj_callV0 (pc := 5) (as := [.int x1, .int (0 : Int32), .int (0 : Int32), .int x2]) (rest := []) (b := (a 5)) C (ct_X3_add l V A x1 (0 : Int32) (0 : Int32) x2 a σ sh ex hq1) wd_X3_add wk_X3_32 wi_X3_add ws_X3_add wz_X3 rfl rfl hd_X3_add ⟨by decide, by decide⟩ 5 rfl rfl rfl rfl (Nat.le_of_ble_eq_true rfl) (by decide) dX3_addOpen_5 ?_
  cases hf
  exact kj_vret (pc := 8) C dX3_addOpen_8
def fp_X3_addClose_37  (x1 : Int32) (x3 : Int32) (σ : kb_S) : Option (kb_S) :=
  (fn_X3_add (3 : Int32) x1 (0 : Int32) x3 σ).bind fun q1 =>
  some q1
theorem fp_X3_addClose_37_e  (x1 : Int32) (x3 : Int32) (σ : kb_S) : fp_X3_addClose_37  x1 x3 σ =
  (fn_X3_add (3 : Int32) x1 (0 : Int32) x3 σ).bind fun q1 =>
  some q1 := rfl
def fn_X3_addClose (x1 : Int32) (x2 : Int32) (x3 : Int32) (x4 : Int64) (σ : kb_S) : Option (kb_S) :=
  if x1 < 0 then
    fp_X3_addClose_37  x1 x3 σ
  else
    if (kb_g σ 16) ≤ x1 then
      fp_X3_addClose_37  x1 x3 σ
    else
      if kb_in x1 200 = true then
        if kb_in x1 200 = true then
          if kb_in x1 200 = true then
            fp_X3_addClose_37  x1 x3 (kb_bp (kb_ap (kb_ap σ 10 x1.toNatClampNeg (kb_g σ 16)) 9 x1.toNatClampNeg x2) 2 x1.toNatClampNeg x4)
          else none
        else none
      else none
theorem fe_X3_addClose (x1 : Int32) (x2 : Int32) (x3 : Int32) (x4 : Int64) (σ : kb_S) : fn_X3_addClose x1 x2 x3 x4 σ =
  if x1 < 0 then
    fp_X3_addClose_37  x1 x3 σ
  else
    if (kb_g σ 16) ≤ x1 then
      fp_X3_addClose_37  x1 x3 σ
    else
      if kb_in x1 200 = true then
        if kb_in x1 200 = true then
          if kb_in x1 200 = true then
            fp_X3_addClose_37  x1 x3 (kb_bp (kb_ap (kb_ap σ 10 x1.toNatClampNeg (kb_g σ 16)) 9 x1.toNatClampNeg x2) 2 x1.toNatClampNeg x4)
          else none
        else none
      else none := rfl
theorem hd_X3_addClose : yX3_addClose.cls = RX3 ∧ yX3_addClose.cls ≠ "java/lang/invoke/MethodHandle" ∧ yX3_addClose.cls ≠ "java/lang/invoke/VarHandle" ∧ (parseMethodDescriptor yX3_addClose.desc).map (fun d => d.parameters.length) = some 4 := by decide +kernel
set_option maxRecDepth 100000 in
set_option maxHeartbeats 4000000 in
theorem ct_X3_addClose (l : Launch) (V : kb_V) (A : Nat → Prop) (x1 : Int32) (x2 : Int32) (x3 : Int32) (x4 : Int64) (a : Nat → Nat) (σ : kb_S) (sh : Value) (ex : va_W) {σ9 : kb_S} (hf : fn_X3_addClose x1 x2 x3 x4 σ = some σ9) : kb_T l yX3_addClose cX3_addClose 6 none ({ frames := 1, cells := 0, slots := 0, locals := 24 } : Room) V A [.ref (a 5), .int x1, .int x2, .int x3, .long x4] (kb_W V a σ sh ex) none (kb_W V a σ9 sh ex) 0 0 := by
  refine kb_start (cc := cX3_addClose) (nL := 6) (ret := none) (own := RX3) (by decide) rfl (Nat.le_of_ble_eq_true rfl) ?_
  intro p e s m args below meth c C
  have hp37 : ∀ (x1 : Int32) (x3 : Int32) (σ : kb_S), fp_X3_addClose_37  x1 x3 σ = some σ9 → kb_J p l e ({ frames := 1, cells := 0, slots := 0, locals := 24 } : Room) s m args below meth c 6 V A 0 0 (MQ below (kb_post V A none (kb_W V a σ9 sh ex)) args s 0 0 A) 37 [(0, .ref (a 5)), (1, .int x1), (3, .int x3)] [] (kb_W V a σ sh ex) := by
    intro x1 x3 σ hf
    rw [fp_X3_addClose_37_e] at hf
    refine kj_aload_n (pc := 37) C 0 dX3_addClose_37 rfl rfl ?_
    refine kj_iconst (pc := 38) (v := (3 : Int32)) C dX3_addClose_38 (by decide) ?_
    refine kj_iload_n (pc := 39) C 1 dX3_addClose_39 rfl rfl ?_
    refine kj_iconst (pc := 40) (v := (0 : Int32)) C dX3_addClose_40 (by decide) ?_
    refine kj_iload_n (pc := 41) C 2 dX3_addClose_41 rfl rfl ?_
    obtain ⟨q1, hq1, hf⟩ := kb_bd hf
    refine kj_callV0 (pc := 42) (as := [.int (3 : Int32), .int x1, .int (0 : Int32), .int x3]) (rest := []) (b := (a 5)) C (ct_X3_add l V A (3 : Int32) x1 (0 : Int32) x3 a σ sh ex hq1) wd_X3_add wk_X3_32 wi_X3_add ws_X3_add wz_X3 rfl rfl hd_X3_add ⟨by decide, by decide⟩ 5 rfl rfl rfl rfl (Nat.le_of_ble_eq_true rfl) (by decide) dX3_addClose_42 ?_
    cases hf
    exact kj_vret (pc := 45) C dX3_addClose_45
  refine kj_sub [0, 1, 2, 3, 4] (L2 := [(0, .ref (a 5)), (1, .int x1), (2, .int x2), (3, .int x3), (4, .long x4)]) rfl ?_
  rw [fe_X3_addClose] at hf
  refine kj_iload_n (pc := 0) C 1 dX3_addClose_0 rfl rfl ?_
  refine kj_if_lt (pc := 1) 37 C dX3_addClose_1 (by decide) (fun c1 => ?_) (fun c1 => ?_)
  · have hf := kb_ift hf c1
    refine kj_sub [0, 1, 3] (L2 := [(0, .ref (a 5)), (1, .int x1), (3, .int x3)]) rfl ?_
    exact hp37 x1 x3 σ hf
  · have hf := kb_ife hf c1
    refine kj_iload_n (pc := 4) C 1 dX3_addClose_4 rfl rfl ?_
    refine kj_aload_n (pc := 5) C 0 dX3_addClose_5 rfl rfl ?_
    refine kg_X3_size (pc := 6) (v := (kb_g σ 16)) C wf_X3_28 dX3_addClose_6 rfl ?_
    refine kj_icmp_ge (pc := 9) 37 C dX3_addClose_9 (by decide) (fun c2 => ?_) (fun c2 => ?_)
    · have hf := kb_ift hf c2
      refine kj_sub [0, 1, 3] (L2 := [(0, .ref (a 5)), (1, .int x1), (3, .int x3)]) rfl ?_
      exact hp37 x1 x3 σ hf
    · have hf := kb_ife hf c2
      refine kj_aload_n (pc := 12) C 0 dX3_addClose_12 rfl rfl ?_
      refine kg_X3_links (pc := 13) C wf_X3_21 dX3_addClose_13 ?_
      refine kj_iload_n (pc := 16) C 1 dX3_addClose_16 rfl rfl ?_
      refine kj_aload_n (pc := 17) C 0 dX3_addClose_17 rfl rfl ?_
      refine kg_X3_size (pc := 18) (v := (kb_g σ 16)) C wf_X3_28 dX3_addClose_18 rfl ?_
      obtain ⟨g3, hf⟩ := kb_gd hf
      refine ks_X3_links (pc := 21) C g3 dX3_addClose_21 ?_
      refine kj_aload_n (pc := 22) C 0 dX3_addClose_22 rfl rfl ?_
      refine kg_X3_counts (pc := 23) C wf_X3_18 dX3_addClose_23 ?_
      refine kj_iload_n (pc := 26) C 1 dX3_addClose_26 rfl rfl ?_
      refine kj_iload_n (pc := 27) C 2 dX3_addClose_27 rfl rfl ?_
      obtain ⟨g4, hf⟩ := kb_gd hf
      refine ks_X3_counts (pc := 28) C g4 dX3_addClose_28 ?_
      refine kj_aload_n (pc := 29) C 0 dX3_addClose_29 rfl rfl ?_
      refine kg_X3_takes (pc := 30) C wf_X3_24 dX3_addClose_30 ?_
      refine kj_iload_n (pc := 33) C 1 dX3_addClose_33 rfl rfl ?_
      refine kj_lload (pc := 34) C 4 dX3_addClose_34 rfl ?_
      obtain ⟨g5, hf⟩ := kb_gd hf
      refine ks_X3_takes (pc := 36) C g5 dX3_addClose_36 ?_
      refine kj_sub [0, 1, 3] (L2 := [(0, .ref (a 5)), (1, .int x1), (3, .int x3)]) rfl ?_
      exact hp37 x1 x3 (kb_bp (kb_ap (kb_ap σ 10 x1.toNatClampNeg (kb_g σ 16)) 9 x1.toNatClampNeg x2) 2 x1.toNatClampNeg x4) hf
def fn_X3_has (x1 : Int32) (σ : kb_S) : Int32 :=
  if x1 < 0 then
    (0 : Int32)
  else
    if (kb_g σ 16) ≤ x1 then
      (0 : Int32)
    else
      (1 : Int32)
theorem fe_X3_has (x1 : Int32) (σ : kb_S) : fn_X3_has x1 σ =
  if x1 < 0 then
    (0 : Int32)
  else
    if (kb_g σ 16) ≤ x1 then
      (0 : Int32)
    else
      (1 : Int32) := rfl
theorem hd_X3_has : yX3_has.cls = RX3 ∧ yX3_has.cls ≠ "java/lang/invoke/MethodHandle" ∧ yX3_has.cls ≠ "java/lang/invoke/VarHandle" ∧ (parseMethodDescriptor yX3_has.desc).map (fun d => d.parameters.length) = some 1 := by decide +kernel
set_option maxRecDepth 100000 in
set_option maxHeartbeats 4000000 in
theorem ct_X3_has (l : Launch) (V : kb_V) (A : Nat → Prop) (x1 : Int32) (a : Nat → Nat) (σ : kb_S) (sh : Value) (ex : va_W) {r : Int32} (hf : fn_X3_has x1 σ = r) : kb_T l yX3_has cX3_has 2 (some .boolean) ({ frames := 0, cells := 0, slots := 0, locals := 0 } : Room) V A [.ref (a 5), .int x1] (kb_W V a σ sh ex) (some (.int r)) (kb_W V a σ sh ex) 0 0 := by
  refine kb_start (cc := cX3_has) (nL := 2) (ret := (some .boolean)) (own := RX3) (by decide) rfl (Nat.le_of_ble_eq_true rfl) ?_
  intro p e s m args below meth c C
  refine kj_sub [0, 1] (L2 := [(0, .ref (a 5)), (1, .int x1)]) rfl ?_
  rw [fe_X3_has] at hf
  refine kj_iload_n (pc := 0) C 1 dX3_has_0 rfl rfl ?_
  refine kj_if_lt (pc := 1) 16 C dX3_has_1 (by decide) (fun c1 => ?_) (fun c1 => ?_)
  · have hf := kb_ift hf c1
    refine kj_iconst (pc := 16) (v := (0 : Int32)) C dX3_has_16 (by decide) ?_
    subst hf
    exact kj_zret (pc := 17) C (by decide) dX3_has_17
  · have hf := kb_ife hf c1
    refine kj_iload_n (pc := 4) C 1 dX3_has_4 rfl rfl ?_
    refine kj_aload_n (pc := 5) C 0 dX3_has_5 rfl rfl ?_
    refine kg_X3_size (pc := 6) (v := (kb_g σ 16)) C wf_X3_28 dX3_has_6 rfl ?_
    refine kj_icmp_ge (pc := 9) 16 C dX3_has_9 (by decide) (fun c2 => ?_) (fun c2 => ?_)
    · have hf := kb_ift hf c2
      refine kj_iconst (pc := 16) (v := (0 : Int32)) C dX3_has_16 (by decide) ?_
      subst hf
      exact kj_zret (pc := 17) C (by decide) dX3_has_17
    · have hf := kb_ife hf c2
      refine kj_iconst (pc := 12) (v := (1 : Int32)) C dX3_has_12 (by decide) ?_
      refine kj_goto (pc := 13) 17 C dX3_has_13 (by decide) ?_
      subst hf
      exact kj_zret (pc := 17) C (by decide) dX3_has_17
def fn_X3_kind (x1 : Int32) (σ : kb_S) : Option (Int32) :=
  if (fn_X3_has x1 σ) = 0 then
    some (3 : Int32)
  else
    if kb_in x1 200 = true then
      some (kb_a σ 7 x1.toNatClampNeg)
    else none
theorem fe_X3_kind (x1 : Int32) (σ : kb_S) : fn_X3_kind x1 σ =
  if (fn_X3_has x1 σ) = 0 then
    some (3 : Int32)
  else
    if kb_in x1 200 = true then
      some (kb_a σ 7 x1.toNatClampNeg)
    else none := rfl
theorem hd_X3_kind : yX3_kind.cls = RX3 ∧ yX3_kind.cls ≠ "java/lang/invoke/MethodHandle" ∧ yX3_kind.cls ≠ "java/lang/invoke/VarHandle" ∧ (parseMethodDescriptor yX3_kind.desc).map (fun d => d.parameters.length) = some 1 := by decide +kernel
set_option maxRecDepth 100000 in
set_option maxHeartbeats 4000000 in
theorem ct_X3_kind (l : Launch) (V : kb_V) (A : Nat → Prop) (x1 : Int32) (a : Nat → Nat) (σ : kb_S) (sh : Value) (ex : va_W) {r : Int32} (hf : fn_X3_kind x1 σ = some r) : kb_T l yX3_kind cX3_kind 2 (some .int) ({ frames := 1, cells := 0, slots := 0, locals := 21 } : Room) V A [.ref (a 5), .int x1] (kb_W V a σ sh ex) (some (.int r)) (kb_W V a σ sh ex) 0 0 := by
  refine kb_start (cc := cX3_kind) (nL := 2) (ret := (some .int)) (own := RX3) (by decide) rfl (Nat.le_of_ble_eq_true rfl) ?_
  intro p e s m args below meth c C
  refine kj_sub [0, 1] (L2 := [(0, .ref (a 5)), (1, .int x1)]) rfl ?_
  rw [fe_X3_kind] at hf
  refine kj_aload_n (pc := 0) C 0 dX3_kind_0 rfl rfl ?_
  refine kj_iload_n (pc := 1) C 1 dX3_kind_1 rfl rfl ?_
  refine kj_callV0 (pc := 2) (as := [.int x1]) (rest := []) (b := (a 5)) C (ct_X3_has l V A x1 a σ sh ex rfl) wd_X3_has wk_X3_36 wi_X3_has ws_X3_has wz_X3 rfl rfl hd_X3_has ⟨by decide, by decide⟩ 5 rfl rfl rfl rfl (Nat.le_of_ble_eq_true rfl) (by decide) dX3_kind_2 ?_
  refine kj_if_eq (pc := 5) 17 C dX3_kind_5 (by decide) (fun c1 => ?_) (fun c1 => ?_)
  · have hf := kb_ift hf c1
    refine kj_iconst (pc := 17) (v := (3 : Int32)) C dX3_kind_17 (by decide) ?_
    cases hf
    exact kj_iret (pc := 18) C dX3_kind_18
  · have hf := kb_ife hf c1
    refine kj_aload_n (pc := 8) C 0 dX3_kind_8 rfl rfl ?_
    refine kg_X3_kinds (pc := 9) C wf_X3_11 dX3_kind_9 ?_
    refine kj_iload_n (pc := 12) C 1 dX3_kind_12 rfl rfl ?_
    obtain ⟨g2, hf⟩ := kb_gd hf
    refine ka_X3_kinds (pc := 13) (v := (kb_a σ 7 x1.toNatClampNeg)) C g2 dX3_kind_13 rfl ?_
    refine kj_goto (pc := 14) 18 C dX3_kind_14 (by decide) ?_
    cases hf
    exact kj_iret (pc := 18) C dX3_kind_18
def fn_X3_link (x1 : Int32) (σ : kb_S) : Option (Int32) :=
  if (fn_X3_has x1 σ) = 0 then
    some (0 : Int32)
  else
    if kb_in x1 200 = true then
      some (kb_a σ 10 x1.toNatClampNeg)
    else none
theorem fe_X3_link (x1 : Int32) (σ : kb_S) : fn_X3_link x1 σ =
  if (fn_X3_has x1 σ) = 0 then
    some (0 : Int32)
  else
    if kb_in x1 200 = true then
      some (kb_a σ 10 x1.toNatClampNeg)
    else none := rfl
theorem hd_X3_link : yX3_link.cls = RX3 ∧ yX3_link.cls ≠ "java/lang/invoke/MethodHandle" ∧ yX3_link.cls ≠ "java/lang/invoke/VarHandle" ∧ (parseMethodDescriptor yX3_link.desc).map (fun d => d.parameters.length) = some 1 := by decide +kernel
set_option maxRecDepth 100000 in
set_option maxHeartbeats 4000000 in
theorem ct_X3_link (l : Launch) (V : kb_V) (A : Nat → Prop) (x1 : Int32) (a : Nat → Nat) (σ : kb_S) (sh : Value) (ex : va_W) {r : Int32} (hf : fn_X3_link x1 σ = some r) : kb_T l yX3_link cX3_link 2 (some .int) ({ frames := 1, cells := 0, slots := 0, locals := 21 } : Room) V A [.ref (a 5), .int x1] (kb_W V a σ sh ex) (some (.int r)) (kb_W V a σ sh ex) 0 0 := by
  refine kb_start (cc := cX3_link) (nL := 2) (ret := (some .int)) (own := RX3) (by decide) rfl (Nat.le_of_ble_eq_true rfl) ?_
  intro p e s m args below meth c C
  refine kj_sub [0, 1] (L2 := [(0, .ref (a 5)), (1, .int x1)]) rfl ?_
  rw [fe_X3_link] at hf
  refine kj_aload_n (pc := 0) C 0 dX3_link_0 rfl rfl ?_
  refine kj_iload_n (pc := 1) C 1 dX3_link_1 rfl rfl ?_
  refine kj_callV0 (pc := 2) (as := [.int x1]) (rest := []) (b := (a 5)) C (ct_X3_has l V A x1 a σ sh ex rfl) wd_X3_has wk_X3_36 wi_X3_has ws_X3_has wz_X3 rfl rfl hd_X3_has ⟨by decide, by decide⟩ 5 rfl rfl rfl rfl (Nat.le_of_ble_eq_true rfl) (by decide) dX3_link_2 ?_
  refine kj_if_eq (pc := 5) 17 C dX3_link_5 (by decide) (fun c1 => ?_) (fun c1 => ?_)
  · have hf := kb_ift hf c1
    refine kj_iconst (pc := 17) (v := (0 : Int32)) C dX3_link_17 (by decide) ?_
    cases hf
    exact kj_iret (pc := 18) C dX3_link_18
  · have hf := kb_ife hf c1
    refine kj_aload_n (pc := 8) C 0 dX3_link_8 rfl rfl ?_
    refine kg_X3_links (pc := 9) C wf_X3_21 dX3_link_9 ?_
    refine kj_iload_n (pc := 12) C 1 dX3_link_12 rfl rfl ?_
    obtain ⟨g2, hf⟩ := kb_gd hf
    refine ka_X3_links (pc := 13) (v := (kb_a σ 10 x1.toNatClampNeg)) C g2 dX3_link_13 rfl ?_
    refine kj_goto (pc := 14) 18 C dX3_link_14 (by decide) ?_
    cases hf
    exact kj_iret (pc := 18) C dX3_link_18
def fn_X3_count (x1 : Int32) (σ : kb_S) : Option (Int32) :=
  if (fn_X3_has x1 σ) = 0 then
    some (0 : Int32)
  else
    if kb_in x1 200 = true then
      some (kb_a σ 9 x1.toNatClampNeg)
    else none
theorem fe_X3_count (x1 : Int32) (σ : kb_S) : fn_X3_count x1 σ =
  if (fn_X3_has x1 σ) = 0 then
    some (0 : Int32)
  else
    if kb_in x1 200 = true then
      some (kb_a σ 9 x1.toNatClampNeg)
    else none := rfl
theorem hd_X3_count : yX3_count.cls = RX3 ∧ yX3_count.cls ≠ "java/lang/invoke/MethodHandle" ∧ yX3_count.cls ≠ "java/lang/invoke/VarHandle" ∧ (parseMethodDescriptor yX3_count.desc).map (fun d => d.parameters.length) = some 1 := by decide +kernel
set_option maxRecDepth 100000 in
set_option maxHeartbeats 4000000 in
theorem ct_X3_count (l : Launch) (V : kb_V) (A : Nat → Prop) (x1 : Int32) (a : Nat → Nat) (σ : kb_S) (sh : Value) (ex : va_W) {r : Int32} (hf : fn_X3_count x1 σ = some r) : kb_T l yX3_count cX3_count 2 (some .int) ({ frames := 1, cells := 0, slots := 0, locals := 21 } : Room) V A [.ref (a 5), .int x1] (kb_W V a σ sh ex) (some (.int r)) (kb_W V a σ sh ex) 0 0 := by
  refine kb_start (cc := cX3_count) (nL := 2) (ret := (some .int)) (own := RX3) (by decide) rfl (Nat.le_of_ble_eq_true rfl) ?_
  intro p e s m args below meth c C
  refine kj_sub [0, 1] (L2 := [(0, .ref (a 5)), (1, .int x1)]) rfl ?_
  rw [fe_X3_count] at hf
  refine kj_aload_n (pc := 0) C 0 dX3_count_0 rfl rfl ?_
  refine kj_iload_n (pc := 1) C 1 dX3_count_1 rfl rfl ?_
  refine kj_callV0 (pc := 2) (as := [.int x1]) (rest := []) (b := (a 5)) C (ct_X3_has l V A x1 a σ sh ex rfl) wd_X3_has wk_X3_36 wi_X3_has ws_X3_has wz_X3 rfl rfl hd_X3_has ⟨by decide, by decide⟩ 5 rfl rfl rfl rfl (Nat.le_of_ble_eq_true rfl) (by decide) dX3_count_2 ?_
  refine kj_if_eq (pc := 5) 17 C dX3_count_5 (by decide) (fun c1 => ?_) (fun c1 => ?_)
  · have hf := kb_ift hf c1
    refine kj_iconst (pc := 17) (v := (0 : Int32)) C dX3_count_17 (by decide) ?_
    cases hf
    exact kj_iret (pc := 18) C dX3_count_18
  · have hf := kb_ife hf c1
    refine kj_aload_n (pc := 8) C 0 dX3_count_8 rfl rfl ?_
    refine kg_X3_counts (pc := 9) C wf_X3_18 dX3_count_9 ?_
    refine kj_iload_n (pc := 12) C 1 dX3_count_12 rfl rfl ?_
    obtain ⟨g2, hf⟩ := kb_gd hf
    refine ka_X3_counts (pc := 13) (v := (kb_a σ 9 x1.toNatClampNeg)) C g2 dX3_count_13 rfl ?_
    refine kj_goto (pc := 14) 18 C dX3_count_14 (by decide) ?_
    cases hf
    exact kj_iret (pc := 18) C dX3_count_18
def fn_X3_place (x1 : Int32) (σ : kb_S) : Option (Int32) :=
  if (fn_X3_has x1 σ) = 0 then
    some (0 : Int32)
  else
    if kb_in x1 200 = true then
      some (kb_a σ 8 x1.toNatClampNeg)
    else none
theorem fe_X3_place (x1 : Int32) (σ : kb_S) : fn_X3_place x1 σ =
  if (fn_X3_has x1 σ) = 0 then
    some (0 : Int32)
  else
    if kb_in x1 200 = true then
      some (kb_a σ 8 x1.toNatClampNeg)
    else none := rfl
theorem hd_X3_place : yX3_place.cls = RX3 ∧ yX3_place.cls ≠ "java/lang/invoke/MethodHandle" ∧ yX3_place.cls ≠ "java/lang/invoke/VarHandle" ∧ (parseMethodDescriptor yX3_place.desc).map (fun d => d.parameters.length) = some 1 := by decide +kernel
set_option maxRecDepth 100000 in
set_option maxHeartbeats 4000000 in
theorem ct_X3_place (l : Launch) (V : kb_V) (A : Nat → Prop) (x1 : Int32) (a : Nat → Nat) (σ : kb_S) (sh : Value) (ex : va_W) {r : Int32} (hf : fn_X3_place x1 σ = some r) : kb_T l yX3_place cX3_place 2 (some .int) ({ frames := 1, cells := 0, slots := 0, locals := 21 } : Room) V A [.ref (a 5), .int x1] (kb_W V a σ sh ex) (some (.int r)) (kb_W V a σ sh ex) 0 0 := by
  refine kb_start (cc := cX3_place) (nL := 2) (ret := (some .int)) (own := RX3) (by decide) rfl (Nat.le_of_ble_eq_true rfl) ?_
  intro p e s m args below meth c C
  refine kj_sub [0, 1] (L2 := [(0, .ref (a 5)), (1, .int x1)]) rfl ?_
  rw [fe_X3_place] at hf
  refine kj_aload_n (pc := 0) C 0 dX3_place_0 rfl rfl ?_
  refine kj_iload_n (pc := 1) C 1 dX3_place_1 rfl rfl ?_
  refine kj_callV0 (pc := 2) (as := [.int x1]) (rest := []) (b := (a 5)) C (ct_X3_has l V A x1 a σ sh ex rfl) wd_X3_has wk_X3_36 wi_X3_has ws_X3_has wz_X3 rfl rfl hd_X3_has ⟨by decide, by decide⟩ 5 rfl rfl rfl rfl (Nat.le_of_ble_eq_true rfl) (by decide) dX3_place_2 ?_
  refine kj_if_eq (pc := 5) 17 C dX3_place_5 (by decide) (fun c1 => ?_) (fun c1 => ?_)
  · have hf := kb_ift hf c1
    refine kj_iconst (pc := 17) (v := (0 : Int32)) C dX3_place_17 (by decide) ?_
    cases hf
    exact kj_iret (pc := 18) C dX3_place_18
  · have hf := kb_ife hf c1
    refine kj_aload_n (pc := 8) C 0 dX3_place_8 rfl rfl ?_
    refine kg_X3_places (pc := 9) C wf_X3_15 dX3_place_9 ?_
    refine kj_iload_n (pc := 12) C 1 dX3_place_12 rfl rfl ?_
    obtain ⟨g2, hf⟩ := kb_gd hf
    refine ka_X3_places (pc := 13) (v := (kb_a σ 8 x1.toNatClampNeg)) C g2 dX3_place_13 rfl ?_
    refine kj_goto (pc := 14) 18 C dX3_place_14 (by decide) ?_
    cases hf
    exact kj_iret (pc := 18) C dX3_place_18
def fn_X3_takes (x1 : Int32) (σ : kb_S) : Option (Int64) :=
  if (fn_X3_has x1 σ) = 0 then
    some (0 : Int64)
  else
    if kb_in x1 200 = true then
      some (kb_b σ 2 x1.toNatClampNeg)
    else none
theorem fe_X3_takes (x1 : Int32) (σ : kb_S) : fn_X3_takes x1 σ =
  if (fn_X3_has x1 σ) = 0 then
    some (0 : Int64)
  else
    if kb_in x1 200 = true then
      some (kb_b σ 2 x1.toNatClampNeg)
    else none := rfl
theorem hd_X3_takes : yX3_takes.cls = RX3 ∧ yX3_takes.cls ≠ "java/lang/invoke/MethodHandle" ∧ yX3_takes.cls ≠ "java/lang/invoke/VarHandle" ∧ (parseMethodDescriptor yX3_takes.desc).map (fun d => d.parameters.length) = some 1 := by decide +kernel
set_option maxRecDepth 100000 in
set_option maxHeartbeats 4000000 in
theorem ct_X3_takes (l : Launch) (V : kb_V) (A : Nat → Prop) (x1 : Int32) (a : Nat → Nat) (σ : kb_S) (sh : Value) (ex : va_W) {r : Int64} (hf : fn_X3_takes x1 σ = some r) : kb_T l yX3_takes cX3_takes 2 (some .long) ({ frames := 1, cells := 0, slots := 0, locals := 21 } : Room) V A [.ref (a 5), .int x1] (kb_W V a σ sh ex) (some (.long r)) (kb_W V a σ sh ex) 0 0 := by
  refine kb_start (cc := cX3_takes) (nL := 2) (ret := (some .long)) (own := RX3) (by decide) rfl (Nat.le_of_ble_eq_true rfl) ?_
  intro p e s m args below meth c C
  refine kj_sub [0, 1] (L2 := [(0, .ref (a 5)), (1, .int x1)]) rfl ?_
  rw [fe_X3_takes] at hf
  refine kj_aload_n (pc := 0) C 0 dX3_takes_0 rfl rfl ?_
  refine kj_iload_n (pc := 1) C 1 dX3_takes_1 rfl rfl ?_
  refine kj_callV0 (pc := 2) (as := [.int x1]) (rest := []) (b := (a 5)) C (ct_X3_has l V A x1 a σ sh ex rfl) wd_X3_has wk_X3_36 wi_X3_has ws_X3_has wz_X3 rfl rfl hd_X3_has ⟨by decide, by decide⟩ 5 rfl rfl rfl rfl (Nat.le_of_ble_eq_true rfl) (by decide) dX3_takes_2 ?_
  refine kj_if_eq (pc := 5) 17 C dX3_takes_5 (by decide) (fun c1 => ?_) (fun c1 => ?_)
  · have hf := kb_ift hf c1
    refine kj_lconst (pc := 17) (v := (0 : Int64)) C dX3_takes_17 (by decide) ?_
    cases hf
    exact kj_lret (pc := 18) C dX3_takes_18
  · have hf := kb_ife hf c1
    refine kj_aload_n (pc := 8) C 0 dX3_takes_8 rfl rfl ?_
    refine kg_X3_takes (pc := 9) C wf_X3_24 dX3_takes_9 ?_
    refine kj_iload_n (pc := 12) C 1 dX3_takes_12 rfl rfl ?_
    obtain ⟨g2, hf⟩ := kb_gd hf
    refine ka_X3_takes (pc := 13) (v := (kb_b σ 2 x1.toNatClampNeg)) C g2 dX3_takes_13 rfl ?_
    refine kj_goto (pc := 14) 18 C dX3_takes_14 (by decide) ?_
    cases hf
    exact kj_lret (pc := 18) C dX3_takes_18
def fn_X6_cable (x0 : Int32) (x1 : Int32) (x2 : Int32)  : Int32 :=
  ((((100 : Int32) * x0) + ((10 : Int32) * x1)) + x2)
theorem fe_X6_cable (x0 : Int32) (x1 : Int32) (x2 : Int32)  : fn_X6_cable x0 x1 x2  =
  ((((100 : Int32) * x0) + ((10 : Int32) * x1)) + x2) := rfl
theorem hd_X6_cable : yX6_cable.cls ≠ "java/lang/invoke/MethodHandle" ∧ yX6_cable.cls ≠ "java/lang/invoke/VarHandle" ∧ (parseMethodDescriptor yX6_cable.desc).map (fun d => d.parameters.length) = some 3 := by decide +kernel
set_option maxRecDepth 100000 in
set_option maxHeartbeats 4000000 in
theorem ct_X6_cable (l : Launch) (V : kb_V) (A : Nat → Prop) (x0 : Int32) (x1 : Int32) (x2 : Int32) (ws : va_W) {r : Int32} (hf : fn_X6_cable x0 x1 x2  = r) : kb_T l yX6_cable cX6_cable 3 (some .int) ({ frames := 0, cells := 0, slots := 0, locals := 0 } : Room) V A [.int x0, .int x1, .int x2] ws (some (.int r)) ws 0 0 := by
  refine kb_start (cc := cX6_cable) (nL := 3) (ret := (some .int)) (own := RX6) (by decide) rfl (Nat.le_of_ble_eq_true rfl) ?_
  intro p e s m args below meth c C
  refine kj_sub [0, 1, 2] (L2 := [(0, .int x0), (1, .int x1), (2, .int x2)]) rfl ?_
  rw [fe_X6_cable] at hf
  refine kj_bipush (pc := 0) (v := (100 : Int32)) C dX6_cable_0 (by decide) ?_
  refine kj_iload_n (pc := 2) C 0 dX6_cable_2 rfl rfl ?_
  refine kj_imul (pc := 3) C dX6_cable_3 ?_
  refine kj_bipush (pc := 4) (v := (10 : Int32)) C dX6_cable_4 (by decide) ?_
  refine kj_iload_n (pc := 6) C 1 dX6_cable_6 rfl rfl ?_
  refine kj_imul (pc := 7) C dX6_cable_7 ?_
  refine kj_iadd (pc := 8) C dX6_cable_8 ?_
  refine kj_iload_n (pc := 9) C 2 dX6_cable_9 rfl rfl ?_
  refine kj_iadd (pc := 10) C dX6_cable_10 ?_
  subst hf
  exact kj_iret (pc := 11) C dX6_cable_11
def fn_X6_isBehind (x0 : Int32)  : Int32 :=
  if (x0 - x0 / (10 : Int32) * (10 : Int32)) = (1 : Int32) then
    (1 : Int32)
  else
    (0 : Int32)
theorem fe_X6_isBehind (x0 : Int32)  : fn_X6_isBehind x0  =
  if (x0 - x0 / (10 : Int32) * (10 : Int32)) = (1 : Int32) then
    (1 : Int32)
  else
    (0 : Int32) := rfl
theorem hd_X6_isBehind : yX6_isBehind.cls ≠ "java/lang/invoke/MethodHandle" ∧ yX6_isBehind.cls ≠ "java/lang/invoke/VarHandle" ∧ (parseMethodDescriptor yX6_isBehind.desc).map (fun d => d.parameters.length) = some 1 := by decide +kernel
set_option maxRecDepth 100000 in
set_option maxHeartbeats 4000000 in
theorem ct_X6_isBehind (l : Launch) (V : kb_V) (A : Nat → Prop) (x0 : Int32) (ws : va_W) {r : Int32} (hf : fn_X6_isBehind x0  = r) : kb_T l yX6_isBehind cX6_isBehind 1 (some .boolean) ({ frames := 0, cells := 0, slots := 0, locals := 0 } : Room) V A [.int x0] ws (some (.int r)) ws 0 0 := by
  refine kb_start (cc := cX6_isBehind) (nL := 1) (ret := (some .boolean)) (own := RX6) (by decide) rfl (Nat.le_of_ble_eq_true rfl) ?_
  intro p e s m args below meth c C
  refine kj_sub [0] (L2 := [(0, .int x0)]) rfl ?_
  rw [fe_X6_isBehind] at hf
  refine kj_iload_n (pc := 0) C 0 dX6_isBehind_0 rfl rfl ?_
  refine kj_bipush (pc := 1) (v := (10 : Int32)) C dX6_isBehind_1 (by decide) ?_
  refine kj_irem (pc := 3) C dX6_isBehind_3 (by decide) ?_
  refine kj_iconst (pc := 4) (v := (1 : Int32)) C dX6_isBehind_4 (by decide) ?_
  refine kj_icmp_ne (pc := 5) 12 C dX6_isBehind_5 (by decide) (fun c1 => ?_) (fun c1 => ?_)
  · have hf := kb_ife hf c1
    refine kj_iconst (pc := 12) (v := (0 : Int32)) C dX6_isBehind_12 (by decide) ?_
    subst hf
    exact kj_zret (pc := 13) C (by decide) dX6_isBehind_13
  · have hf := kb_ift hf c1
    refine kj_iconst (pc := 8) (v := (1 : Int32)) C dX6_isBehind_8 (by decide) ?_
    refine kj_goto (pc := 9) 13 C dX6_isBehind_9 (by decide) ?_
    subst hf
    exact kj_zret (pc := 13) C (by decide) dX6_isBehind_13
def fn_X7_length  (σ : kb_S) : Int32 :=
  (kb_g σ 0)
theorem fe_X7_length  (σ : kb_S) : fn_X7_length  σ =
  (kb_g σ 0) := rfl
theorem hd_X7_length : yX7_length.cls = RX7 ∧ yX7_length.cls ≠ "java/lang/invoke/MethodHandle" ∧ yX7_length.cls ≠ "java/lang/invoke/VarHandle" ∧ (parseMethodDescriptor yX7_length.desc).map (fun d => d.parameters.length) = some 0 := by decide +kernel
set_option maxRecDepth 100000 in
set_option maxHeartbeats 4000000 in
theorem ct_X7_length (l : Launch) (V : kb_V) (A : Nat → Prop)  (a : Nat → Nat) (σ : kb_S) (sh : Value) (ex : va_W) {r : Int32} (hf : fn_X7_length  σ = r) : kb_T l yX7_length cX7_length 1 (some .int) ({ frames := 0, cells := 0, slots := 0, locals := 0 } : Room) V A [.ref (a 1)] (kb_W V a σ sh ex) (some (.int r)) (kb_W V a σ sh ex) 0 0 := by
  refine kb_start (cc := cX7_length) (nL := 1) (ret := (some .int)) (own := RX7) (by decide) rfl (Nat.le_of_ble_eq_true rfl) ?_
  intro p e s m args below meth c C
  refine kj_sub [0] (L2 := [(0, .ref (a 1))]) rfl ?_
  rw [fe_X7_length] at hf
  refine kj_aload_n (pc := 0) C 0 dX7_length_0 rfl rfl ?_
  refine kg_X7_length (pc := 1) (v := (kb_g σ 0)) C wf_X7_13 dX7_length_1 rfl ?_
  subst hf
  exact kj_iret (pc := 4) C dX7_length_4
def fn_X7_hasRoomFor (x1 : Int32) (σ : kb_S) : Int32 :=
  if ((200 : Int32) - (kb_g σ 0)) < x1 then
    (0 : Int32)
  else
    (1 : Int32)
theorem fe_X7_hasRoomFor (x1 : Int32) (σ : kb_S) : fn_X7_hasRoomFor x1 σ =
  if ((200 : Int32) - (kb_g σ 0)) < x1 then
    (0 : Int32)
  else
    (1 : Int32) := rfl
theorem hd_X7_hasRoomFor : yX7_hasRoomFor.cls = RX7 ∧ yX7_hasRoomFor.cls ≠ "java/lang/invoke/MethodHandle" ∧ yX7_hasRoomFor.cls ≠ "java/lang/invoke/VarHandle" ∧ (parseMethodDescriptor yX7_hasRoomFor.desc).map (fun d => d.parameters.length) = some 1 := by decide +kernel
set_option maxRecDepth 100000 in
set_option maxHeartbeats 4000000 in
theorem ct_X7_hasRoomFor (l : Launch) (V : kb_V) (A : Nat → Prop) (x1 : Int32) (a : Nat → Nat) (σ : kb_S) (sh : Value) (ex : va_W) {r : Int32} (hf : fn_X7_hasRoomFor x1 σ = r) : kb_T l yX7_hasRoomFor cX7_hasRoomFor 2 (some .boolean) ({ frames := 0, cells := 0, slots := 0, locals := 0 } : Room) V A [.ref (a 1), .int x1] (kb_W V a σ sh ex) (some (.int r)) (kb_W V a σ sh ex) 0 0 := by
  refine kb_start (cc := cX7_hasRoomFor) (nL := 2) (ret := (some .boolean)) (own := RX7) (by decide) rfl (Nat.le_of_ble_eq_true rfl) ?_
  intro p e s m args below meth c C
  refine kj_sub [0, 1] (L2 := [(0, .ref (a 1)), (1, .int x1)]) rfl ?_
  rw [fe_X7_hasRoomFor] at hf
  refine kj_iload_n (pc := 0) C 1 dX7_hasRoomFor_0 rfl rfl ?_
  refine kj_sipush (pc := 1) (v := (200 : Int32)) C dX7_hasRoomFor_1 (by decide) ?_
  refine kj_aload_n (pc := 4) C 0 dX7_hasRoomFor_4 rfl rfl ?_
  refine kg_X7_length (pc := 5) (v := (kb_g σ 0)) C wf_X7_13 dX7_hasRoomFor_5 rfl ?_
  refine kj_isub (pc := 8) C dX7_hasRoomFor_8 ?_
  refine kj_icmp_gt (pc := 9) 16 C dX7_hasRoomFor_9 (by decide) (fun c1 => ?_) (fun c1 => ?_)
  · have hf := kb_ift hf c1
    refine kj_iconst (pc := 16) (v := (0 : Int32)) C dX7_hasRoomFor_16 (by decide) ?_
    subst hf
    exact kj_zret (pc := 17) C (by decide) dX7_hasRoomFor_17
  · have hf := kb_ife hf c1
    refine kj_iconst (pc := 12) (v := (1 : Int32)) C dX7_hasRoomFor_12 (by decide) ?_
    refine kj_goto (pc := 13) 17 C dX7_hasRoomFor_13 (by decide) ?_
    subst hf
    exact kj_zret (pc := 17) C (by decide) dX7_hasRoomFor_17
def fp_X7_add_5  : Nat → Int64 → Int32 → kb_S → Option (kb_S)
  | 0 => fun _ _ _ => none
  | nn + 1 => fun x1 x4 σ => 
  if x4 < 0 then
    some σ
  else
    if (200 : Int32) ≤ (kb_g σ 0) then
      some σ
    else
      if kb_in (kb_g σ 0) 200 = true then
        (fp_X7_add_5  nn) x1 (x4 + (-1 : Int32)) (kb_p (kb_ap σ 0 (kb_g σ 0).toNatClampNeg ((((x1.toUInt64 >>> (((8 : Int32) * x4).toInt64.toUInt64 &&& Int64.toUInt64 63)).toInt64).toInt32) &&& (255 : Int32))) 0 ((kb_g σ 0) + (1 : Int32)))
      else none
theorem fp_X7_add_5_s  (nn : Nat) (x1 : Int64) (x4 : Int32) (σ : kb_S) : fp_X7_add_5  (nn + 1) x1 x4 σ =
  if x4 < 0 then
    some σ
  else
    if (200 : Int32) ≤ (kb_g σ 0) then
      some σ
    else
      if kb_in (kb_g σ 0) 200 = true then
        (fp_X7_add_5  nn) x1 (x4 + (-1 : Int32)) (kb_p (kb_ap σ 0 (kb_g σ 0).toNatClampNeg ((((x1.toUInt64 >>> (((8 : Int32) * x4).toInt64.toUInt64 &&& Int64.toUInt64 63)).toInt64).toInt32) &&& (255 : Int32))) 0 ((kb_g σ 0) + (1 : Int32)))
      else none := rfl
def fn_X7_add (x1 : Int64) (x3 : Int32) (σ : kb_S) : Option (kb_S) :=
  fp_X7_add_5  kb_FU x1 (x3 - (1 : Int32)) σ
theorem fe_X7_add (x1 : Int64) (x3 : Int32) (σ : kb_S) : fn_X7_add x1 x3 σ =
  fp_X7_add_5  kb_FU x1 (x3 - (1 : Int32)) σ := rfl
theorem hd_X7_add : yX7_add.cls = RX7 ∧ yX7_add.cls ≠ "java/lang/invoke/MethodHandle" ∧ yX7_add.cls ≠ "java/lang/invoke/VarHandle" ∧ (parseMethodDescriptor yX7_add.desc).map (fun d => d.parameters.length) = some 2 := by decide +kernel
set_option maxRecDepth 100000 in
set_option maxHeartbeats 4000000 in
theorem ct_X7_add (l : Launch) (V : kb_V) (A : Nat → Prop) (x1 : Int64) (x3 : Int32) (a : Nat → Nat) (σ : kb_S) (sh : Value) (ex : va_W) {σ9 : kb_S} (hf : fn_X7_add x1 x3 σ = some σ9) : kb_T l yX7_add cX7_add 5 none ({ frames := 0, cells := 0, slots := 0, locals := 0 } : Room) V A [.ref (a 1), .long x1, .int x3] (kb_W V a σ sh ex) none (kb_W V a σ9 sh ex) 0 0 := by
  refine kb_start (cc := cX7_add) (nL := 5) (ret := none) (own := RX7) (by decide) rfl (Nat.le_of_ble_eq_true rfl) ?_
  intro p e s m args below meth c C
  have hp5 : ∀ (nn : Nat) (x1 : Int64) (x4 : Int32) (σ : kb_S), fp_X7_add_5  nn x1 x4 σ = some σ9 → kb_J p l e ({ frames := 0, cells := 0, slots := 0, locals := 0 } : Room) s m args below meth c 5 V A 0 0 (MQ below (kb_post V A none (kb_W V a σ9 sh ex)) args s 0 0 A) 5 [(0, .ref (a 1)), (1, .long x1), (4, .int x4)] [] (kb_W V a σ sh ex) := by
    intro nn5
    induction nn5 with
    | zero => intro x1 x4 σ hf; exact kb_no hf
    | succ nn5 ih5 =>
      intro x1 x4 σ hf
      rw [fp_X7_add_5_s] at hf
      refine kj_iload (pc := 5) C 2 dX7_add_5 rfl ?_
      refine kj_if_lt (pc := 7) 57 C dX7_add_7 (by decide) (fun c1 => ?_) (fun c1 => ?_)
      · have hf := kb_ift hf c1
        cases hf
        exact kj_vret (pc := 57) C dX7_add_57
      · have hf := kb_ife hf c1
        refine kj_aload_n (pc := 10) C 0 dX7_add_10 rfl rfl ?_
        refine kg_X7_length (pc := 11) (v := (kb_g σ 0)) C wf_X7_13 dX7_add_11 rfl ?_
        refine kj_sipush (pc := 14) (v := (200 : Int32)) C dX7_add_14 (by decide) ?_
        refine kj_icmp_ge (pc := 17) 57 C dX7_add_17 (by decide) (fun c2 => ?_) (fun c2 => ?_)
        · have hf := kb_ift hf c2
          cases hf
          exact kj_vret (pc := 57) C dX7_add_57
        · have hf := kb_ife hf c2
          refine kj_aload_n (pc := 20) C 0 dX7_add_20 rfl rfl ?_
          refine kg_X7_bytes (pc := 21) C wf_X7_9 dX7_add_21 ?_
          refine kj_aload_n (pc := 24) C 0 dX7_add_24 rfl rfl ?_
          refine kg_X7_length (pc := 25) (v := (kb_g σ 0)) C wf_X7_13 dX7_add_25 rfl ?_
          refine kj_lload_n (pc := 28) C 1 dX7_add_28 rfl rfl ?_
          refine kj_bipush (pc := 29) (v := (8 : Int32)) C dX7_add_29 (by decide) ?_
          refine kj_iload (pc := 31) C 2 dX7_add_31 rfl ?_
          refine kj_imul (pc := 33) C dX7_add_33 ?_
          refine kj_lushr (pc := 34) C dX7_add_34 ?_
          refine kj_l2i (pc := 35) C dX7_add_35 ?_
          refine kj_sipush (pc := 36) (v := (255 : Int32)) C dX7_add_36 (by decide) ?_
          refine kj_iand (pc := 39) C dX7_add_39 ?_
          obtain ⟨g3, hf⟩ := kb_gd hf
          refine ks_X7_bytes (pc := 40) C g3 dX7_add_40 ?_
          refine kj_aload_n (pc := 41) C 0 dX7_add_41 rfl rfl ?_
          refine kj_dup (pc := 42) C dX7_add_42 rfl ?_
          refine kg_X7_length (pc := 43) (v := (kb_g σ 0)) C wf_X7_13 dX7_add_43 rfl ?_
          refine kj_iconst (pc := 46) (v := (1 : Int32)) C dX7_add_46 (by decide) ?_
          refine kj_iadd (pc := 47) C dX7_add_47 ?_
          refine kp_X7_length (pc := 48) C wf_X7_13 dX7_add_48 ?_
          refine kj_iinc (pc := 51) C 2 [1, 2, 0] (L2 := [(0, .ref (a 1)), (1, .long x1), (4, .int (x4 + (-1 : Int32)))]) dX7_add_51 rfl rfl (by decide) rfl ?_
          refine kj_goto (pc := 54) 5 C dX7_add_54 (by decide) ?_
          exact ih5 x1 (x4 + (-1 : Int32)) (kb_p (kb_ap σ 0 (kb_g σ 0).toNatClampNeg ((((x1.toUInt64 >>> (((8 : Int32) * x4).toInt64.toUInt64 &&& Int64.toUInt64 63)).toInt64).toInt32) &&& (255 : Int32))) 0 ((kb_g σ 0) + (1 : Int32))) hf
  refine kj_sub [0, 1, 2] (L2 := [(0, .ref (a 1)), (1, .long x1), (3, .int x3)]) rfl ?_
  rw [fe_X7_add] at hf
  refine kj_iload_n (pc := 0) C 2 dX7_add_0 rfl rfl ?_
  refine kj_iconst (pc := 1) (v := (1 : Int32)) C dX7_add_1 (by decide) ?_
  refine kj_isub (pc := 2) C dX7_add_2 ?_
  refine kj_istore (pc := 3) C [1, 2, 3, 0] (L2 := [(0, .ref (a 1)), (1, .long x1), (3, .int x3), (4, .int (x3 - (1 : Int32)))]) dX7_add_3 (by decide) rfl ?_
  refine kj_sub [0, 1, 3] (L2 := [(0, .ref (a 1)), (1, .long x1), (4, .int (x3 - (1 : Int32)))]) rfl ?_
  exact hp5 kb_FU x1 (x3 - (1 : Int32)) σ hf
def fn_X7_clear  (σ : kb_S) : Option (kb_S) :=
  some (kb_p σ 0 (0 : Int32))
theorem fe_X7_clear  (σ : kb_S) : fn_X7_clear  σ =
  some (kb_p σ 0 (0 : Int32)) := rfl
theorem hd_X7_clear : yX7_clear.cls = RX7 ∧ yX7_clear.cls ≠ "java/lang/invoke/MethodHandle" ∧ yX7_clear.cls ≠ "java/lang/invoke/VarHandle" ∧ (parseMethodDescriptor yX7_clear.desc).map (fun d => d.parameters.length) = some 0 := by decide +kernel
set_option maxRecDepth 100000 in
set_option maxHeartbeats 4000000 in
theorem ct_X7_clear (l : Launch) (V : kb_V) (A : Nat → Prop)  (a : Nat → Nat) (σ : kb_S) (sh : Value) (ex : va_W) {σ9 : kb_S} (hf : fn_X7_clear  σ = some σ9) : kb_T l yX7_clear cX7_clear 1 none ({ frames := 0, cells := 0, slots := 0, locals := 0 } : Room) V A [.ref (a 1)] (kb_W V a σ sh ex) none (kb_W V a σ9 sh ex) 0 0 := by
  refine kb_start (cc := cX7_clear) (nL := 1) (ret := none) (own := RX7) (by decide) rfl (Nat.le_of_ble_eq_true rfl) ?_
  intro p e s m args below meth c C
  refine kj_sub [0] (L2 := [(0, .ref (a 1))]) rfl ?_
  rw [fe_X7_clear] at hf
  refine kj_aload_n (pc := 0) C 0 dX7_clear_0 rfl rfl ?_
  refine kj_iconst (pc := 1) (v := (0 : Int32)) C dX7_clear_1 (by decide) ?_
  refine kp_X7_length (pc := 2) C wf_X7_13 dX7_clear_2 ?_
  cases hf
  exact kj_vret (pc := 5) C dX7_clear_5
def fn_X7_byteAt (x1 : Int32) (σ : kb_S) : Option (Int32) :=
  if x1 < 0 then
    some (-1 : Int32)
  else
    if (kb_g σ 0) ≤ x1 then
      some (-1 : Int32)
    else
      if kb_in x1 200 = true then
        some (kb_a σ 0 x1.toNatClampNeg)
      else none
theorem fe_X7_byteAt (x1 : Int32) (σ : kb_S) : fn_X7_byteAt x1 σ =
  if x1 < 0 then
    some (-1 : Int32)
  else
    if (kb_g σ 0) ≤ x1 then
      some (-1 : Int32)
    else
      if kb_in x1 200 = true then
        some (kb_a σ 0 x1.toNatClampNeg)
      else none := rfl
theorem hd_X7_byteAt : yX7_byteAt.cls = RX7 ∧ yX7_byteAt.cls ≠ "java/lang/invoke/MethodHandle" ∧ yX7_byteAt.cls ≠ "java/lang/invoke/VarHandle" ∧ (parseMethodDescriptor yX7_byteAt.desc).map (fun d => d.parameters.length) = some 1 := by decide +kernel
set_option maxRecDepth 100000 in
set_option maxHeartbeats 4000000 in
theorem ct_X7_byteAt (l : Launch) (V : kb_V) (A : Nat → Prop) (x1 : Int32) (a : Nat → Nat) (σ : kb_S) (sh : Value) (ex : va_W) {r : Int32} (hf : fn_X7_byteAt x1 σ = some r) : kb_T l yX7_byteAt cX7_byteAt 2 (some .int) ({ frames := 0, cells := 0, slots := 0, locals := 0 } : Room) V A [.ref (a 1), .int x1] (kb_W V a σ sh ex) (some (.int r)) (kb_W V a σ sh ex) 0 0 := by
  refine kb_start (cc := cX7_byteAt) (nL := 2) (ret := (some .int)) (own := RX7) (by decide) rfl (Nat.le_of_ble_eq_true rfl) ?_
  intro p e s m args below meth c C
  refine kj_sub [0, 1] (L2 := [(0, .ref (a 1)), (1, .int x1)]) rfl ?_
  rw [fe_X7_byteAt] at hf
  refine kj_iload_n (pc := 0) C 1 dX7_byteAt_0 rfl rfl ?_
  refine kj_if_lt (pc := 1) 21 C dX7_byteAt_1 (by decide) (fun c1 => ?_) (fun c1 => ?_)
  · have hf := kb_ift hf c1
    refine kj_iconst (pc := 21) (v := (-1 : Int32)) C dX7_byteAt_21 (by decide) ?_
    cases hf
    exact kj_iret (pc := 22) C dX7_byteAt_22
  · have hf := kb_ife hf c1
    refine kj_iload_n (pc := 4) C 1 dX7_byteAt_4 rfl rfl ?_
    refine kj_aload_n (pc := 5) C 0 dX7_byteAt_5 rfl rfl ?_
    refine kg_X7_length (pc := 6) (v := (kb_g σ 0)) C wf_X7_13 dX7_byteAt_6 rfl ?_
    refine kj_icmp_ge (pc := 9) 21 C dX7_byteAt_9 (by decide) (fun c2 => ?_) (fun c2 => ?_)
    · have hf := kb_ift hf c2
      refine kj_iconst (pc := 21) (v := (-1 : Int32)) C dX7_byteAt_21 (by decide) ?_
      cases hf
      exact kj_iret (pc := 22) C dX7_byteAt_22
    · have hf := kb_ife hf c2
      refine kj_aload_n (pc := 12) C 0 dX7_byteAt_12 rfl rfl ?_
      refine kg_X7_bytes (pc := 13) C wf_X7_9 dX7_byteAt_13 ?_
      refine kj_iload_n (pc := 16) C 1 dX7_byteAt_16 rfl rfl ?_
      obtain ⟨g3, hf⟩ := kb_gd hf
      refine ka_X7_bytes (pc := 17) (v := (kb_a σ 0 x1.toNatClampNeg)) C g3 dX7_byteAt_17 rfl ?_
      refine kj_goto (pc := 18) 22 C dX7_byteAt_18 (by decide) ?_
      cases hf
      exact kj_iret (pc := 22) C dX7_byteAt_22
end
