/-- the tables' words that stay good, for every method -/
def kb_TB : List Cond := lw_tbl.filter goodWord
theorem kb_mf {w : Cond} (h : w ∈ lw_tbl) (g : goodWord w = true) : w ∈ kb_TB := List.mem_filter.mpr ⟨h, g⟩
theorem kb_mt {w : Cond} (h : w ∈ tables_1) (g : goodWord w = true) : w ∈ kb_TB := kb_mf (List.mem_append_right _ h) g
theorem kb_m0 {w : Cond} (h : w ∈ k2_sels lw_privs) (g : goodWord w = true) : w ∈ kb_TB := kb_mf (List.mem_append_left _ h) g
theorem kb_m1 {w : Cond} (h : w ∈ tables_1_1) (g : goodWord w = true) : w ∈ kb_TB := kb_mt (List.mem_append_left _ h) g
theorem kb_m2 {w : Cond} (h : w ∈ tables_1_2) (g : goodWord w = true) : w ∈ kb_TB := kb_mt (List.mem_append_right _ (List.mem_append_left _ h)) g
theorem kb_m3 {w : Cond} (h : w ∈ tables_1_3) (g : goodWord w = true) : w ∈ kb_TB := kb_mt (List.mem_append_right _ (List.mem_append_right _ (List.mem_append_left _ h))) g
theorem kb_m4 {w : Cond} (h : w ∈ tables_1_4) (g : goodWord w = true) : w ∈ kb_TB := kb_mt (List.mem_append_right _ (List.mem_append_right _ (List.mem_append_right _ (List.mem_append_left _ h)))) g
theorem kb_m5 {w : Cond} (h : w ∈ tables_1_5) (g : goodWord w = true) : w ∈ kb_TB := kb_mt (List.mem_append_right _ (List.mem_append_right _ (List.mem_append_right _ (List.mem_append_right _ (List.mem_append_left _ h))))) g
theorem kb_m6 {w : Cond} (h : w ∈ tables_1_6) (g : goodWord w = true) : w ∈ kb_TB := kb_mt (List.mem_append_right _ (List.mem_append_right _ (List.mem_append_right _ (List.mem_append_right _ (List.mem_append_right _ h))))) g
theorem kb_gw {w : Cond} (h : w ∈ kb_TB) : goodWord w = true := (List.mem_filter.mp h).2
/-- a method's words: its code, and all the tables' -/
theorem kb_good {w0 w1 : Cond} {ws : List Cond} (h1 : w1 ∈ kb_TB) (h : ∀ w ∈ ws, w ∈ kb_TB) : GoodIn (w0 :: kb_TB) (ws ++ w1 :: kb_TB) := by
  intro w hw
  have h2 : w ∈ kb_TB := by
    rcases List.mem_append.mp hw with q | q
    · exact h w q
    · rcases List.mem_cons.mp q with rfl | q
      · exact h1
      · exact q
  exact ⟨List.mem_cons_of_mem _ h2, good_of_word (kb_gw h2)⟩
theorem kb_gV {w0 : Cond} {own C : String} {idx maxL : Nat} {y : MethodName} {bytes : ByteArray} {ret : Option FieldType} (h1 : Cond.code y bytes maxL ret ∈ kb_TB) (h2 : Cond.methodLink own idx y ∈ kb_TB) (h3 : Cond.instanceMethod y ∈ kb_TB) (h4 : Cond.selects C y y ∈ kb_TB) (h5 : Cond.initialized C ∈ kb_TB) : GoodIn (w0 :: kb_TB) (wsV own idx C y (Cond.code y bytes maxL ret :: kb_TB)) := by
  refine kb_good h1 (fun w hw => ?_)
  simp only [List.mem_cons, List.not_mem_nil, or_false] at hw
  rcases hw with rfl | rfl | rfl | rfl
  · exact h2
  · exact h3
  · exact h4
  · exact h5
theorem kb_gS {w0 : Cond} {own : String} {idx maxL : Nat} {y : MethodName} {bytes : ByteArray} {ret : Option FieldType} (h1 : Cond.code y bytes maxL ret ∈ kb_TB) (h2 : Cond.methodLink own idx y ∈ kb_TB) (h3 : Cond.static y ∈ kb_TB) (h5 : Cond.initialized y.cls ∈ kb_TB) : GoodIn (w0 :: kb_TB) (va_wsS own idx y (Cond.code y bytes maxL ret :: kb_TB)) := by
  refine kb_good h1 (fun w hw => ?_)
  simp only [List.mem_cons, List.not_mem_nil, or_false] at hw
  rcases hw with rfl | rfl | rfl
  · exact h2
  · exact h3
  · exact h5
def RX0 : String := "KnitBench$Fabric"
def TX0 : u_T := fun k => match k with
  | 0 => ("KnitBench$Fabric", "firstLoops", "[I", true)
  | 1 => ("KnitBench$Fabric", "firstStitches", "[I", true)
  | 2 => ("KnitBench$Fabric", "stitches", "[I", true)
  | 3 => ("KnitBench$Fabric", "parentCounts", "[I", true)
  | 4 => ("KnitBench$Fabric", "firstParents", "[I", true)
  | 5 => ("KnitBench$Fabric", "round", "Z", false)
  | 6 => ("KnitBench$Fabric", "rowCount", "I", false)
  | 7 => ("KnitBench$Fabric", "needleCount", "I", false)
  | 8 => ("KnitBench$Fabric", "needleStart", "I", false)
  | 9 => ("KnitBench$Fabric", "needleStep", "I", false)
  | 10 => ("KnitBench$Fabric", "taken", "I", false)
  | 11 => ("KnitBench$Fabric", "loopEnd", "I", false)
  | _ => ("KnitBench$Fabric", "stitchEnd", "I", false)
def tyX0 : Nat → FieldType := fun k => match k with
  | 0 => .array .int
  | 1 => .array .int
  | 2 => .array .int
  | 3 => .array .int
  | 4 => .array .int
  | 5 => .boolean
  | 6 => .int
  | 7 => .int
  | 8 => .int
  | 9 => .int
  | 10 => .int
  | 11 => .int
  | _ => .int
theorem nmX0 : ∀ a, a < 13 → ∀ b, b < 13 → a ≠ b → (TX0 a).2.1 ≠ (TX0 b).2.1 := by decide +kernel
theorem tyX0_ok : ∀ k, k < 13 → parseFieldDescriptor (TX0 k).2.2.1 = some (tyX0 k) := by decide +kernel
abbrev cX0_init : ByteArray := prog_2_method_1_code
def yX0_init : MethodName := ⟨RX0, "<init>", "()V"⟩
abbrev cX0_castOn : ByteArray := prog_2_method_2_code
def yX0_castOn : MethodName := ⟨RX0, "castOn", "(IZ)V"⟩
abbrev cX0_rowCount : ByteArray := prog_2_method_3_code
def yX0_rowCount : MethodName := ⟨RX0, "rowCount", "()I"⟩
abbrev cX0_takeBack : ByteArray := prog_2_method_4_code
def yX0_takeBack : MethodName := ⟨RX0, "takeBack", "(I)V"⟩
abbrev cX0_fillNeedle : ByteArray := prog_2_method_5_code
def yX0_fillNeedle : MethodName := ⟨RX0, "fillNeedle", "()V"⟩
abbrev cX0_startRow : ByteArray := prog_2_method_6_code
def yX0_startRow : MethodName := ⟨RX0, "startRow", "()V"⟩
abbrev cX0_leftCount : ByteArray := prog_2_method_7_code
def yX0_leftCount : MethodName := ⟨RX0, "leftCount", "()I"⟩
abbrev cX0_madeSoFar : ByteArray := prog_2_method_8_code
def yX0_madeSoFar : MethodName := ⟨RX0, "madeSoFar", "()I"⟩
abbrev cX0_faultOfStitch : ByteArray := prog_2_method_9_code
def yX0_faultOfStitch : MethodName := ⟨RX0, "faultOfStitch", "(I)I"⟩
abbrev cX0_addStitch : ByteArray := prog_2_method_10_code
def yX0_addStitch : MethodName := ⟨RX0, "addStitch", "(I)V"⟩
abbrev cX0_makeCableLoops : ByteArray := prog_2_method_11_code
def yX0_makeCableLoops : MethodName := ⟨RX0, "makeCableLoops", "(II)V"⟩
abbrev cX0_makeLoop : ByteArray := prog_2_method_12_code
def yX0_makeLoop : MethodName := ⟨RX0, "makeLoop", "(II)V"⟩
abbrev cX0_faultOfRow : ByteArray := prog_2_method_13_code
def yX0_faultOfRow : MethodName := ⟨RX0, "faultOfRow", "()I"⟩
abbrev cX0_keepRow : ByteArray := prog_2_method_14_code
def yX0_keepRow : MethodName := ⟨RX0, "keepRow", "()V"⟩
abbrev cX0_loopCount : ByteArray := prog_2_method_15_code
def yX0_loopCount : MethodName := ⟨RX0, "loopCount", "()I"⟩
abbrev cX0_liveCount : ByteArray := prog_2_method_16_code
def yX0_liveCount : MethodName := ⟨RX0, "liveCount", "()I"⟩
abbrev cX0_hasRow : ByteArray := prog_2_method_17_code
def yX0_hasRow : MethodName := ⟨RX0, "hasRow", "(I)Z"⟩
abbrev cX0_hasLoop : ByteArray := prog_2_method_18_code
def yX0_hasLoop : MethodName := ⟨RX0, "hasLoop", "(I)Z"⟩
abbrev cX0_madeIn : ByteArray := prog_2_method_19_code
def yX0_madeIn : MethodName := ⟨RX0, "madeIn", "(I)I"⟩
abbrev cX0_needleLoop : ByteArray := prog_2_method_20_code
def yX0_needleLoop : MethodName := ⟨RX0, "needleLoop", "(I)I"⟩
abbrev cX0_bornIn : ByteArray := prog_2_method_21_code
def yX0_bornIn : MethodName := ⟨RX0, "bornIn", "(I)I"⟩
abbrev cX0_diedIn : ByteArray := prog_2_method_22_code
def yX0_diedIn : MethodName := ⟨RX0, "diedIn", "(I)I"⟩
abbrev cX0_parentCount : ByteArray := prog_2_method_23_code
def yX0_parentCount : MethodName := ⟨RX0, "parentCount", "(I)I"⟩
abbrev cX0_parent : ByteArray := prog_2_method_24_code
def yX0_parent : MethodName := ⟨RX0, "parent", "(II)I"⟩
abbrev cX0_ladderLength : ByteArray := prog_2_method_25_code
def yX0_ladderLength : MethodName := ⟨RX0, "ladderLength", "(I)I"⟩
abbrev cX0_stitchCount : ByteArray := prog_2_method_26_code
def yX0_stitchCount : MethodName := ⟨RX0, "stitchCount", "(I)I"⟩
abbrev cX0_stitchAt : ByteArray := prog_2_method_27_code
def yX0_stitchAt : MethodName := ⟨RX0, "stitchAt", "(II)I"⟩
abbrev cX0_stitchSeen : ByteArray := prog_2_method_28_code
def yX0_stitchSeen : MethodName := ⟨RX0, "stitchSeen", "(II)I"⟩
abbrev cX0_crossings : ByteArray := prog_2_method_29_code
def yX0_crossings : MethodName := ⟨RX0, "crossings", "(I)I"⟩
abbrev cX0_boundIn : ByteArray := prog_2_method_30_code
def yX0_boundIn : MethodName := ⟨RX0, "boundIn", "(II)I"⟩
def RX1 : String := "KnitBench$Fault"
def TX1 : u_T := fun k => match k with
  | _ => ("", "", "", false)
def tyX1 : Nat → FieldType := fun k => match k with
  | _ => .int
theorem nmX1 : ∀ a, a < 0 → ∀ b, b < 0 → a ≠ b → (TX1 a).2.1 ≠ (TX1 b).2.1 := by decide +kernel
theorem tyX1_ok : ∀ k, k < 0 → parseFieldDescriptor (TX1 k).2.2.1 = some (tyX1 k) := by decide +kernel
abbrev cX1_answer : ByteArray := prog_3_method_2_code
def yX1_answer : MethodName := ⟨RX1, "answer", "(II)I"⟩
def RX2 : String := "KnitBench$Knitter"
def TX2 : u_T := fun k => match k with
  | 0 => ("KnitBench$Knitter", "plan", "LKnitBench$Plan;", true)
  | 1 => ("KnitBench$Knitter", "fabric", "LKnitBench$Fabric;", true)
  | 2 => ("KnitBench$Knitter", "runsLeft", "[J", true)
  | 3 => ("KnitBench$Knitter", "depth", "I", false)
  | _ => ("KnitBench$Knitter", "fault", "I", false)
def tyX2 : Nat → FieldType := fun k => match k with
  | 0 => .object "KnitBench$Plan"
  | 1 => .object "KnitBench$Fabric"
  | 2 => .array .long
  | 3 => .int
  | _ => .int
theorem nmX2 : ∀ a, a < 5 → ∀ b, b < 5 → a ≠ b → (TX2 a).2.1 ≠ (TX2 b).2.1 := by decide +kernel
theorem tyX2_ok : ∀ k, k < 5 → parseFieldDescriptor (TX2 k).2.2.1 = some (tyX2 k) := by decide +kernel
abbrev cX2_init : ByteArray := prog_4_method_1_code
def yX2_init : MethodName := ⟨RX2, "<init>", "(LKnitBench$Plan;LKnitBench$Fabric;)V"⟩
abbrev cX2_knitPlan : ByteArray := prog_4_method_2_code
def yX2_knitPlan : MethodName := ⟨RX2, "knitPlan", "(I)I"⟩
abbrev cX2_note : ByteArray := prog_4_method_3_code
def yX2_note : MethodName := ⟨RX2, "note", "(II)V"⟩
abbrev cX2_knitStep : ByteArray := prog_4_method_4_code
def yX2_knitStep : MethodName := ⟨RX2, "knitStep", "(I)I"⟩
abbrev cX2_knitStitches : ByteArray := prog_4_method_5_code
def yX2_knitStitches : MethodName := ⟨RX2, "knitStitches", "(I)V"⟩
abbrev cX2_runsOfRepeat : ByteArray := prog_4_method_6_code
def yX2_runsOfRepeat : MethodName := ⟨RX2, "runsOfRepeat", "(I)J"⟩
abbrev cX2_enter : ByteArray := prog_4_method_7_code
def yX2_enter : MethodName := ⟨RX2, "enter", "(IJ)I"⟩
abbrev cX2_leave : ByteArray := prog_4_method_8_code
def yX2_leave : MethodName := ⟨RX2, "leave", "(I)I"⟩
def RX3 : String := "KnitBench$Plan"
def TX3 : u_T := fun k => match k with
  | 0 => ("KnitBench$Plan", "kinds", "[I", true)
  | 1 => ("KnitBench$Plan", "places", "[I", true)
  | 2 => ("KnitBench$Plan", "counts", "[I", true)
  | 3 => ("KnitBench$Plan", "links", "[I", true)
  | 4 => ("KnitBench$Plan", "takes", "[J", true)
  | _ => ("KnitBench$Plan", "size", "I", false)
def tyX3 : Nat → FieldType := fun k => match k with
  | 0 => .array .int
  | 1 => .array .int
  | 2 => .array .int
  | 3 => .array .int
  | 4 => .array .long
  | _ => .int
theorem nmX3 : ∀ a, a < 6 → ∀ b, b < 6 → a ≠ b → (TX3 a).2.1 ≠ (TX3 b).2.1 := by decide +kernel
theorem tyX3_ok : ∀ k, k < 6 → parseFieldDescriptor (TX3 k).2.2.1 = some (tyX3 k) := by decide +kernel
abbrev cX3_init : ByteArray := prog_5_method_1_code
def yX3_init : MethodName := ⟨RX3, "<init>", "()V"⟩
abbrev cX3_clear : ByteArray := prog_5_method_2_code
def yX3_clear : MethodName := ⟨RX3, "clear", "()V"⟩
abbrev cX3_size : ByteArray := prog_5_method_3_code
def yX3_size : MethodName := ⟨RX3, "size", "()I"⟩
abbrev cX3_addStitches : ByteArray := prog_5_method_4_code
def yX3_addStitches : MethodName := ⟨RX3, "addStitches", "(III)V"⟩
abbrev cX3_addOpen : ByteArray := prog_5_method_5_code
def yX3_addOpen : MethodName := ⟨RX3, "addOpen", "(II)V"⟩
abbrev cX3_addClose : ByteArray := prog_5_method_6_code
def yX3_addClose : MethodName := ⟨RX3, "addClose", "(IIIJ)V"⟩
abbrev cX3_add : ByteArray := prog_5_method_7_code
def yX3_add : MethodName := ⟨RX3, "add", "(IIII)V"⟩
abbrev cX3_kind : ByteArray := prog_5_method_8_code
def yX3_kind : MethodName := ⟨RX3, "kind", "(I)I"⟩
abbrev cX3_link : ByteArray := prog_5_method_9_code
def yX3_link : MethodName := ⟨RX3, "link", "(I)I"⟩
abbrev cX3_count : ByteArray := prog_5_method_10_code
def yX3_count : MethodName := ⟨RX3, "count", "(I)I"⟩
abbrev cX3_place : ByteArray := prog_5_method_11_code
def yX3_place : MethodName := ⟨RX3, "place", "(I)I"⟩
abbrev cX3_takes : ByteArray := prog_5_method_12_code
def yX3_takes : MethodName := ⟨RX3, "takes", "(I)J"⟩
abbrev cX3_has : ByteArray := prog_5_method_13_code
def yX3_has : MethodName := ⟨RX3, "has", "(I)Z"⟩
def RX4 : String := "KnitBench$RowReader"
def TX4 : u_T := fun k => match k with
  | 0 => ("KnitBench$RowReader", "tape", "LKnitBench$Tape;", true)
  | 1 => ("KnitBench$RowReader", "plan", "LKnitBench$Plan;", true)
  | 2 => ("KnitBench$RowReader", "openSteps", "[I", true)
  | 3 => ("KnitBench$RowReader", "takes", "[J", true)
  | 4 => ("KnitBench$RowReader", "depth", "I", false)
  | 5 => ("KnitBench$RowReader", "at", "I", false)
  | 6 => ("KnitBench$RowReader", "fault", "I", false)
  | 7 => ("KnitBench$RowReader", "itemIsDue", "Z", false)
  | _ => ("KnitBench$RowReader", "ended", "Z", false)
def tyX4 : Nat → FieldType := fun k => match k with
  | 0 => .object "KnitBench$Tape"
  | 1 => .object "KnitBench$Plan"
  | 2 => .array .int
  | 3 => .array .long
  | 4 => .int
  | 5 => .int
  | 6 => .int
  | 7 => .boolean
  | _ => .boolean
theorem nmX4 : ∀ a, a < 9 → ∀ b, b < 9 → a ≠ b → (TX4 a).2.1 ≠ (TX4 b).2.1 := by decide +kernel
theorem tyX4_ok : ∀ k, k < 9 → parseFieldDescriptor (TX4 k).2.2.1 = some (tyX4 k) := by decide +kernel
abbrev cX4_init : ByteArray := prog_6_method_1_code
def yX4_init : MethodName := ⟨RX4, "<init>", "(LKnitBench$Tape;LKnitBench$Plan;)V"⟩
abbrev cX4_readTape : ByteArray := prog_6_method_2_code
def yX4_readTape : MethodName := ⟨RX4, "readTape", "()I"⟩
abbrev cX4_isRight : ByteArray := prog_6_method_3_code
def yX4_isRight : MethodName := ⟨RX4, "isRight", "()Z"⟩
abbrev cX4_next : ByteArray := prog_6_method_4_code
def yX4_next : MethodName := ⟨RX4, "next", "()I"⟩
abbrev cX4_fail : ByteArray := prog_6_method_5_code
def yX4_fail : MethodName := ⟨RX4, "fail", "(I)V"⟩
abbrev cX4_skipBlanks : ByteArray := prog_6_method_6_code
def yX4_skipBlanks : MethodName := ⟨RX4, "skipBlanks", "()V"⟩
abbrev cX4_readItem : ByteArray := prog_6_method_7_code
def yX4_readItem : MethodName := ⟨RX4, "readItem", "()V"⟩
abbrev cX4_readKnit : ByteArray := prog_6_method_8_code
def yX4_readKnit : MethodName := ⟨RX4, "readKnit", "(I)V"⟩
abbrev cX4_readSlipOrSsk : ByteArray := prog_6_method_9_code
def yX4_readSlipOrSsk : MethodName := ⟨RX4, "readSlipOrSsk", "(I)V"⟩
abbrev cX4_readCastOrCable : ByteArray := prog_6_method_10_code
def yX4_readCastOrCable : MethodName := ⟨RX4, "readCastOrCable", "(I)V"⟩
abbrev cX4_readCable : ByteArray := prog_6_method_11_code
def yX4_readCable : MethodName := ⟨RX4, "readCable", "(I)V"⟩
abbrev cX4_readCableDigit : ByteArray := prog_6_method_12_code
def yX4_readCableDigit : MethodName := ⟨RX4, "readCableDigit", "()I"⟩
abbrev cX4_readSingle : ByteArray := prog_6_method_13_code
def yX4_readSingle : MethodName := ⟨RX4, "readSingle", "(Ljava/lang/String;II)V"⟩
abbrev cX4_readNamed : ByteArray := prog_6_method_14_code
def yX4_readNamed : MethodName := ⟨RX4, "readNamed", "(Ljava/lang/String;II)V"⟩
abbrev cX4_addStitches : ByteArray := prog_6_method_15_code
def yX4_addStitches : MethodName := ⟨RX4, "addStitches", "(III)V"⟩
abbrev cX4_readRepeat : ByteArray := prog_6_method_16_code
def yX4_readRepeat : MethodName := ⟨RX4, "readRepeat", "(I)V"⟩
abbrev cX4_openBracket : ByteArray := prog_6_method_17_code
def yX4_openBracket : MethodName := ⟨RX4, "openBracket", "(II)V"⟩
abbrev cX4_readSign : ByteArray := prog_6_method_18_code
def yX4_readSign : MethodName := ⟨RX4, "readSign", "()V"⟩
abbrev cX4_closeBracket : ByteArray := prog_6_method_19_code
def yX4_closeBracket : MethodName := ⟨RX4, "closeBracket", "()V"⟩
abbrev cX4_readToLast : ByteArray := prog_6_method_20_code
def yX4_readToLast : MethodName := ⟨RX4, "readToLast", "()I"⟩
abbrev cX4_readWord : ByteArray := prog_6_method_21_code
def yX4_readWord : MethodName := ⟨RX4, "readWord", "(Ljava/lang/String;)V"⟩
abbrev cX4_readNumber : ByteArray := prog_6_method_22_code
def yX4_readNumber : MethodName := ⟨RX4, "readNumber", "(I)I"⟩
abbrev cX4_isDigit : ByteArray := prog_6_method_23_code
def yX4_isDigit : MethodName := ⟨RX4, "isDigit", "(I)Z"⟩
def RX5 : String := "KnitBench$Shortest"
def TX5 : u_T := fun k => match k with
  | 0 => ("KnitBench$Shortest", "table", "[I", true)
  | 1 => ("KnitBench$Shortest", "sames", "[I", true)
  | 2 => ("KnitBench$Shortest", "stitches", "[I", true)
  | 3 => ("KnitBench$Shortest", "text", "[I", true)
  | 4 => ("KnitBench$Shortest", "count", "I", false)
  | _ => ("KnitBench$Shortest", "length", "I", false)
def tyX5 : Nat → FieldType := fun k => match k with
  | 0 => .array .int
  | 1 => .array .int
  | 2 => .array .int
  | 3 => .array .int
  | 4 => .int
  | _ => .int
theorem nmX5 : ∀ a, a < 6 → ∀ b, b < 6 → a ≠ b → (TX5 a).2.1 ≠ (TX5 b).2.1 := by decide +kernel
theorem tyX5_ok : ∀ k, k < 6 → parseFieldDescriptor (TX5 k).2.2.1 = some (tyX5 k) := by decide +kernel
abbrev cX5_init : ByteArray := prog_7_method_1_code
def yX5_init : MethodName := ⟨RX5, "<init>", "()V"⟩
abbrev cX5_forget : ByteArray := prog_7_method_2_code
def yX5_forget : MethodName := ⟨RX5, "forget", "()V"⟩
abbrev cX5_byteAt : ByteArray := prog_7_method_3_code
def yX5_byteAt : MethodName := ⟨RX5, "byteAt", "(I)I"⟩
abbrev cX5_tellRow : ByteArray := prog_7_method_4_code
def yX5_tellRow : MethodName := ⟨RX5, "tellRow", "(LKnitBench$Fabric;I)I"⟩
abbrev cX5_countSames : ByteArray := prog_7_method_5_code
def yX5_countSames : MethodName := ⟨RX5, "countSames", "(I)V"⟩
abbrev cX5_timesInRow : ByteArray := prog_7_method_6_code
def yX5_timesInRow : MethodName := ⟨RX5, "timesInRow", "(II)I"⟩
abbrev cX5_countWordsWithin : ByteArray := prog_7_method_7_code
def yX5_countWordsWithin : MethodName := ⟨RX5, "countWordsWithin", "(I)V"⟩
abbrev cX5_countWords : ByteArray := prog_7_method_8_code
def yX5_countWords : MethodName := ⟨RX5, "countWords", "(III)V"⟩
abbrev cX5_cellOf : ByteArray := prog_7_method_9_code
def yX5_cellOf : MethodName := ⟨RX5, "cellOf", "(III)I"⟩
abbrev cX5_words : ByteArray := prog_7_method_10_code
def yX5_words : MethodName := ⟨RX5, "words", "(III)I"⟩
abbrev cX5_fewestWords : ByteArray := prog_7_method_11_code
def yX5_fewestWords : MethodName := ⟨RX5, "fewestWords", "(III)I"⟩
abbrev cX5_bestGroup : ByteArray := prog_7_method_12_code
def yX5_bestGroup : MethodName := ⟨RX5, "bestGroup", "(III)I"⟩
abbrev cX5_pieceWords : ByteArray := prog_7_method_13_code
def yX5_pieceWords : MethodName := ⟨RX5, "pieceWords", "(III)I"⟩
abbrev cX5_firstPiece : ByteArray := prog_7_method_14_code
def yX5_firstPiece : MethodName := ⟨RX5, "firstPiece", "(III)I"⟩
abbrev cX5_tellPart : ByteArray := prog_7_method_15_code
def yX5_tellPart : MethodName := ⟨RX5, "tellPart", "(III)V"⟩
abbrev cX5_tellPiece : ByteArray := prog_7_method_16_code
def yX5_tellPiece : MethodName := ⟨RX5, "tellPiece", "(III)V"⟩
abbrev cX5_tellStitch : ByteArray := prog_7_method_17_code
def yX5_tellStitch : MethodName := ⟨RX5, "tellStitch", "(I)V"⟩
abbrev cX5_putNumber : ByteArray := prog_7_method_18_code
def yX5_putNumber : MethodName := ⟨RX5, "putNumber", "(I)V"⟩
abbrev cX5_put : ByteArray := prog_7_method_19_code
def yX5_put : MethodName := ⟨RX5, "put", "(I)V"⟩
def RX6 : String := "KnitBench$Stitch"
def TX6 : u_T := fun k => match k with
  | _ => ("", "", "", false)
def tyX6 : Nat → FieldType := fun k => match k with
  | _ => .int
theorem nmX6 : ∀ a, a < 0 → ∀ b, b < 0 → a ≠ b → (TX6 a).2.1 ≠ (TX6 b).2.1 := by decide +kernel
theorem tyX6_ok : ∀ k, k < 0 → parseFieldDescriptor (TX6 k).2.2.1 = some (tyX6 k) := by decide +kernel
abbrev cX6_cable : ByteArray := prog_8_method_2_code
def yX6_cable : MethodName := ⟨RX6, "cable", "(III)I"⟩
abbrev cX6_isCable : ByteArray := prog_8_method_3_code
def yX6_isCable : MethodName := ⟨RX6, "isCable", "(I)Z"⟩
abbrev cX6_cableA : ByteArray := prog_8_method_4_code
def yX6_cableA : MethodName := ⟨RX6, "cableA", "(I)I"⟩
abbrev cX6_cableB : ByteArray := prog_8_method_5_code
def yX6_cableB : MethodName := ⟨RX6, "cableB", "(I)I"⟩
abbrev cX6_isBehind : ByteArray := prog_8_method_6_code
def yX6_isBehind : MethodName := ⟨RX6, "isBehind", "(I)Z"⟩
abbrev cX6_loopsTaken : ByteArray := prog_8_method_7_code
def yX6_loopsTaken : MethodName := ⟨RX6, "loopsTaken", "(I)I"⟩
abbrev cX6_loopsMade : ByteArray := prog_8_method_8_code
def yX6_loopsMade : MethodName := ⟨RX6, "loopsMade", "(I)I"⟩
abbrev cX6_seenFromBehind : ByteArray := prog_8_method_9_code
def yX6_seenFromBehind : MethodName := ⟨RX6, "seenFromBehind", "(I)I"⟩
abbrev cX6_nameOf : ByteArray := prog_8_method_10_code
def yX6_nameOf : MethodName := ⟨RX6, "nameOf", "(I)Ljava/lang/String;"⟩
def RX7 : String := "KnitBench$Tape"
def TX7 : u_T := fun k => match k with
  | 0 => ("KnitBench$Tape", "bytes", "[I", true)
  | _ => ("KnitBench$Tape", "length", "I", false)
def tyX7 : Nat → FieldType := fun k => match k with
  | 0 => .array .int
  | _ => .int
theorem nmX7 : ∀ a, a < 2 → ∀ b, b < 2 → a ≠ b → (TX7 a).2.1 ≠ (TX7 b).2.1 := by decide +kernel
theorem tyX7_ok : ∀ k, k < 2 → parseFieldDescriptor (TX7 k).2.2.1 = some (tyX7 k) := by decide +kernel
abbrev cX7_init : ByteArray := prog_9_method_1_code
def yX7_init : MethodName := ⟨RX7, "<init>", "()V"⟩
abbrev cX7_length : ByteArray := prog_9_method_2_code
def yX7_length : MethodName := ⟨RX7, "length", "()I"⟩
abbrev cX7_hasRoomFor : ByteArray := prog_9_method_3_code
def yX7_hasRoomFor : MethodName := ⟨RX7, "hasRoomFor", "(I)Z"⟩
abbrev cX7_add : ByteArray := prog_9_method_4_code
def yX7_add : MethodName := ⟨RX7, "add", "(JI)V"⟩
abbrev cX7_clear : ByteArray := prog_9_method_5_code
def yX7_clear : MethodName := ⟨RX7, "clear", "()V"⟩
abbrev cX7_byteAt : ByteArray := prog_9_method_6_code
def yX7_byteAt : MethodName := ⟨RX7, "byteAt", "(I)I"⟩
def RX8 : String := "KnitBench"
def TX8 : u_T := fun k => match k with
  | 0 => ("KnitBench", "tape", "LKnitBench$Tape;", true)
  | 1 => ("KnitBench", "fabric", "LKnitBench$Fabric;", true)
  | 2 => ("KnitBench", "reader", "LKnitBench$RowReader;", true)
  | 3 => ("KnitBench", "knitter", "LKnitBench$Knitter;", true)
  | _ => ("KnitBench", "shortest", "LKnitBench$Shortest;", false)
def tyX8 : Nat → FieldType := fun k => match k with
  | 0 => .object "KnitBench$Tape"
  | 1 => .object "KnitBench$Fabric"
  | 2 => .object "KnitBench$RowReader"
  | 3 => .object "KnitBench$Knitter"
  | _ => .object "KnitBench$Shortest"
theorem nmX8 : ∀ a, a < 5 → ∀ b, b < 5 → a ≠ b → (TX8 a).2.1 ≠ (TX8 b).2.1 := by decide +kernel
theorem tyX8_ok : ∀ k, k < 5 → parseFieldDescriptor (TX8 k).2.2.1 = some (tyX8 k) := by decide +kernel
abbrev cX8_init : ByteArray := prog_1_method_1_code
def yX8_init : MethodName := ⟨RX8, "<init>", "()V"⟩
abbrev cX8_begin : ByteArray := prog_1_method_2_code
def yX8_begin : MethodName := ⟨RX8, "begin", "(IZ)V"⟩
abbrev cX8_feed : ByteArray := prog_1_method_3_code
def yX8_feed : MethodName := ⟨RX8, "feed", "(JI)I"⟩
abbrev cX8_work : ByteArray := prog_1_method_4_code
def yX8_work : MethodName := ⟨RX8, "work", "()I"⟩
abbrev cX8_rows : ByteArray := prog_1_method_5_code
def yX8_rows : MethodName := ⟨RX8, "rows", "()I"⟩
abbrev cX8_unravel : ByteArray := prog_1_method_6_code
def yX8_unravel : MethodName := ⟨RX8, "unravel", "(I)I"⟩
abbrev cX8_live : ByteArray := prog_1_method_7_code
def yX8_live : MethodName := ⟨RX8, "live", "(I)I"⟩
abbrev cX8_loop : ByteArray := prog_1_method_8_code
def yX8_loop : MethodName := ⟨RX8, "loop", "(II)I"⟩
abbrev cX8_chart : ByteArray := prog_1_method_9_code
def yX8_chart : MethodName := ⟨RX8, "chart", "(II)I"⟩
abbrev cX8_row : ByteArray := prog_1_method_10_code
def yX8_row : MethodName := ⟨RX8, "row", "(II)I"⟩
abbrev cX8_shorten : ByteArray := prog_1_method_11_code
def yX8_shorten : MethodName := ⟨RX8, "shorten", "(I)I"⟩
abbrev cX8_out : ByteArray := prog_1_method_12_code
def yX8_out : MethodName := ⟨RX8, "out", "(I)I"⟩
abbrev cX8_ladder : ByteArray := prog_1_method_13_code
def yX8_ladder : MethodName := ⟨RX8, "ladder", "(I)I"⟩
abbrev cX8_total : ByteArray := prog_1_method_14_code
def yX8_total : MethodName := ⟨RX8, "total", "(I)I"⟩
abbrev cX8_requireRow : ByteArray := prog_1_method_15_code
def yX8_requireRow : MethodName := ⟨RX8, "requireRow", "(I)V"⟩
def RX9 : String := "KnitBenchModel"
def TX9 : u_T := fun k => match k with
  | 0 => ("KnitBenchModel", "thrown", "I", false)
  | 1 => ("KnitBenchModel", "taped", "I", false)
  | 2 => ("KnitBenchModel", "tape", "[I", true)
  | 3 => ("KnitBenchModel", "round", "Z", false)
  | 4 => ("KnitBenchModel", "loops", "I", false)
  | 5 => ("KnitBenchModel", "born", "[I", true)
  | 6 => ("KnitBenchModel", "died", "[I", true)
  | 7 => ("KnitBenchModel", "bound", "[Z", true)
  | 8 => ("KnitBenchModel", "parents", "[I", true)
  | 9 => ("KnitBenchModel", "parent", "[I", true)
  | 10 => ("KnitBenchModel", "rows", "I", false)
  | 11 => ("KnitBenchModel", "begin", "[I", true)
  | 12 => ("KnitBenchModel", "many", "[I", true)
  | 13 => ("KnitBenchModel", "stitch", "[I", true)
  | 14 => ("KnitBenchModel", "at", "I", false)
  | 15 => ("KnitBenchModel", "fault", "I", false)
  | 16 => ("KnitBenchModel", "place", "I", false)
  | 17 => ("KnitBenchModel", "depth", "I", false)
  | 18 => ("KnitBenchModel", "marks", "I", false)
  | 19 => ("KnitBenchModel", "mark", "[I", true)
  | 20 => ("KnitBenchModel", "number", "[I", true)
  | 21 => ("KnitBenchModel", "where", "[I", true)
  | 22 => ("KnitBenchModel", "other", "[I", true)
  | 23 => ("KnitBenchModel", "size", "I", false)
  | 24 => ("KnitBenchModel", "made", "[I", true)
  | 25 => ("KnitBenchModel", "written", "I", false)
  | 26 => ("KnitBenchModel", "out", "[I", true)
  | 27 => ("KnitBenchModel", "words", "[I", true)
  | 28 => ("KnitBenchModel", "way", "[I", true)
  | 29 => ("KnitBenchModel", "open", "[I", true)
  | 30 => ("KnitBenchModel", "turns", "[I", true)
  | _ => ("KnitBenchModel", "task", "[I", true)
def tyX9 : Nat → FieldType := fun k => match k with
  | 0 => .int
  | 1 => .int
  | 2 => .array .int
  | 3 => .boolean
  | 4 => .int
  | 5 => .array .int
  | 6 => .array .int
  | 7 => .array .boolean
  | 8 => .array .int
  | 9 => .array .int
  | 10 => .int
  | 11 => .array .int
  | 12 => .array .int
  | 13 => .array .int
  | 14 => .int
  | 15 => .int
  | 16 => .int
  | 17 => .int
  | 18 => .int
  | 19 => .array .int
  | 20 => .array .int
  | 21 => .array .int
  | 22 => .array .int
  | 23 => .int
  | 24 => .array .int
  | 25 => .int
  | 26 => .array .int
  | 27 => .array .int
  | 28 => .array .int
  | 29 => .array .int
  | 30 => .array .int
  | _ => .array .int
theorem nmX9 : ∀ a, a < 32 → ∀ b, b < 32 → a ≠ b → (TX9 a).2.1 ≠ (TX9 b).2.1 := by decide +kernel
theorem tyX9_ok : ∀ k, k < 32 → parseFieldDescriptor (TX9 k).2.2.1 = some (tyX9 k) := by decide +kernel
abbrev cX9_init : ByteArray := prog_11_method_1_code
def yX9_init : MethodName := ⟨RX9, "<init>", "()V"⟩
abbrev cX9_thrown : ByteArray := prog_11_method_2_code
def yX9_thrown : MethodName := ⟨RX9, "thrown", "()I"⟩
abbrev cX9_in : ByteArray := prog_11_method_3_code
def yX9_in : MethodName := ⟨RX9, "in", "(III)Z"⟩
abbrev cX9_says : ByteArray := prog_11_method_4_code
def yX9_says : MethodName := ⟨RX9, "says", "(Z)Z"⟩
abbrev cX9_castOn : ByteArray := prog_11_method_5_code
def yX9_castOn : MethodName := ⟨RX9, "castOn", "(IZ)V"⟩
abbrev cX9_newLoop : ByteArray := prog_11_method_6_code
def yX9_newLoop : MethodName := ⟨RX9, "newLoop", "(I)V"⟩
abbrev cX9_hasParent : ByteArray := prog_11_method_7_code
def yX9_hasParent : MethodName := ⟨RX9, "hasParent", "(II)V"⟩
abbrev cX9_begin : ByteArray := prog_11_method_8_code
def yX9_begin : MethodName := ⟨RX9, "begin", "(IZ)V"⟩
abbrev cX9_feed : ByteArray := prog_11_method_9_code
def yX9_feed : MethodName := ⟨RX9, "feed", "(JI)I"⟩
abbrev cX9_see : ByteArray := prog_11_method_10_code
def yX9_see : MethodName := ⟨RX9, "see", "()I"⟩
abbrev cX9_seeWord : ByteArray := prog_11_method_11_code
def yX9_seeWord : MethodName := ⟨RX9, "seeWord", "()I"⟩
abbrev cX9_wrong : ByteArray := prog_11_method_12_code
def yX9_wrong : MethodName := ⟨RX9, "wrong", "(I)V"⟩
abbrev cX9_need : ByteArray := prog_11_method_13_code
def yX9_need : MethodName := ⟨RX9, "need", "(I)V"⟩
abbrev cX9_add : ByteArray := prog_11_method_14_code
def yX9_add : MethodName := ⟨RX9, "add", "(III)V"⟩
abbrev cX9_isDigit : ByteArray := prog_11_method_15_code
def yX9_isDigit : MethodName := ⟨RX9, "isDigit", "(I)Z"⟩
abbrev cX9_count : ByteArray := prog_11_method_16_code
def yX9_count : MethodName := ⟨RX9, "count", "(I)I"⟩
abbrev cX9_plain : ByteArray := prog_11_method_17_code
def yX9_plain : MethodName := ⟨RX9, "plain", "(II)V"⟩
abbrev cX9_line : ByteArray := prog_11_method_18_code
def yX9_line : MethodName := ⟨RX9, "line", "()V"⟩
abbrev cX9_opens : ByteArray := prog_11_method_19_code
def yX9_opens : MethodName := ⟨RX9, "opens", "(II)V"⟩
abbrev cX9_shuts : ByteArray := prog_11_method_20_code
def yX9_shuts : MethodName := ⟨RX9, "shuts", "()V"⟩
abbrev cX9_times : ByteArray := prog_11_method_21_code
def yX9_times : MethodName := ⟨RX9, "times", "()I"⟩
abbrev cX9_last : ByteArray := prog_11_method_22_code
def yX9_last : MethodName := ⟨RX9, "last", "()I"⟩
abbrev cX9_named : ByteArray := prog_11_method_23_code
def yX9_named : MethodName := ⟨RX9, "named", "(IIZ)V"⟩
abbrev cX9_knit : ByteArray := prog_11_method_24_code
def yX9_knit : MethodName := ⟨RX9, "knit", "(II)V"⟩
abbrev cX9_cable : ByteArray := prog_11_method_25_code
def yX9_cable : MethodName := ⟨RX9, "cable", "(I)V"⟩
abbrev cX9_side : ByteArray := prog_11_method_26_code
def yX9_side : MethodName := ⟨RX9, "side", "()I"⟩
abbrev cX9_a : ByteArray := prog_11_method_28_code
def yX9_a : MethodName := ⟨RX9, "a", "(I)I"⟩
abbrev cX9_b : ByteArray := prog_11_method_29_code
def yX9_b : MethodName := ⟨RX9, "b", "(I)I"⟩
abbrev cX9_takes : ByteArray := prog_11_method_30_code
def yX9_takes : MethodName := ⟨RX9, "takes", "(I)I"⟩
abbrev cX9_makes : ByteArray := prog_11_method_31_code
def yX9_makes : MethodName := ⟨RX9, "makes", "(I)I"⟩
abbrev cX9_taken : ByteArray := prog_11_method_32_code
def yX9_taken : MethodName := ⟨RX9, "taken", "(II)I"⟩
abbrev cX9_stops : ByteArray := prog_11_method_33_code
def yX9_stops : MethodName := ⟨RX9, "stops", "(II)V"⟩
abbrev cX9_flatten : ByteArray := prog_11_method_34_code
def yX9_flatten : MethodName := ⟨RX9, "flatten", "(I)V"⟩
abbrev cX9_liveLoops : ByteArray := prog_11_method_35_code
def yX9_liveLoops : MethodName := ⟨RX9, "liveLoops", "()I"⟩
abbrev cX9_needle : ByteArray := prog_11_method_36_code
def yX9_needle : MethodName := ⟨RX9, "needle", "(I)I"⟩
abbrev cX9_lay : ByteArray := prog_11_method_37_code
def yX9_lay : MethodName := ⟨RX9, "lay", "()V"⟩
abbrev cX9_take : ByteArray := prog_11_method_38_code
def yX9_take : MethodName := ⟨RX9, "take", "(III)I"⟩
abbrev cX9_work : ByteArray := prog_11_method_39_code
def yX9_work : MethodName := ⟨RX9, "work", "()I"⟩
abbrev cX9_rows : ByteArray := prog_11_method_40_code
def yX9_rows : MethodName := ⟨RX9, "rows", "()I"⟩
abbrev cX9_unravel : ByteArray := prog_11_method_41_code
def yX9_unravel : MethodName := ⟨RX9, "unravel", "(I)I"⟩
abbrev cX9_live : ByteArray := prog_11_method_42_code
def yX9_live : MethodName := ⟨RX9, "live", "(I)I"⟩
abbrev cX9_loop : ByteArray := prog_11_method_43_code
def yX9_loop : MethodName := ⟨RX9, "loop", "(II)I"⟩
abbrev cX9_chart : ByteArray := prog_11_method_44_code
def yX9_chart : MethodName := ⟨RX9, "chart", "(II)I"⟩
abbrev cX9_row : ByteArray := prog_11_method_45_code
def yX9_row : MethodName := ⟨RX9, "row", "(II)I"⟩
abbrev cX9_at : ByteArray := prog_11_method_46_code
def yX9_at : MethodName := ⟨RX9, "at", "(III)I"⟩
abbrev cX9_isOver : ByteArray := prog_11_method_47_code
def yX9_isOver : MethodName := ⟨RX9, "isOver", "(IIII)Z"⟩
abbrev cX9_reckon : ByteArray := prog_11_method_48_code
def yX9_reckon : MethodName := ⟨RX9, "reckon", "(I)V"⟩
abbrev cX9_put : ByteArray := prog_11_method_49_code
def yX9_put : MethodName := ⟨RX9, "put", "(I)V"⟩
abbrev cX9_spell : ByteArray := prog_11_method_50_code
def yX9_spell : MethodName := ⟨RX9, "spell", "(J)V"⟩
abbrev cX9_name : ByteArray := prog_11_method_51_code
def yX9_name : MethodName := ⟨RX9, "name", "(I)V"⟩
abbrev cX9_push : ByteArray := prog_11_method_52_code
def yX9_push : MethodName := ⟨RX9, "push", "(IIII)I"⟩
abbrev cX9_ends : ByteArray := prog_11_method_53_code
def yX9_ends : MethodName := ⟨RX9, "ends", "(I)V"⟩
abbrev cX9_tell : ByteArray := prog_11_method_54_code
def yX9_tell : MethodName := ⟨RX9, "tell", "(I)V"⟩
abbrev cX9_shorten : ByteArray := prog_11_method_55_code
def yX9_shorten : MethodName := ⟨RX9, "shorten", "(I)I"⟩
abbrev cX9_out : ByteArray := prog_11_method_56_code
def yX9_out : MethodName := ⟨RX9, "out", "(I)I"⟩
abbrev cX9_ladder : ByteArray := prog_11_method_57_code
def yX9_ladder : MethodName := ⟨RX9, "ladder", "(I)I"⟩
abbrev cX9_total : ByteArray := prog_11_method_58_code
def yX9_total : MethodName := ⟨RX9, "total", "(I)I"⟩
def RJ0 : String := "java/lang/String"
def TJ0 : u_T := fun k => match k with
  | _ => ("", "", "", false)
def tyJ0 : Nat → FieldType := fun k => match k with
  | _ => .int
theorem nmJ0 : ∀ a, a < 0 → ∀ b, b < 0 → a ≠ b → (TJ0 a).2.1 ≠ (TJ0 b).2.1 := by decide +kernel
theorem tyJ0_ok : ∀ k, k < 0 → parseFieldDescriptor (TJ0 k).2.2.1 = some (tyJ0 k) := by decide +kernel
abbrev cJ0_length_8abf5 : ByteArray := prog_18_method_54_code
def yJ0_length_8abf5 : MethodName := ⟨RJ0, "length", "()I"⟩
abbrev cJ0_charAt_5068e : ByteArray := prog_18_method_56_code
def yJ0_charAt_5068e : MethodName := ⟨RJ0, "charAt", "(I)C"⟩
abbrev cJ0_coder_7d493 : ByteArray := prog_18_method_152_code
def yJ0_coder_7d493 : MethodName := ⟨RJ0, "coder", "()B"⟩
abbrev cJ0_isLatin1_aae02 : ByteArray := prog_18_method_154_code
def yJ0_isLatin1_aae02 : MethodName := ⟨RJ0, "isLatin1", "()Z"⟩
abbrev cJ0_checkIndex_df160 : ByteArray := prog_18_method_155_code
def yJ0_checkIndex_df160 : MethodName := ⟨RJ0, "checkIndex", "(II)V"⟩
def RJ1 : String := "java/lang/StringLatin1"
def TJ1 : u_T := fun k => match k with
  | _ => ("", "", "", false)
def tyJ1 : Nat → FieldType := fun k => match k with
  | _ => .int
theorem nmJ1 : ∀ a, a < 0 → ∀ b, b < 0 → a ≠ b → (TJ1 a).2.1 ≠ (TJ1 b).2.1 := by decide +kernel
theorem tyJ1_ok : ∀ k, k < 0 → parseFieldDescriptor (TJ1 k).2.2.1 = some (tyJ1 k) := by decide +kernel
abbrev cJ1_charAt_3b067 : ByteArray := prog_19_method_2_code
def yJ1_charAt_3b067 : MethodName := ⟨RJ1, "charAt", "([BI)C"⟩
def RJ3 : String := "jdk/internal/util/Preconditions"
def TJ3 : u_T := fun k => match k with
  | _ => ("", "", "", false)
def tyJ3 : Nat → FieldType := fun k => match k with
  | _ => .int
theorem nmJ3 : ∀ a, a < 0 → ∀ b, b < 0 → a ≠ b → (TJ3 a).2.1 ≠ (TJ3 b).2.1 := by decide +kernel
theorem tyJ3_ok : ∀ k, k < 0 → parseFieldDescriptor (TJ3 k).2.2.1 = some (tyJ3 k) := by decide +kernel
abbrev cJ3_checkIndex_8e157 : ByteArray := prog_22_method_11_code
def yJ3_checkIndex_8e157 : MethodName := ⟨RJ3, "checkIndex", "(IILjava/util/function/BiFunction;)I"⟩
abbrev vwCl : List vw_C := [(RX0, TX0, 13), (RX2, TX2, 5), (RX3, TX3, 6), (RX4, TX4, 9), (RX5, TX5, 6), (RX7, TX7, 2), (RX8, TX8, 5), (RX9, TX9, 32)]
