def RL : String := "KnitBenchLaw"
abbrev cL_begin : ByteArray := method_3_code
def yL_begin : MethodName := ⟨RL, "begin", "(LKnitBench;IZ)I"⟩
abbrev cL_feed : ByteArray := method_4_code
def yL_feed : MethodName := ⟨RL, "feed", "(LKnitBench;JI[J)I"⟩
abbrev cL_unravel : ByteArray := method_5_code
def yL_unravel : MethodName := ⟨RL, "unravel", "(LKnitBench;I[J)I"⟩
abbrev cL_loop : ByteArray := method_6_code
def yL_loop : MethodName := ⟨RL, "loop", "(LKnitBench;II[J)I"⟩
abbrev cL_chart : ByteArray := method_7_code
def yL_chart : MethodName := ⟨RL, "chart", "(LKnitBench;II[J)I"⟩
abbrev cL_row : ByteArray := method_8_code
def yL_row : MethodName := ⟨RL, "row", "(LKnitBench;II[J)I"⟩
abbrev cL_shorten : ByteArray := method_9_code
def yL_shorten : MethodName := ⟨RL, "shorten", "(LKnitBench;I[J)I"⟩
abbrev cL_out : ByteArray := method_10_code
def yL_out : MethodName := ⟨RL, "out", "(LKnitBench;I[J)I"⟩
abbrev cL_ladder : ByteArray := method_11_code
def yL_ladder : MethodName := ⟨RL, "ladder", "(LKnitBench;I[J)I"⟩
abbrev cL_total : ByteArray := method_12_code
def yL_total : MethodName := ⟨RL, "total", "(LKnitBench;I[J)I"⟩
abbrev cL_law : ByteArray := code
def yL_law : MethodName := ⟨RL, "law", "([I)Z"⟩
theorem wz_L : Cond.initialized RL ∈ kb_TB := kb_m1 (List.mem_of_getElem? (i := 0) (by decide +kernel)) (by decide +kernel)
theorem wq_L_8 : Cond.classLink RL 8 RX8 ∈ kb_TB := kb_m1 (List.mem_of_getElem? (i := 22) (by decide +kernel)) (by decide +kernel)
theorem wk_L_49 : Cond.methodLink RL 49 yX8_init ∈ kb_TB := kb_m1 (List.mem_of_getElem? (i := 24) (by decide +kernel)) (by decide +kernel)
theorem wi_X8_init : Cond.instanceMethod yX8_init ∈ kb_TB := kb_m1 (List.mem_of_getElem? (i := 25) (by decide +kernel)) (by decide +kernel)
theorem wk_L_69 : Cond.methodLink RL 69 yX8_work ∈ kb_TB := kb_m1 (List.mem_of_getElem? (i := 204) (by decide +kernel)) (by decide +kernel)
theorem wi_X8_work : Cond.instanceMethod yX8_work ∈ kb_TB := kb_m1 (List.mem_of_getElem? (i := 205) (by decide +kernel)) (by decide +kernel)
theorem ws_X8_work : Cond.selects RX8 yX8_work yX8_work ∈ kb_TB := kb_m1 (List.mem_of_getElem? (i := 206) (by decide +kernel)) (by decide +kernel)
theorem wk_L_73 : Cond.methodLink RL 73 yX8_rows ∈ kb_TB := kb_m3 (List.mem_of_getElem? (i := 47) (by decide +kernel)) (by decide +kernel)
theorem wi_X8_rows : Cond.instanceMethod yX8_rows ∈ kb_TB := kb_m3 (List.mem_of_getElem? (i := 48) (by decide +kernel)) (by decide +kernel)
theorem ws_X8_rows : Cond.selects RX8 yX8_rows yX8_rows ∈ kb_TB := kb_m3 (List.mem_of_getElem? (i := 49) (by decide +kernel)) (by decide +kernel)
theorem wk_L_81 : Cond.methodLink RL 81 yX8_live ∈ kb_TB := kb_m3 (List.mem_of_getElem? (i := 55) (by decide +kernel)) (by decide +kernel)
theorem wi_X8_live : Cond.instanceMethod yX8_live ∈ kb_TB := kb_m3 (List.mem_of_getElem? (i := 56) (by decide +kernel)) (by decide +kernel)
theorem ws_X8_live : Cond.selects RX8 yX8_live yX8_live ∈ kb_TB := kb_m3 (List.mem_of_getElem? (i := 57) (by decide +kernel)) (by decide +kernel)
theorem wk_L_53 : Cond.methodLink RL 53 yL_begin ∈ kb_TB := kb_m3 (List.mem_of_getElem? (i := 60) (by decide +kernel)) (by decide +kernel)
theorem wi_L_begin : Cond.static yL_begin ∈ kb_TB := kb_m3 (List.mem_of_getElem? (i := 61) (by decide +kernel)) (by decide +kernel)
theorem wq_L_13 : Cond.classLink RL 13 "java/lang/IllegalArgumentException" ∈ kb_TB := kb_m3 (List.mem_of_getElem? (i := 63) (by decide +kernel)) (by decide +kernel)
theorem wk_L_7 : Cond.methodLink RL 7 yX8_begin ∈ kb_TB := kb_m3 (List.mem_of_getElem? (i := 64) (by decide +kernel)) (by decide +kernel)
theorem wi_X8_begin : Cond.instanceMethod yX8_begin ∈ kb_TB := kb_m3 (List.mem_of_getElem? (i := 65) (by decide +kernel)) (by decide +kernel)
theorem ws_X8_begin : Cond.selects RX8 yX8_begin yX8_begin ∈ kb_TB := kb_m3 (List.mem_of_getElem? (i := 66) (by decide +kernel)) (by decide +kernel)
theorem wk_L_65 : Cond.methodLink RL 65 yL_feed ∈ kb_TB := kb_m3 (List.mem_of_getElem? (i := 139) (by decide +kernel)) (by decide +kernel)
theorem wi_L_feed : Cond.static yL_feed ∈ kb_TB := kb_m3 (List.mem_of_getElem? (i := 140) (by decide +kernel)) (by decide +kernel)
theorem wq_L_19 : Cond.classLink RL 19 "java/lang/IllegalStateException" ∈ kb_TB := kb_m3 (List.mem_of_getElem? (i := 142) (by decide +kernel)) (by decide +kernel)
theorem wk_L_15 : Cond.methodLink RL 15 yX8_feed ∈ kb_TB := kb_m3 (List.mem_of_getElem? (i := 143) (by decide +kernel)) (by decide +kernel)
theorem wi_X8_feed : Cond.instanceMethod yX8_feed ∈ kb_TB := kb_m3 (List.mem_of_getElem? (i := 144) (by decide +kernel)) (by decide +kernel)
theorem ws_X8_feed : Cond.selects RX8 yX8_feed yX8_feed ∈ kb_TB := kb_m3 (List.mem_of_getElem? (i := 145) (by decide +kernel)) (by decide +kernel)
theorem wk_L_77 : Cond.methodLink RL 77 yL_unravel ∈ kb_TB := kb_m3 (List.mem_of_getElem? (i := 172) (by decide +kernel)) (by decide +kernel)
theorem wi_L_unravel : Cond.static yL_unravel ∈ kb_TB := kb_m3 (List.mem_of_getElem? (i := 173) (by decide +kernel)) (by decide +kernel)
theorem wk_L_21 : Cond.methodLink RL 21 yX8_unravel ∈ kb_TB := kb_m3 (List.mem_of_getElem? (i := 175) (by decide +kernel)) (by decide +kernel)
theorem wi_X8_unravel : Cond.instanceMethod yX8_unravel ∈ kb_TB := kb_m3 (List.mem_of_getElem? (i := 176) (by decide +kernel)) (by decide +kernel)
theorem ws_X8_unravel : Cond.selects RX8 yX8_unravel yX8_unravel ∈ kb_TB := kb_m3 (List.mem_of_getElem? (i := 177) (by decide +kernel)) (by decide +kernel)
theorem wk_L_85 : Cond.methodLink RL 85 yL_loop ∈ kb_TB := kb_m3 (List.mem_of_getElem? (i := 185) (by decide +kernel)) (by decide +kernel)
theorem wi_L_loop : Cond.static yL_loop ∈ kb_TB := kb_m3 (List.mem_of_getElem? (i := 186) (by decide +kernel)) (by decide +kernel)
theorem wk_L_25 : Cond.methodLink RL 25 yX8_loop ∈ kb_TB := kb_m3 (List.mem_of_getElem? (i := 188) (by decide +kernel)) (by decide +kernel)
theorem wi_X8_loop : Cond.instanceMethod yX8_loop ∈ kb_TB := kb_m3 (List.mem_of_getElem? (i := 189) (by decide +kernel)) (by decide +kernel)
theorem ws_X8_loop : Cond.selects RX8 yX8_loop yX8_loop ∈ kb_TB := kb_m3 (List.mem_of_getElem? (i := 190) (by decide +kernel)) (by decide +kernel)
theorem wk_L_89 : Cond.methodLink RL 89 yL_chart ∈ kb_TB := kb_m3 (List.mem_of_getElem? (i := 216) (by decide +kernel)) (by decide +kernel)
theorem wi_L_chart : Cond.static yL_chart ∈ kb_TB := kb_m3 (List.mem_of_getElem? (i := 217) (by decide +kernel)) (by decide +kernel)
theorem wq_L_32 : Cond.classLink RL 32 "java/lang/IndexOutOfBoundsException" ∈ kb_TB := kb_m3 (List.mem_of_getElem? (i := 219) (by decide +kernel)) (by decide +kernel)
theorem wk_L_29 : Cond.methodLink RL 29 yX8_chart ∈ kb_TB := kb_m3 (List.mem_of_getElem? (i := 220) (by decide +kernel)) (by decide +kernel)
theorem wi_X8_chart : Cond.instanceMethod yX8_chart ∈ kb_TB := kb_m3 (List.mem_of_getElem? (i := 221) (by decide +kernel)) (by decide +kernel)
theorem ws_X8_chart : Cond.selects RX8 yX8_chart yX8_chart ∈ kb_TB := kb_m3 (List.mem_of_getElem? (i := 222) (by decide +kernel)) (by decide +kernel)
theorem wk_L_92 : Cond.methodLink RL 92 yL_row ∈ kb_TB := kb_m4 (List.mem_of_getElem? (i := 25) (by decide +kernel)) (by decide +kernel)
theorem wi_L_row : Cond.static yL_row ∈ kb_TB := kb_m4 (List.mem_of_getElem? (i := 26) (by decide +kernel)) (by decide +kernel)
theorem wk_L_34 : Cond.methodLink RL 34 yX8_row ∈ kb_TB := kb_m4 (List.mem_of_getElem? (i := 28) (by decide +kernel)) (by decide +kernel)
theorem wi_X8_row : Cond.instanceMethod yX8_row ∈ kb_TB := kb_m4 (List.mem_of_getElem? (i := 29) (by decide +kernel)) (by decide +kernel)
theorem ws_X8_row : Cond.selects RX8 yX8_row yX8_row ∈ kb_TB := kb_m4 (List.mem_of_getElem? (i := 30) (by decide +kernel)) (by decide +kernel)
theorem wk_L_95 : Cond.methodLink RL 95 yL_shorten ∈ kb_TB := kb_m4 (List.mem_of_getElem? (i := 44) (by decide +kernel)) (by decide +kernel)
theorem wi_L_shorten : Cond.static yL_shorten ∈ kb_TB := kb_m4 (List.mem_of_getElem? (i := 45) (by decide +kernel)) (by decide +kernel)
theorem wk_L_37 : Cond.methodLink RL 37 yX8_shorten ∈ kb_TB := kb_m4 (List.mem_of_getElem? (i := 47) (by decide +kernel)) (by decide +kernel)
theorem wi_X8_shorten : Cond.instanceMethod yX8_shorten ∈ kb_TB := kb_m4 (List.mem_of_getElem? (i := 48) (by decide +kernel)) (by decide +kernel)
theorem ws_X8_shorten : Cond.selects RX8 yX8_shorten yX8_shorten ∈ kb_TB := kb_m4 (List.mem_of_getElem? (i := 49) (by decide +kernel)) (by decide +kernel)
theorem wk_L_98 : Cond.methodLink RL 98 yL_out ∈ kb_TB := kb_m4 (List.mem_of_getElem? (i := 167) (by decide +kernel)) (by decide +kernel)
theorem wi_L_out : Cond.static yL_out ∈ kb_TB := kb_m4 (List.mem_of_getElem? (i := 168) (by decide +kernel)) (by decide +kernel)
theorem wk_L_40 : Cond.methodLink RL 40 yX8_out ∈ kb_TB := kb_m4 (List.mem_of_getElem? (i := 170) (by decide +kernel)) (by decide +kernel)
theorem wi_X8_out : Cond.instanceMethod yX8_out ∈ kb_TB := kb_m4 (List.mem_of_getElem? (i := 171) (by decide +kernel)) (by decide +kernel)
theorem ws_X8_out : Cond.selects RX8 yX8_out yX8_out ∈ kb_TB := kb_m4 (List.mem_of_getElem? (i := 172) (by decide +kernel)) (by decide +kernel)
theorem wk_L_101 : Cond.methodLink RL 101 yL_ladder ∈ kb_TB := kb_m4 (List.mem_of_getElem? (i := 179) (by decide +kernel)) (by decide +kernel)
theorem wi_L_ladder : Cond.static yL_ladder ∈ kb_TB := kb_m4 (List.mem_of_getElem? (i := 180) (by decide +kernel)) (by decide +kernel)
theorem wk_L_43 : Cond.methodLink RL 43 yX8_ladder ∈ kb_TB := kb_m4 (List.mem_of_getElem? (i := 182) (by decide +kernel)) (by decide +kernel)
theorem wi_X8_ladder : Cond.instanceMethod yX8_ladder ∈ kb_TB := kb_m4 (List.mem_of_getElem? (i := 183) (by decide +kernel)) (by decide +kernel)
theorem ws_X8_ladder : Cond.selects RX8 yX8_ladder yX8_ladder ∈ kb_TB := kb_m4 (List.mem_of_getElem? (i := 184) (by decide +kernel)) (by decide +kernel)
theorem wk_L_104 : Cond.methodLink RL 104 yL_total ∈ kb_TB := kb_m4 (List.mem_of_getElem? (i := 193) (by decide +kernel)) (by decide +kernel)
theorem wi_L_total : Cond.static yL_total ∈ kb_TB := kb_m4 (List.mem_of_getElem? (i := 194) (by decide +kernel)) (by decide +kernel)
theorem wk_L_46 : Cond.methodLink RL 46 yX8_total ∈ kb_TB := kb_m4 (List.mem_of_getElem? (i := 196) (by decide +kernel)) (by decide +kernel)
theorem wi_X8_total : Cond.instanceMethod yX8_total ∈ kb_TB := kb_m4 (List.mem_of_getElem? (i := 197) (by decide +kernel)) (by decide +kernel)
theorem ws_X8_total : Cond.selects RX8 yX8_total yX8_total ∈ kb_TB := kb_m4 (List.mem_of_getElem? (i := 198) (by decide +kernel)) (by decide +kernel)
theorem wq_L_50 : Cond.classLink RL 50 RX9 ∈ kb_TB := kb_m4 (List.mem_of_getElem? (i := 202) (by decide +kernel)) (by decide +kernel)
theorem wk_L_52 : Cond.methodLink RL 52 yX9_init ∈ kb_TB := kb_m4 (List.mem_of_getElem? (i := 204) (by decide +kernel)) (by decide +kernel)
theorem wi_X9_init : Cond.instanceMethod yX9_init ∈ kb_TB := kb_m4 (List.mem_of_getElem? (i := 205) (by decide +kernel)) (by decide +kernel)
theorem wk_L_59 : Cond.methodLink RL 59 yX9_thrown ∈ kb_TB := kb_m5 (List.mem_of_getElem? (i := 74) (by decide +kernel)) (by decide +kernel)
theorem wi_X9_thrown : Cond.instanceMethod yX9_thrown ∈ kb_TB := kb_m5 (List.mem_of_getElem? (i := 75) (by decide +kernel)) (by decide +kernel)
theorem ws_X9_thrown : Cond.selects RX9 yX9_thrown yX9_thrown ∈ kb_TB := kb_m5 (List.mem_of_getElem? (i := 76) (by decide +kernel)) (by decide +kernel)
theorem wk_L_58 : Cond.methodLink RL 58 yX9_begin ∈ kb_TB := kb_m5 (List.mem_of_getElem? (i := 78) (by decide +kernel)) (by decide +kernel)
theorem wi_X9_begin : Cond.instanceMethod yX9_begin ∈ kb_TB := kb_m5 (List.mem_of_getElem? (i := 79) (by decide +kernel)) (by decide +kernel)
theorem ws_X9_begin : Cond.selects RX9 yX9_begin yX9_begin ∈ kb_TB := kb_m5 (List.mem_of_getElem? (i := 80) (by decide +kernel)) (by decide +kernel)
theorem wk_L_68 : Cond.methodLink RL 68 yX9_feed ∈ kb_TB := kb_m5 (List.mem_of_getElem? (i := 89) (by decide +kernel)) (by decide +kernel)
theorem wi_X9_feed : Cond.instanceMethod yX9_feed ∈ kb_TB := kb_m5 (List.mem_of_getElem? (i := 90) (by decide +kernel)) (by decide +kernel)
theorem ws_X9_feed : Cond.selects RX9 yX9_feed yX9_feed ∈ kb_TB := kb_m5 (List.mem_of_getElem? (i := 91) (by decide +kernel)) (by decide +kernel)
theorem wk_L_72 : Cond.methodLink RL 72 yX9_work ∈ kb_TB := kb_m5 (List.mem_of_getElem? (i := 93) (by decide +kernel)) (by decide +kernel)
theorem wi_X9_work : Cond.instanceMethod yX9_work ∈ kb_TB := kb_m5 (List.mem_of_getElem? (i := 94) (by decide +kernel)) (by decide +kernel)
theorem ws_X9_work : Cond.selects RX9 yX9_work yX9_work ∈ kb_TB := kb_m5 (List.mem_of_getElem? (i := 95) (by decide +kernel)) (by decide +kernel)
theorem wk_L_76 : Cond.methodLink RL 76 yX9_rows ∈ kb_TB := kb_m5 (List.mem_of_getElem? (i := 205) (by decide +kernel)) (by decide +kernel)
theorem wi_X9_rows : Cond.instanceMethod yX9_rows ∈ kb_TB := kb_m5 (List.mem_of_getElem? (i := 206) (by decide +kernel)) (by decide +kernel)
theorem ws_X9_rows : Cond.selects RX9 yX9_rows yX9_rows ∈ kb_TB := kb_m5 (List.mem_of_getElem? (i := 207) (by decide +kernel)) (by decide +kernel)
theorem wk_L_80 : Cond.methodLink RL 80 yX9_unravel ∈ kb_TB := kb_m5 (List.mem_of_getElem? (i := 209) (by decide +kernel)) (by decide +kernel)
theorem wi_X9_unravel : Cond.instanceMethod yX9_unravel ∈ kb_TB := kb_m5 (List.mem_of_getElem? (i := 210) (by decide +kernel)) (by decide +kernel)
theorem ws_X9_unravel : Cond.selects RX9 yX9_unravel yX9_unravel ∈ kb_TB := kb_m5 (List.mem_of_getElem? (i := 211) (by decide +kernel)) (by decide +kernel)
theorem wk_L_84 : Cond.methodLink RL 84 yX9_live ∈ kb_TB := kb_m5 (List.mem_of_getElem? (i := 213) (by decide +kernel)) (by decide +kernel)
theorem wi_X9_live : Cond.instanceMethod yX9_live ∈ kb_TB := kb_m5 (List.mem_of_getElem? (i := 214) (by decide +kernel)) (by decide +kernel)
theorem ws_X9_live : Cond.selects RX9 yX9_live yX9_live ∈ kb_TB := kb_m5 (List.mem_of_getElem? (i := 215) (by decide +kernel)) (by decide +kernel)
theorem wk_L_88 : Cond.methodLink RL 88 yX9_loop ∈ kb_TB := kb_m5 (List.mem_of_getElem? (i := 221) (by decide +kernel)) (by decide +kernel)
theorem wi_X9_loop : Cond.instanceMethod yX9_loop ∈ kb_TB := kb_m5 (List.mem_of_getElem? (i := 222) (by decide +kernel)) (by decide +kernel)
theorem ws_X9_loop : Cond.selects RX9 yX9_loop yX9_loop ∈ kb_TB := kb_m5 (List.mem_of_getElem? (i := 223) (by decide +kernel)) (by decide +kernel)
theorem wk_L_91 : Cond.methodLink RL 91 yX9_chart ∈ kb_TB := kb_m5 (List.mem_of_getElem? (i := 225) (by decide +kernel)) (by decide +kernel)
theorem wi_X9_chart : Cond.instanceMethod yX9_chart ∈ kb_TB := kb_m5 (List.mem_of_getElem? (i := 226) (by decide +kernel)) (by decide +kernel)
theorem ws_X9_chart : Cond.selects RX9 yX9_chart yX9_chart ∈ kb_TB := kb_m5 (List.mem_of_getElem? (i := 227) (by decide +kernel)) (by decide +kernel)
theorem wk_L_94 : Cond.methodLink RL 94 yX9_row ∈ kb_TB := kb_m5 (List.mem_of_getElem? (i := 229) (by decide +kernel)) (by decide +kernel)
theorem wi_X9_row : Cond.instanceMethod yX9_row ∈ kb_TB := kb_m5 (List.mem_of_getElem? (i := 230) (by decide +kernel)) (by decide +kernel)
theorem ws_X9_row : Cond.selects RX9 yX9_row yX9_row ∈ kb_TB := kb_m5 (List.mem_of_getElem? (i := 231) (by decide +kernel)) (by decide +kernel)
theorem wk_L_97 : Cond.methodLink RL 97 yX9_shorten ∈ kb_TB := kb_m5 (List.mem_of_getElem? (i := 233) (by decide +kernel)) (by decide +kernel)
theorem wi_X9_shorten : Cond.instanceMethod yX9_shorten ∈ kb_TB := kb_m5 (List.mem_of_getElem? (i := 234) (by decide +kernel)) (by decide +kernel)
theorem ws_X9_shorten : Cond.selects RX9 yX9_shorten yX9_shorten ∈ kb_TB := kb_m5 (List.mem_of_getElem? (i := 235) (by decide +kernel)) (by decide +kernel)
theorem wk_L_100 : Cond.methodLink RL 100 yX9_out ∈ kb_TB := kb_m6 (List.mem_of_getElem? (i := 44) (by decide +kernel)) (by decide +kernel)
theorem wi_X9_out : Cond.instanceMethod yX9_out ∈ kb_TB := kb_m6 (List.mem_of_getElem? (i := 45) (by decide +kernel)) (by decide +kernel)
theorem ws_X9_out : Cond.selects RX9 yX9_out yX9_out ∈ kb_TB := kb_m6 (List.mem_of_getElem? (i := 46) (by decide +kernel)) (by decide +kernel)
theorem wk_L_103 : Cond.methodLink RL 103 yX9_ladder ∈ kb_TB := kb_m6 (List.mem_of_getElem? (i := 48) (by decide +kernel)) (by decide +kernel)
theorem wi_X9_ladder : Cond.instanceMethod yX9_ladder ∈ kb_TB := kb_m6 (List.mem_of_getElem? (i := 49) (by decide +kernel)) (by decide +kernel)
theorem ws_X9_ladder : Cond.selects RX9 yX9_ladder yX9_ladder ∈ kb_TB := kb_m6 (List.mem_of_getElem? (i := 50) (by decide +kernel)) (by decide +kernel)
theorem wk_L_106 : Cond.methodLink RL 106 yX9_total ∈ kb_TB := kb_m6 (List.mem_of_getElem? (i := 52) (by decide +kernel)) (by decide +kernel)
theorem wi_X9_total : Cond.instanceMethod yX9_total ∈ kb_TB := kb_m6 (List.mem_of_getElem? (i := 53) (by decide +kernel)) (by decide +kernel)
theorem ws_X9_total : Cond.selects RX9 yX9_total yX9_total ∈ kb_TB := kb_m6 (List.mem_of_getElem? (i := 54) (by decide +kernel)) (by decide +kernel)
theorem wh_L_begin : Cond.codeWith yL_begin cL_begin 4 (some .int) [(0, 6, 9, 13)] ∈ kb_TB := kb_m3 (List.mem_of_getElem? (i := 62) (by decide +kernel)) (by decide +kernel)
theorem wh_L_feed : Cond.codeWith yL_feed cL_feed 6 (some .int) [(0, 11, 14, 13), (0, 11, 18, 19)] ∈ kb_TB := kb_m3 (List.mem_of_getElem? (i := 141) (by decide +kernel)) (by decide +kernel)
theorem wh_L_unravel : Cond.codeWith yL_unravel cL_unravel 4 (some .int) [(0, 9, 12, 13)] ∈ kb_TB := kb_m3 (List.mem_of_getElem? (i := 174) (by decide +kernel)) (by decide +kernel)
theorem wh_L_loop : Cond.codeWith yL_loop cL_loop 5 (some .int) [(0, 10, 13, 13)] ∈ kb_TB := kb_m3 (List.mem_of_getElem? (i := 187) (by decide +kernel)) (by decide +kernel)
theorem wh_L_chart : Cond.codeWith yL_chart cL_chart 5 (some .int) [(0, 10, 13, 13), (0, 10, 17, 32)] ∈ kb_TB := kb_m3 (List.mem_of_getElem? (i := 218) (by decide +kernel)) (by decide +kernel)
theorem wh_L_row : Cond.codeWith yL_row cL_row 5 (some .int) [(0, 10, 13, 13)] ∈ kb_TB := kb_m4 (List.mem_of_getElem? (i := 27) (by decide +kernel)) (by decide +kernel)
theorem wh_L_shorten : Cond.codeWith yL_shorten cL_shorten 4 (some .int) [(0, 9, 12, 13)] ∈ kb_TB := kb_m4 (List.mem_of_getElem? (i := 46) (by decide +kernel)) (by decide +kernel)
theorem wh_L_out : Cond.codeWith yL_out cL_out 4 (some .int) [(0, 9, 12, 13)] ∈ kb_TB := kb_m4 (List.mem_of_getElem? (i := 169) (by decide +kernel)) (by decide +kernel)
theorem wh_L_ladder : Cond.codeWith yL_ladder cL_ladder 4 (some .int) [(0, 9, 12, 13)] ∈ kb_TB := kb_m4 (List.mem_of_getElem? (i := 181) (by decide +kernel)) (by decide +kernel)
theorem wh_L_total : Cond.codeWith yL_total cL_total 4 (some .int) [(0, 9, 12, 13)] ∈ kb_TB := kb_m4 (List.mem_of_getElem? (i := 195) (by decide +kernel)) (by decide +kernel)
theorem wl_L_63 : Cond.constantLong RL 63 (4294967295) ∈ kb_TB := kb_m6 (List.mem_of_getElem? (i := 56) (by decide +kernel)) (by decide +kernel)
theorem dL_begin_0 : decode cL_begin 0 = .ok (.aload_n 0, 1) := by decide +kernel
theorem dL_begin_1 : decode cL_begin 1 = .ok (.iload_n 1, 1) := by decide +kernel
theorem dL_begin_2 : decode cL_begin 2 = .ok (.iload_n 2, 1) := by decide +kernel
theorem dL_begin_3 : decode cL_begin 3 = .ok (.invokevirtual 7, 3) := by decide +kernel
theorem dL_begin_6 : decode cL_begin 6 = .ok (.goto 6, 3) := by decide +kernel
theorem dL_begin_9 : decode cL_begin 9 = .ok (.astore_n 3, 1) := by decide +kernel
theorem dL_begin_10 : decode cL_begin 10 = .ok (.iconst 1, 1) := by decide +kernel
theorem dL_begin_11 : decode cL_begin 11 = .ok (.ireturn, 1) := by decide +kernel
theorem dL_begin_12 : decode cL_begin 12 = .ok (.iconst 0, 1) := by decide +kernel
theorem dL_begin_13 : decode cL_begin 13 = .ok (.ireturn, 1) := by decide +kernel
theorem dL_feed_0 : decode cL_feed 0 = .ok (.aload 4, 2) := by decide +kernel
theorem dL_feed_2 : decode cL_feed 2 = .ok (.iconst 0, 1) := by decide +kernel
theorem dL_feed_3 : decode cL_feed 3 = .ok (.aload_n 0, 1) := by decide +kernel
theorem dL_feed_4 : decode cL_feed 4 = .ok (.lload_n 1, 1) := by decide +kernel
theorem dL_feed_5 : decode cL_feed 5 = .ok (.iload_n 3, 1) := by decide +kernel
theorem dL_feed_6 : decode cL_feed 6 = .ok (.invokevirtual 15, 3) := by decide +kernel
theorem dL_feed_9 : decode cL_feed 9 = .ok (.i2l, 1) := by decide +kernel
theorem dL_feed_10 : decode cL_feed 10 = .ok (.lastore, 1) := by decide +kernel
theorem dL_feed_11 : decode cL_feed 11 = .ok (.goto 11, 3) := by decide +kernel
theorem dL_feed_14 : decode cL_feed 14 = .ok (.astore 5, 2) := by decide +kernel
theorem dL_feed_16 : decode cL_feed 16 = .ok (.iconst 1, 1) := by decide +kernel
theorem dL_feed_17 : decode cL_feed 17 = .ok (.ireturn, 1) := by decide +kernel
theorem dL_feed_18 : decode cL_feed 18 = .ok (.astore 5, 2) := by decide +kernel
theorem dL_feed_20 : decode cL_feed 20 = .ok (.iconst 2, 1) := by decide +kernel
theorem dL_feed_21 : decode cL_feed 21 = .ok (.ireturn, 1) := by decide +kernel
theorem dL_feed_22 : decode cL_feed 22 = .ok (.iconst 0, 1) := by decide +kernel
theorem dL_feed_23 : decode cL_feed 23 = .ok (.ireturn, 1) := by decide +kernel
theorem dL_unravel_0 : decode cL_unravel 0 = .ok (.aload_n 2, 1) := by decide +kernel
theorem dL_unravel_1 : decode cL_unravel 1 = .ok (.iconst 0, 1) := by decide +kernel
theorem dL_unravel_2 : decode cL_unravel 2 = .ok (.aload_n 0, 1) := by decide +kernel
theorem dL_unravel_3 : decode cL_unravel 3 = .ok (.iload_n 1, 1) := by decide +kernel
theorem dL_unravel_4 : decode cL_unravel 4 = .ok (.invokevirtual 21, 3) := by decide +kernel
theorem dL_unravel_7 : decode cL_unravel 7 = .ok (.i2l, 1) := by decide +kernel
theorem dL_unravel_8 : decode cL_unravel 8 = .ok (.lastore, 1) := by decide +kernel
theorem dL_unravel_9 : decode cL_unravel 9 = .ok (.goto 6, 3) := by decide +kernel
theorem dL_unravel_12 : decode cL_unravel 12 = .ok (.astore_n 3, 1) := by decide +kernel
theorem dL_unravel_13 : decode cL_unravel 13 = .ok (.iconst 1, 1) := by decide +kernel
theorem dL_unravel_14 : decode cL_unravel 14 = .ok (.ireturn, 1) := by decide +kernel
theorem dL_unravel_15 : decode cL_unravel 15 = .ok (.iconst 0, 1) := by decide +kernel
theorem dL_unravel_16 : decode cL_unravel 16 = .ok (.ireturn, 1) := by decide +kernel
theorem dL_loop_0 : decode cL_loop 0 = .ok (.aload_n 3, 1) := by decide +kernel
theorem dL_loop_1 : decode cL_loop 1 = .ok (.iconst 0, 1) := by decide +kernel
theorem dL_loop_2 : decode cL_loop 2 = .ok (.aload_n 0, 1) := by decide +kernel
theorem dL_loop_3 : decode cL_loop 3 = .ok (.iload_n 1, 1) := by decide +kernel
theorem dL_loop_4 : decode cL_loop 4 = .ok (.iload_n 2, 1) := by decide +kernel
theorem dL_loop_5 : decode cL_loop 5 = .ok (.invokevirtual 25, 3) := by decide +kernel
theorem dL_loop_8 : decode cL_loop 8 = .ok (.i2l, 1) := by decide +kernel
theorem dL_loop_9 : decode cL_loop 9 = .ok (.lastore, 1) := by decide +kernel
theorem dL_loop_10 : decode cL_loop 10 = .ok (.goto 7, 3) := by decide +kernel
theorem dL_loop_13 : decode cL_loop 13 = .ok (.astore 4, 2) := by decide +kernel
theorem dL_loop_15 : decode cL_loop 15 = .ok (.iconst 1, 1) := by decide +kernel
theorem dL_loop_16 : decode cL_loop 16 = .ok (.ireturn, 1) := by decide +kernel
theorem dL_loop_17 : decode cL_loop 17 = .ok (.iconst 0, 1) := by decide +kernel
theorem dL_loop_18 : decode cL_loop 18 = .ok (.ireturn, 1) := by decide +kernel
theorem dL_chart_0 : decode cL_chart 0 = .ok (.aload_n 3, 1) := by decide +kernel
theorem dL_chart_1 : decode cL_chart 1 = .ok (.iconst 0, 1) := by decide +kernel
theorem dL_chart_2 : decode cL_chart 2 = .ok (.aload_n 0, 1) := by decide +kernel
theorem dL_chart_3 : decode cL_chart 3 = .ok (.iload_n 1, 1) := by decide +kernel
theorem dL_chart_4 : decode cL_chart 4 = .ok (.iload_n 2, 1) := by decide +kernel
theorem dL_chart_5 : decode cL_chart 5 = .ok (.invokevirtual 29, 3) := by decide +kernel
theorem dL_chart_8 : decode cL_chart 8 = .ok (.i2l, 1) := by decide +kernel
theorem dL_chart_9 : decode cL_chart 9 = .ok (.lastore, 1) := by decide +kernel
theorem dL_chart_10 : decode cL_chart 10 = .ok (.goto 11, 3) := by decide +kernel
theorem dL_chart_13 : decode cL_chart 13 = .ok (.astore 4, 2) := by decide +kernel
theorem dL_chart_15 : decode cL_chart 15 = .ok (.iconst 1, 1) := by decide +kernel
theorem dL_chart_16 : decode cL_chart 16 = .ok (.ireturn, 1) := by decide +kernel
theorem dL_chart_17 : decode cL_chart 17 = .ok (.astore 4, 2) := by decide +kernel
theorem dL_chart_19 : decode cL_chart 19 = .ok (.iconst 2, 1) := by decide +kernel
theorem dL_chart_20 : decode cL_chart 20 = .ok (.ireturn, 1) := by decide +kernel
theorem dL_chart_21 : decode cL_chart 21 = .ok (.iconst 0, 1) := by decide +kernel
theorem dL_chart_22 : decode cL_chart 22 = .ok (.ireturn, 1) := by decide +kernel
theorem dL_row_0 : decode cL_row 0 = .ok (.aload_n 3, 1) := by decide +kernel
theorem dL_row_1 : decode cL_row 1 = .ok (.iconst 0, 1) := by decide +kernel
theorem dL_row_2 : decode cL_row 2 = .ok (.aload_n 0, 1) := by decide +kernel
theorem dL_row_3 : decode cL_row 3 = .ok (.iload_n 1, 1) := by decide +kernel
theorem dL_row_4 : decode cL_row 4 = .ok (.iload_n 2, 1) := by decide +kernel
theorem dL_row_5 : decode cL_row 5 = .ok (.invokevirtual 34, 3) := by decide +kernel
theorem dL_row_8 : decode cL_row 8 = .ok (.i2l, 1) := by decide +kernel
theorem dL_row_9 : decode cL_row 9 = .ok (.lastore, 1) := by decide +kernel
theorem dL_row_10 : decode cL_row 10 = .ok (.goto 7, 3) := by decide +kernel
theorem dL_row_13 : decode cL_row 13 = .ok (.astore 4, 2) := by decide +kernel
theorem dL_row_15 : decode cL_row 15 = .ok (.iconst 1, 1) := by decide +kernel
theorem dL_row_16 : decode cL_row 16 = .ok (.ireturn, 1) := by decide +kernel
theorem dL_row_17 : decode cL_row 17 = .ok (.iconst 0, 1) := by decide +kernel
theorem dL_row_18 : decode cL_row 18 = .ok (.ireturn, 1) := by decide +kernel
theorem dL_shorten_0 : decode cL_shorten 0 = .ok (.aload_n 2, 1) := by decide +kernel
theorem dL_shorten_1 : decode cL_shorten 1 = .ok (.iconst 0, 1) := by decide +kernel
theorem dL_shorten_2 : decode cL_shorten 2 = .ok (.aload_n 0, 1) := by decide +kernel
theorem dL_shorten_3 : decode cL_shorten 3 = .ok (.iload_n 1, 1) := by decide +kernel
theorem dL_shorten_4 : decode cL_shorten 4 = .ok (.invokevirtual 37, 3) := by decide +kernel
theorem dL_shorten_7 : decode cL_shorten 7 = .ok (.i2l, 1) := by decide +kernel
theorem dL_shorten_8 : decode cL_shorten 8 = .ok (.lastore, 1) := by decide +kernel
theorem dL_shorten_9 : decode cL_shorten 9 = .ok (.goto 6, 3) := by decide +kernel
theorem dL_shorten_12 : decode cL_shorten 12 = .ok (.astore_n 3, 1) := by decide +kernel
theorem dL_shorten_13 : decode cL_shorten 13 = .ok (.iconst 1, 1) := by decide +kernel
theorem dL_shorten_14 : decode cL_shorten 14 = .ok (.ireturn, 1) := by decide +kernel
theorem dL_shorten_15 : decode cL_shorten 15 = .ok (.iconst 0, 1) := by decide +kernel
theorem dL_shorten_16 : decode cL_shorten 16 = .ok (.ireturn, 1) := by decide +kernel
theorem dL_out_0 : decode cL_out 0 = .ok (.aload_n 2, 1) := by decide +kernel
theorem dL_out_1 : decode cL_out 1 = .ok (.iconst 0, 1) := by decide +kernel
theorem dL_out_2 : decode cL_out 2 = .ok (.aload_n 0, 1) := by decide +kernel
theorem dL_out_3 : decode cL_out 3 = .ok (.iload_n 1, 1) := by decide +kernel
theorem dL_out_4 : decode cL_out 4 = .ok (.invokevirtual 40, 3) := by decide +kernel
theorem dL_out_7 : decode cL_out 7 = .ok (.i2l, 1) := by decide +kernel
theorem dL_out_8 : decode cL_out 8 = .ok (.lastore, 1) := by decide +kernel
theorem dL_out_9 : decode cL_out 9 = .ok (.goto 6, 3) := by decide +kernel
theorem dL_out_12 : decode cL_out 12 = .ok (.astore_n 3, 1) := by decide +kernel
theorem dL_out_13 : decode cL_out 13 = .ok (.iconst 1, 1) := by decide +kernel
theorem dL_out_14 : decode cL_out 14 = .ok (.ireturn, 1) := by decide +kernel
theorem dL_out_15 : decode cL_out 15 = .ok (.iconst 0, 1) := by decide +kernel
theorem dL_out_16 : decode cL_out 16 = .ok (.ireturn, 1) := by decide +kernel
theorem dL_ladder_0 : decode cL_ladder 0 = .ok (.aload_n 2, 1) := by decide +kernel
theorem dL_ladder_1 : decode cL_ladder 1 = .ok (.iconst 0, 1) := by decide +kernel
theorem dL_ladder_2 : decode cL_ladder 2 = .ok (.aload_n 0, 1) := by decide +kernel
theorem dL_ladder_3 : decode cL_ladder 3 = .ok (.iload_n 1, 1) := by decide +kernel
theorem dL_ladder_4 : decode cL_ladder 4 = .ok (.invokevirtual 43, 3) := by decide +kernel
theorem dL_ladder_7 : decode cL_ladder 7 = .ok (.i2l, 1) := by decide +kernel
theorem dL_ladder_8 : decode cL_ladder 8 = .ok (.lastore, 1) := by decide +kernel
theorem dL_ladder_9 : decode cL_ladder 9 = .ok (.goto 6, 3) := by decide +kernel
theorem dL_ladder_12 : decode cL_ladder 12 = .ok (.astore_n 3, 1) := by decide +kernel
theorem dL_ladder_13 : decode cL_ladder 13 = .ok (.iconst 1, 1) := by decide +kernel
theorem dL_ladder_14 : decode cL_ladder 14 = .ok (.ireturn, 1) := by decide +kernel
theorem dL_ladder_15 : decode cL_ladder 15 = .ok (.iconst 0, 1) := by decide +kernel
theorem dL_ladder_16 : decode cL_ladder 16 = .ok (.ireturn, 1) := by decide +kernel
theorem dL_total_0 : decode cL_total 0 = .ok (.aload_n 2, 1) := by decide +kernel
theorem dL_total_1 : decode cL_total 1 = .ok (.iconst 0, 1) := by decide +kernel
theorem dL_total_2 : decode cL_total 2 = .ok (.aload_n 0, 1) := by decide +kernel
theorem dL_total_3 : decode cL_total 3 = .ok (.iload_n 1, 1) := by decide +kernel
theorem dL_total_4 : decode cL_total 4 = .ok (.invokevirtual 46, 3) := by decide +kernel
theorem dL_total_7 : decode cL_total 7 = .ok (.i2l, 1) := by decide +kernel
theorem dL_total_8 : decode cL_total 8 = .ok (.lastore, 1) := by decide +kernel
theorem dL_total_9 : decode cL_total 9 = .ok (.goto 6, 3) := by decide +kernel
theorem dL_total_12 : decode cL_total 12 = .ok (.astore_n 3, 1) := by decide +kernel
theorem dL_total_13 : decode cL_total 13 = .ok (.iconst 1, 1) := by decide +kernel
theorem dL_total_14 : decode cL_total 14 = .ok (.ireturn, 1) := by decide +kernel
theorem dL_total_15 : decode cL_total 15 = .ok (.iconst 0, 1) := by decide +kernel
theorem dL_total_16 : decode cL_total 16 = .ok (.ireturn, 1) := by decide +kernel
