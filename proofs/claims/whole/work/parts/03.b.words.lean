theorem wy_X0_0 : Cond.laysFinal RX0 "KnitBench$Fabric" "firstLoops" "[I" ∈ kb_TB := kb_m1 (List.mem_of_getElem? (i := 89) (by decide +kernel)) (by decide +kernel)
theorem wy_X0_1 : Cond.laysFinal RX0 "KnitBench$Fabric" "firstStitches" "[I" ∈ kb_TB := kb_m1 (List.mem_of_getElem? (i := 91) (by decide +kernel)) (by decide +kernel)
theorem wy_X0_2 : Cond.laysFinal RX0 "KnitBench$Fabric" "stitches" "[I" ∈ kb_TB := kb_m1 (List.mem_of_getElem? (i := 93) (by decide +kernel)) (by decide +kernel)
theorem wy_X0_3 : Cond.laysFinal RX0 "KnitBench$Fabric" "parentCounts" "[I" ∈ kb_TB := kb_m1 (List.mem_of_getElem? (i := 95) (by decide +kernel)) (by decide +kernel)
theorem wy_X0_4 : Cond.laysFinal RX0 "KnitBench$Fabric" "firstParents" "[I" ∈ kb_TB := kb_m1 (List.mem_of_getElem? (i := 97) (by decide +kernel)) (by decide +kernel)
theorem wy_X0_5 : Cond.lays RX0 "KnitBench$Fabric" "round" "Z" ∈ kb_TB := kb_m1 (List.mem_of_getElem? (i := 99) (by decide +kernel)) (by decide +kernel)
theorem wy_X0_6 : Cond.lays RX0 "KnitBench$Fabric" "rowCount" "I" ∈ kb_TB := kb_m1 (List.mem_of_getElem? (i := 101) (by decide +kernel)) (by decide +kernel)
theorem wy_X0_7 : Cond.lays RX0 "KnitBench$Fabric" "needleCount" "I" ∈ kb_TB := kb_m1 (List.mem_of_getElem? (i := 103) (by decide +kernel)) (by decide +kernel)
theorem wy_X0_8 : Cond.lays RX0 "KnitBench$Fabric" "needleStart" "I" ∈ kb_TB := kb_m1 (List.mem_of_getElem? (i := 105) (by decide +kernel)) (by decide +kernel)
theorem wy_X0_9 : Cond.lays RX0 "KnitBench$Fabric" "needleStep" "I" ∈ kb_TB := kb_m1 (List.mem_of_getElem? (i := 107) (by decide +kernel)) (by decide +kernel)
theorem wy_X0_10 : Cond.lays RX0 "KnitBench$Fabric" "taken" "I" ∈ kb_TB := kb_m1 (List.mem_of_getElem? (i := 109) (by decide +kernel)) (by decide +kernel)
theorem wy_X0_11 : Cond.lays RX0 "KnitBench$Fabric" "loopEnd" "I" ∈ kb_TB := kb_m1 (List.mem_of_getElem? (i := 111) (by decide +kernel)) (by decide +kernel)
theorem wy_X0_12 : Cond.lays RX0 "KnitBench$Fabric" "stitchEnd" "I" ∈ kb_TB := kb_m1 (List.mem_of_getElem? (i := 113) (by decide +kernel)) (by decide +kernel)
theorem hi_X0 : ∀ w ∈ u_ws RX0 TX0 13, w ∈ kb_TB := by
  intro w hw
  obtain ⟨k, hk, rfl⟩ := List.mem_map.mp hw
  have hk := List.mem_range.mp hk
  match k, hk with
  | 0, _ => exact wy_X0_0
  | 1, _ => exact wy_X0_1
  | 2, _ => exact wy_X0_2
  | 3, _ => exact wy_X0_3
  | 4, _ => exact wy_X0_4
  | 5, _ => exact wy_X0_5
  | 6, _ => exact wy_X0_6
  | 7, _ => exact wy_X0_7
  | 8, _ => exact wy_X0_8
  | 9, _ => exact wy_X0_9
  | 10, _ => exact wy_X0_10
  | 11, _ => exact wy_X0_11
  | 12, _ => exact wy_X0_12
  | k + 13, h => exact absurd h (by omega)
theorem wy_X2_0 : Cond.laysFinal RX2 "KnitBench$Knitter" "plan" "LKnitBench$Plan;" ∈ kb_TB := kb_m1 (List.mem_of_getElem? (i := 161) (by decide +kernel)) (by decide +kernel)
theorem wy_X2_1 : Cond.laysFinal RX2 "KnitBench$Knitter" "fabric" "LKnitBench$Fabric;" ∈ kb_TB := kb_m1 (List.mem_of_getElem? (i := 163) (by decide +kernel)) (by decide +kernel)
theorem wy_X2_2 : Cond.laysFinal RX2 "KnitBench$Knitter" "runsLeft" "[J" ∈ kb_TB := kb_m1 (List.mem_of_getElem? (i := 165) (by decide +kernel)) (by decide +kernel)
theorem wy_X2_3 : Cond.lays RX2 "KnitBench$Knitter" "depth" "I" ∈ kb_TB := kb_m1 (List.mem_of_getElem? (i := 167) (by decide +kernel)) (by decide +kernel)
theorem wy_X2_4 : Cond.lays RX2 "KnitBench$Knitter" "fault" "I" ∈ kb_TB := kb_m1 (List.mem_of_getElem? (i := 169) (by decide +kernel)) (by decide +kernel)
theorem hi_X2 : ∀ w ∈ u_ws RX2 TX2 5, w ∈ kb_TB := by
  intro w hw
  obtain ⟨k, hk, rfl⟩ := List.mem_map.mp hw
  have hk := List.mem_range.mp hk
  match k, hk with
  | 0, _ => exact wy_X2_0
  | 1, _ => exact wy_X2_1
  | 2, _ => exact wy_X2_2
  | 3, _ => exact wy_X2_3
  | 4, _ => exact wy_X2_4
  | k + 5, h => exact absurd h (by omega)
theorem wy_X3_0 : Cond.laysFinal RX3 "KnitBench$Plan" "kinds" "[I" ∈ kb_TB := kb_m1 (List.mem_of_getElem? (i := 42) (by decide +kernel)) (by decide +kernel)
theorem wy_X3_1 : Cond.laysFinal RX3 "KnitBench$Plan" "places" "[I" ∈ kb_TB := kb_m1 (List.mem_of_getElem? (i := 44) (by decide +kernel)) (by decide +kernel)
theorem wy_X3_2 : Cond.laysFinal RX3 "KnitBench$Plan" "counts" "[I" ∈ kb_TB := kb_m1 (List.mem_of_getElem? (i := 46) (by decide +kernel)) (by decide +kernel)
theorem wy_X3_3 : Cond.laysFinal RX3 "KnitBench$Plan" "links" "[I" ∈ kb_TB := kb_m1 (List.mem_of_getElem? (i := 48) (by decide +kernel)) (by decide +kernel)
theorem wy_X3_4 : Cond.laysFinal RX3 "KnitBench$Plan" "takes" "[J" ∈ kb_TB := kb_m1 (List.mem_of_getElem? (i := 50) (by decide +kernel)) (by decide +kernel)
theorem wy_X3_5 : Cond.lays RX3 "KnitBench$Plan" "size" "I" ∈ kb_TB := kb_m1 (List.mem_of_getElem? (i := 52) (by decide +kernel)) (by decide +kernel)
theorem hi_X3 : ∀ w ∈ u_ws RX3 TX3 6, w ∈ kb_TB := by
  intro w hw
  obtain ⟨k, hk, rfl⟩ := List.mem_map.mp hw
  have hk := List.mem_range.mp hk
  match k, hk with
  | 0, _ => exact wy_X3_0
  | 1, _ => exact wy_X3_1
  | 2, _ => exact wy_X3_2
  | 3, _ => exact wy_X3_3
  | 4, _ => exact wy_X3_4
  | 5, _ => exact wy_X3_5
  | k + 6, h => exact absurd h (by omega)
theorem wy_X4_0 : Cond.laysFinal RX4 "KnitBench$RowReader" "tape" "LKnitBench$Tape;" ∈ kb_TB := kb_m1 (List.mem_of_getElem? (i := 131) (by decide +kernel)) (by decide +kernel)
theorem wy_X4_1 : Cond.laysFinal RX4 "KnitBench$RowReader" "plan" "LKnitBench$Plan;" ∈ kb_TB := kb_m1 (List.mem_of_getElem? (i := 133) (by decide +kernel)) (by decide +kernel)
theorem wy_X4_2 : Cond.laysFinal RX4 "KnitBench$RowReader" "openSteps" "[I" ∈ kb_TB := kb_m1 (List.mem_of_getElem? (i := 135) (by decide +kernel)) (by decide +kernel)
theorem wy_X4_3 : Cond.laysFinal RX4 "KnitBench$RowReader" "takes" "[J" ∈ kb_TB := kb_m1 (List.mem_of_getElem? (i := 137) (by decide +kernel)) (by decide +kernel)
theorem wy_X4_4 : Cond.lays RX4 "KnitBench$RowReader" "depth" "I" ∈ kb_TB := kb_m1 (List.mem_of_getElem? (i := 139) (by decide +kernel)) (by decide +kernel)
theorem wy_X4_5 : Cond.lays RX4 "KnitBench$RowReader" "at" "I" ∈ kb_TB := kb_m1 (List.mem_of_getElem? (i := 141) (by decide +kernel)) (by decide +kernel)
theorem wy_X4_6 : Cond.lays RX4 "KnitBench$RowReader" "fault" "I" ∈ kb_TB := kb_m1 (List.mem_of_getElem? (i := 143) (by decide +kernel)) (by decide +kernel)
theorem wy_X4_7 : Cond.lays RX4 "KnitBench$RowReader" "itemIsDue" "Z" ∈ kb_TB := kb_m1 (List.mem_of_getElem? (i := 145) (by decide +kernel)) (by decide +kernel)
theorem wy_X4_8 : Cond.lays RX4 "KnitBench$RowReader" "ended" "Z" ∈ kb_TB := kb_m1 (List.mem_of_getElem? (i := 147) (by decide +kernel)) (by decide +kernel)
theorem hi_X4 : ∀ w ∈ u_ws RX4 TX4 9, w ∈ kb_TB := by
  intro w hw
  obtain ⟨k, hk, rfl⟩ := List.mem_map.mp hw
  have hk := List.mem_range.mp hk
  match k, hk with
  | 0, _ => exact wy_X4_0
  | 1, _ => exact wy_X4_1
  | 2, _ => exact wy_X4_2
  | 3, _ => exact wy_X4_3
  | 4, _ => exact wy_X4_4
  | 5, _ => exact wy_X4_5
  | 6, _ => exact wy_X4_6
  | 7, _ => exact wy_X4_7
  | 8, _ => exact wy_X4_8
  | k + 9, h => exact absurd h (by omega)
theorem wy_X5_0 : Cond.laysFinal RX5 "KnitBench$Shortest" "table" "[I" ∈ kb_TB := kb_m4 (List.mem_of_getElem? (i := 63) (by decide +kernel)) (by decide +kernel)
theorem wy_X5_1 : Cond.laysFinal RX5 "KnitBench$Shortest" "sames" "[I" ∈ kb_TB := kb_m4 (List.mem_of_getElem? (i := 65) (by decide +kernel)) (by decide +kernel)
theorem wy_X5_2 : Cond.laysFinal RX5 "KnitBench$Shortest" "stitches" "[I" ∈ kb_TB := kb_m4 (List.mem_of_getElem? (i := 67) (by decide +kernel)) (by decide +kernel)
theorem wy_X5_3 : Cond.laysFinal RX5 "KnitBench$Shortest" "text" "[I" ∈ kb_TB := kb_m4 (List.mem_of_getElem? (i := 69) (by decide +kernel)) (by decide +kernel)
theorem wy_X5_4 : Cond.lays RX5 "KnitBench$Shortest" "count" "I" ∈ kb_TB := kb_m4 (List.mem_of_getElem? (i := 71) (by decide +kernel)) (by decide +kernel)
theorem wy_X5_5 : Cond.lays RX5 "KnitBench$Shortest" "length" "I" ∈ kb_TB := kb_m4 (List.mem_of_getElem? (i := 73) (by decide +kernel)) (by decide +kernel)
theorem hi_X5 : ∀ w ∈ u_ws RX5 TX5 6, w ∈ kb_TB := by
  intro w hw
  obtain ⟨k, hk, rfl⟩ := List.mem_map.mp hw
  have hk := List.mem_range.mp hk
  match k, hk with
  | 0, _ => exact wy_X5_0
  | 1, _ => exact wy_X5_1
  | 2, _ => exact wy_X5_2
  | 3, _ => exact wy_X5_3
  | 4, _ => exact wy_X5_4
  | 5, _ => exact wy_X5_5
  | k + 6, h => exact absurd h (by omega)
theorem wy_X7_0 : Cond.laysFinal RX7 "KnitBench$Tape" "bytes" "[I" ∈ kb_TB := kb_m1 (List.mem_of_getElem? (i := 65) (by decide +kernel)) (by decide +kernel)
theorem wy_X7_1 : Cond.lays RX7 "KnitBench$Tape" "length" "I" ∈ kb_TB := kb_m1 (List.mem_of_getElem? (i := 67) (by decide +kernel)) (by decide +kernel)
theorem hi_X7 : ∀ w ∈ u_ws RX7 TX7 2, w ∈ kb_TB := by
  intro w hw
  obtain ⟨k, hk, rfl⟩ := List.mem_map.mp hw
  have hk := List.mem_range.mp hk
  match k, hk with
  | 0, _ => exact wy_X7_0
  | 1, _ => exact wy_X7_1
  | k + 2, h => exact absurd h (by omega)
theorem wy_X8_0 : Cond.laysFinal RX8 "KnitBench" "tape" "LKnitBench$Tape;" ∈ kb_TB := kb_m1 (List.mem_of_getElem? (i := 193) (by decide +kernel)) (by decide +kernel)
theorem wy_X8_1 : Cond.laysFinal RX8 "KnitBench" "fabric" "LKnitBench$Fabric;" ∈ kb_TB := kb_m1 (List.mem_of_getElem? (i := 195) (by decide +kernel)) (by decide +kernel)
theorem wy_X8_2 : Cond.laysFinal RX8 "KnitBench" "reader" "LKnitBench$RowReader;" ∈ kb_TB := kb_m1 (List.mem_of_getElem? (i := 197) (by decide +kernel)) (by decide +kernel)
theorem wy_X8_3 : Cond.laysFinal RX8 "KnitBench" "knitter" "LKnitBench$Knitter;" ∈ kb_TB := kb_m1 (List.mem_of_getElem? (i := 199) (by decide +kernel)) (by decide +kernel)
theorem wy_X8_4 : Cond.lays RX8 "KnitBench" "shortest" "LKnitBench$Shortest;" ∈ kb_TB := kb_m1 (List.mem_of_getElem? (i := 201) (by decide +kernel)) (by decide +kernel)
theorem hi_X8 : ∀ w ∈ u_ws RX8 TX8 5, w ∈ kb_TB := by
  intro w hw
  obtain ⟨k, hk, rfl⟩ := List.mem_map.mp hw
  have hk := List.mem_range.mp hk
  match k, hk with
  | 0, _ => exact wy_X8_0
  | 1, _ => exact wy_X8_1
  | 2, _ => exact wy_X8_2
  | 3, _ => exact wy_X8_3
  | 4, _ => exact wy_X8_4
  | k + 5, h => exact absurd h (by omega)
theorem wy_X9_0 : Cond.lays RX9 "KnitBenchModel" "thrown" "I" ∈ kb_TB := kb_m5 (List.mem_of_getElem? (i := 8) (by decide +kernel)) (by decide +kernel)
theorem wy_X9_1 : Cond.lays RX9 "KnitBenchModel" "taped" "I" ∈ kb_TB := kb_m5 (List.mem_of_getElem? (i := 10) (by decide +kernel)) (by decide +kernel)
theorem wy_X9_2 : Cond.laysFinal RX9 "KnitBenchModel" "tape" "[I" ∈ kb_TB := kb_m5 (List.mem_of_getElem? (i := 12) (by decide +kernel)) (by decide +kernel)
theorem wy_X9_3 : Cond.lays RX9 "KnitBenchModel" "round" "Z" ∈ kb_TB := kb_m5 (List.mem_of_getElem? (i := 14) (by decide +kernel)) (by decide +kernel)
theorem wy_X9_4 : Cond.lays RX9 "KnitBenchModel" "loops" "I" ∈ kb_TB := kb_m5 (List.mem_of_getElem? (i := 16) (by decide +kernel)) (by decide +kernel)
theorem wy_X9_5 : Cond.laysFinal RX9 "KnitBenchModel" "born" "[I" ∈ kb_TB := kb_m5 (List.mem_of_getElem? (i := 18) (by decide +kernel)) (by decide +kernel)
theorem wy_X9_6 : Cond.laysFinal RX9 "KnitBenchModel" "died" "[I" ∈ kb_TB := kb_m5 (List.mem_of_getElem? (i := 20) (by decide +kernel)) (by decide +kernel)
theorem wy_X9_7 : Cond.laysFinal RX9 "KnitBenchModel" "bound" "[Z" ∈ kb_TB := kb_m5 (List.mem_of_getElem? (i := 22) (by decide +kernel)) (by decide +kernel)
theorem wy_X9_8 : Cond.laysFinal RX9 "KnitBenchModel" "parents" "[I" ∈ kb_TB := kb_m5 (List.mem_of_getElem? (i := 24) (by decide +kernel)) (by decide +kernel)
theorem wy_X9_9 : Cond.laysFinal RX9 "KnitBenchModel" "parent" "[I" ∈ kb_TB := kb_m5 (List.mem_of_getElem? (i := 26) (by decide +kernel)) (by decide +kernel)
theorem wy_X9_10 : Cond.lays RX9 "KnitBenchModel" "rows" "I" ∈ kb_TB := kb_m5 (List.mem_of_getElem? (i := 28) (by decide +kernel)) (by decide +kernel)
theorem wy_X9_11 : Cond.laysFinal RX9 "KnitBenchModel" "begin" "[I" ∈ kb_TB := kb_m5 (List.mem_of_getElem? (i := 30) (by decide +kernel)) (by decide +kernel)
theorem wy_X9_12 : Cond.laysFinal RX9 "KnitBenchModel" "many" "[I" ∈ kb_TB := kb_m5 (List.mem_of_getElem? (i := 32) (by decide +kernel)) (by decide +kernel)
theorem wy_X9_13 : Cond.laysFinal RX9 "KnitBenchModel" "stitch" "[I" ∈ kb_TB := kb_m5 (List.mem_of_getElem? (i := 34) (by decide +kernel)) (by decide +kernel)
theorem wy_X9_14 : Cond.lays RX9 "KnitBenchModel" "at" "I" ∈ kb_TB := kb_m5 (List.mem_of_getElem? (i := 36) (by decide +kernel)) (by decide +kernel)
theorem wy_X9_15 : Cond.lays RX9 "KnitBenchModel" "fault" "I" ∈ kb_TB := kb_m5 (List.mem_of_getElem? (i := 38) (by decide +kernel)) (by decide +kernel)
theorem wy_X9_16 : Cond.lays RX9 "KnitBenchModel" "place" "I" ∈ kb_TB := kb_m5 (List.mem_of_getElem? (i := 40) (by decide +kernel)) (by decide +kernel)
theorem wy_X9_17 : Cond.lays RX9 "KnitBenchModel" "depth" "I" ∈ kb_TB := kb_m5 (List.mem_of_getElem? (i := 42) (by decide +kernel)) (by decide +kernel)
theorem wy_X9_18 : Cond.lays RX9 "KnitBenchModel" "marks" "I" ∈ kb_TB := kb_m5 (List.mem_of_getElem? (i := 44) (by decide +kernel)) (by decide +kernel)
theorem wy_X9_19 : Cond.laysFinal RX9 "KnitBenchModel" "mark" "[I" ∈ kb_TB := kb_m5 (List.mem_of_getElem? (i := 46) (by decide +kernel)) (by decide +kernel)
theorem wy_X9_20 : Cond.laysFinal RX9 "KnitBenchModel" "number" "[I" ∈ kb_TB := kb_m5 (List.mem_of_getElem? (i := 48) (by decide +kernel)) (by decide +kernel)
theorem wy_X9_21 : Cond.laysFinal RX9 "KnitBenchModel" "where" "[I" ∈ kb_TB := kb_m5 (List.mem_of_getElem? (i := 50) (by decide +kernel)) (by decide +kernel)
theorem wy_X9_22 : Cond.laysFinal RX9 "KnitBenchModel" "other" "[I" ∈ kb_TB := kb_m5 (List.mem_of_getElem? (i := 52) (by decide +kernel)) (by decide +kernel)
theorem wy_X9_23 : Cond.lays RX9 "KnitBenchModel" "size" "I" ∈ kb_TB := kb_m5 (List.mem_of_getElem? (i := 54) (by decide +kernel)) (by decide +kernel)
theorem wy_X9_24 : Cond.laysFinal RX9 "KnitBenchModel" "made" "[I" ∈ kb_TB := kb_m5 (List.mem_of_getElem? (i := 56) (by decide +kernel)) (by decide +kernel)
theorem wy_X9_25 : Cond.lays RX9 "KnitBenchModel" "written" "I" ∈ kb_TB := kb_m5 (List.mem_of_getElem? (i := 58) (by decide +kernel)) (by decide +kernel)
theorem wy_X9_26 : Cond.laysFinal RX9 "KnitBenchModel" "out" "[I" ∈ kb_TB := kb_m5 (List.mem_of_getElem? (i := 60) (by decide +kernel)) (by decide +kernel)
theorem wy_X9_27 : Cond.laysFinal RX9 "KnitBenchModel" "words" "[I" ∈ kb_TB := kb_m5 (List.mem_of_getElem? (i := 62) (by decide +kernel)) (by decide +kernel)
theorem wy_X9_28 : Cond.laysFinal RX9 "KnitBenchModel" "way" "[I" ∈ kb_TB := kb_m5 (List.mem_of_getElem? (i := 64) (by decide +kernel)) (by decide +kernel)
theorem wy_X9_29 : Cond.laysFinal RX9 "KnitBenchModel" "open" "[I" ∈ kb_TB := kb_m5 (List.mem_of_getElem? (i := 66) (by decide +kernel)) (by decide +kernel)
theorem wy_X9_30 : Cond.laysFinal RX9 "KnitBenchModel" "turns" "[I" ∈ kb_TB := kb_m5 (List.mem_of_getElem? (i := 68) (by decide +kernel)) (by decide +kernel)
theorem wy_X9_31 : Cond.laysFinal RX9 "KnitBenchModel" "task" "[I" ∈ kb_TB := kb_m5 (List.mem_of_getElem? (i := 70) (by decide +kernel)) (by decide +kernel)
theorem hi_X9 : ∀ w ∈ u_ws RX9 TX9 32, w ∈ kb_TB := by
  intro w hw
  obtain ⟨k, hk, rfl⟩ := List.mem_map.mp hw
  have hk := List.mem_range.mp hk
  match k, hk with
  | 0, _ => exact wy_X9_0
  | 1, _ => exact wy_X9_1
  | 2, _ => exact wy_X9_2
  | 3, _ => exact wy_X9_3
  | 4, _ => exact wy_X9_4
  | 5, _ => exact wy_X9_5
  | 6, _ => exact wy_X9_6
  | 7, _ => exact wy_X9_7
  | 8, _ => exact wy_X9_8
  | 9, _ => exact wy_X9_9
  | 10, _ => exact wy_X9_10
  | 11, _ => exact wy_X9_11
  | 12, _ => exact wy_X9_12
  | 13, _ => exact wy_X9_13
  | 14, _ => exact wy_X9_14
  | 15, _ => exact wy_X9_15
  | 16, _ => exact wy_X9_16
  | 17, _ => exact wy_X9_17
  | 18, _ => exact wy_X9_18
  | 19, _ => exact wy_X9_19
  | 20, _ => exact wy_X9_20
  | 21, _ => exact wy_X9_21
  | 22, _ => exact wy_X9_22
  | 23, _ => exact wy_X9_23
  | 24, _ => exact wy_X9_24
  | 25, _ => exact wy_X9_25
  | 26, _ => exact wy_X9_26
  | 27, _ => exact wy_X9_27
  | 28, _ => exact wy_X9_28
  | 29, _ => exact wy_X9_29
  | 30, _ => exact wy_X9_30
  | 31, _ => exact wy_X9_31
  | k + 32, h => exact absurd h (by omega)
theorem wd_X0_init : Cond.code yX0_init cX0_init 1 none ∈ kb_TB := kb_m1 (List.mem_of_getElem? (i := 74) (by decide +kernel)) (by decide +kernel)
theorem wf_X0_9 : Cond.fieldLink RX0 9 "KnitBench$Fabric" "firstLoops" "[I" ∈ kb_TB := kb_m1 (List.mem_of_getElem? (i := 76) (by decide +kernel)) (by decide +kernel)
theorem wf_X0_13 : Cond.fieldLink RX0 13 "KnitBench$Fabric" "firstStitches" "[I" ∈ kb_TB := kb_m1 (List.mem_of_getElem? (i := 77) (by decide +kernel)) (by decide +kernel)
theorem wf_X0_16 : Cond.fieldLink RX0 16 "KnitBench$Fabric" "stitches" "[I" ∈ kb_TB := kb_m1 (List.mem_of_getElem? (i := 78) (by decide +kernel)) (by decide +kernel)
theorem wf_X0_19 : Cond.fieldLink RX0 19 "KnitBench$Fabric" "parentCounts" "[I" ∈ kb_TB := kb_m1 (List.mem_of_getElem? (i := 79) (by decide +kernel)) (by decide +kernel)
theorem wf_X0_22 : Cond.fieldLink RX0 22 "KnitBench$Fabric" "firstParents" "[I" ∈ kb_TB := kb_m1 (List.mem_of_getElem? (i := 80) (by decide +kernel)) (by decide +kernel)
theorem wd_X0_castOn : Cond.code yX0_castOn cX0_castOn 4 none ∈ kb_TB := kb_m1 (List.mem_of_getElem? (i := 175) (by decide +kernel)) (by decide +kernel)
theorem wf_X0_25 : Cond.fieldLink RX0 25 "KnitBench$Fabric" "round" "Z" ∈ kb_TB := kb_m1 (List.mem_of_getElem? (i := 81) (by decide +kernel)) (by decide +kernel)
theorem wf_X0_29 : Cond.fieldLink RX0 29 "KnitBench$Fabric" "rowCount" "I" ∈ kb_TB := kb_m1 (List.mem_of_getElem? (i := 82) (by decide +kernel)) (by decide +kernel)
theorem wf_X0_33 : Cond.fieldLink RX0 33 "KnitBench$Fabric" "loopEnd" "I" ∈ kb_TB := kb_m1 (List.mem_of_getElem? (i := 87) (by decide +kernel)) (by decide +kernel)
theorem wk_X0_36 : Cond.methodLink RX0 36 yX0_makeLoop ∈ kb_TB := kb_m1 (List.mem_of_getElem? (i := 176) (by decide +kernel)) (by decide +kernel)
theorem wd_X0_makeLoop : Cond.code yX0_makeLoop cX0_makeLoop 3 none ∈ kb_TB := kb_m1 (List.mem_of_getElem? (i := 179) (by decide +kernel)) (by decide +kernel)
theorem wz_X0 : Cond.initialized RX0 ∈ kb_TB := kb_m1 (List.mem_of_getElem? (i := 4) (by decide +kernel)) (by decide +kernel)
theorem wi_X0_makeLoop : Cond.instanceMethod yX0_makeLoop ∈ kb_TB := kb_m1 (List.mem_of_getElem? (i := 178) (by decide +kernel)) (by decide +kernel)
theorem ws_X0_makeLoop : Cond.selects RX0 yX0_makeLoop yX0_makeLoop ∈ kb_TB := kb_m0 (List.mem_of_getElem? (i := 0) (by decide +kernel)) (by decide +kernel)
theorem wk_X0_40 : Cond.methodLink RX0 40 yX0_fillNeedle ∈ kb_TB := kb_m1 (List.mem_of_getElem? (i := 184) (by decide +kernel)) (by decide +kernel)
theorem wd_X0_fillNeedle : Cond.code yX0_fillNeedle cX0_fillNeedle 3 none ∈ kb_TB := kb_m1 (List.mem_of_getElem? (i := 187) (by decide +kernel)) (by decide +kernel)
theorem wi_X0_fillNeedle : Cond.instanceMethod yX0_fillNeedle ∈ kb_TB := kb_m1 (List.mem_of_getElem? (i := 186) (by decide +kernel)) (by decide +kernel)
theorem ws_X0_fillNeedle : Cond.selects RX0 yX0_fillNeedle yX0_fillNeedle ∈ kb_TB := kb_m0 (List.mem_of_getElem? (i := 1) (by decide +kernel)) (by decide +kernel)
theorem wd_X0_rowCount : Cond.code yX0_rowCount cX0_rowCount 1 (some .int) ∈ kb_TB := kb_m3 (List.mem_of_getElem? (i := 54) (by decide +kernel)) (by decide +kernel)
theorem wd_X0_takeBack : Cond.code yX0_takeBack cX0_takeBack 2 none ∈ kb_TB := kb_m3 (List.mem_of_getElem? (i := 183) (by decide +kernel)) (by decide +kernel)
theorem wk_X0_43 : Cond.methodLink RX0 43 Lib.Math.max.name ∈ kb_TB := kb_m3 (List.mem_of_getElem? (i := 184) (by decide +kernel)) (by decide +kernel)
theorem wi_Mmax : Cond.static Lib.Math.max.name ∈ kb_TB := kb_m3 (List.mem_of_getElem? (i := 28) (by decide +kernel)) (by decide +kernel)
theorem wz_Math : Cond.initialized "java/lang/Math" ∈ kb_TB := kb_m1 (List.mem_of_getElem? (i := 19) (by decide +kernel)) (by decide +kernel)
theorem wd_Mmax : Cond.code Lib.Math.max.name Lib.Math.max.code 2 (some .int) ∈ kb_TB := kb_m3 (List.mem_of_getElem? (i := 29) (by decide +kernel)) (by decide +kernel)
theorem wf_X0_49 : Cond.fieldLink RX0 49 "KnitBench$Fabric" "needleCount" "I" ∈ kb_TB := kb_m1 (List.mem_of_getElem? (i := 83) (by decide +kernel)) (by decide +kernel)
theorem wf_X0_52 : Cond.fieldLink RX0 52 "KnitBench$Fabric" "needleStart" "I" ∈ kb_TB := kb_m1 (List.mem_of_getElem? (i := 84) (by decide +kernel)) (by decide +kernel)
theorem wf_X0_55 : Cond.fieldLink RX0 55 "KnitBench$Fabric" "needleStep" "I" ∈ kb_TB := kb_m1 (List.mem_of_getElem? (i := 85) (by decide +kernel)) (by decide +kernel)
theorem wd_X0_startRow : Cond.code yX0_startRow cX0_startRow 1 none ∈ kb_TB := kb_m2 (List.mem_of_getElem? (i := 186) (by decide +kernel)) (by decide +kernel)
theorem wf_X0_58 : Cond.fieldLink RX0 58 "KnitBench$Fabric" "taken" "I" ∈ kb_TB := kb_m1 (List.mem_of_getElem? (i := 86) (by decide +kernel)) (by decide +kernel)
theorem wk_X0_61 : Cond.methodLink RX0 61 yX0_loopCount ∈ kb_TB := kb_m2 (List.mem_of_getElem? (i := 187) (by decide +kernel)) (by decide +kernel)
theorem wd_X0_loopCount : Cond.code yX0_loopCount cX0_loopCount 1 (some .int) ∈ kb_TB := kb_m2 (List.mem_of_getElem? (i := 190) (by decide +kernel)) (by decide +kernel)
theorem wi_X0_loopCount : Cond.instanceMethod yX0_loopCount ∈ kb_TB := kb_m2 (List.mem_of_getElem? (i := 188) (by decide +kernel)) (by decide +kernel)
theorem ws_X0_loopCount : Cond.selects RX0 yX0_loopCount yX0_loopCount ∈ kb_TB := kb_m2 (List.mem_of_getElem? (i := 189) (by decide +kernel)) (by decide +kernel)
theorem wf_X0_65 : Cond.fieldLink RX0 65 "KnitBench$Fabric" "stitchEnd" "I" ∈ kb_TB := kb_m1 (List.mem_of_getElem? (i := 88) (by decide +kernel)) (by decide +kernel)
theorem wd_X0_leftCount : Cond.code yX0_leftCount cX0_leftCount 1 (some .int) ∈ kb_TB := kb_m2 (List.mem_of_getElem? (i := 218) (by decide +kernel)) (by decide +kernel)
theorem wd_X0_madeSoFar : Cond.code yX0_madeSoFar cX0_madeSoFar 1 (some .int) ∈ kb_TB := kb_m2 (List.mem_of_getElem? (i := 222) (by decide +kernel)) (by decide +kernel)
theorem wd_X0_faultOfStitch : Cond.code yX0_faultOfStitch cX0_faultOfStitch 2 (some .int) ∈ kb_TB := kb_m2 (List.mem_of_getElem? (i := 213) (by decide +kernel)) (by decide +kernel)
theorem wk_X0_68 : Cond.methodLink RX0 68 yX6_loopsTaken ∈ kb_TB := kb_m2 (List.mem_of_getElem? (i := 214) (by decide +kernel)) (by decide +kernel)
theorem wd_X6_loopsTaken : Cond.code yX6_loopsTaken cX6_loopsTaken 1 (some .int) ∈ kb_TB := kb_m2 (List.mem_of_getElem? (i := 82) (by decide +kernel)) (by decide +kernel)
theorem wz_X6 : Cond.initialized RX6 ∈ kb_TB := kb_m1 (List.mem_of_getElem? (i := 18) (by decide +kernel)) (by decide +kernel)
theorem wi_X6_loopsTaken : Cond.static yX6_loopsTaken ∈ kb_TB := kb_m2 (List.mem_of_getElem? (i := 81) (by decide +kernel)) (by decide +kernel)
theorem wk_X0_74 : Cond.methodLink RX0 74 yX0_leftCount ∈ kb_TB := kb_m2 (List.mem_of_getElem? (i := 215) (by decide +kernel)) (by decide +kernel)
theorem wi_X0_leftCount : Cond.instanceMethod yX0_leftCount ∈ kb_TB := kb_m2 (List.mem_of_getElem? (i := 216) (by decide +kernel)) (by decide +kernel)
theorem ws_X0_leftCount : Cond.selects RX0 yX0_leftCount yX0_leftCount ∈ kb_TB := kb_m2 (List.mem_of_getElem? (i := 217) (by decide +kernel)) (by decide +kernel)
theorem wk_X0_79 : Cond.methodLink RX0 79 yX0_madeSoFar ∈ kb_TB := kb_m2 (List.mem_of_getElem? (i := 219) (by decide +kernel)) (by decide +kernel)
theorem wi_X0_madeSoFar : Cond.instanceMethod yX0_madeSoFar ∈ kb_TB := kb_m2 (List.mem_of_getElem? (i := 221) (by decide +kernel)) (by decide +kernel)
theorem ws_X0_madeSoFar : Cond.selects RX0 yX0_madeSoFar yX0_madeSoFar ∈ kb_TB := kb_m0 (List.mem_of_getElem? (i := 26) (by decide +kernel)) (by decide +kernel)
theorem wk_X0_82 : Cond.methodLink RX0 82 yX6_loopsMade ∈ kb_TB := kb_m2 (List.mem_of_getElem? (i := 223) (by decide +kernel)) (by decide +kernel)
theorem wd_X6_loopsMade : Cond.code yX6_loopsMade cX6_loopsMade 1 (some .int) ∈ kb_TB := kb_m2 (List.mem_of_getElem? (i := 225) (by decide +kernel)) (by decide +kernel)
theorem wi_X6_loopsMade : Cond.static yX6_loopsMade ∈ kb_TB := kb_m2 (List.mem_of_getElem? (i := 224) (by decide +kernel)) (by decide +kernel)
theorem wd_X0_addStitch : Cond.code yX0_addStitch cX0_addStitch 4 none ∈ kb_TB := kb_m3 (List.mem_of_getElem? (i := 0) (by decide +kernel)) (by decide +kernel)
theorem wk_X0_85 : Cond.methodLink RX0 85 yX6_isCable ∈ kb_TB := kb_m3 (List.mem_of_getElem? (i := 1) (by decide +kernel)) (by decide +kernel)
theorem wd_X6_isCable : Cond.code yX6_isCable cX6_isCable 1 (some .boolean) ∈ kb_TB := kb_m3 (List.mem_of_getElem? (i := 3) (by decide +kernel)) (by decide +kernel)
theorem wi_X6_isCable : Cond.static yX6_isCable ∈ kb_TB := kb_m3 (List.mem_of_getElem? (i := 2) (by decide +kernel)) (by decide +kernel)
theorem wk_X0_89 : Cond.methodLink RX0 89 yX6_cableA ∈ kb_TB := kb_m3 (List.mem_of_getElem? (i := 4) (by decide +kernel)) (by decide +kernel)
theorem wd_X6_cableA : Cond.code yX6_cableA cX6_cableA 1 (some .int) ∈ kb_TB := kb_m2 (List.mem_of_getElem? (i := 87) (by decide +kernel)) (by decide +kernel)
theorem wi_X6_cableA : Cond.static yX6_cableA ∈ kb_TB := kb_m2 (List.mem_of_getElem? (i := 86) (by decide +kernel)) (by decide +kernel)
theorem wk_X0_92 : Cond.methodLink RX0 92 yX6_cableB ∈ kb_TB := kb_m3 (List.mem_of_getElem? (i := 5) (by decide +kernel)) (by decide +kernel)
theorem wd_X6_cableB : Cond.code yX6_cableB cX6_cableB 1 (some .int) ∈ kb_TB := kb_m2 (List.mem_of_getElem? (i := 90) (by decide +kernel)) (by decide +kernel)
theorem wi_X6_cableB : Cond.static yX6_cableB ∈ kb_TB := kb_m2 (List.mem_of_getElem? (i := 89) (by decide +kernel)) (by decide +kernel)
theorem wk_X0_95 : Cond.methodLink RX0 95 yX0_makeCableLoops ∈ kb_TB := kb_m3 (List.mem_of_getElem? (i := 6) (by decide +kernel)) (by decide +kernel)
theorem wd_X0_makeCableLoops : Cond.code yX0_makeCableLoops cX0_makeCableLoops 4 none ∈ kb_TB := kb_m3 (List.mem_of_getElem? (i := 9) (by decide +kernel)) (by decide +kernel)
theorem wi_X0_makeCableLoops : Cond.instanceMethod yX0_makeCableLoops ∈ kb_TB := kb_m3 (List.mem_of_getElem? (i := 8) (by decide +kernel)) (by decide +kernel)
theorem ws_X0_makeCableLoops : Cond.selects RX0 yX0_makeCableLoops yX0_makeCableLoops ∈ kb_TB := kb_m0 (List.mem_of_getElem? (i := 28) (by decide +kernel)) (by decide +kernel)
theorem wk_X0_98 : Cond.methodLink RX0 98 yX0_needleLoop ∈ kb_TB := kb_m1 (List.mem_of_getElem? (i := 180) (by decide +kernel)) (by decide +kernel)
theorem wd_X0_needleLoop : Cond.code yX0_needleLoop cX0_needleLoop 2 (some .int) ∈ kb_TB := kb_m1 (List.mem_of_getElem? (i := 183) (by decide +kernel)) (by decide +kernel)
theorem wi_X0_needleLoop : Cond.instanceMethod yX0_needleLoop ∈ kb_TB := kb_m1 (List.mem_of_getElem? (i := 181) (by decide +kernel)) (by decide +kernel)
theorem ws_X0_needleLoop : Cond.selects RX0 yX0_needleLoop yX0_needleLoop ∈ kb_TB := kb_m1 (List.mem_of_getElem? (i := 182) (by decide +kernel)) (by decide +kernel)
theorem wd_X0_faultOfRow : Cond.code yX0_faultOfRow cX0_faultOfRow 1 (some .int) ∈ kb_TB := kb_m3 (List.mem_of_getElem? (i := 33) (by decide +kernel)) (by decide +kernel)
theorem wd_X0_keepRow : Cond.code yX0_keepRow cX0_keepRow 1 none ∈ kb_TB := kb_m3 (List.mem_of_getElem? (i := 37) (by decide +kernel)) (by decide +kernel)
theorem wd_X0_liveCount : Cond.code yX0_liveCount cX0_liveCount 1 (some .int) ∈ kb_TB := kb_m3 (List.mem_of_getElem? (i := 41) (by decide +kernel)) (by decide +kernel)
theorem wd_X0_hasRow : Cond.code yX0_hasRow cX0_hasRow 2 (some .boolean) ∈ kb_TB := kb_m3 (List.mem_of_getElem? (i := 236) (by decide +kernel)) (by decide +kernel)
theorem wd_X0_hasLoop : Cond.code yX0_hasLoop cX0_hasLoop 2 (some .boolean) ∈ kb_TB := kb_m3 (List.mem_of_getElem? (i := 195) (by decide +kernel)) (by decide +kernel)
theorem wd_X0_madeIn : Cond.code yX0_madeIn cX0_madeIn 2 (some .int) ∈ kb_TB := kb_m4 (List.mem_of_getElem? (i := 39) (by decide +kernel)) (by decide +kernel)
theorem wk_X0_101 : Cond.methodLink RX0 101 yX0_hasRow ∈ kb_TB := kb_m3 (List.mem_of_getElem? (i := 233) (by decide +kernel)) (by decide +kernel)
theorem wi_X0_hasRow : Cond.instanceMethod yX0_hasRow ∈ kb_TB := kb_m3 (List.mem_of_getElem? (i := 234) (by decide +kernel)) (by decide +kernel)
theorem ws_X0_hasRow : Cond.selects RX0 yX0_hasRow yX0_hasRow ∈ kb_TB := kb_m3 (List.mem_of_getElem? (i := 235) (by decide +kernel)) (by decide +kernel)
theorem wd_X0_bornIn : Cond.code yX0_bornIn cX0_bornIn 3 (some .int) ∈ kb_TB := kb_m3 (List.mem_of_getElem? (i := 206) (by decide +kernel)) (by decide +kernel)
theorem wd_X0_diedIn : Cond.code yX0_diedIn cX0_diedIn 3 (some .int) ∈ kb_TB := kb_m3 (List.mem_of_getElem? (i := 210) (by decide +kernel)) (by decide +kernel)
theorem wk_X0_104 : Cond.methodLink RX0 104 yX0_bornIn ∈ kb_TB := kb_m3 (List.mem_of_getElem? (i := 211) (by decide +kernel)) (by decide +kernel)
theorem wi_X0_bornIn : Cond.instanceMethod yX0_bornIn ∈ kb_TB := kb_m3 (List.mem_of_getElem? (i := 204) (by decide +kernel)) (by decide +kernel)
theorem ws_X0_bornIn : Cond.selects RX0 yX0_bornIn yX0_bornIn ∈ kb_TB := kb_m3 (List.mem_of_getElem? (i := 205) (by decide +kernel)) (by decide +kernel)
theorem wd_X0_parentCount : Cond.code yX0_parentCount cX0_parentCount 2 (some .int) ∈ kb_TB := kb_m3 (List.mem_of_getElem? (i := 200) (by decide +kernel)) (by decide +kernel)
theorem wk_X0_107 : Cond.methodLink RX0 107 yX0_hasLoop ∈ kb_TB := kb_m3 (List.mem_of_getElem? (i := 201) (by decide +kernel)) (by decide +kernel)
theorem wi_X0_hasLoop : Cond.instanceMethod yX0_hasLoop ∈ kb_TB := kb_m3 (List.mem_of_getElem? (i := 193) (by decide +kernel)) (by decide +kernel)
theorem ws_X0_hasLoop : Cond.selects RX0 yX0_hasLoop yX0_hasLoop ∈ kb_TB := kb_m3 (List.mem_of_getElem? (i := 194) (by decide +kernel)) (by decide +kernel)
theorem wd_X0_parent : Cond.code yX0_parent cX0_parent 3 (some .int) ∈ kb_TB := kb_m3 (List.mem_of_getElem? (i := 215) (by decide +kernel)) (by decide +kernel)
theorem wd_X0_ladderLength : Cond.code yX0_ladderLength cX0_ladderLength 5 (some .int) ∈ kb_TB := kb_m4 (List.mem_of_getElem? (i := 190) (by decide +kernel)) (by decide +kernel)
theorem wk_X0_110 : Cond.methodLink RX0 110 yX0_parentCount ∈ kb_TB := kb_m4 (List.mem_of_getElem? (i := 191) (by decide +kernel)) (by decide +kernel)
theorem wi_X0_parentCount : Cond.instanceMethod yX0_parentCount ∈ kb_TB := kb_m3 (List.mem_of_getElem? (i := 198) (by decide +kernel)) (by decide +kernel)
theorem ws_X0_parentCount : Cond.selects RX0 yX0_parentCount yX0_parentCount ∈ kb_TB := kb_m3 (List.mem_of_getElem? (i := 199) (by decide +kernel)) (by decide +kernel)
theorem wk_X0_113 : Cond.methodLink RX0 113 yX0_parent ∈ kb_TB := kb_m4 (List.mem_of_getElem? (i := 192) (by decide +kernel)) (by decide +kernel)
theorem wi_X0_parent : Cond.instanceMethod yX0_parent ∈ kb_TB := kb_m3 (List.mem_of_getElem? (i := 213) (by decide +kernel)) (by decide +kernel)
theorem ws_X0_parent : Cond.selects RX0 yX0_parent yX0_parent ∈ kb_TB := kb_m3 (List.mem_of_getElem? (i := 214) (by decide +kernel)) (by decide +kernel)
theorem wd_X0_stitchCount : Cond.code yX0_stitchCount cX0_stitchCount 2 (some .int) ∈ kb_TB := kb_m3 (List.mem_of_getElem? (i := 232) (by decide +kernel)) (by decide +kernel)
theorem wd_X0_stitchAt : Cond.code yX0_stitchAt cX0_stitchAt 3 (some .int) ∈ kb_TB := kb_m4 (List.mem_of_getElem? (i := 21) (by decide +kernel)) (by decide +kernel)
theorem wk_X0_116 : Cond.methodLink RX0 116 yX0_stitchCount ∈ kb_TB := kb_m4 (List.mem_of_getElem? (i := 17) (by decide +kernel)) (by decide +kernel)
theorem wi_X0_stitchCount : Cond.instanceMethod yX0_stitchCount ∈ kb_TB := kb_m3 (List.mem_of_getElem? (i := 230) (by decide +kernel)) (by decide +kernel)
theorem ws_X0_stitchCount : Cond.selects RX0 yX0_stitchCount yX0_stitchCount ∈ kb_TB := kb_m3 (List.mem_of_getElem? (i := 231) (by decide +kernel)) (by decide +kernel)
theorem wd_X0_stitchSeen : Cond.code yX0_stitchSeen cX0_stitchSeen 4 (some .int) ∈ kb_TB := kb_m4 (List.mem_of_getElem? (i := 16) (by decide +kernel)) (by decide +kernel)
theorem wk_X0_119 : Cond.methodLink RX0 119 yX0_stitchAt ∈ kb_TB := kb_m4 (List.mem_of_getElem? (i := 18) (by decide +kernel)) (by decide +kernel)
theorem wi_X0_stitchAt : Cond.instanceMethod yX0_stitchAt ∈ kb_TB := kb_m4 (List.mem_of_getElem? (i := 19) (by decide +kernel)) (by decide +kernel)
theorem ws_X0_stitchAt : Cond.selects RX0 yX0_stitchAt yX0_stitchAt ∈ kb_TB := kb_m4 (List.mem_of_getElem? (i := 20) (by decide +kernel)) (by decide +kernel)
theorem wk_X0_122 : Cond.methodLink RX0 122 yX6_seenFromBehind ∈ kb_TB := kb_m4 (List.mem_of_getElem? (i := 22) (by decide +kernel)) (by decide +kernel)
theorem wd_X6_seenFromBehind : Cond.code yX6_seenFromBehind cX6_seenFromBehind 1 (some .int) ∈ kb_TB := kb_m4 (List.mem_of_getElem? (i := 24) (by decide +kernel)) (by decide +kernel)
theorem wi_X6_seenFromBehind : Cond.static yX6_seenFromBehind ∈ kb_TB := kb_m4 (List.mem_of_getElem? (i := 23) (by decide +kernel)) (by decide +kernel)
theorem wd_X0_crossings : Cond.code yX0_crossings cX0_crossings 6 (some .int) ∈ kb_TB := kb_m4 (List.mem_of_getElem? (i := 35) (by decide +kernel)) (by decide +kernel)
theorem wd_X0_boundIn : Cond.code yX0_boundIn cX0_boundIn 5 (some .int) ∈ kb_TB := kb_m4 (List.mem_of_getElem? (i := 43) (by decide +kernel)) (by decide +kernel)
theorem wd_X1_answer : Cond.code yX1_answer cX1_answer 2 (some .int) ∈ kb_TB := kb_m2 (List.mem_of_getElem? (i := 67) (by decide +kernel)) (by decide +kernel)
theorem wd_X3_init : Cond.code yX3_init cX3_init 1 none ∈ kb_TB := kb_m1 (List.mem_of_getElem? (i := 34) (by decide +kernel)) (by decide +kernel)
theorem wf_X3_11 : Cond.fieldLink RX3 11 "KnitBench$Plan" "kinds" "[I" ∈ kb_TB := kb_m1 (List.mem_of_getElem? (i := 36) (by decide +kernel)) (by decide +kernel)
theorem wf_X3_15 : Cond.fieldLink RX3 15 "KnitBench$Plan" "places" "[I" ∈ kb_TB := kb_m1 (List.mem_of_getElem? (i := 37) (by decide +kernel)) (by decide +kernel)
theorem wf_X3_18 : Cond.fieldLink RX3 18 "KnitBench$Plan" "counts" "[I" ∈ kb_TB := kb_m1 (List.mem_of_getElem? (i := 38) (by decide +kernel)) (by decide +kernel)
theorem wf_X3_21 : Cond.fieldLink RX3 21 "KnitBench$Plan" "links" "[I" ∈ kb_TB := kb_m1 (List.mem_of_getElem? (i := 39) (by decide +kernel)) (by decide +kernel)
theorem wf_X3_24 : Cond.fieldLink RX3 24 "KnitBench$Plan" "takes" "[J" ∈ kb_TB := kb_m1 (List.mem_of_getElem? (i := 40) (by decide +kernel)) (by decide +kernel)
theorem wd_X3_clear : Cond.code yX3_clear cX3_clear 1 none ∈ kb_TB := kb_m1 (List.mem_of_getElem? (i := 215) (by decide +kernel)) (by decide +kernel)
theorem wf_X3_28 : Cond.fieldLink RX3 28 "KnitBench$Plan" "size" "I" ∈ kb_TB := kb_m1 (List.mem_of_getElem? (i := 41) (by decide +kernel)) (by decide +kernel)
theorem wd_X3_size : Cond.code yX3_size cX3_size 1 (some .int) ∈ kb_TB := kb_m2 (List.mem_of_getElem? (i := 121) (by decide +kernel)) (by decide +kernel)
theorem wd_X3_addStitches : Cond.code yX3_addStitches cX3_addStitches 4 none ∈ kb_TB := kb_m2 (List.mem_of_getElem? (i := 75) (by decide +kernel)) (by decide +kernel)
theorem wk_X3_32 : Cond.methodLink RX3 32 yX3_add ∈ kb_TB := kb_m2 (List.mem_of_getElem? (i := 76) (by decide +kernel)) (by decide +kernel)
theorem wd_X3_add : Cond.code yX3_add cX3_add 5 none ∈ kb_TB := kb_m2 (List.mem_of_getElem? (i := 79) (by decide +kernel)) (by decide +kernel)
theorem wz_X3 : Cond.initialized RX3 ∈ kb_TB := kb_m1 (List.mem_of_getElem? (i := 2) (by decide +kernel)) (by decide +kernel)
theorem wi_X3_add : Cond.instanceMethod yX3_add ∈ kb_TB := kb_m2 (List.mem_of_getElem? (i := 78) (by decide +kernel)) (by decide +kernel)
theorem ws_X3_add : Cond.selects RX3 yX3_add yX3_add ∈ kb_TB := kb_m0 (List.mem_of_getElem? (i := 11) (by decide +kernel)) (by decide +kernel)
theorem wd_X3_addOpen : Cond.code yX3_addOpen cX3_addOpen 3 none ∈ kb_TB := kb_m2 (List.mem_of_getElem? (i := 145) (by decide +kernel)) (by decide +kernel)
theorem wd_X3_addClose : Cond.code yX3_addClose cX3_addClose 6 none ∈ kb_TB := kb_m2 (List.mem_of_getElem? (i := 176) (by decide +kernel)) (by decide +kernel)
theorem wd_X3_kind : Cond.code yX3_kind cX3_kind 2 (some .int) ∈ kb_TB := kb_m2 (List.mem_of_getElem? (i := 162) (by decide +kernel)) (by decide +kernel)
theorem wk_X3_36 : Cond.methodLink RX3 36 yX3_has ∈ kb_TB := kb_m2 (List.mem_of_getElem? (i := 163) (by decide +kernel)) (by decide +kernel)
theorem wd_X3_has : Cond.code yX3_has cX3_has 2 (some .boolean) ∈ kb_TB := kb_m2 (List.mem_of_getElem? (i := 166) (by decide +kernel)) (by decide +kernel)
theorem wi_X3_has : Cond.instanceMethod yX3_has ∈ kb_TB := kb_m2 (List.mem_of_getElem? (i := 165) (by decide +kernel)) (by decide +kernel)
theorem ws_X3_has : Cond.selects RX3 yX3_has yX3_has ∈ kb_TB := kb_m0 (List.mem_of_getElem? (i := 22) (by decide +kernel)) (by decide +kernel)
theorem wd_X3_link : Cond.code yX3_link cX3_link 2 (some .int) ∈ kb_TB := kb_m2 (List.mem_of_getElem? (i := 205) (by decide +kernel)) (by decide +kernel)
theorem wd_X3_count : Cond.code yX3_count cX3_count 2 (some .int) ∈ kb_TB := kb_m2 (List.mem_of_getElem? (i := 209) (by decide +kernel)) (by decide +kernel)
theorem wd_X3_place : Cond.code yX3_place cX3_place 2 (some .int) ∈ kb_TB := kb_m2 (List.mem_of_getElem? (i := 231) (by decide +kernel)) (by decide +kernel)
theorem wd_X3_takes : Cond.code yX3_takes cX3_takes 2 (some .long) ∈ kb_TB := kb_m3 (List.mem_of_getElem? (i := 21) (by decide +kernel)) (by decide +kernel)
theorem wd_X6_cable : Cond.code yX6_cable cX6_cable 3 (some .int) ∈ kb_TB := kb_m2 (List.mem_of_getElem? (i := 136) (by decide +kernel)) (by decide +kernel)
theorem wd_X6_isBehind : Cond.code yX6_isBehind cX6_isBehind 1 (some .boolean) ∈ kb_TB := kb_m4 (List.mem_of_getElem? (i := 151) (by decide +kernel)) (by decide +kernel)
theorem wf_X6_9 : Cond.fieldLink RX6 9 "KnitBench$Stitch" "TAKES" "[I" ∈ kb_TB := kb_m2 (List.mem_of_getElem? (i := 83) (by decide +kernel)) (by decide +kernel)
theorem wk_X6_13 : Cond.methodLink RX6 13 yX6_cableA ∈ kb_TB := kb_m2 (List.mem_of_getElem? (i := 85) (by decide +kernel)) (by decide +kernel)
theorem wk_X6_17 : Cond.methodLink RX6 17 yX6_cableB ∈ kb_TB := kb_m2 (List.mem_of_getElem? (i := 88) (by decide +kernel)) (by decide +kernel)
theorem wf_X6_20 : Cond.fieldLink RX6 20 "KnitBench$Stitch" "MAKES" "[I" ∈ kb_TB := kb_m2 (List.mem_of_getElem? (i := 226) (by decide +kernel)) (by decide +kernel)
theorem wd_X6_nameOf : Cond.code yX6_nameOf cX6_nameOf 1 (some (.object "java/lang/String")) ∈ kb_TB := kb_m4 (List.mem_of_getElem? (i := 154) (by decide +kernel)) (by decide +kernel)
theorem wd_X7_init : Cond.code yX7_init cX7_init 1 none ∈ kb_TB := kb_m1 (List.mem_of_getElem? (i := 61) (by decide +kernel)) (by decide +kernel)
theorem wf_X7_9 : Cond.fieldLink RX7 9 "KnitBench$Tape" "bytes" "[I" ∈ kb_TB := kb_m1 (List.mem_of_getElem? (i := 63) (by decide +kernel)) (by decide +kernel)
theorem wd_X7_length : Cond.code yX7_length cX7_length 1 (some .int) ∈ kb_TB := kb_m1 (List.mem_of_getElem? (i := 219) (by decide +kernel)) (by decide +kernel)
theorem wf_X7_13 : Cond.fieldLink RX7 13 "KnitBench$Tape" "length" "I" ∈ kb_TB := kb_m1 (List.mem_of_getElem? (i := 64) (by decide +kernel)) (by decide +kernel)
theorem wd_X7_hasRoomFor : Cond.code yX7_hasRoomFor cX7_hasRoomFor 2 (some .boolean) ∈ kb_TB := kb_m3 (List.mem_of_getElem? (i := 151) (by decide +kernel)) (by decide +kernel)
theorem wd_X7_add : Cond.code yX7_add cX7_add 5 none ∈ kb_TB := kb_m3 (List.mem_of_getElem? (i := 171) (by decide +kernel)) (by decide +kernel)
theorem wd_X7_clear : Cond.code yX7_clear cX7_clear 1 none ∈ kb_TB := kb_m3 (List.mem_of_getElem? (i := 45) (by decide +kernel)) (by decide +kernel)
theorem wd_X7_byteAt : Cond.code yX7_byteAt cX7_byteAt 2 (some .int) ∈ kb_TB := kb_m1 (List.mem_of_getElem? (i := 235) (by decide +kernel)) (by decide +kernel)
