theorem kJ6_bitCount_0f7a4_3 : zchkT yJ6_bitCount_0f7a4.cls cJ6_bitCount_0f7a4 1 (decide (yJ6_bitCount_0f7a4.name = "<init>")) (some .int) 0 0 ((tJ6_bitCount_0f7a4.drop 3).take 3) = true := by decide +kernel
theorem kJ6_bitCount_0f7a4 : zchkT yJ6_bitCount_0f7a4.cls cJ6_bitCount_0f7a4 1 (decide (yJ6_bitCount_0f7a4.name = "<init>")) (some .int) 0 0 tJ6_bitCount_0f7a4 = true := zT_all (G := 3) (n := 2) (by decide +kernel) (fun g hg => by
  match g, hg with
  | 0, _ => exact kJ6_bitCount_0f7a4_0
  | 1, _ => exact kJ6_bitCount_0f7a4_3
  | g + 2, hg => exact absurd hg (by omega))
theorem rJ6_bitCount_0f7a4 : zchkM (tJ6_bitCount_0f7a4, 1, yJ6_bitCount_0f7a4, cJ6_bitCount_0f7a4, some .int, 0, 0, [294, 23, 293, 0]) = true := zchkM_of kJ6_bitCount_0f7a4 (by decide +kernel)
theorem kJ7_fill_53178_0 : zchkT yJ7_fill_53178.cls cJ7_fill_53178 4 (decide (yJ7_fill_53178.name = "<init>")) (none) 0 0 ((tJ7_fill_53178.drop 0).take 3) = true := by decide +kernel
theorem kJ7_fill_53178 : zchkT yJ7_fill_53178.cls cJ7_fill_53178 4 (decide (yJ7_fill_53178.name = "<init>")) (none) 0 0 tJ7_fill_53178 = true := zT_all (G := 3) (n := 1) (by decide +kernel) (fun g hg => by
  match g, hg with
  | 0, _ => exact kJ7_fill_53178_0
  | g + 1, hg => exact absurd hg (by omega))
theorem rJ7_fill_53178 : zchkM (tJ7_fill_53178, 4, yJ7_fill_53178, cJ7_fill_53178, none, 0, 0, [203, 20, 202, 0]) = true := zchkM_of kJ7_fill_53178 (by decide +kernel)
theorem kL_cell_0 : zchkT yL_cell.cls cL_cell 2 (decide (yL_cell.name = "<init>")) (some .int) 0 0 ((tL_cell.drop 0).take 3) = true := by decide +kernel
theorem kL_cell : zchkT yL_cell.cls cL_cell 2 (decide (yL_cell.name = "<init>")) (some .int) 0 0 tL_cell = true := zT_all (G := 3) (n := 1) (by decide +kernel) (fun g hg => by
  match g, hg with
  | 0, _ => exact kL_cell_0
  | g + 1, hg => exact absurd hg (by omega))
theorem rL_cell : zchkM (tL_cell, 2, yL_cell, cL_cell, some .int, 0, 0, [254, 10, 253, 0]) = true := zchkM_of kL_cell (by decide +kernel)
theorem kL_low_0 : zchkT yL_low.cls cL_low 2 (decide (yL_low.name = "<init>")) (some .int) 0 0 ((tL_low.drop 0).take 3) = true := by decide +kernel
theorem kL_low : zchkT yL_low.cls cL_low 2 (decide (yL_low.name = "<init>")) (some .int) 0 0 tL_low = true := zT_all (G := 3) (n := 1) (by decide +kernel) (fun g hg => by
  match g, hg with
  | 0, _ => exact kL_low_0
  | g + 1, hg => exact absurd hg (by omega))
theorem rL_low : zchkM (tL_low, 2, yL_low, cL_low, some .int, 0, 0, [257, 10, 256, 0]) = true := zchkM_of kL_low (by decide +kernel)
theorem kL_nth_0 : zchkT yL_nth.cls cL_nth 5 (decide (yL_nth.name = "<init>")) (some .int) 4 89 ((tL_nth.drop 0).take 3) = true := by decide +kernel
theorem kL_nth : zchkT yL_nth.cls cL_nth 5 (decide (yL_nth.name = "<init>")) (some .int) 4 89 tL_nth = true := zT_all (G := 3) (n := 1) (by decide +kernel) (fun g hg => by
  match g, hg with
  | 0, _ => exact kL_nth_0
  | g + 1, hg => exact absurd hg (by omega))
theorem rL_nth : zchkM (tL_nth, 5, yL_nth, cL_nth, some .int, 4, 89, [343, 10, 342, 0]) = true := zchkM_of kL_nth (by decide +kernel)
theorem kL_isScore_0 : zchkT yL_isScore.cls cL_isScore 9 (decide (yL_isScore.name = "<init>")) (some .boolean) 5 128 ((tL_isScore.drop 0).take 3) = true := by decide +kernel
theorem kL_isScore_3 : zchkT yL_isScore.cls cL_isScore 9 (decide (yL_isScore.name = "<init>")) (some .boolean) 5 128 ((tL_isScore.drop 3).take 3) = true := by decide +kernel
theorem kL_isScore_6 : zchkT yL_isScore.cls cL_isScore 9 (decide (yL_isScore.name = "<init>")) (some .boolean) 5 128 ((tL_isScore.drop 6).take 3) = true := by decide +kernel
theorem kL_isScore : zchkT yL_isScore.cls cL_isScore 9 (decide (yL_isScore.name = "<init>")) (some .boolean) 5 128 tL_isScore = true := zT_all (G := 3) (n := 3) (by decide +kernel) (fun g hg => by
  match g, hg with
  | 0, _ => exact kL_isScore_0
  | 1, _ => exact kL_isScore_3
  | 2, _ => exact kL_isScore_6
  | g + 3, hg => exact absurd hg (by omega))
theorem rL_isScore : zchkM (tL_isScore, 9, yL_isScore, cL_isScore, some .boolean, 5, 128, [261, 10, 260, 0]) = true := zchkM_of kL_isScore (by decide +kernel)
theorem kL_areMatches_0 : zchkT yL_areMatches.cls cL_areMatches 8 (decide (yL_areMatches.name = "<init>")) (some .boolean) 5 113 ((tL_areMatches.drop 0).take 3) = true := by decide +kernel
theorem kL_areMatches_3 : zchkT yL_areMatches.cls cL_areMatches 8 (decide (yL_areMatches.name = "<init>")) (some .boolean) 5 113 ((tL_areMatches.drop 3).take 3) = true := by decide +kernel
