theorem kX4_takeGreatest_3 : zchkT yX4_takeGreatest.cls cX4_takeGreatest 4 (decide (yX4_takeGreatest.name = "<init>")) (some .int) 1 22 ((tX4_takeGreatest.drop 3).take 3) = true := by decide +kernel
theorem kX4_takeGreatest : zchkT yX4_takeGreatest.cls cX4_takeGreatest 4 (decide (yX4_takeGreatest.name = "<init>")) (some .int) 1 22 tX4_takeGreatest = true := zT_all (G := 3) (n := 2) (by decide +kernel) (fun g hg => by
  match g, hg with
  | 0, _ => exact kX4_takeGreatest_0
  | 1, _ => exact kX4_takeGreatest_3
  | g + 2, hg => exact absurd hg (by omega))
theorem rX4_takeGreatest : zchkM (tX4_takeGreatest, 4, yX4_takeGreatest, cX4_takeGreatest, some .int, 1, 22, [429, 18, 427, 428]) = true := zchkM_of kX4_takeGreatest (by decide +kernel)
theorem kX4_strikeOut_0 : zchkT yX4_strikeOut.cls cX4_strikeOut 3 (decide (yX4_strikeOut.name = "<init>")) (none) 0 0 ((tX4_strikeOut.drop 0).take 3) = true := by decide +kernel
theorem kX4_strikeOut : zchkT yX4_strikeOut.cls cX4_strikeOut 3 (decide (yX4_strikeOut.name = "<init>")) (none) 0 0 tX4_strikeOut = true := zT_all (G := 3) (n := 1) (by decide +kernel) (fun g hg => by
  match g, hg with
  | 0, _ => exact kX4_strikeOut_0
  | g + 1, hg => exact absurd hg (by omega))
theorem rX4_strikeOut : zchkM (tX4_strikeOut, 3, yX4_strikeOut, cX4_strikeOut, none, 0, 0, [433, 18, 432, 9]) = true := zchkM_of kX4_strikeOut (by decide +kernel)
theorem kX5_init_0 : zchkT yX5_init.cls cX5_init 1 (decide (yX5_init.name = "<init>")) (none) 1 26 ((tX5_init.drop 0).take 3) = true := by decide +kernel
theorem kX5_init : zchkT yX5_init.cls cX5_init 1 (decide (yX5_init.name = "<init>")) (none) 1 26 tX5_init = true := zT_all (G := 3) (n := 1) (by decide +kernel) (fun g hg => by
  match g, hg with
  | 0, _ => exact kX5_init_0
  | g + 1, hg => exact absurd hg (by omega))
theorem rX5_init : zchkM (tX5_init, 1, yX5_init, cX5_init, none, 1, 26, [152, 17, 151, 0]) = true := zchkM_of kX5_init (by decide +kernel)
theorem kX5_part_0 : zchkT yX5_part.cls cX5_part 5 (decide (yX5_part.name = "<init>")) (some .int) 3 79 ((tX5_part.drop 0).take 3) = true := by decide +kernel
theorem kX5_part : zchkT yX5_part.cls cX5_part 5 (decide (yX5_part.name = "<init>")) (some .int) 3 79 tX5_part = true := zT_all (G := 3) (n := 1) (by decide +kernel) (fun g hg => by
  match g, hg with
  | 0, _ => exact kX5_part_0
  | g + 1, hg => exact absurd hg (by omega))
theorem rX5_part : zchkM (tX5_part, 5, yX5_part, cX5_part, some .int, 3, 79, [276, 17, 274, 275]) = true := zchkM_of kX5_part (by decide +kernel)
theorem kX5_likely_0 : zchkT yX5_likely.cls cX5_likely 4 (decide (yX5_likely.name = "<init>")) (some .int) 3 79 ((tX5_likely.drop 0).take 3) = true := by decide +kernel
theorem kX5_likely : zchkT yX5_likely.cls cX5_likely 4 (decide (yX5_likely.name = "<init>")) (some .int) 3 79 tX5_likely = true := zT_all (G := 3) (n := 1) (by decide +kernel) (fun g hg => by
  match g, hg with
  | 0, _ => exact kX5_likely_0
  | g + 1, hg => exact absurd hg (by omega))
theorem rX5_likely : zchkM (tX5_likely, 4, yX5_likely, cX5_likely, some .int, 3, 79, [355, 17, 353, 354]) = true := zchkM_of kX5_likely (by decide +kernel)
theorem kX5_compare_0 : zchkT yX5_compare.cls cX5_compare 11 (decide (yX5_compare.name = "<init>")) (some .boolean) 2 49 ((tX5_compare.drop 0).take 3) = true := by decide +kernel
theorem kX5_compare_3 : zchkT yX5_compare.cls cX5_compare 11 (decide (yX5_compare.name = "<init>")) (some .boolean) 2 49 ((tX5_compare.drop 3).take 3) = true := by decide +kernel
theorem kX5_compare_6 : zchkT yX5_compare.cls cX5_compare 11 (decide (yX5_compare.name = "<init>")) (some .boolean) 2 49 ((tX5_compare.drop 6).take 3) = true := by decide +kernel
theorem kX5_compare_9 : zchkT yX5_compare.cls cX5_compare 11 (decide (yX5_compare.name = "<init>")) (some .boolean) 2 49 ((tX5_compare.drop 9).take 3) = true := by decide +kernel
theorem kX5_compare_12 : zchkT yX5_compare.cls cX5_compare 11 (decide (yX5_compare.name = "<init>")) (some .boolean) 2 49 ((tX5_compare.drop 12).take 3) = true := by decide +kernel
