theorem kX8_sameDigits : zchkT yX8_sameDigits.cls cX8_sameDigits 5 (decide (yX8_sameDigits.name = "<init>")) (some .int) 2 44 tX8_sameDigits = true := zT_all (G := 3) (n := 2) (by decide +kernel) (fun g hg => by
  match g, hg with
  | 0, _ => exact kX8_sameDigits_0
  | 1, _ => exact kX8_sameDigits_3
  | g + 2, hg => exact absurd hg (by omega))
theorem rX8_sameDigits : zchkM (tX8_sameDigits, 5, yX8_sameDigits, cX8_sameDigits, some .int, 2, 44, [336, 11, 334, 335]) = true := zchkM_of kX8_sameDigits (by decide +kernel)
theorem kX8_bestTotal_0 : zchkT yX8_bestTotal.cls cX8_bestTotal 1 (decide (yX8_bestTotal.name = "<init>")) (some .int) 5 127 ((tX8_bestTotal.drop 0).take 3) = true := by decide +kernel
theorem kX8_bestTotal : zchkT yX8_bestTotal.cls cX8_bestTotal 1 (decide (yX8_bestTotal.name = "<init>")) (some .int) 5 127 tX8_bestTotal = true := zT_all (G := 3) (n := 1) (by decide +kernel) (fun g hg => by
  match g, hg with
  | 0, _ => exact kX8_bestTotal_0
  | g + 1, hg => exact absurd hg (by omega))
theorem rX8_bestTotal : zchkM (tX8_bestTotal, 1, yX8_bestTotal, cX8_bestTotal, some .int, 5, 127, [371, 11, 369, 370]) = true := zchkM_of kX8_bestTotal (by decide +kernel)
theorem kX8_totalOfAll_0 : zchkT yX8_totalOfAll.cls cX8_totalOfAll 4 (decide (yX8_totalOfAll.name = "<init>")) (some .int) 5 127 ((tX8_totalOfAll.drop 0).take 3) = true := by decide +kernel
theorem kX8_totalOfAll : zchkT yX8_totalOfAll.cls cX8_totalOfAll 4 (decide (yX8_totalOfAll.name = "<init>")) (some .int) 5 127 tX8_totalOfAll = true := zT_all (G := 3) (n := 1) (by decide +kernel) (fun g hg => by
  match g, hg with
  | 0, _ => exact kX8_totalOfAll_0
  | g + 1, hg => exact absurd hg (by omega))
theorem rX8_totalOfAll : zchkM (tX8_totalOfAll, 4, yX8_totalOfAll, cX8_totalOfAll, some .int, 5, 127, [425, 11, 423, 424]) = true := zchkM_of kX8_totalOfAll (by decide +kernel)
theorem kX8_thresholdFor_0 : zchkT yX8_thresholdFor.cls cX8_thresholdFor 6 (decide (yX8_thresholdFor.name = "<init>")) (some .int) 4 103 ((tX8_thresholdFor.drop 0).take 3) = true := by decide +kernel
theorem kX8_thresholdFor : zchkT yX8_thresholdFor.cls cX8_thresholdFor 6 (decide (yX8_thresholdFor.name = "<init>")) (some .int) 4 103 tX8_thresholdFor = true := zT_all (G := 3) (n := 1) (by decide +kernel) (fun g hg => by
  match g, hg with
  | 0, _ => exact kX8_thresholdFor_0
  | g + 1, hg => exact absurd hg (by omega))
theorem rX8_thresholdFor : zchkM (tX8_thresholdFor, 6, yX8_thresholdFor, cX8_thresholdFor, some .int, 4, 103, [331, 11, 329, 330]) = true := zchkM_of kX8_thresholdFor (by decide +kernel)
theorem kX8_ifEnded_0 : zchkT yX8_ifEnded.cls cX8_ifEnded 5 (decide (yX8_ifEnded.name = "<init>")) (some .int) 3 67 ((tX8_ifEnded.drop 0).take 3) = true := by decide +kernel
theorem kX8_ifEnded_3 : zchkT yX8_ifEnded.cls cX8_ifEnded 5 (decide (yX8_ifEnded.name = "<init>")) (some .int) 3 67 ((tX8_ifEnded.drop 3).take 3) = true := by decide +kernel
theorem kX8_ifEnded : zchkT yX8_ifEnded.cls cX8_ifEnded 5 (decide (yX8_ifEnded.name = "<init>")) (some .int) 3 67 tX8_ifEnded = true := zT_all (G := 3) (n := 2) (by decide +kernel) (fun g hg => by
  match g, hg with
  | 0, _ => exact kX8_ifEnded_0
  | 1, _ => exact kX8_ifEnded_3
  | g + 2, hg => exact absurd hg (by omega))
theorem rX8_ifEnded : zchkM (tX8_ifEnded, 5, yX8_ifEnded, cX8_ifEnded, some .int, 3, 67, [534, 11, 532, 533]) = true := zchkM_of kX8_ifEnded (by decide +kernel)
theorem kX8_undo_0 : zchkT yX8_undo.cls cX8_undo 1 (decide (yX8_undo.name = "<init>")) (some .int) 4 90 ((tX8_undo.drop 0).take 3) = true := by decide +kernel
theorem kX8_undo : zchkT yX8_undo.cls cX8_undo 1 (decide (yX8_undo.name = "<init>")) (some .int) 4 90 tX8_undo = true := zT_all (G := 3) (n := 1) (by decide +kernel) (fun g hg => by
  match g, hg with
  | 0, _ => exact kX8_undo_0
  | g + 1, hg => exact absurd hg (by omega))
theorem rX8_undo : zchkM (tX8_undo, 1, yX8_undo, cX8_undo, some .int, 4, 90, [473, 11, 471, 472]) = true := zchkM_of kX8_undo (by decide +kernel)
theorem kX8_outside_0 : zchkT yX8_outside.cls cX8_outside 3 (decide (yX8_outside.name = "<init>")) (some .boolean) 0 0 ((tX8_outside.drop 0).take 3) = true := by decide +kernel
theorem kX8_outside : zchkT yX8_outside.cls cX8_outside 3 (decide (yX8_outside.name = "<init>")) (some .boolean) 0 0 tX8_outside = true := zT_all (G := 3) (n := 1) (by decide +kernel) (fun g hg => by
  match g, hg with
  | 0, _ => exact kX8_outside_0
  | g + 1, hg => exact absurd hg (by omega))
theorem rX8_outside : zchkM (tX8_outside, 3, yX8_outside, cX8_outside, some .boolean, 0, 0, [272, 11, 271, 0]) = true := zchkM_of kX8_outside (by decide +kernel)
theorem kX8_tell_0 : zchkT yX8_tell.cls cX8_tell 4 (decide (yX8_tell.name = "<init>")) (some .int) 2 44 ((tX8_tell.drop 0).take 3) = true := by decide +kernel
theorem kX8_tell : zchkT yX8_tell.cls cX8_tell 4 (decide (yX8_tell.name = "<init>")) (some .int) 2 44 tX8_tell = true := zT_all (G := 3) (n := 1) (by decide +kernel) (fun g hg => by
  match g, hg with
  | 0, _ => exact kX8_tell_0
  | g + 1, hg => exact absurd hg (by omega))
theorem rX8_tell : zchkM (tX8_tell, 4, yX8_tell, cX8_tell, some .int, 2, 44, [322, 11, 321, 0]) = true := zchkM_of kX8_tell (by decide +kernel)
theorem kX8_betterBags_0 : zchkT yX8_betterBags.cls cX8_betterBags 6 (decide (yX8_betterBags.name = "<init>")) (some .int) 0 0 ((tX8_betterBags.drop 0).take 3) = true := by decide +kernel
theorem kX8_betterBags : zchkT yX8_betterBags.cls cX8_betterBags 6 (decide (yX8_betterBags.name = "<init>")) (some .int) 0 0 tX8_betterBags = true := zT_all (G := 3) (n := 1) (by decide +kernel) (fun g hg => by
  match g, hg with
  | 0, _ => exact kX8_betterBags_0
  | g + 1, hg => exact absurd hg (by omega))
theorem rX8_betterBags : zchkM (tX8_betterBags, 6, yX8_betterBags, cX8_betterBags, some .int, 0, 0, [360, 11, 359, 2]) = true := zchkM_of kX8_betterBags (by decide +kernel)
theorem kJ6_bitCount_0f7a4_0 : zchkT yJ6_bitCount_0f7a4.cls cJ6_bitCount_0f7a4 1 (decide (yJ6_bitCount_0f7a4.name = "<init>")) (some .int) 0 0 ((tJ6_bitCount_0f7a4.drop 0).take 3) = true := by decide +kernel
