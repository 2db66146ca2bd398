theorem kX8_init_3 : zchkT yX8_init.cls cX8_init 1 (decide (yX8_init.name = "<init>")) (none) 4 89 ((tX8_init.drop 3).take 3) = true := by decide +kernel
theorem kX8_init : zchkT yX8_init.cls cX8_init 1 (decide (yX8_init.name = "<init>")) (none) 4 89 tX8_init = true := zT_all (G := 3) (n := 2) (by decide +kernel) (fun g hg => by
  match g, hg with
  | 0, _ => exact kX8_init_0
  | 1, _ => exact kX8_init_3
  | g + 2, hg => exact absurd hg (by omega))
theorem rX8_init : zchkM (tX8_init, 1, yX8_init, cX8_init, none, 4, 89, [28, 11, 27, 0]) = true := zchkM_of kX8_init (by decide +kernel)
theorem kX8_setWeight_0 : zchkT yX8_setWeight.cls cX8_setWeight 4 (decide (yX8_setWeight.name = "<init>")) (some .int) 4 89 ((tX8_setWeight.drop 0).take 3) = true := by decide +kernel
theorem kX8_setWeight : zchkT yX8_setWeight.cls cX8_setWeight 4 (decide (yX8_setWeight.name = "<init>")) (some .int) 4 89 tX8_setWeight = true := zT_all (G := 3) (n := 1) (by decide +kernel) (fun g hg => by
  match g, hg with
  | 0, _ => exact kX8_setWeight_0
  | g + 1, hg => exact absurd hg (by omega))
theorem rX8_setWeight : zchkM (tX8_setWeight, 4, yX8_setWeight, cX8_setWeight, some .int, 4, 89, [568, 11, 566, 567]) = true := zchkM_of kX8_setWeight (by decide +kernel)
theorem kX8_setThreshold_0 : zchkT yX8_setThreshold.cls cX8_setThreshold 3 (decide (yX8_setThreshold.name = "<init>")) (some .int) 4 89 ((tX8_setThreshold.drop 0).take 3) = true := by decide +kernel
theorem kX8_setThreshold : zchkT yX8_setThreshold.cls cX8_setThreshold 3 (decide (yX8_setThreshold.name = "<init>")) (some .int) 4 89 tX8_setThreshold = true := zT_all (G := 3) (n := 1) (by decide +kernel) (fun g hg => by
  match g, hg with
  | 0, _ => exact kX8_setThreshold_0
  | g + 1, hg => exact absurd hg (by omega))
theorem rX8_setThreshold : zchkM (tX8_setThreshold, 3, yX8_setThreshold, cX8_setThreshold, some .int, 4, 89, [564, 11, 562, 563]) = true := zchkM_of kX8_setThreshold (by decide +kernel)
theorem kX8_found_0 : zchkT yX8_found.cls cX8_found 7 (decide (yX8_found.name = "<init>")) (some .int) 5 115 ((tX8_found.drop 0).take 3) = true := by decide +kernel
theorem kX8_found_3 : zchkT yX8_found.cls cX8_found 7 (decide (yX8_found.name = "<init>")) (some .int) 5 115 ((tX8_found.drop 3).take 3) = true := by decide +kernel
theorem kX8_found : zchkT yX8_found.cls cX8_found 7 (decide (yX8_found.name = "<init>")) (some .int) 5 115 tX8_found = true := zT_all (G := 3) (n := 2) (by decide +kernel) (fun g hg => by
  match g, hg with
  | 0, _ => exact kX8_found_0
  | 1, _ => exact kX8_found_3
  | g + 2, hg => exact absurd hg (by omega))
theorem rX8_found : zchkM (tX8_found, 7, yX8_found, cX8_found, some .int, 5, 115, [494, 11, 492, 493]) = true := zchkM_of kX8_found (by decide +kernel)
theorem kX8_claim_0 : zchkT yX8_claim.cls cX8_claim 11 (decide (yX8_claim.name = "<init>")) (some .int) 4 89 ((tX8_claim.drop 0).take 3) = true := by decide +kernel
theorem kX8_claim_3 : zchkT yX8_claim.cls cX8_claim 11 (decide (yX8_claim.name = "<init>")) (some .int) 4 89 ((tX8_claim.drop 3).take 3) = true := by decide +kernel
theorem kX8_claim_6 : zchkT yX8_claim.cls cX8_claim 11 (decide (yX8_claim.name = "<init>")) (some .int) 4 89 ((tX8_claim.drop 6).take 3) = true := by decide +kernel
theorem kX8_claim_9 : zchkT yX8_claim.cls cX8_claim 11 (decide (yX8_claim.name = "<init>")) (some .int) 4 89 ((tX8_claim.drop 9).take 3) = true := by decide +kernel
theorem kX8_claim : zchkT yX8_claim.cls cX8_claim 11 (decide (yX8_claim.name = "<init>")) (some .int) 4 89 tX8_claim = true := zT_all (G := 3) (n := 4) (by decide +kernel) (fun g hg => by
  match g, hg with
  | 0, _ => exact kX8_claim_0
  | 1, _ => exact kX8_claim_3
  | 2, _ => exact kX8_claim_6
  | 3, _ => exact kX8_claim_9
  | g + 4, hg => exact absurd hg (by omega))
theorem rX8_claim : zchkM (tX8_claim, 11, yX8_claim, cX8_claim, some .int, 4, 89, [517, 11, 515, 516]) = true := zchkM_of kX8_claim (by decide +kernel)
theorem kX8_match_0 : zchkT yX8_match.cls cX8_match 6 (decide (yX8_match.name = "<init>")) (some .int) 4 103 ((tX8_match.drop 0).take 3) = true := by decide +kernel
