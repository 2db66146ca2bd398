theorem kX3_addBag_3 : zchkT yX3_addBag.cls cX3_addBag 8 (decide (yX3_addBag.name = "<init>")) (some .int) 4 88 ((tX3_addBag.drop 3).take 3) = true := by decide +kernel
theorem kX3_addBag : zchkT yX3_addBag.cls cX3_addBag 8 (decide (yX3_addBag.name = "<init>")) (some .int) 4 88 tX3_addBag = true := zT_all (G := 3) (n := 2) (by decide +kernel) (fun g hg => by
  match g, hg with
  | 0, _ => exact kX3_addBag_0
  | 1, _ => exact kX3_addBag_3
  | g + 2, hg => exact absurd hg (by omega))
theorem rX3_addBag : zchkM (tX3_addBag, 8, yX3_addBag, cX3_addBag, some .int, 4, 88, [503, 12, 501, 502]) = true := zchkM_of kX3_addBag (by decide +kernel)
theorem kX3_join_0 : zchkT yX3_join.cls cX3_join 3 (decide (yX3_join.name = "<init>")) (none) 3 67 ((tX3_join.drop 0).take 3) = true := by decide +kernel
theorem kX3_join : zchkT yX3_join.cls cX3_join 3 (decide (yX3_join.name = "<init>")) (none) 3 67 tX3_join = true := zT_all (G := 3) (n := 1) (by decide +kernel) (fun g hg => by
  match g, hg with
  | 0, _ => exact kX3_join_0
  | g + 1, hg => exact absurd hg (by omega))
theorem rX3_join : zchkM (tX3_join, 3, yX3_join, cX3_join, none, 3, 67, [460, 12, 458, 459]) = true := zchkM_of kX3_join (by decide +kernel)
theorem kX3_payForDelivery_0 : zchkT yX3_payForDelivery.cls cX3_payForDelivery 4 (decide (yX3_payForDelivery.name = "<init>")) (some .int) 2 44 ((tX3_payForDelivery.drop 0).take 3) = true := by decide +kernel
theorem kX3_payForDelivery : zchkT yX3_payForDelivery.cls cX3_payForDelivery 4 (decide (yX3_payForDelivery.name = "<init>")) (some .int) 2 44 tX3_payForDelivery = true := zT_all (G := 3) (n := 1) (by decide +kernel) (fun g hg => by
  match g, hg with
  | 0, _ => exact kX3_payForDelivery_0
  | g + 1, hg => exact absurd hg (by omega))
theorem rX3_payForDelivery : zchkM (tX3_payForDelivery, 4, yX3_payForDelivery, cX3_payForDelivery, some .int, 2, 44, [538, 12, 536, 537]) = true := zchkM_of kX3_payForDelivery (by decide +kernel)
theorem kX3_payForGivingUp_0 : zchkT yX3_payForGivingUp.cls cX3_payForGivingUp 3 (decide (yX3_payForGivingUp.name = "<init>")) (some .int) 2 44 ((tX3_payForGivingUp.drop 0).take 3) = true := by decide +kernel
theorem kX3_payForGivingUp : zchkT yX3_payForGivingUp.cls cX3_payForGivingUp 3 (decide (yX3_payForGivingUp.name = "<init>")) (some .int) 2 44 tX3_payForGivingUp = true := zT_all (G := 3) (n := 1) (by decide +kernel) (fun g hg => by
  match g, hg with
  | 0, _ => exact kX3_payForGivingUp_0
  | g + 1, hg => exact absurd hg (by omega))
theorem rX3_payForGivingUp : zchkM (tX3_payForGivingUp, 3, yX3_payForGivingUp, cX3_payForGivingUp, some .int, 2, 44, [543, 12, 541, 542]) = true := zchkM_of kX3_payForGivingUp (by decide +kernel)
theorem kX3_copyFrom_0 : zchkT yX3_copyFrom.cls cX3_copyFrom 2 (decide (yX3_copyFrom.name = "<init>")) (none) 2 47 ((tX3_copyFrom.drop 0).take 3) = true := by decide +kernel
theorem kX3_copyFrom_3 : zchkT yX3_copyFrom.cls cX3_copyFrom 2 (decide (yX3_copyFrom.name = "<init>")) (none) 2 47 ((tX3_copyFrom.drop 3).take 3) = true := by decide +kernel
theorem kX3_copyFrom : zchkT yX3_copyFrom.cls cX3_copyFrom 2 (decide (yX3_copyFrom.name = "<init>")) (none) 2 47 tX3_copyFrom = true := zT_all (G := 3) (n := 2) (by decide +kernel) (fun g hg => by
  match g, hg with
  | 0, _ => exact kX3_copyFrom_0
  | 1, _ => exact kX3_copyFrom_3
  | g + 2, hg => exact absurd hg (by omega))
theorem rX3_copyFrom : zchkM (tX3_copyFrom, 2, yX3_copyFrom, cX3_copyFrom, none, 2, 47, [445, 12, 443, 444]) = true := zchkM_of kX3_copyFrom (by decide +kernel)
theorem kX4_init_0 : zchkT yX4_init.cls cX4_init 1 (decide (yX4_init.name = "<init>")) (none) 1 26 ((tX4_init.drop 0).take 3) = true := by decide +kernel
theorem kX4_init : zchkT yX4_init.cls cX4_init 1 (decide (yX4_init.name = "<init>")) (none) 1 26 tX4_init = true := zT_all (G := 3) (n := 1) (by decide +kernel) (fun g hg => by
  match g, hg with
  | 0, _ => exact kX4_init_0
  | g + 1, hg => exact absurd hg (by omega))
theorem rX4_init : zchkM (tX4_init, 1, yX4_init, cX4_init, none, 1, 26, [162, 18, 161, 0]) = true := zchkM_of kX4_init (by decide +kernel)
theorem kX4_fill_0 : zchkT yX4_fill.cls cX4_fill 6 (decide (yX4_fill.name = "<init>")) (none) 4 102 ((tX4_fill.drop 0).take 3) = true := by decide +kernel
theorem kX4_fill_3 : zchkT yX4_fill.cls cX4_fill 6 (decide (yX4_fill.name = "<init>")) (none) 4 102 ((tX4_fill.drop 3).take 3) = true := by decide +kernel
theorem kX4_fill : zchkT yX4_fill.cls cX4_fill 6 (decide (yX4_fill.name = "<init>")) (none) 4 102 tX4_fill = true := zT_all (G := 3) (n := 2) (by decide +kernel) (fun g hg => by
  match g, hg with
  | 0, _ => exact kX4_fill_0
  | 1, _ => exact kX4_fill_3
  | g + 2, hg => exact absurd hg (by omega))
theorem rX4_fill : zchkM (tX4_fill, 6, yX4_fill, cX4_fill, none, 4, 102, [375, 18, 373, 374]) = true := zchkM_of kX4_fill (by decide +kernel)
theorem kX4_gain_0 : zchkT yX4_gain.cls cX4_gain 3 (decide (yX4_gain.name = "<init>")) (some .int) 0 0 ((tX4_gain.drop 0).take 3) = true := by decide +kernel
theorem kX4_gain : zchkT yX4_gain.cls cX4_gain 3 (decide (yX4_gain.name = "<init>")) (some .int) 0 0 tX4_gain = true := zT_all (G := 3) (n := 1) (by decide +kernel) (fun g hg => by
  match g, hg with
  | 0, _ => exact kX4_gain_0
  | g + 1, hg => exact absurd hg (by omega))
theorem rX4_gain : zchkM (tX4_gain, 3, yX4_gain, cX4_gain, some .int, 0, 0, [390, 18, 388, 389]) = true := zchkM_of kX4_gain (by decide +kernel)
theorem kX4_hasGain_0 : zchkT yX4_hasGain.cls cX4_hasGain 3 (decide (yX4_hasGain.name = "<init>")) (some .boolean) 1 22 ((tX4_hasGain.drop 0).take 3) = true := by decide +kernel
theorem kX4_hasGain : zchkT yX4_hasGain.cls cX4_hasGain 3 (decide (yX4_hasGain.name = "<init>")) (some .boolean) 1 22 tX4_hasGain = true := zT_all (G := 3) (n := 1) (by decide +kernel) (fun g hg => by
  match g, hg with
  | 0, _ => exact kX4_hasGain_0
  | g + 1, hg => exact absurd hg (by omega))
theorem rX4_hasGain : zchkM (tX4_hasGain, 3, yX4_hasGain, cX4_hasGain, some .boolean, 1, 22, [386, 18, 384, 385]) = true := zchkM_of kX4_hasGain (by decide +kernel)
theorem kX4_takeGreatest_0 : zchkT yX4_takeGreatest.cls cX4_takeGreatest 4 (decide (yX4_takeGreatest.name = "<init>")) (some .int) 1 22 ((tX4_takeGreatest.drop 0).take 3) = true := by decide +kernel
