theorem kX2_init : zchkT yX2_init.cls cX2_init 2 (decide (yX2_init.name = "<init>")) (none) 3 68 tX2_init = true := zT_all (G := 3) (n := 1) (by decide +kernel) (fun g hg => by
  match g, hg with
  | 0, _ => exact kX2_init_0
  | g + 1, hg => exact absurd hg (by omega))
theorem rX2_init : zchkM (tX2_init, 2, yX2_init, cX2_init, none, 3, 68, [154, 49, 153, 0]) = true := zchkM_of kX2_init (by decide +kernel)
theorem kX2_saved_0 : zchkT yX2_saved.cls cX2_saved 1 (decide (yX2_saved.name = "<init>")) (some .int) 0 0 ((tX2_saved.drop 0).take 3) = true := by decide +kernel
theorem kX2_saved : zchkT yX2_saved.cls cX2_saved 1 (decide (yX2_saved.name = "<init>")) (some .int) 0 0 tX2_saved = true := zT_all (G := 3) (n := 1) (by decide +kernel) (fun g hg => by
  match g, hg with
  | 0, _ => exact kX2_saved_0
  | g + 1, hg => exact absurd hg (by omega))
theorem rX2_saved : zchkM (tX2_saved, 1, yX2_saved, cX2_saved, some .int, 0, 0, [644, 49, 642, 643]) = true := zchkM_of kX2_saved (by decide +kernel)
theorem kX2_save_0 : zchkT yX2_save.cls cX2_save 2 (decide (yX2_save.name = "<init>")) (none) 3 68 ((tX2_save.drop 0).take 3) = true := by decide +kernel
theorem kX2_save_3 : zchkT yX2_save.cls cX2_save 2 (decide (yX2_save.name = "<init>")) (none) 3 68 ((tX2_save.drop 3).take 3) = true := by decide +kernel
theorem kX2_save : zchkT yX2_save.cls cX2_save 2 (decide (yX2_save.name = "<init>")) (none) 3 68 tX2_save = true := zT_all (G := 3) (n := 2) (by decide +kernel) (fun g hg => by
  match g, hg with
  | 0, _ => exact kX2_save_0
  | 1, _ => exact kX2_save_3
  | g + 2, hg => exact absurd hg (by omega))
theorem rX2_save : zchkM (tX2_save, 2, yX2_save, cX2_save, none, 3, 68, [284, 49, 282, 283]) = true := zchkM_of kX2_save (by decide +kernel)
theorem kX2_restore_0 : zchkT yX2_restore.cls cX2_restore 3 (decide (yX2_restore.name = "<init>")) (none) 3 68 ((tX2_restore.drop 0).take 3) = true := by decide +kernel
theorem kX2_restore_3 : zchkT yX2_restore.cls cX2_restore 3 (decide (yX2_restore.name = "<init>")) (none) 3 68 ((tX2_restore.drop 3).take 3) = true := by decide +kernel
theorem kX2_restore : zchkT yX2_restore.cls cX2_restore 3 (decide (yX2_restore.name = "<init>")) (none) 3 68 tX2_restore = true := zT_all (G := 3) (n := 2) (by decide +kernel) (fun g hg => by
  match g, hg with
  | 0, _ => exact kX2_restore_0
  | 1, _ => exact kX2_restore_3
  | g + 2, hg => exact absurd hg (by omega))
theorem rX2_restore : zchkM (tX2_restore, 3, yX2_restore, cX2_restore, none, 3, 68, [648, 49, 646, 647]) = true := zchkM_of kX2_restore (by decide +kernel)
theorem kX3_init_0 : zchkT yX3_init.cls cX3_init 1 (decide (yX3_init.name = "<init>")) (none) 2 48 ((tX3_init.drop 0).take 3) = true := by decide +kernel
theorem kX3_init_3 : zchkT yX3_init.cls cX3_init 1 (decide (yX3_init.name = "<init>")) (none) 2 48 ((tX3_init.drop 3).take 3) = true := by decide +kernel
theorem kX3_init : zchkT yX3_init.cls cX3_init 1 (decide (yX3_init.name = "<init>")) (none) 2 48 tX3_init = true := zT_all (G := 3) (n := 2) (by decide +kernel) (fun g hg => by
  match g, hg with
  | 0, _ => exact kX3_init_0
  | 1, _ => exact kX3_init_3
  | g + 2, hg => exact absurd hg (by omega))
theorem rX3_init : zchkM (tX3_init, 1, yX3_init, cX3_init, none, 2, 48, [71, 46, 70, 0]) = true := zchkM_of kX3_init (by decide +kernel)
theorem kX3_addBag_0 : zchkT yX3_addBag.cls cX3_addBag 8 (decide (yX3_addBag.name = "<init>")) (some .int) 4 88 ((tX3_addBag.drop 0).take 3) = true := by decide +kernel
theorem kX3_addBag_3 : zchkT yX3_addBag.cls cX3_addBag 8 (decide (yX3_addBag.name = "<init>")) (some .int) 4 88 ((tX3_addBag.drop 3).take 3) = true := by decide +kernel
theorem kX3_addBag : zchkT yX3_addBag.cls cX3_addBag 8 (decide (yX3_addBag.name = "<init>")) (some .int) 4 88 tX3_addBag = true := zT_all (G := 3) (n := 2) (by decide +kernel) (fun g hg => by
  match g, hg with
  | 0, _ => exact kX3_addBag_0
  | 1, _ => exact kX3_addBag_3
  | g + 2, hg => exact absurd hg (by omega))
theorem rX3_addBag : zchkM (tX3_addBag, 8, yX3_addBag, cX3_addBag, some .int, 4, 88, [322, 46, 320, 321]) = true := zchkM_of kX3_addBag (by decide +kernel)
theorem kX3_join_0 : zchkT yX3_join.cls cX3_join 3 (decide (yX3_join.name = "<init>")) (none) 3 67 ((tX3_join.drop 0).take 3) = true := by decide +kernel
theorem kX3_join : zchkT yX3_join.cls cX3_join 3 (decide (yX3_join.name = "<init>")) (none) 3 67 tX3_join = true := zT_all (G := 3) (n := 1) (by decide +kernel) (fun g hg => by
  match g, hg with
  | 0, _ => exact kX3_join_0
  | g + 1, hg => exact absurd hg (by omega))
theorem rX3_join : zchkM (tX3_join, 3, yX3_join, cX3_join, none, 3, 67, [412, 46, 410, 411]) = true := zchkM_of kX3_join (by decide +kernel)
theorem kX3_payForDelivery_0 : zchkT yX3_payForDelivery.cls cX3_payForDelivery 4 (decide (yX3_payForDelivery.name = "<init>")) (some .int) 2 44 ((tX3_payForDelivery.drop 0).take 3) = true := by decide +kernel
theorem kX3_payForDelivery : zchkT yX3_payForDelivery.cls cX3_payForDelivery 4 (decide (yX3_payForDelivery.name = "<init>")) (some .int) 2 44 tX3_payForDelivery = true := zT_all (G := 3) (n := 1) (by decide +kernel) (fun g hg => by
  match g, hg with
  | 0, _ => exact kX3_payForDelivery_0
  | g + 1, hg => exact absurd hg (by omega))
theorem rX3_payForDelivery : zchkM (tX3_payForDelivery, 4, yX3_payForDelivery, cX3_payForDelivery, some .int, 2, 44, [457, 46, 455, 456]) = true := zchkM_of kX3_payForDelivery (by decide +kernel)
theorem kX3_payForGivingUp_0 : zchkT yX3_payForGivingUp.cls cX3_payForGivingUp 3 (decide (yX3_payForGivingUp.name = "<init>")) (some .int) 2 44 ((tX3_payForGivingUp.drop 0).take 3) = true := by decide +kernel
theorem kX3_payForGivingUp : zchkT yX3_payForGivingUp.cls cX3_payForGivingUp 3 (decide (yX3_payForGivingUp.name = "<init>")) (some .int) 2 44 tX3_payForGivingUp = true := zT_all (G := 3) (n := 1) (by decide +kernel) (fun g hg => by
  match g, hg with
  | 0, _ => exact kX3_payForGivingUp_0
  | g + 1, hg => exact absurd hg (by omega))
theorem rX3_payForGivingUp : zchkM (tX3_payForGivingUp, 3, yX3_payForGivingUp, cX3_payForGivingUp, some .int, 2, 44, [471, 46, 469, 470]) = true := zchkM_of kX3_payForGivingUp (by decide +kernel)
theorem kX3_copyFrom_0 : zchkT yX3_copyFrom.cls cX3_copyFrom 2 (decide (yX3_copyFrom.name = "<init>")) (none) 2 47 ((tX3_copyFrom.drop 0).take 3) = true := by decide +kernel
theorem kX3_copyFrom_3 : zchkT yX3_copyFrom.cls cX3_copyFrom 2 (decide (yX3_copyFrom.name = "<init>")) (none) 2 47 ((tX3_copyFrom.drop 3).take 3) = true := by decide +kernel
theorem kX3_copyFrom : zchkT yX3_copyFrom.cls cX3_copyFrom 2 (decide (yX3_copyFrom.name = "<init>")) (none) 2 47 tX3_copyFrom = true := zT_all (G := 3) (n := 2) (by decide +kernel) (fun g hg => by
  match g, hg with
  | 0, _ => exact kX3_copyFrom_0
  | 1, _ => exact kX3_copyFrom_3
  | g + 2, hg => exact absurd hg (by omega))
theorem rX3_copyFrom : zchkM (tX3_copyFrom, 2, yX3_copyFrom, cX3_copyFrom, none, 2, 47, [288, 46, 286, 287]) = true := zchkM_of kX3_copyFrom (by decide +kernel)
theorem kX4_init_0 : zchkT yX4_init.cls cX4_init 1 (decide (yX4_init.name = "<init>")) (none) 1 26 ((tX4_init.drop 0).take 3) = true := by decide +kernel
theorem kX4_init : zchkT yX4_init.cls cX4_init 1 (decide (yX4_init.name = "<init>")) (none) 1 26 tX4_init = true := zT_all (G := 3) (n := 1) (by decide +kernel) (fun g hg => by
  match g, hg with
  | 0, _ => exact kX4_init_0
  | g + 1, hg => exact absurd hg (by omega))
theorem rX4_init : zchkM (tX4_init, 1, yX4_init, cX4_init, none, 1, 26, [204, 52, 203, 0]) = true := zchkM_of kX4_init (by decide +kernel)
theorem kX4_fill_0 : zchkT yX4_fill.cls cX4_fill 6 (decide (yX4_fill.name = "<init>")) (none) 4 102 ((tX4_fill.drop 0).take 3) = true := by decide +kernel
theorem kX4_fill_3 : zchkT yX4_fill.cls cX4_fill 6 (decide (yX4_fill.name = "<init>")) (none) 4 102 ((tX4_fill.drop 3).take 3) = true := by decide +kernel
theorem kX4_fill : zchkT yX4_fill.cls cX4_fill 6 (decide (yX4_fill.name = "<init>")) (none) 4 102 tX4_fill = true := zT_all (G := 3) (n := 2) (by decide +kernel) (fun g hg => by
  match g, hg with
  | 0, _ => exact kX4_fill_0
  | 1, _ => exact kX4_fill_3
  | g + 2, hg => exact absurd hg (by omega))
theorem rX4_fill : zchkM (tX4_fill, 6, yX4_fill, cX4_fill, none, 4, 102, [431, 52, 429, 430]) = true := zchkM_of kX4_fill (by decide +kernel)
theorem kX4_gain_0 : zchkT yX4_gain.cls cX4_gain 3 (decide (yX4_gain.name = "<init>")) (some .int) 0 0 ((tX4_gain.drop 0).take 3) = true := by decide +kernel
theorem kX4_gain : zchkT yX4_gain.cls cX4_gain 3 (decide (yX4_gain.name = "<init>")) (some .int) 0 0 tX4_gain = true := zT_all (G := 3) (n := 1) (by decide +kernel) (fun g hg => by
  match g, hg with
  | 0, _ => exact kX4_gain_0
  | g + 1, hg => exact absurd hg (by omega))
theorem rX4_gain : zchkM (tX4_gain, 3, yX4_gain, cX4_gain, some .int, 0, 0, [445, 52, 443, 444]) = true := zchkM_of kX4_gain (by decide +kernel)
theorem kX4_hasGain_0 : zchkT yX4_hasGain.cls cX4_hasGain 3 (decide (yX4_hasGain.name = "<init>")) (some .boolean) 1 22 ((tX4_hasGain.drop 0).take 3) = true := by decide +kernel
theorem kX4_hasGain : zchkT yX4_hasGain.cls cX4_hasGain 3 (decide (yX4_hasGain.name = "<init>")) (some .boolean) 1 22 tX4_hasGain = true := zT_all (G := 3) (n := 1) (by decide +kernel) (fun g hg => by
  match g, hg with
  | 0, _ => exact kX4_hasGain_0
  | g + 1, hg => exact absurd hg (by omega))
theorem rX4_hasGain : zchkM (tX4_hasGain, 3, yX4_hasGain, cX4_hasGain, some .boolean, 1, 22, [535, 52, 533, 534]) = true := zchkM_of kX4_hasGain (by decide +kernel)
theorem kX4_takeGreatest_0 : zchkT yX4_takeGreatest.cls cX4_takeGreatest 4 (decide (yX4_takeGreatest.name = "<init>")) (some .int) 1 22 ((tX4_takeGreatest.drop 0).take 3) = true := by decide +kernel
theorem kX4_takeGreatest_3 : zchkT yX4_takeGreatest.cls cX4_takeGreatest 4 (decide (yX4_takeGreatest.name = "<init>")) (some .int) 1 22 ((tX4_takeGreatest.drop 3).take 3) = true := by decide +kernel
theorem kX4_takeGreatest : zchkT yX4_takeGreatest.cls cX4_takeGreatest 4 (decide (yX4_takeGreatest.name = "<init>")) (some .int) 1 22 tX4_takeGreatest = true := zT_all (G := 3) (n := 2) (by decide +kernel) (fun g hg => by
  match g, hg with
  | 0, _ => exact kX4_takeGreatest_0
  | 1, _ => exact kX4_takeGreatest_3
  | g + 2, hg => exact absurd hg (by omega))
theorem rX4_takeGreatest : zchkM (tX4_takeGreatest, 4, yX4_takeGreatest, cX4_takeGreatest, some .int, 1, 22, [441, 52, 439, 440]) = true := zchkM_of kX4_takeGreatest (by decide +kernel)
theorem kX4_strikeOut_0 : zchkT yX4_strikeOut.cls cX4_strikeOut 3 (decide (yX4_strikeOut.name = "<init>")) (none) 0 0 ((tX4_strikeOut.drop 0).take 3) = true := by decide +kernel
theorem kX4_strikeOut : zchkT yX4_strikeOut.cls cX4_strikeOut 3 (decide (yX4_strikeOut.name = "<init>")) (none) 0 0 tX4_strikeOut = true := zT_all (G := 3) (n := 1) (by decide +kernel) (fun g hg => by
  match g, hg with
  | 0, _ => exact kX4_strikeOut_0
  | g + 1, hg => exact absurd hg (by omega))
theorem rX4_strikeOut : zchkM (tX4_strikeOut, 3, yX4_strikeOut, cX4_strikeOut, none, 0, 0, [449, 52, 448, 2]) = true := zchkM_of kX4_strikeOut (by decide +kernel)
theorem kX5_init_0 : zchkT yX5_init.cls cX5_init 1 (decide (yX5_init.name = "<init>")) (none) 1 26 ((tX5_init.drop 0).take 3) = true := by decide +kernel
theorem kX5_init : zchkT yX5_init.cls cX5_init 1 (decide (yX5_init.name = "<init>")) (none) 1 26 tX5_init = true := zT_all (G := 3) (n := 1) (by decide +kernel) (fun g hg => by
  match g, hg with
  | 0, _ => exact kX5_init_0
  | g + 1, hg => exact absurd hg (by omega))
theorem rX5_init : zchkM (tX5_init, 1, yX5_init, cX5_init, none, 1, 26, [194, 51, 193, 0]) = true := zchkM_of kX5_init (by decide +kernel)
theorem kX5_part_0 : zchkT yX5_part.cls cX5_part 5 (decide (yX5_part.name = "<init>")) (some .int) 3 79 ((tX5_part.drop 0).take 3) = true := by decide +kernel
theorem kX5_part : zchkT yX5_part.cls cX5_part 5 (decide (yX5_part.name = "<init>")) (some .int) 3 79 tX5_part = true := zT_all (G := 3) (n := 1) (by decide +kernel) (fun g hg => by
  match g, hg with
  | 0, _ => exact kX5_part_0
  | g + 1, hg => exact absurd hg (by omega))
theorem rX5_part : zchkM (tX5_part, 5, yX5_part, cX5_part, some .int, 3, 79, [372, 51, 370, 371]) = true := zchkM_of kX5_part (by decide +kernel)
theorem kX5_likely_0 : zchkT yX5_likely.cls cX5_likely 4 (decide (yX5_likely.name = "<init>")) (some .int) 3 79 ((tX5_likely.drop 0).take 3) = true := by decide +kernel
theorem kX5_likely : zchkT yX5_likely.cls cX5_likely 4 (decide (yX5_likely.name = "<init>")) (some .int) 3 79 tX5_likely = true := zT_all (G := 3) (n := 1) (by decide +kernel) (fun g hg => by
  match g, hg with
  | 0, _ => exact kX5_likely_0
  | g + 1, hg => exact absurd hg (by omega))
theorem rX5_likely : zchkM (tX5_likely, 4, yX5_likely, cX5_likely, some .int, 3, 79, [436, 51, 434, 435]) = true := zchkM_of kX5_likely (by decide +kernel)
theorem kX5_compare_0 : zchkT yX5_compare.cls cX5_compare 11 (decide (yX5_compare.name = "<init>")) (some .boolean) 2 49 ((tX5_compare.drop 0).take 3) = true := by decide +kernel
theorem kX5_compare_3 : zchkT yX5_compare.cls cX5_compare 11 (decide (yX5_compare.name = "<init>")) (some .boolean) 2 49 ((tX5_compare.drop 3).take 3) = true := by decide +kernel
theorem kX5_compare_6 : zchkT yX5_compare.cls cX5_compare 11 (decide (yX5_compare.name = "<init>")) (some .boolean) 2 49 ((tX5_compare.drop 6).take 3) = true := by decide +kernel
