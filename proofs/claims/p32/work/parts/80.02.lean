theorem kX0_shiftPrices_3 : zchkT yX0_shiftPrices.cls cX0_shiftPrices 4 (decide (yX0_shiftPrices.name = "<init>")) (none) 1 22 ((tX0_shiftPrices.drop 3).take 3) = true := by decide +kernel
theorem kX0_shiftPrices : zchkT yX0_shiftPrices.cls cX0_shiftPrices 4 (decide (yX0_shiftPrices.name = "<init>")) (none) 1 22 tX0_shiftPrices = true := zT_all (G := 3) (n := 2) (by decide +kernel) (fun g hg => by
  match g, hg with
  | 0, _ => exact kX0_shiftPrices_0
  | 1, _ => exact kX0_shiftPrices_3
  | g + 2, hg => exact absurd hg (by omega))
theorem rX0_shiftPrices : zchkM (tX0_shiftPrices, 4, yX0_shiftPrices, cX0_shiftPrices, none, 1, 22, [417, 19, 416, 7]) = true := zchkM_of kX0_shiftPrices (by decide +kernel)
theorem kX0_handOn_0 : zchkT yX0_handOn.cls cX0_handOn 5 (decide (yX0_handOn.name = "<init>")) (none) 1 22 ((tX0_handOn.drop 0).take 3) = true := by decide +kernel
theorem kX0_handOn : zchkT yX0_handOn.cls cX0_handOn 5 (decide (yX0_handOn.name = "<init>")) (none) 1 22 tX0_handOn = true := zT_all (G := 3) (n := 1) (by decide +kernel) (fun g hg => by
  match g, hg with
  | 0, _ => exact kX0_handOn_0
  | g + 1, hg => exact absurd hg (by omega))
theorem rX0_handOn : zchkM (tX0_handOn, 5, yX0_handOn, cX0_handOn, none, 1, 22, [421, 19, 420, 8]) = true := zchkM_of kX0_handOn (by decide +kernel)
theorem kX0_isReached_0 : zchkT yX0_isReached.cls cX0_isReached 2 (decide (yX0_isReached.name = "<init>")) (some .boolean) 0 0 ((tX0_isReached.drop 0).take 3) = true := by decide +kernel
theorem kX0_isReached : zchkT yX0_isReached.cls cX0_isReached 2 (decide (yX0_isReached.name = "<init>")) (some .boolean) 0 0 tX0_isReached = true := zT_all (G := 3) (n := 1) (by decide +kernel) (fun g hg => by
  match g, hg with
  | 0, _ => exact kX0_isReached_0
  | g + 1, hg => exact absurd hg (by omega))
theorem rX0_isReached : zchkM (tX0_isReached, 2, yX0_isReached, cX0_isReached, some .boolean, 0, 0, [409, 19, 408, 5]) = true := zchkM_of kX0_isReached (by decide +kernel)
theorem kX1_init_0 : zchkT yX1_init.cls cX1_init 1 (decide (yX1_init.name = "<init>")) (none) 1 26 ((tX1_init.drop 0).take 3) = true := by decide +kernel
theorem kX1_init : zchkT yX1_init.cls cX1_init 1 (decide (yX1_init.name = "<init>")) (none) 1 26 tX1_init = true := zT_all (G := 3) (n := 1) (by decide +kernel) (fun g hg => by
  match g, hg with
  | 0, _ => exact kX1_init_0
  | g + 1, hg => exact absurd hg (by omega))
theorem rX1_init : zchkM (tX1_init, 1, yX1_init, cX1_init, none, 1, 26, [136, 16, 135, 0]) = true := zchkM_of kX1_init (by decide +kernel)
theorem kX2_init_0 : zchkT yX2_init.cls cX2_init 2 (decide (yX2_init.name = "<init>")) (none) 3 68 ((tX2_init.drop 0).take 3) = true := by decide +kernel
theorem kX2_init : zchkT yX2_init.cls cX2_init 2 (decide (yX2_init.name = "<init>")) (none) 3 68 tX2_init = true := zT_all (G := 3) (n := 1) (by decide +kernel) (fun g hg => by
  match g, hg with
  | 0, _ => exact kX2_init_0
  | g + 1, hg => exact absurd hg (by omega))
theorem rX2_init : zchkM (tX2_init, 2, yX2_init, cX2_init, none, 3, 68, [117, 15, 116, 0]) = true := zchkM_of kX2_init (by decide +kernel)
theorem kX2_saved_0 : zchkT yX2_saved.cls cX2_saved 1 (decide (yX2_saved.name = "<init>")) (some .int) 0 0 ((tX2_saved.drop 0).take 3) = true := by decide +kernel
theorem kX2_saved : zchkT yX2_saved.cls cX2_saved 1 (decide (yX2_saved.name = "<init>")) (some .int) 0 0 tX2_saved = true := zT_all (G := 3) (n := 1) (by decide +kernel) (fun g hg => by
  match g, hg with
  | 0, _ => exact kX2_saved_0
  | g + 1, hg => exact absurd hg (by omega))
theorem rX2_saved : zchkM (tX2_saved, 1, yX2_saved, cX2_saved, some .int, 0, 0, [477, 15, 475, 476]) = true := zchkM_of kX2_saved (by decide +kernel)
theorem kX2_save_0 : zchkT yX2_save.cls cX2_save 2 (decide (yX2_save.name = "<init>")) (none) 3 68 ((tX2_save.drop 0).take 3) = true := by decide +kernel
theorem kX2_save_3 : zchkT yX2_save.cls cX2_save 2 (decide (yX2_save.name = "<init>")) (none) 3 68 ((tX2_save.drop 3).take 3) = true := by decide +kernel
theorem kX2_save : zchkT yX2_save.cls cX2_save 2 (decide (yX2_save.name = "<init>")) (none) 3 68 tX2_save = true := zT_all (G := 3) (n := 2) (by decide +kernel) (fun g hg => by
  match g, hg with
  | 0, _ => exact kX2_save_0
  | 1, _ => exact kX2_save_3
  | g + 2, hg => exact absurd hg (by omega))
theorem rX2_save : zchkM (tX2_save, 2, yX2_save, cX2_save, none, 3, 68, [441, 15, 439, 440]) = true := zchkM_of kX2_save (by decide +kernel)
theorem kX2_restore_0 : zchkT yX2_restore.cls cX2_restore 3 (decide (yX2_restore.name = "<init>")) (none) 3 68 ((tX2_restore.drop 0).take 3) = true := by decide +kernel
theorem kX2_restore_3 : zchkT yX2_restore.cls cX2_restore 3 (decide (yX2_restore.name = "<init>")) (none) 3 68 ((tX2_restore.drop 3).take 3) = true := by decide +kernel
theorem kX2_restore : zchkT yX2_restore.cls cX2_restore 3 (decide (yX2_restore.name = "<init>")) (none) 3 68 tX2_restore = true := zT_all (G := 3) (n := 2) (by decide +kernel) (fun g hg => by
  match g, hg with
  | 0, _ => exact kX2_restore_0
  | 1, _ => exact kX2_restore_3
  | g + 2, hg => exact absurd hg (by omega))
theorem rX2_restore : zchkM (tX2_restore, 3, yX2_restore, cX2_restore, none, 3, 68, [481, 15, 479, 480]) = true := zchkM_of kX2_restore (by decide +kernel)
theorem kX3_init_0 : zchkT yX3_init.cls cX3_init 1 (decide (yX3_init.name = "<init>")) (none) 2 48 ((tX3_init.drop 0).take 3) = true := by decide +kernel
theorem kX3_init_3 : zchkT yX3_init.cls cX3_init 1 (decide (yX3_init.name = "<init>")) (none) 2 48 ((tX3_init.drop 3).take 3) = true := by decide +kernel
theorem kX3_init : zchkT yX3_init.cls cX3_init 1 (decide (yX3_init.name = "<init>")) (none) 2 48 tX3_init = true := zT_all (G := 3) (n := 2) (by decide +kernel) (fun g hg => by
  match g, hg with
  | 0, _ => exact kX3_init_0
  | 1, _ => exact kX3_init_3
  | g + 2, hg => exact absurd hg (by omega))
theorem rX3_init : zchkM (tX3_init, 1, yX3_init, cX3_init, none, 2, 48, [36, 12, 35, 0]) = true := zchkM_of kX3_init (by decide +kernel)
theorem kX3_addBag_0 : zchkT yX3_addBag.cls cX3_addBag 8 (decide (yX3_addBag.name = "<init>")) (some .int) 4 88 ((tX3_addBag.drop 0).take 3) = true := by decide +kernel
