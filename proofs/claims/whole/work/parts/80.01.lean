theorem kX0_init_0 : zchkT yX0_init.cls cX0_init 1 (decide (yX0_init.name = "<init>")) (none) 1 26 ((tX0_init.drop 0).take 3) = true := by decide +kernel
theorem kX0_init : zchkT yX0_init.cls cX0_init 1 (decide (yX0_init.name = "<init>")) (none) 1 26 tX0_init = true := zT_all (G := 3) (n := 1) (by decide +kernel) (fun g hg => by
  match g, hg with
  | 0, _ => exact kX0_init_0
  | g + 1, hg => exact absurd hg (by omega))
theorem rX0_init : zchkM (tX0_init, 1, yX0_init, cX0_init, none, 1, 26, [222, 53, 221, 0]) = true := zchkM_of kX0_init (by decide +kernel)
theorem kX0_bestSum_0 : zchkT yX0_bestSum.cls cX0_bestSum 4 (decide (yX0_bestSum.name = "<init>")) (some .int) 4 97 ((tX0_bestSum.drop 0).take 3) = true := by decide +kernel
theorem kX0_bestSum_3 : zchkT yX0_bestSum.cls cX0_bestSum 4 (decide (yX0_bestSum.name = "<init>")) (some .int) 4 97 ((tX0_bestSum.drop 3).take 3) = true := by decide +kernel
theorem kX0_bestSum : zchkT yX0_bestSum.cls cX0_bestSum 4 (decide (yX0_bestSum.name = "<init>")) (some .int) 4 97 tX0_bestSum = true := zT_all (G := 3) (n := 2) (by decide +kernel) (fun g hg => by
  match g, hg with
  | 0, _ => exact kX0_bestSum_0
  | 1, _ => exact kX0_bestSum_3
  | g + 2, hg => exact absurd hg (by omega))
theorem rX0_bestSum : zchkM (tX0_bestSum, 4, yX0_bestSum, cX0_bestSum, some .int, 4, 97, [530, 53, 528, 529]) = true := zchkM_of kX0_bestSum (by decide +kernel)
theorem kX0_gain_0 : zchkT yX0_gain.cls cX0_gain 3 (decide (yX0_gain.name = "<init>")) (some .int) 1 26 ((tX0_gain.drop 0).take 3) = true := by decide +kernel
theorem kX0_gain : zchkT yX0_gain.cls cX0_gain 3 (decide (yX0_gain.name = "<init>")) (some .int) 1 26 tX0_gain = true := zT_all (G := 3) (n := 1) (by decide +kernel) (fun g hg => by
  match g, hg with
  | 0, _ => exact kX0_gain_0
  | g + 1, hg => exact absurd hg (by omega))
theorem rX0_gain : zchkM (tX0_gain, 3, yX0_gain, cX0_gain, some .int, 1, 26, [548, 53, 547, 0]) = true := zchkM_of kX0_gain (by decide +kernel)
theorem kX0_place_0 : zchkT yX0_place.cls cX0_place 5 (decide (yX0_place.name = "<init>")) (none) 3 73 ((tX0_place.drop 0).take 3) = true := by decide +kernel
theorem kX0_place_3 : zchkT yX0_place.cls cX0_place 5 (decide (yX0_place.name = "<init>")) (none) 3 73 ((tX0_place.drop 3).take 3) = true := by decide +kernel
theorem kX0_place : zchkT yX0_place.cls cX0_place 5 (decide (yX0_place.name = "<init>")) (none) 3 73 tX0_place = true := zT_all (G := 3) (n := 2) (by decide +kernel) (fun g hg => by
  match g, hg with
  | 0, _ => exact kX0_place_0
  | 1, _ => exact kX0_place_3
  | g + 2, hg => exact absurd hg (by omega))
theorem rX0_place : zchkM (tX0_place, 5, yX0_place, cX0_place, none, 3, 73, [539, 53, 538, 4]) = true := zchkM_of kX0_place (by decide +kernel)
theorem kX0_relax_0 : zchkT yX0_relax.cls cX0_relax 6 (decide (yX0_relax.name = "<init>")) (none) 2 48 ((tX0_relax.drop 0).take 3) = true := by decide +kernel
theorem kX0_relax_3 : zchkT yX0_relax.cls cX0_relax 6 (decide (yX0_relax.name = "<init>")) (none) 2 48 ((tX0_relax.drop 3).take 3) = true := by decide +kernel
theorem kX0_relax : zchkT yX0_relax.cls cX0_relax 6 (decide (yX0_relax.name = "<init>")) (none) 2 48 tX0_relax = true := zT_all (G := 3) (n := 2) (by decide +kernel) (fun g hg => by
  match g, hg with
  | 0, _ => exact kX0_relax_0
  | 1, _ => exact kX0_relax_3
  | g + 2, hg => exact absurd hg (by omega))
theorem rX0_relax : zchkM (tX0_relax, 6, yX0_relax, cX0_relax, none, 2, 48, [544, 53, 543, 5]) = true := zchkM_of kX0_relax (by decide +kernel)
theorem kX0_nearest_0 : zchkT yX0_nearest.cls cX0_nearest 3 (decide (yX0_nearest.name = "<init>")) (some .int) 1 21 ((tX0_nearest.drop 0).take 3) = true := by decide +kernel
theorem kX0_nearest : zchkT yX0_nearest.cls cX0_nearest 3 (decide (yX0_nearest.name = "<init>")) (some .int) 1 21 tX0_nearest = true := zT_all (G := 3) (n := 1) (by decide +kernel) (fun g hg => by
  match g, hg with
  | 0, _ => exact kX0_nearest_0
  | g + 1, hg => exact absurd hg (by omega))
theorem rX0_nearest : zchkM (tX0_nearest, 3, yX0_nearest, cX0_nearest, some .int, 1, 21, [558, 53, 557, 7]) = true := zchkM_of kX0_nearest (by decide +kernel)
theorem kX0_shiftPrices_0 : zchkT yX0_shiftPrices.cls cX0_shiftPrices 4 (decide (yX0_shiftPrices.name = "<init>")) (none) 1 22 ((tX0_shiftPrices.drop 0).take 3) = true := by decide +kernel
theorem kX0_shiftPrices_3 : zchkT yX0_shiftPrices.cls cX0_shiftPrices 4 (decide (yX0_shiftPrices.name = "<init>")) (none) 1 22 ((tX0_shiftPrices.drop 3).take 3) = true := by decide +kernel
theorem kX0_shiftPrices : zchkT yX0_shiftPrices.cls cX0_shiftPrices 4 (decide (yX0_shiftPrices.name = "<init>")) (none) 1 22 tX0_shiftPrices = true := zT_all (G := 3) (n := 2) (by decide +kernel) (fun g hg => by
  match g, hg with
  | 0, _ => exact kX0_shiftPrices_0
  | 1, _ => exact kX0_shiftPrices_3
  | g + 2, hg => exact absurd hg (by omega))
theorem rX0_shiftPrices : zchkM (tX0_shiftPrices, 4, yX0_shiftPrices, cX0_shiftPrices, none, 1, 22, [562, 53, 561, 8]) = true := zchkM_of kX0_shiftPrices (by decide +kernel)
theorem kX0_handOn_0 : zchkT yX0_handOn.cls cX0_handOn 5 (decide (yX0_handOn.name = "<init>")) (none) 1 22 ((tX0_handOn.drop 0).take 3) = true := by decide +kernel
theorem kX0_handOn : zchkT yX0_handOn.cls cX0_handOn 5 (decide (yX0_handOn.name = "<init>")) (none) 1 22 tX0_handOn = true := zT_all (G := 3) (n := 1) (by decide +kernel) (fun g hg => by
  match g, hg with
  | 0, _ => exact kX0_handOn_0
  | g + 1, hg => exact absurd hg (by omega))
theorem rX0_handOn : zchkM (tX0_handOn, 5, yX0_handOn, cX0_handOn, none, 1, 22, [566, 53, 565, 9]) = true := zchkM_of kX0_handOn (by decide +kernel)
theorem kX0_isReached_0 : zchkT yX0_isReached.cls cX0_isReached 2 (decide (yX0_isReached.name = "<init>")) (some .boolean) 0 0 ((tX0_isReached.drop 0).take 3) = true := by decide +kernel
theorem kX0_isReached : zchkT yX0_isReached.cls cX0_isReached 2 (decide (yX0_isReached.name = "<init>")) (some .boolean) 0 0 tX0_isReached = true := zT_all (G := 3) (n := 1) (by decide +kernel) (fun g hg => by
  match g, hg with
  | 0, _ => exact kX0_isReached_0
  | g + 1, hg => exact absurd hg (by omega))
theorem rX0_isReached : zchkM (tX0_isReached, 2, yX0_isReached, cX0_isReached, some .boolean, 0, 0, [554, 53, 553, 6]) = true := zchkM_of kX0_isReached (by decide +kernel)
theorem kX1_init_0 : zchkT yX1_init.cls cX1_init 1 (decide (yX1_init.name = "<init>")) (none) 1 26 ((tX1_init.drop 0).take 3) = true := by decide +kernel
theorem kX1_init : zchkT yX1_init.cls cX1_init 1 (decide (yX1_init.name = "<init>")) (none) 1 26 tX1_init = true := zT_all (G := 3) (n := 1) (by decide +kernel) (fun g hg => by
  match g, hg with
  | 0, _ => exact kX1_init_0
  | g + 1, hg => exact absurd hg (by omega))
theorem rX1_init : zchkM (tX1_init, 1, yX1_init, cX1_init, none, 1, 26, [173, 50, 172, 0]) = true := zchkM_of kX1_init (by decide +kernel)
theorem kX1_length_0 : zchkT yX1_length.cls cX1_length 1 (decide (yX1_length.name = "<init>")) (some .int) 0 0 ((tX1_length.drop 0).take 3) = true := by decide +kernel
theorem kX1_length : zchkT yX1_length.cls cX1_length 1 (decide (yX1_length.name = "<init>")) (some .int) 0 0 tX1_length = true := zT_all (G := 3) (n := 1) (by decide +kernel) (fun g hg => by
  match g, hg with
  | 0, _ => exact kX1_length_0
  | g + 1, hg => exact absurd hg (by omega))
theorem rX1_length : zchkM (tX1_length, 1, yX1_length, cX1_length, some .int, 0, 0, [587, 50, 585, 586]) = true := zchkM_of kX1_length (by decide +kernel)
theorem kX1_clear_0 : zchkT yX1_clear.cls cX1_clear 1 (decide (yX1_clear.name = "<init>")) (none) 0 0 ((tX1_clear.drop 0).take 3) = true := by decide +kernel
theorem kX1_clear : zchkT yX1_clear.cls cX1_clear 1 (decide (yX1_clear.name = "<init>")) (none) 0 0 tX1_clear = true := zT_all (G := 3) (n := 1) (by decide +kernel) (fun g hg => by
  match g, hg with
  | 0, _ => exact kX1_clear_0
  | g + 1, hg => exact absurd hg (by omega))
theorem rX1_clear : zchkM (tX1_clear, 1, yX1_clear, cX1_clear, none, 0, 0, [599, 50, 597, 598]) = true := zchkM_of kX1_clear (by decide +kernel)
theorem kX1_append_0 : zchkT yX1_append.cls cX1_append 2 (decide (yX1_append.name = "<init>")) (none) 0 0 ((tX1_append.drop 0).take 3) = true := by decide +kernel
theorem kX1_append : zchkT yX1_append.cls cX1_append 2 (decide (yX1_append.name = "<init>")) (none) 0 0 tX1_append = true := zT_all (G := 3) (n := 1) (by decide +kernel) (fun g hg => by
  match g, hg with
  | 0, _ => exact kX1_append_0
  | g + 1, hg => exact absurd hg (by omega))
theorem rX1_append : zchkM (tX1_append, 2, yX1_append, cX1_append, none, 0, 0, [591, 50, 589, 590]) = true := zchkM_of kX1_append (by decide +kernel)
theorem kX1_check_0 : zchkT yX1_check.cls cX1_check 3 (decide (yX1_check.name = "<init>")) (none) 2 43 ((tX1_check.drop 0).take 3) = true := by decide +kernel
theorem kX1_check_3 : zchkT yX1_check.cls cX1_check 3 (decide (yX1_check.name = "<init>")) (none) 2 43 ((tX1_check.drop 3).take 3) = true := by decide +kernel
theorem kX1_check : zchkT yX1_check.cls cX1_check 3 (decide (yX1_check.name = "<init>")) (none) 2 43 tX1_check = true := zT_all (G := 3) (n := 2) (by decide +kernel) (fun g hg => by
  match g, hg with
  | 0, _ => exact kX1_check_0
  | 1, _ => exact kX1_check_3
  | g + 2, hg => exact absurd hg (by omega))
theorem rX1_check : zchkM (tX1_check, 3, yX1_check, cX1_check, none, 2, 43, [607, 50, 605, 606]) = true := zchkM_of kX1_check (by decide +kernel)
theorem kX1_fits_0 : zchkT yX1_fits.cls cX1_fits 3 (decide (yX1_fits.name = "<init>")) (some .boolean) 1 21 ((tX1_fits.drop 0).take 3) = true := by decide +kernel
theorem kX1_fits_3 : zchkT yX1_fits.cls cX1_fits 3 (decide (yX1_fits.name = "<init>")) (some .boolean) 1 21 ((tX1_fits.drop 3).take 3) = true := by decide +kernel
theorem kX1_fits : zchkT yX1_fits.cls cX1_fits 3 (decide (yX1_fits.name = "<init>")) (some .boolean) 1 21 tX1_fits = true := zT_all (G := 3) (n := 2) (by decide +kernel) (fun g hg => by
  match g, hg with
  | 0, _ => exact kX1_fits_0
  | 1, _ => exact kX1_fits_3
  | g + 2, hg => exact absurd hg (by omega))
theorem rX1_fits : zchkM (tX1_fits, 3, yX1_fits, cX1_fits, some .boolean, 1, 21, [614, 50, 613, 0]) = true := zchkM_of kX1_fits (by decide +kernel)
theorem kX1_isTagSign_0 : zchkT yX1_isTagSign.cls cX1_isTagSign 1 (decide (yX1_isTagSign.name = "<init>")) (some .boolean) 0 0 ((tX1_isTagSign.drop 0).take 3) = true := by decide +kernel
theorem kX1_isTagSign : zchkT yX1_isTagSign.cls cX1_isTagSign 1 (decide (yX1_isTagSign.name = "<init>")) (some .boolean) 0 0 tX1_isTagSign = true := zT_all (G := 3) (n := 1) (by decide +kernel) (fun g hg => by
  match g, hg with
  | 0, _ => exact kX1_isTagSign_0
  | g + 1, hg => exact absurd hg (by omega))
theorem rX1_isTagSign : zchkM (tX1_isTagSign, 1, yX1_isTagSign, cX1_isTagSign, some .boolean, 0, 0, [617, 50, 616, 0]) = true := zchkM_of kX1_isTagSign (by decide +kernel)
theorem kX1_isNextMark_0 : zchkT yX1_isNextMark.cls cX1_isNextMark 2 (decide (yX1_isNextMark.name = "<init>")) (some .boolean) 0 0 ((tX1_isNextMark.drop 0).take 3) = true := by decide +kernel
theorem kX1_isNextMark : zchkT yX1_isNextMark.cls cX1_isNextMark 2 (decide (yX1_isNextMark.name = "<init>")) (some .boolean) 0 0 tX1_isNextMark = true := zT_all (G := 3) (n := 1) (by decide +kernel) (fun g hg => by
  match g, hg with
  | 0, _ => exact kX1_isNextMark_0
  | g + 1, hg => exact absurd hg (by omega))
theorem rX1_isNextMark : zchkM (tX1_isNextMark, 2, yX1_isNextMark, cX1_isNextMark, some .boolean, 0, 0, [620, 50, 619, 0]) = true := zchkM_of kX1_isNextMark (by decide +kernel)
theorem kX1_readBag_0 : zchkT yX1_readBag.cls cX1_readBag 7 (decide (yX1_readBag.name = "<init>")) (some .int) 1 21 ((tX1_readBag.drop 0).take 3) = true := by decide +kernel
theorem kX1_readBag_3 : zchkT yX1_readBag.cls cX1_readBag 7 (decide (yX1_readBag.name = "<init>")) (some .int) 1 21 ((tX1_readBag.drop 3).take 3) = true := by decide +kernel
theorem kX1_readBag_6 : zchkT yX1_readBag.cls cX1_readBag 7 (decide (yX1_readBag.name = "<init>")) (some .int) 1 21 ((tX1_readBag.drop 6).take 3) = true := by decide +kernel
theorem kX1_readBag_9 : zchkT yX1_readBag.cls cX1_readBag 7 (decide (yX1_readBag.name = "<init>")) (some .int) 1 21 ((tX1_readBag.drop 9).take 3) = true := by decide +kernel
theorem kX1_readBag : zchkT yX1_readBag.cls cX1_readBag 7 (decide (yX1_readBag.name = "<init>")) (some .int) 1 21 tX1_readBag = true := zT_all (G := 3) (n := 4) (by decide +kernel) (fun g hg => by
  match g, hg with
  | 0, _ => exact kX1_readBag_0
  | 1, _ => exact kX1_readBag_3
  | 2, _ => exact kX1_readBag_6
  | 3, _ => exact kX1_readBag_9
  | g + 4, hg => exact absurd hg (by omega))
theorem rX1_readBag : zchkM (tX1_readBag, 7, yX1_readBag, cX1_readBag, some .int, 1, 21, [632, 50, 630, 631]) = true := zchkM_of kX1_readBag (by decide +kernel)
theorem kX1_codeAt_0 : zchkT yX1_codeAt.cls cX1_codeAt 2 (decide (yX1_codeAt.name = "<init>")) (some .int) 0 0 ((tX1_codeAt.drop 0).take 3) = true := by decide +kernel
theorem kX1_codeAt : zchkT yX1_codeAt.cls cX1_codeAt 2 (decide (yX1_codeAt.name = "<init>")) (some .int) 0 0 tX1_codeAt = true := zT_all (G := 3) (n := 1) (by decide +kernel) (fun g hg => by
  match g, hg with
  | 0, _ => exact kX1_codeAt_0
  | g + 1, hg => exact absurd hg (by omega))
theorem rX1_codeAt : zchkM (tX1_codeAt, 2, yX1_codeAt, cX1_codeAt, some .int, 0, 0, [611, 50, 610, 10]) = true := zchkM_of kX1_codeAt (by decide +kernel)
theorem kX2_init_0 : zchkT yX2_init.cls cX2_init 2 (decide (yX2_init.name = "<init>")) (none) 3 68 ((tX2_init.drop 0).take 3) = true := by decide +kernel
