theorem kX0_init_0 : zchkT yX0_init.cls cX0_init 1 (decide (yX0_init.name = "<init>")) (none) 1 26 ((tX0_init.drop 0).take 3) = true := by decide +kernel
theorem kX0_init : zchkT yX0_init.cls cX0_init 1 (decide (yX0_init.name = "<init>")) (none) 1 26 tX0_init = true := zT_all (G := 3) (n := 1) (by decide +kernel) (fun g hg => by
  match g, hg with
  | 0, _ => exact kX0_init_0
  | g + 1, hg => exact absurd hg (by omega))
theorem rX0_init : zchkM (tX0_init, 1, yX0_init, cX0_init, none, 1, 26, [180, 19, 179, 0]) = true := zchkM_of kX0_init (by decide +kernel)
theorem kX0_bestSum_0 : zchkT yX0_bestSum.cls cX0_bestSum 4 (decide (yX0_bestSum.name = "<init>")) (some .int) 4 97 ((tX0_bestSum.drop 0).take 3) = true := by decide +kernel
theorem kX0_bestSum_3 : zchkT yX0_bestSum.cls cX0_bestSum 4 (decide (yX0_bestSum.name = "<init>")) (some .int) 4 97 ((tX0_bestSum.drop 3).take 3) = true := by decide +kernel
theorem kX0_bestSum : zchkT yX0_bestSum.cls cX0_bestSum 4 (decide (yX0_bestSum.name = "<init>")) (some .int) 4 97 tX0_bestSum = true := zT_all (G := 3) (n := 2) (by decide +kernel) (fun g hg => by
  match g, hg with
  | 0, _ => exact kX0_bestSum_0
  | 1, _ => exact kX0_bestSum_3
  | g + 2, hg => exact absurd hg (by omega))
theorem rX0_bestSum : zchkM (tX0_bestSum, 4, yX0_bestSum, cX0_bestSum, some .int, 4, 97, [381, 19, 379, 380]) = true := zchkM_of kX0_bestSum (by decide +kernel)
theorem kX0_gain_0 : zchkT yX0_gain.cls cX0_gain 3 (decide (yX0_gain.name = "<init>")) (some .int) 1 26 ((tX0_gain.drop 0).take 3) = true := by decide +kernel
theorem kX0_gain : zchkT yX0_gain.cls cX0_gain 3 (decide (yX0_gain.name = "<init>")) (some .int) 1 26 tX0_gain = true := zT_all (G := 3) (n := 1) (by decide +kernel) (fun g hg => by
  match g, hg with
  | 0, _ => exact kX0_gain_0
  | g + 1, hg => exact absurd hg (by omega))
theorem rX0_gain : zchkM (tX0_gain, 3, yX0_gain, cX0_gain, some .int, 1, 26, [403, 19, 402, 0]) = true := zchkM_of kX0_gain (by decide +kernel)
theorem kX0_place_0 : zchkT yX0_place.cls cX0_place 5 (decide (yX0_place.name = "<init>")) (none) 3 73 ((tX0_place.drop 0).take 3) = true := by decide +kernel
theorem kX0_place_3 : zchkT yX0_place.cls cX0_place 5 (decide (yX0_place.name = "<init>")) (none) 3 73 ((tX0_place.drop 3).take 3) = true := by decide +kernel
theorem kX0_place : zchkT yX0_place.cls cX0_place 5 (decide (yX0_place.name = "<init>")) (none) 3 73 tX0_place = true := zT_all (G := 3) (n := 2) (by decide +kernel) (fun g hg => by
  match g, hg with
  | 0, _ => exact kX0_place_0
  | 1, _ => exact kX0_place_3
  | g + 2, hg => exact absurd hg (by omega))
theorem rX0_place : zchkM (tX0_place, 5, yX0_place, cX0_place, none, 3, 73, [394, 19, 393, 3]) = true := zchkM_of kX0_place (by decide +kernel)
theorem kX0_relax_0 : zchkT yX0_relax.cls cX0_relax 6 (decide (yX0_relax.name = "<init>")) (none) 2 48 ((tX0_relax.drop 0).take 3) = true := by decide +kernel
theorem kX0_relax_3 : zchkT yX0_relax.cls cX0_relax 6 (decide (yX0_relax.name = "<init>")) (none) 2 48 ((tX0_relax.drop 3).take 3) = true := by decide +kernel
theorem kX0_relax : zchkT yX0_relax.cls cX0_relax 6 (decide (yX0_relax.name = "<init>")) (none) 2 48 tX0_relax = true := zT_all (G := 3) (n := 2) (by decide +kernel) (fun g hg => by
  match g, hg with
  | 0, _ => exact kX0_relax_0
  | 1, _ => exact kX0_relax_3
  | g + 2, hg => exact absurd hg (by omega))
theorem rX0_relax : zchkM (tX0_relax, 6, yX0_relax, cX0_relax, none, 2, 48, [399, 19, 398, 4]) = true := zchkM_of kX0_relax (by decide +kernel)
theorem kX0_nearest_0 : zchkT yX0_nearest.cls cX0_nearest 3 (decide (yX0_nearest.name = "<init>")) (some .int) 1 21 ((tX0_nearest.drop 0).take 3) = true := by decide +kernel
theorem kX0_nearest : zchkT yX0_nearest.cls cX0_nearest 3 (decide (yX0_nearest.name = "<init>")) (some .int) 1 21 tX0_nearest = true := zT_all (G := 3) (n := 1) (by decide +kernel) (fun g hg => by
  match g, hg with
  | 0, _ => exact kX0_nearest_0
  | g + 1, hg => exact absurd hg (by omega))
theorem rX0_nearest : zchkM (tX0_nearest, 3, yX0_nearest, cX0_nearest, some .int, 1, 21, [413, 19, 412, 6]) = true := zchkM_of kX0_nearest (by decide +kernel)
theorem kX0_shiftPrices_0 : zchkT yX0_shiftPrices.cls cX0_shiftPrices 4 (decide (yX0_shiftPrices.name = "<init>")) (none) 1 22 ((tX0_shiftPrices.drop 0).take 3) = true := by decide +kernel
