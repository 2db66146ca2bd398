theorem kX9_in : zchkT yX9_in.cls cX9_in 3 (decide (yX9_in.name = "<init>")) (some .boolean) 0 0 tX9_in = true := zT_all (G := 3) (n := 1) (by decide +kernel) (fun g hg => by
  match g, hg with
  | 0, _ => exact kX9_in_0
  | g + 1, hg => exact absurd hg (by omega))
theorem rX9_in : zchkM (tX9_in, 3, yX9_in, cX9_in, some .boolean, 0, 0, [707, 55, 706, 0]) = true := zchkM_of kX9_in (by decide +kernel)
theorem kX9_less_0 : zchkT yX9_less.cls cX9_less 2 (decide (yX9_less.name = "<init>")) (some .int) 0 0 ((tX9_less.drop 0).take 3) = true := by decide +kernel
theorem kX9_less : zchkT yX9_less.cls cX9_less 2 (decide (yX9_less.name = "<init>")) (some .int) 0 0 tX9_less = true := zT_all (G := 3) (n := 1) (by decide +kernel) (fun g hg => by
  match g, hg with
  | 0, _ => exact kX9_less_0
  | g + 1, hg => exact absurd hg (by omega))
theorem rX9_less : zchkM (tX9_less, 2, yX9_less, cX9_less, some .int, 0, 0, [784, 55, 783, 0]) = true := zchkM_of kX9_less (by decide +kernel)
theorem kX9_size_0 : zchkT yX9_size.cls cX9_size 1 (decide (yX9_size.name = "<init>")) (some .int) 0 0 ((tX9_size.drop 0).take 3) = true := by decide +kernel
theorem kX9_size : zchkT yX9_size.cls cX9_size 1 (decide (yX9_size.name = "<init>")) (some .int) 0 0 tX9_size = true := zT_all (G := 3) (n := 1) (by decide +kernel) (fun g hg => by
  match g, hg with
  | 0, _ => exact kX9_size_0
  | g + 1, hg => exact absurd hg (by omega))
theorem rX9_size : zchkM (tX9_size, 1, yX9_size, cX9_size, some .int, 0, 0, [781, 55, 780, 0]) = true := zchkM_of kX9_size (by decide +kernel)
theorem kX9_saves_0 : zchkT yX9_saves.cls cX9_saves 2 (decide (yX9_saves.name = "<init>")) (none) 0 0 ((tX9_saves.drop 0).take 3) = true := by decide +kernel
theorem kX9_saves_3 : zchkT yX9_saves.cls cX9_saves 2 (decide (yX9_saves.name = "<init>")) (none) 0 0 ((tX9_saves.drop 3).take 3) = true := by decide +kernel
theorem kX9_saves : zchkT yX9_saves.cls cX9_saves 2 (decide (yX9_saves.name = "<init>")) (none) 0 0 tX9_saves = true := zT_all (G := 3) (n := 2) (by decide +kernel) (fun g hg => by
  match g, hg with
  | 0, _ => exact kX9_saves_0
  | 1, _ => exact kX9_saves_3
  | g + 2, hg => exact absurd hg (by omega))
theorem rX9_saves : zchkM (tX9_saves, 2, yX9_saves, cX9_saves, none, 0, 0, [711, 55, 710, 12]) = true := zchkM_of kX9_saves (by decide +kernel)
theorem kX9_bagAt_0 : zchkT yX9_bagAt.cls cX9_bagAt 3 (decide (yX9_bagAt.name = "<init>")) (some .int) 0 0 ((tX9_bagAt.drop 0).take 3) = true := by decide +kernel
theorem kX9_bagAt : zchkT yX9_bagAt.cls cX9_bagAt 3 (decide (yX9_bagAt.name = "<init>")) (some .int) 0 0 tX9_bagAt = true := zT_all (G := 3) (n := 1) (by decide +kernel) (fun g hg => by
  match g, hg with
  | 0, _ => exact kX9_bagAt_0
  | g + 1, hg => exact absurd hg (by omega))
theorem rX9_bagAt : zchkM (tX9_bagAt, 3, yX9_bagAt, cX9_bagAt, some .int, 0, 0, [732, 55, 731, 14]) = true := zchkM_of kX9_bagAt (by decide +kernel)
theorem kX9_claimAt_0 : zchkT yX9_claimAt.cls cX9_claimAt 3 (decide (yX9_claimAt.name = "<init>")) (some .int) 0 0 ((tX9_claimAt.drop 0).take 3) = true := by decide +kernel
theorem kX9_claimAt : zchkT yX9_claimAt.cls cX9_claimAt 3 (decide (yX9_claimAt.name = "<init>")) (some .int) 0 0 tX9_claimAt = true := zT_all (G := 3) (n := 1) (by decide +kernel) (fun g hg => by
  match g, hg with
  | 0, _ => exact kX9_claimAt_0
  | g + 1, hg => exact absurd hg (by omega))
theorem rX9_claimAt : zchkM (tX9_claimAt, 3, yX9_claimAt, cX9_claimAt, some .int, 0, 0, [747, 55, 746, 15]) = true := zchkM_of kX9_claimAt (by decide +kernel)
theorem kX9_bagOf_0 : zchkT yX9_bagOf.cls cX9_bagOf 3 (decide (yX9_bagOf.name = "<init>")) (some .int) 1 22 ((tX9_bagOf.drop 0).take 3) = true := by decide +kernel
theorem kX9_bagOf : zchkT yX9_bagOf.cls cX9_bagOf 3 (decide (yX9_bagOf.name = "<init>")) (some .int) 1 22 tX9_bagOf = true := zT_all (G := 3) (n := 1) (by decide +kernel) (fun g hg => by
  match g, hg with
  | 0, _ => exact kX9_bagOf_0
  | g + 1, hg => exact absurd hg (by omega))
theorem rX9_bagOf : zchkM (tX9_bagOf, 3, yX9_bagOf, cX9_bagOf, some .int, 1, 22, [759, 55, 758, 17]) = true := zchkM_of kX9_bagOf (by decide +kernel)
theorem kX9_rankOf_0 : zchkT yX9_rankOf.cls cX9_rankOf 3 (decide (yX9_rankOf.name = "<init>")) (some .int) 1 22 ((tX9_rankOf.drop 0).take 3) = true := by decide +kernel
theorem kX9_rankOf : zchkT yX9_rankOf.cls cX9_rankOf 3 (decide (yX9_rankOf.name = "<init>")) (some .int) 1 22 tX9_rankOf = true := zT_all (G := 3) (n := 1) (by decide +kernel) (fun g hg => by
  match g, hg with
  | 0, _ => exact kX9_rankOf_0
  | g + 1, hg => exact absurd hg (by omega))
theorem rX9_rankOf : zchkM (tX9_rankOf, 3, yX9_rankOf, cX9_rankOf, some .int, 1, 22, [755, 55, 754, 16]) = true := zchkM_of kX9_rankOf (by decide +kernel)
theorem kX9_claimWith_0 : zchkT yX9_claimWith.cls cX9_claimWith 4 (decide (yX9_claimWith.name = "<init>")) (some .int) 1 22 ((tX9_claimWith.drop 0).take 3) = true := by decide +kernel
theorem kX9_claimWith_3 : zchkT yX9_claimWith.cls cX9_claimWith 4 (decide (yX9_claimWith.name = "<init>")) (some .int) 1 22 ((tX9_claimWith.drop 3).take 3) = true := by decide +kernel
theorem kX9_claimWith : zchkT yX9_claimWith.cls cX9_claimWith 4 (decide (yX9_claimWith.name = "<init>")) (some .int) 1 22 tX9_claimWith = true := zT_all (G := 3) (n := 2) (by decide +kernel) (fun g hg => by
  match g, hg with
  | 0, _ => exact kX9_claimWith_0
  | 1, _ => exact kX9_claimWith_3
  | g + 2, hg => exact absurd hg (by omega))
theorem rX9_claimWith : zchkM (tX9_claimWith, 4, yX9_claimWith, cX9_claimWith, some .int, 1, 22, [792, 55, 791, 23]) = true := zchkM_of kX9_claimWith (by decide +kernel)
theorem kX9_isFreeClaim_0 : zchkT yX9_isFreeClaim.cls cX9_isFreeClaim 3 (decide (yX9_isFreeClaim.name = "<init>")) (some .boolean) 1 22 ((tX9_isFreeClaim.drop 0).take 3) = true := by decide +kernel
theorem kX9_isFreeClaim : zchkT yX9_isFreeClaim.cls cX9_isFreeClaim 3 (decide (yX9_isFreeClaim.name = "<init>")) (some .boolean) 1 22 tX9_isFreeClaim = true := zT_all (G := 3) (n := 1) (by decide +kernel) (fun g hg => by
  match g, hg with
  | 0, _ => exact kX9_isFreeClaim_0
  | g + 1, hg => exact absurd hg (by omega))
theorem rX9_isFreeClaim : zchkM (tX9_isFreeClaim, 3, yX9_isFreeClaim, cX9_isFreeClaim, some .boolean, 1, 22, [788, 55, 787, 22]) = true := zchkM_of kX9_isFreeClaim (by decide +kernel)
theorem kX9_digit_0 : zchkT yX9_digit.cls cX9_digit 4 (decide (yX9_digit.name = "<init>")) (some .int) 0 0 ((tX9_digit.drop 0).take 3) = true := by decide +kernel
theorem kX9_digit : zchkT yX9_digit.cls cX9_digit 4 (decide (yX9_digit.name = "<init>")) (some .int) 0 0 tX9_digit = true := zT_all (G := 3) (n := 1) (by decide +kernel) (fun g hg => by
  match g, hg with
  | 0, _ => exact kX9_digit_0
  | g + 1, hg => exact absurd hg (by omega))
theorem rX9_digit : zchkM (tX9_digit, 4, yX9_digit, cX9_digit, some .int, 0, 0, [738, 55, 737, 0]) = true := zchkM_of kX9_digit (by decide +kernel)
theorem kX9_weight_0 : zchkT yX9_weight.cls cX9_weight 2 (decide (yX9_weight.name = "<init>")) (some .int) 0 0 ((tX9_weight.drop 0).take 3) = true := by decide +kernel
theorem kX9_weight : zchkT yX9_weight.cls cX9_weight 2 (decide (yX9_weight.name = "<init>")) (some .int) 0 0 tX9_weight = true := zT_all (G := 3) (n := 1) (by decide +kernel) (fun g hg => by
  match g, hg with
  | 0, _ => exact kX9_weight_0
  | g + 1, hg => exact absurd hg (by omega))
theorem rX9_weight : zchkM (tX9_weight, 2, yX9_weight, cX9_weight, some .int, 0, 0, [778, 55, 777, 21]) = true := zchkM_of kX9_weight (by decide +kernel)
theorem kX9_same_0 : zchkT yX9_same.cls cX9_same 6 (decide (yX9_same.name = "<init>")) (some .int) 1 23 ((tX9_same.drop 0).take 3) = true := by decide +kernel
theorem kX9_same_3 : zchkT yX9_same.cls cX9_same 6 (decide (yX9_same.name = "<init>")) (some .int) 1 23 ((tX9_same.drop 3).take 3) = true := by decide +kernel
theorem kX9_same : zchkT yX9_same.cls cX9_same 6 (decide (yX9_same.name = "<init>")) (some .int) 1 23 tX9_same = true := zT_all (G := 3) (n := 2) (by decide +kernel) (fun g hg => by
  match g, hg with
  | 0, _ => exact kX9_same_0
  | 1, _ => exact kX9_same_3
  | g + 2, hg => exact absurd hg (by omega))
theorem rX9_same : zchkM (tX9_same, 6, yX9_same, cX9_same, some .int, 1, 23, [771, 55, 770, 20]) = true := zchkM_of kX9_same (by decide +kernel)
theorem kX9_ones_0 : zchkT yX9_ones.cls cX9_ones 3 (decide (yX9_ones.name = "<init>")) (some .int) 0 0 ((tX9_ones.drop 0).take 3) = true := by decide +kernel
theorem kX9_ones : zchkT yX9_ones.cls cX9_ones 3 (decide (yX9_ones.name = "<init>")) (some .int) 0 0 tX9_ones = true := zT_all (G := 3) (n := 1) (by decide +kernel) (fun g hg => by
  match g, hg with
  | 0, _ => exact kX9_ones_0
  | g + 1, hg => exact absurd hg (by omega))
theorem rX9_ones : zchkM (tX9_ones, 3, yX9_ones, cX9_ones, some .int, 0, 0, [774, 55, 773, 0]) = true := zchkM_of kX9_ones (by decide +kernel)
theorem kX9_part_0 : zchkT yX9_part.cls cX9_part 8 (decide (yX9_part.name = "<init>")) (some .int) 2 48 ((tX9_part.drop 0).take 3) = true := by decide +kernel
theorem kX9_part_3 : zchkT yX9_part.cls cX9_part 8 (decide (yX9_part.name = "<init>")) (some .int) 2 48 ((tX9_part.drop 3).take 3) = true := by decide +kernel
theorem kX9_part_6 : zchkT yX9_part.cls cX9_part 8 (decide (yX9_part.name = "<init>")) (some .int) 2 48 ((tX9_part.drop 6).take 3) = true := by decide +kernel
theorem kX9_part_9 : zchkT yX9_part.cls cX9_part 8 (decide (yX9_part.name = "<init>")) (some .int) 2 48 ((tX9_part.drop 9).take 3) = true := by decide +kernel
theorem kX9_part_12 : zchkT yX9_part.cls cX9_part 8 (decide (yX9_part.name = "<init>")) (some .int) 2 48 ((tX9_part.drop 12).take 3) = true := by decide +kernel
theorem kX9_part_15 : zchkT yX9_part.cls cX9_part 8 (decide (yX9_part.name = "<init>")) (some .int) 2 48 ((tX9_part.drop 15).take 3) = true := by decide +kernel
theorem kX9_part : zchkT yX9_part.cls cX9_part 8 (decide (yX9_part.name = "<init>")) (some .int) 2 48 tX9_part = true := zT_all (G := 3) (n := 6) (by decide +kernel) (fun g hg => by
  match g, hg with
  | 0, _ => exact kX9_part_0
  | 1, _ => exact kX9_part_3
  | 2, _ => exact kX9_part_6
  | 3, _ => exact kX9_part_9
  | 4, _ => exact kX9_part_12
  | 5, _ => exact kX9_part_15
  | g + 6, hg => exact absurd hg (by omega))
theorem rX9_part : zchkM (tX9_part, 8, yX9_part, cX9_part, some .int, 2, 48, [767, 55, 766, 19]) = true := zchkM_of kX9_part (by decide +kernel)
theorem kX9_scoreOf_0 : zchkT yX9_scoreOf.cls cX9_scoreOf 6 (decide (yX9_scoreOf.name = "<init>")) (some .int) 3 75 ((tX9_scoreOf.drop 0).take 3) = true := by decide +kernel
theorem kX9_scoreOf_3 : zchkT yX9_scoreOf.cls cX9_scoreOf 6 (decide (yX9_scoreOf.name = "<init>")) (some .int) 3 75 ((tX9_scoreOf.drop 3).take 3) = true := by decide +kernel
theorem kX9_scoreOf : zchkT yX9_scoreOf.cls cX9_scoreOf 6 (decide (yX9_scoreOf.name = "<init>")) (some .int) 3 75 tX9_scoreOf = true := zT_all (G := 3) (n := 2) (by decide +kernel) (fun g hg => by
  match g, hg with
  | 0, _ => exact kX9_scoreOf_0
  | 1, _ => exact kX9_scoreOf_3
  | g + 2, hg => exact absurd hg (by omega))
theorem rX9_scoreOf : zchkM (tX9_scoreOf, 6, yX9_scoreOf, cX9_scoreOf, some .int, 3, 75, [763, 55, 762, 18]) = true := zchkM_of kX9_scoreOf (by decide +kernel)
theorem kX9_isLikely_0 : zchkT yX9_isLikely.cls cX9_isLikely 3 (decide (yX9_isLikely.name = "<init>")) (some .boolean) 4 100 ((tX9_isLikely.drop 0).take 3) = true := by decide +kernel
theorem kX9_isLikely : zchkT yX9_isLikely.cls cX9_isLikely 3 (decide (yX9_isLikely.name = "<init>")) (some .boolean) 4 100 tX9_isLikely = true := zT_all (G := 3) (n := 1) (by decide +kernel) (fun g hg => by
  match g, hg with
  | 0, _ => exact kX9_isLikely_0
  | g + 1, hg => exact absurd hg (by omega))
theorem rX9_isLikely : zchkM (tX9_isLikely, 3, yX9_isLikely, cX9_isLikely, some .boolean, 4, 100, [812, 55, 811, 26]) = true := zchkM_of kX9_isLikely (by decide +kernel)
theorem kX9_setWeight_0 : zchkT yX9_setWeight.cls cX9_setWeight 4 (decide (yX9_setWeight.name = "<init>")) (some .int) 1 22 ((tX9_setWeight.drop 0).take 3) = true := by decide +kernel
theorem kX9_setWeight : zchkT yX9_setWeight.cls cX9_setWeight 4 (decide (yX9_setWeight.name = "<init>")) (some .int) 1 22 tX9_setWeight = true := zT_all (G := 3) (n := 1) (by decide +kernel) (fun g hg => by
  match g, hg with
  | 0, _ => exact kX9_setWeight_0
  | g + 1, hg => exact absurd hg (by omega))
theorem rX9_setWeight : zchkM (tX9_setWeight, 4, yX9_setWeight, cX9_setWeight, some .int, 1, 22, [704, 55, 702, 703]) = true := zchkM_of kX9_setWeight (by decide +kernel)
theorem kX9_setThreshold_0 : zchkT yX9_setThreshold.cls cX9_setThreshold 3 (decide (yX9_setThreshold.name = "<init>")) (some .int) 1 22 ((tX9_setThreshold.drop 0).take 3) = true := by decide +kernel
theorem kX9_setThreshold : zchkT yX9_setThreshold.cls cX9_setThreshold 3 (decide (yX9_setThreshold.name = "<init>")) (some .int) 1 22 tX9_setThreshold = true := zT_all (G := 3) (n := 1) (by decide +kernel) (fun g hg => by
  match g, hg with
  | 0, _ => exact kX9_setThreshold_0
  | g + 1, hg => exact absurd hg (by omega))
theorem rX9_setThreshold : zchkM (tX9_setThreshold, 3, yX9_setThreshold, cX9_setThreshold, some .int, 1, 22, [715, 55, 713, 714]) = true := zchkM_of kX9_setThreshold (by decide +kernel)
theorem kX9_setMoney_0 : zchkT yX9_setMoney.cls cX9_setMoney 4 (decide (yX9_setMoney.name = "<init>")) (some .int) 1 22 ((tX9_setMoney.drop 0).take 3) = true := by decide +kernel
theorem kX9_setMoney : zchkT yX9_setMoney.cls cX9_setMoney 4 (decide (yX9_setMoney.name = "<init>")) (some .int) 1 22 tX9_setMoney = true := zT_all (G := 3) (n := 1) (by decide +kernel) (fun g hg => by
  match g, hg with
  | 0, _ => exact kX9_setMoney_0
  | g + 1, hg => exact absurd hg (by omega))
theorem rX9_setMoney : zchkM (tX9_setMoney, 4, yX9_setMoney, cX9_setMoney, some .int, 1, 22, [719, 55, 717, 718]) = true := zchkM_of kX9_setMoney (by decide +kernel)
theorem kX9_legible_0 : zchkT yX9_legible.cls cX9_legible 4 (decide (yX9_legible.name = "<init>")) (some .int) 1 23 ((tX9_legible.drop 0).take 3) = true := by decide +kernel
