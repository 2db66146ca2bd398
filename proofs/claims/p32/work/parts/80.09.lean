theorem kX8_auction_3 : zchkT yX8_auction.cls cX8_auction 4 (decide (yX8_auction.name = "<init>")) (some .int) 4 89 ((tX8_auction.drop 3).take 3) = true := by decide +kernel
theorem kX8_auction : zchkT yX8_auction.cls cX8_auction 4 (decide (yX8_auction.name = "<init>")) (some .int) 4 89 tX8_auction = true := zT_all (G := 3) (n := 2) (by decide +kernel) (fun g hg => by
  match g, hg with
  | 0, _ => exact kX8_auction_0
  | 1, _ => exact kX8_auction_3
  | g + 2, hg => exact absurd hg (by omega))
theorem rX8_auction : zchkM (tX8_auction, 4, yX8_auction, cX8_auction, some .int, 4, 89, [560, 11, 558, 559]) = true := zchkM_of kX8_auction (by decide +kernel)
theorem kX8_pass_0 : zchkT yX8_pass.cls cX8_pass 2 (decide (yX8_pass.name = "<init>")) (some .int) 4 89 ((tX8_pass.drop 0).take 3) = true := by decide +kernel
theorem kX8_pass : zchkT yX8_pass.cls cX8_pass 2 (decide (yX8_pass.name = "<init>")) (some .int) 4 89 tX8_pass = true := zT_all (G := 3) (n := 1) (by decide +kernel) (fun g hg => by
  match g, hg with
  | 0, _ => exact kX8_pass_0
  | g + 1, hg => exact absurd hg (by omega))
theorem rX8_pass : zchkM (tX8_pass, 2, yX8_pass, cX8_pass, some .int, 4, 89, [572, 11, 570, 571]) = true := zchkM_of kX8_pass (by decide +kernel)
theorem kX8_count_0 : zchkT yX8_count.cls cX8_count 2 (decide (yX8_count.name = "<init>")) (some .int) 3 64 ((tX8_count.drop 0).take 3) = true := by decide +kernel
theorem kX8_count_3 : zchkT yX8_count.cls cX8_count 2 (decide (yX8_count.name = "<init>")) (some .int) 3 64 ((tX8_count.drop 3).take 3) = true := by decide +kernel
theorem kX8_count : zchkT yX8_count.cls cX8_count 2 (decide (yX8_count.name = "<init>")) (some .int) 3 64 tX8_count = true := zT_all (G := 3) (n := 2) (by decide +kernel) (fun g hg => by
  match g, hg with
  | 0, _ => exact kX8_count_0
  | 1, _ => exact kX8_count_3
  | g + 2, hg => exact absurd hg (by omega))
theorem rX8_count : zchkM (tX8_count, 2, yX8_count, cX8_count, some .int, 3, 64, [235, 11, 233, 234]) = true := zchkM_of kX8_count (by decide +kernel)
theorem kX8_bag_0 : zchkT yX8_bag.cls cX8_bag 3 (decide (yX8_bag.name = "<init>")) (some .int) 3 67 ((tX8_bag.drop 0).take 3) = true := by decide +kernel
theorem kX8_bag : zchkT yX8_bag.cls cX8_bag 3 (decide (yX8_bag.name = "<init>")) (some .int) 3 67 tX8_bag = true := zT_all (G := 3) (n := 1) (by decide +kernel) (fun g hg => by
  match g, hg with
  | 0, _ => exact kX8_bag_0
  | g + 1, hg => exact absurd hg (by omega))
theorem rX8_bag : zchkM (tX8_bag, 3, yX8_bag, cX8_bag, some .int, 3, 67, [319, 11, 317, 318]) = true := zchkM_of kX8_bag (by decide +kernel)
theorem kX8_claimOf_0 : zchkT yX8_claimOf.cls cX8_claimOf 3 (decide (yX8_claimOf.name = "<init>")) (some .int) 3 67 ((tX8_claimOf.drop 0).take 3) = true := by decide +kernel
theorem kX8_claimOf : zchkT yX8_claimOf.cls cX8_claimOf 3 (decide (yX8_claimOf.name = "<init>")) (some .int) 3 67 tX8_claimOf = true := zT_all (G := 3) (n := 1) (by decide +kernel) (fun g hg => by
  match g, hg with
  | 0, _ => exact kX8_claimOf_0
  | g + 1, hg => exact absurd hg (by omega))
theorem rX8_claimOf : zchkM (tX8_claimOf, 3, yX8_claimOf, cX8_claimOf, some .int, 3, 67, [327, 11, 325, 326]) = true := zchkM_of kX8_claimOf (by decide +kernel)
theorem kX8_score_0 : zchkT yX8_score.cls cX8_score 6 (decide (yX8_score.name = "<init>")) (some .int) 4 103 ((tX8_score.drop 0).take 3) = true := by decide +kernel
theorem kX8_score : zchkT yX8_score.cls cX8_score 6 (decide (yX8_score.name = "<init>")) (some .int) 4 103 tX8_score = true := zT_all (G := 3) (n := 1) (by decide +kernel) (fun g hg => by
  match g, hg with
  | 0, _ => exact kX8_score_0
  | g + 1, hg => exact absurd hg (by omega))
theorem rX8_score : zchkM (tX8_score, 6, yX8_score, cX8_score, some .int, 4, 103, [265, 11, 263, 264]) = true := zchkM_of kX8_score (by decide +kernel)
theorem kX8_suggest_0 : zchkT yX8_suggest.cls cX8_suggest 5 (decide (yX8_suggest.name = "<init>")) (some .int) 4 102 ((tX8_suggest.drop 0).take 3) = true := by decide +kernel
theorem kX8_suggest_3 : zchkT yX8_suggest.cls cX8_suggest 5 (decide (yX8_suggest.name = "<init>")) (some .int) 4 102 ((tX8_suggest.drop 3).take 3) = true := by decide +kernel
theorem kX8_suggest : zchkT yX8_suggest.cls cX8_suggest 5 (decide (yX8_suggest.name = "<init>")) (some .int) 4 102 tX8_suggest = true := zT_all (G := 3) (n := 2) (by decide +kernel) (fun g hg => by
  match g, hg with
  | 0, _ => exact kX8_suggest_0
  | 1, _ => exact kX8_suggest_3
  | g + 2, hg => exact absurd hg (by omega))
theorem rX8_suggest : zchkM (tX8_suggest, 5, yX8_suggest, cX8_suggest, some .int, 4, 102, [351, 11, 349, 350]) = true := zchkM_of kX8_suggest (by decide +kernel)
theorem kX8_sameDigits_0 : zchkT yX8_sameDigits.cls cX8_sameDigits 5 (decide (yX8_sameDigits.name = "<init>")) (some .int) 2 44 ((tX8_sameDigits.drop 0).take 3) = true := by decide +kernel
theorem kX8_sameDigits_3 : zchkT yX8_sameDigits.cls cX8_sameDigits 5 (decide (yX8_sameDigits.name = "<init>")) (some .int) 2 44 ((tX8_sameDigits.drop 3).take 3) = true := by decide +kernel
