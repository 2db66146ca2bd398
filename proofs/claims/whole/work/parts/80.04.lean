theorem kX8_setWeight : zchkT yX8_setWeight.cls cX8_setWeight 4 (decide (yX8_setWeight.name = "<init>")) (some .int) 4 89 tX8_setWeight = true := zT_all (G := 3) (n := 1) (by decide +kernel) (fun g hg => by
  match g, hg with
  | 0, _ => exact kX8_setWeight_0
  | g + 1, hg => exact absurd hg (by omega))
theorem rX8_setWeight : zchkM (tX8_setWeight, 4, yX8_setWeight, cX8_setWeight, some .int, 4, 89, [277, 45, 275, 276]) = true := zchkM_of kX8_setWeight (by decide +kernel)
theorem kX8_setThreshold_0 : zchkT yX8_setThreshold.cls cX8_setThreshold 3 (decide (yX8_setThreshold.name = "<init>")) (some .int) 4 89 ((tX8_setThreshold.drop 0).take 3) = true := by decide +kernel
theorem kX8_setThreshold : zchkT yX8_setThreshold.cls cX8_setThreshold 3 (decide (yX8_setThreshold.name = "<init>")) (some .int) 4 89 tX8_setThreshold = true := zT_all (G := 3) (n := 1) (by decide +kernel) (fun g hg => by
  match g, hg with
  | 0, _ => exact kX8_setThreshold_0
  | g + 1, hg => exact absurd hg (by omega))
theorem rX8_setThreshold : zchkM (tX8_setThreshold, 3, yX8_setThreshold, cX8_setThreshold, some .int, 4, 89, [305, 45, 303, 304]) = true := zchkM_of kX8_setThreshold (by decide +kernel)
theorem kX8_setMoney_0 : zchkT yX8_setMoney.cls cX8_setMoney 4 (decide (yX8_setMoney.name = "<init>")) (some .int) 4 89 ((tX8_setMoney.drop 0).take 3) = true := by decide +kernel
theorem kX8_setMoney : zchkT yX8_setMoney.cls cX8_setMoney 4 (decide (yX8_setMoney.name = "<init>")) (some .int) 4 89 tX8_setMoney = true := zT_all (G := 3) (n := 1) (by decide +kernel) (fun g hg => by
  match g, hg with
  | 0, _ => exact kX8_setMoney_0
  | g + 1, hg => exact absurd hg (by omega))
theorem rX8_setMoney : zchkM (tX8_setMoney, 4, yX8_setMoney, cX8_setMoney, some .int, 4, 89, [309, 45, 307, 308]) = true := zchkM_of kX8_setMoney (by decide +kernel)
theorem kX8_found_0 : zchkT yX8_found.cls cX8_found 7 (decide (yX8_found.name = "<init>")) (some .int) 5 115 ((tX8_found.drop 0).take 3) = true := by decide +kernel
theorem kX8_found_3 : zchkT yX8_found.cls cX8_found 7 (decide (yX8_found.name = "<init>")) (some .int) 5 115 ((tX8_found.drop 3).take 3) = true := by decide +kernel
theorem kX8_found : zchkT yX8_found.cls cX8_found 7 (decide (yX8_found.name = "<init>")) (some .int) 5 115 tX8_found = true := zT_all (G := 3) (n := 2) (by decide +kernel) (fun g hg => by
  match g, hg with
  | 0, _ => exact kX8_found_0
  | 1, _ => exact kX8_found_3
  | g + 2, hg => exact absurd hg (by omega))
theorem rX8_found : zchkM (tX8_found, 7, yX8_found, cX8_found, some .int, 5, 115, [313, 45, 311, 312]) = true := zchkM_of kX8_found (by decide +kernel)
theorem kX8_claim_0 : zchkT yX8_claim.cls cX8_claim 11 (decide (yX8_claim.name = "<init>")) (some .int) 4 89 ((tX8_claim.drop 0).take 3) = true := by decide +kernel
theorem kX8_claim_3 : zchkT yX8_claim.cls cX8_claim 11 (decide (yX8_claim.name = "<init>")) (some .int) 4 89 ((tX8_claim.drop 3).take 3) = true := by decide +kernel
theorem kX8_claim_6 : zchkT yX8_claim.cls cX8_claim 11 (decide (yX8_claim.name = "<init>")) (some .int) 4 89 ((tX8_claim.drop 6).take 3) = true := by decide +kernel
theorem kX8_claim_9 : zchkT yX8_claim.cls cX8_claim 11 (decide (yX8_claim.name = "<init>")) (some .int) 4 89 ((tX8_claim.drop 9).take 3) = true := by decide +kernel
theorem kX8_claim : zchkT yX8_claim.cls cX8_claim 11 (decide (yX8_claim.name = "<init>")) (some .int) 4 89 tX8_claim = true := zT_all (G := 3) (n := 4) (by decide +kernel) (fun g hg => by
  match g, hg with
  | 0, _ => exact kX8_claim_0
  | 1, _ => exact kX8_claim_3
  | 2, _ => exact kX8_claim_6
  | 3, _ => exact kX8_claim_9
  | g + 4, hg => exact absurd hg (by omega))
theorem rX8_claim : zchkM (tX8_claim, 11, yX8_claim, cX8_claim, some .int, 4, 89, [352, 45, 350, 351]) = true := zchkM_of kX8_claim (by decide +kernel)
theorem kX8_match_0 : zchkT yX8_match.cls cX8_match 6 (decide (yX8_match.name = "<init>")) (some .int) 4 103 ((tX8_match.drop 0).take 3) = true := by decide +kernel
theorem kX8_match_3 : zchkT yX8_match.cls cX8_match 6 (decide (yX8_match.name = "<init>")) (some .int) 4 103 ((tX8_match.drop 3).take 3) = true := by decide +kernel
theorem kX8_match : zchkT yX8_match.cls cX8_match 6 (decide (yX8_match.name = "<init>")) (some .int) 4 103 tX8_match = true := zT_all (G := 3) (n := 2) (by decide +kernel) (fun g hg => by
  match g, hg with
  | 0, _ => exact kX8_match_0
  | 1, _ => exact kX8_match_3
  | g + 2, hg => exact absurd hg (by omega))
theorem rX8_match : zchkM (tX8_match, 6, yX8_match, cX8_match, some .int, 4, 103, [360, 45, 358, 359]) = true := zchkM_of kX8_match (by decide +kernel)
theorem kX8_unmatch_0 : zchkT yX8_unmatch.cls cX8_unmatch 4 (decide (yX8_unmatch.name = "<init>")) (some .int) 4 89 ((tX8_unmatch.drop 0).take 3) = true := by decide +kernel
theorem kX8_unmatch_3 : zchkT yX8_unmatch.cls cX8_unmatch 4 (decide (yX8_unmatch.name = "<init>")) (some .int) 4 89 ((tX8_unmatch.drop 3).take 3) = true := by decide +kernel
theorem kX8_unmatch : zchkT yX8_unmatch.cls cX8_unmatch 4 (decide (yX8_unmatch.name = "<init>")) (some .int) 4 89 tX8_unmatch = true := zT_all (G := 3) (n := 2) (by decide +kernel) (fun g hg => by
  match g, hg with
  | 0, _ => exact kX8_unmatch_0
  | 1, _ => exact kX8_unmatch_3
  | g + 2, hg => exact absurd hg (by omega))
theorem rX8_unmatch : zchkM (tX8_unmatch, 4, yX8_unmatch, cX8_unmatch, some .int, 4, 89, [417, 45, 415, 416]) = true := zchkM_of kX8_unmatch (by decide +kernel)
theorem kX8_matchAll_0 : zchkT yX8_matchAll.cls cX8_matchAll 2 (decide (yX8_matchAll.name = "<init>")) (some .int) 5 127 ((tX8_matchAll.drop 0).take 3) = true := by decide +kernel
theorem kX8_matchAll_3 : zchkT yX8_matchAll.cls cX8_matchAll 2 (decide (yX8_matchAll.name = "<init>")) (some .int) 5 127 ((tX8_matchAll.drop 3).take 3) = true := by decide +kernel
theorem kX8_matchAll : zchkT yX8_matchAll.cls cX8_matchAll 2 (decide (yX8_matchAll.name = "<init>")) (some .int) 5 127 tX8_matchAll = true := zT_all (G := 3) (n := 2) (by decide +kernel) (fun g hg => by
  match g, hg with
  | 0, _ => exact kX8_matchAll_0
  | 1, _ => exact kX8_matchAll_3
  | g + 2, hg => exact absurd hg (by omega))
theorem rX8_matchAll : zchkM (tX8_matchAll, 2, yX8_matchAll, cX8_matchAll, some .int, 5, 127, [427, 45, 425, 426]) = true := zchkM_of kX8_matchAll (by decide +kernel)
theorem kX8_deliver_0 : zchkT yX8_deliver.cls cX8_deliver 4 (decide (yX8_deliver.name = "<init>")) (some .int) 4 89 ((tX8_deliver.drop 0).take 3) = true := by decide +kernel
theorem kX8_deliver_3 : zchkT yX8_deliver.cls cX8_deliver 4 (decide (yX8_deliver.name = "<init>")) (some .int) 4 89 ((tX8_deliver.drop 3).take 3) = true := by decide +kernel
theorem kX8_deliver : zchkT yX8_deliver.cls cX8_deliver 4 (decide (yX8_deliver.name = "<init>")) (some .int) 4 89 tX8_deliver = true := zT_all (G := 3) (n := 2) (by decide +kernel) (fun g hg => by
  match g, hg with
  | 0, _ => exact kX8_deliver_0
  | 1, _ => exact kX8_deliver_3
  | g + 2, hg => exact absurd hg (by omega))
theorem rX8_deliver : zchkM (tX8_deliver, 4, yX8_deliver, cX8_deliver, some .int, 4, 89, [453, 45, 451, 452]) = true := zchkM_of kX8_deliver (by decide +kernel)
theorem kX8_giveUp_0 : zchkT yX8_giveUp.cls cX8_giveUp 5 (decide (yX8_giveUp.name = "<init>")) (some .int) 4 89 ((tX8_giveUp.drop 0).take 3) = true := by decide +kernel
theorem kX8_giveUp_3 : zchkT yX8_giveUp.cls cX8_giveUp 5 (decide (yX8_giveUp.name = "<init>")) (some .int) 4 89 ((tX8_giveUp.drop 3).take 3) = true := by decide +kernel
theorem kX8_giveUp : zchkT yX8_giveUp.cls cX8_giveUp 5 (decide (yX8_giveUp.name = "<init>")) (some .int) 4 89 tX8_giveUp = true := zT_all (G := 3) (n := 2) (by decide +kernel) (fun g hg => by
  match g, hg with
  | 0, _ => exact kX8_giveUp_0
  | 1, _ => exact kX8_giveUp_3
  | g + 2, hg => exact absurd hg (by omega))
theorem rX8_giveUp : zchkM (tX8_giveUp, 5, yX8_giveUp, cX8_giveUp, some .int, 4, 89, [466, 45, 464, 465]) = true := zchkM_of kX8_giveUp (by decide +kernel)
theorem kX8_auction_0 : zchkT yX8_auction.cls cX8_auction 4 (decide (yX8_auction.name = "<init>")) (some .int) 4 89 ((tX8_auction.drop 0).take 3) = true := by decide +kernel
theorem kX8_auction_3 : zchkT yX8_auction.cls cX8_auction 4 (decide (yX8_auction.name = "<init>")) (some .int) 4 89 ((tX8_auction.drop 3).take 3) = true := by decide +kernel
theorem kX8_auction : zchkT yX8_auction.cls cX8_auction 4 (decide (yX8_auction.name = "<init>")) (some .int) 4 89 tX8_auction = true := zT_all (G := 3) (n := 2) (by decide +kernel) (fun g hg => by
  match g, hg with
  | 0, _ => exact kX8_auction_0
  | 1, _ => exact kX8_auction_3
  | g + 2, hg => exact absurd hg (by omega))
theorem rX8_auction : zchkM (tX8_auction, 4, yX8_auction, cX8_auction, some .int, 4, 89, [476, 45, 474, 475]) = true := zchkM_of kX8_auction (by decide +kernel)
theorem kX8_pass_0 : zchkT yX8_pass.cls cX8_pass 2 (decide (yX8_pass.name = "<init>")) (some .int) 4 89 ((tX8_pass.drop 0).take 3) = true := by decide +kernel
theorem kX8_pass : zchkT yX8_pass.cls cX8_pass 2 (decide (yX8_pass.name = "<init>")) (some .int) 4 89 tX8_pass = true := zT_all (G := 3) (n := 1) (by decide +kernel) (fun g hg => by
  match g, hg with
  | 0, _ => exact kX8_pass_0
  | g + 1, hg => exact absurd hg (by omega))
theorem rX8_pass : zchkM (tX8_pass, 2, yX8_pass, cX8_pass, some .int, 4, 89, [484, 45, 482, 483]) = true := zchkM_of kX8_pass (by decide +kernel)
theorem kX8_count_0 : zchkT yX8_count.cls cX8_count 2 (decide (yX8_count.name = "<init>")) (some .int) 3 64 ((tX8_count.drop 0).take 3) = true := by decide +kernel
theorem kX8_count_3 : zchkT yX8_count.cls cX8_count 2 (decide (yX8_count.name = "<init>")) (some .int) 3 64 ((tX8_count.drop 3).take 3) = true := by decide +kernel
theorem kX8_count : zchkT yX8_count.cls cX8_count 2 (decide (yX8_count.name = "<init>")) (some .int) 3 64 tX8_count = true := zT_all (G := 3) (n := 2) (by decide +kernel) (fun g hg => by
  match g, hg with
  | 0, _ => exact kX8_count_0
  | 1, _ => exact kX8_count_3
  | g + 2, hg => exact absurd hg (by omega))
theorem rX8_count : zchkM (tX8_count, 2, yX8_count, cX8_count, some .int, 3, 64, [488, 45, 486, 487]) = true := zchkM_of kX8_count (by decide +kernel)
theorem kX8_bag_0 : zchkT yX8_bag.cls cX8_bag 3 (decide (yX8_bag.name = "<init>")) (some .int) 3 67 ((tX8_bag.drop 0).take 3) = true := by decide +kernel
theorem kX8_bag : zchkT yX8_bag.cls cX8_bag 3 (decide (yX8_bag.name = "<init>")) (some .int) 3 67 tX8_bag = true := zT_all (G := 3) (n := 1) (by decide +kernel) (fun g hg => by
  match g, hg with
  | 0, _ => exact kX8_bag_0
  | g + 1, hg => exact absurd hg (by omega))
theorem rX8_bag : zchkM (tX8_bag, 3, yX8_bag, cX8_bag, some .int, 3, 67, [497, 45, 495, 496]) = true := zchkM_of kX8_bag (by decide +kernel)
theorem kX8_claimOf_0 : zchkT yX8_claimOf.cls cX8_claimOf 3 (decide (yX8_claimOf.name = "<init>")) (some .int) 3 67 ((tX8_claimOf.drop 0).take 3) = true := by decide +kernel
theorem kX8_claimOf : zchkT yX8_claimOf.cls cX8_claimOf 3 (decide (yX8_claimOf.name = "<init>")) (some .int) 3 67 tX8_claimOf = true := zT_all (G := 3) (n := 1) (by decide +kernel) (fun g hg => by
  match g, hg with
  | 0, _ => exact kX8_claimOf_0
  | g + 1, hg => exact absurd hg (by omega))
theorem rX8_claimOf : zchkM (tX8_claimOf, 3, yX8_claimOf, cX8_claimOf, some .int, 3, 67, [504, 45, 502, 503]) = true := zchkM_of kX8_claimOf (by decide +kernel)
theorem kX8_score_0 : zchkT yX8_score.cls cX8_score 6 (decide (yX8_score.name = "<init>")) (some .int) 4 103 ((tX8_score.drop 0).take 3) = true := by decide +kernel
