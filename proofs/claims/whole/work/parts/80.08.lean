theorem kX9_forGivingUp_3 : zchkT yX9_forGivingUp.cls cX9_forGivingUp 4 (decide (yX9_forGivingUp.name = "<init>")) (some .int) 1 22 ((tX9_forGivingUp.drop 3).take 3) = true := by decide +kernel
theorem kX9_forGivingUp : zchkT yX9_forGivingUp.cls cX9_forGivingUp 4 (decide (yX9_forGivingUp.name = "<init>")) (some .int) 1 22 tX9_forGivingUp = true := zT_all (G := 3) (n := 2) (by decide +kernel) (fun g hg => by
  match g, hg with
  | 0, _ => exact kX9_forGivingUp_0
  | 1, _ => exact kX9_forGivingUp_3
  | g + 2, hg => exact absurd hg (by omega))
theorem rX9_forGivingUp : zchkM (tX9_forGivingUp, 4, yX9_forGivingUp, cX9_forGivingUp, some .int, 1, 22, [836, 55, 835, 30]) = true := zchkM_of kX9_forGivingUp (by decide +kernel)
theorem kX9_deliver_0 : zchkT yX9_deliver.cls cX9_deliver 4 (decide (yX9_deliver.name = "<init>")) (some .int) 2 45 ((tX9_deliver.drop 0).take 3) = true := by decide +kernel
theorem kX9_deliver_3 : zchkT yX9_deliver.cls cX9_deliver 4 (decide (yX9_deliver.name = "<init>")) (some .int) 2 45 ((tX9_deliver.drop 3).take 3) = true := by decide +kernel
theorem kX9_deliver : zchkT yX9_deliver.cls cX9_deliver 4 (decide (yX9_deliver.name = "<init>")) (some .int) 2 45 tX9_deliver = true := zT_all (G := 3) (n := 2) (by decide +kernel) (fun g hg => by
  match g, hg with
  | 0, _ => exact kX9_deliver_0
  | 1, _ => exact kX9_deliver_3
  | g + 2, hg => exact absurd hg (by omega))
theorem rX9_deliver : zchkM (tX9_deliver, 4, yX9_deliver, cX9_deliver, some .int, 2, 45, [816, 55, 814, 815]) = true := zchkM_of kX9_deliver (by decide +kernel)
theorem kX9_giveUp_0 : zchkT yX9_giveUp.cls cX9_giveUp 4 (decide (yX9_giveUp.name = "<init>")) (some .int) 2 45 ((tX9_giveUp.drop 0).take 3) = true := by decide +kernel
theorem kX9_giveUp_3 : zchkT yX9_giveUp.cls cX9_giveUp 4 (decide (yX9_giveUp.name = "<init>")) (some .int) 2 45 ((tX9_giveUp.drop 3).take 3) = true := by decide +kernel
theorem kX9_giveUp : zchkT yX9_giveUp.cls cX9_giveUp 4 (decide (yX9_giveUp.name = "<init>")) (some .int) 2 45 tX9_giveUp = true := zT_all (G := 3) (n := 2) (by decide +kernel) (fun g hg => by
  match g, hg with
  | 0, _ => exact kX9_giveUp_0
  | 1, _ => exact kX9_giveUp_3
  | g + 2, hg => exact absurd hg (by omega))
theorem rX9_giveUp : zchkM (tX9_giveUp, 4, yX9_giveUp, cX9_giveUp, some .int, 2, 45, [832, 55, 830, 831]) = true := zchkM_of kX9_giveUp (by decide +kernel)
theorem kX9_auction_0 : zchkT yX9_auction.cls cX9_auction 3 (decide (yX9_auction.name = "<init>")) (some .int) 2 45 ((tX9_auction.drop 0).take 3) = true := by decide +kernel
theorem kX9_auction_3 : zchkT yX9_auction.cls cX9_auction 3 (decide (yX9_auction.name = "<init>")) (some .int) 2 45 ((tX9_auction.drop 3).take 3) = true := by decide +kernel
theorem kX9_auction : zchkT yX9_auction.cls cX9_auction 3 (decide (yX9_auction.name = "<init>")) (some .int) 2 45 tX9_auction = true := zT_all (G := 3) (n := 2) (by decide +kernel) (fun g hg => by
  match g, hg with
  | 0, _ => exact kX9_auction_0
  | 1, _ => exact kX9_auction_3
  | g + 2, hg => exact absurd hg (by omega))
theorem rX9_auction : zchkM (tX9_auction, 3, yX9_auction, cX9_auction, some .int, 2, 45, [840, 55, 838, 839]) = true := zchkM_of kX9_auction (by decide +kernel)
theorem kX9_pass_0 : zchkT yX9_pass.cls cX9_pass 2 (decide (yX9_pass.name = "<init>")) (some .int) 1 22 ((tX9_pass.drop 0).take 3) = true := by decide +kernel
theorem kX9_pass : zchkT yX9_pass.cls cX9_pass 2 (decide (yX9_pass.name = "<init>")) (some .int) 1 22 tX9_pass = true := zT_all (G := 3) (n := 1) (by decide +kernel) (fun g hg => by
  match g, hg with
  | 0, _ => exact kX9_pass_0
  | g + 1, hg => exact absurd hg (by omega))
theorem rX9_pass : zchkM (tX9_pass, 2, yX9_pass, cX9_pass, some .int, 1, 22, [844, 55, 842, 843]) = true := zchkM_of kX9_pass (by decide +kernel)
theorem kX9_matches_0 : zchkT yX9_matches.cls cX9_matches 3 (decide (yX9_matches.name = "<init>")) (some .int) 2 44 ((tX9_matches.drop 0).take 3) = true := by decide +kernel
theorem kX9_matches : zchkT yX9_matches.cls cX9_matches 3 (decide (yX9_matches.name = "<init>")) (some .int) 2 44 tX9_matches = true := zT_all (G := 3) (n := 1) (by decide +kernel) (fun g hg => by
  match g, hg with
  | 0, _ => exact kX9_matches_0
  | g + 1, hg => exact absurd hg (by omega))
theorem rX9_matches : zchkM (tX9_matches, 3, yX9_matches, cX9_matches, some .int, 2, 44, [856, 55, 855, 32]) = true := zchkM_of kX9_matches (by decide +kernel)
theorem kX9_number_0 : zchkT yX9_number.cls cX9_number 2 (decide (yX9_number.name = "<init>")) (some .int) 3 66 ((tX9_number.drop 0).take 3) = true := by decide +kernel
theorem kX9_number : zchkT yX9_number.cls cX9_number 2 (decide (yX9_number.name = "<init>")) (some .int) 3 66 tX9_number = true := zT_all (G := 3) (n := 1) (by decide +kernel) (fun g hg => by
  match g, hg with
  | 0, _ => exact kX9_number_0
  | g + 1, hg => exact absurd hg (by omega))
theorem rX9_number : zchkM (tX9_number, 2, yX9_number, cX9_number, some .int, 3, 66, [852, 55, 851, 31]) = true := zchkM_of kX9_number (by decide +kernel)
theorem kX9_count_0 : zchkT yX9_count.cls cX9_count 2 (decide (yX9_count.name = "<init>")) (some .int) 4 87 ((tX9_count.drop 0).take 3) = true := by decide +kernel
theorem kX9_count : zchkT yX9_count.cls cX9_count 2 (decide (yX9_count.name = "<init>")) (some .int) 4 87 tX9_count = true := zT_all (G := 3) (n := 1) (by decide +kernel) (fun g hg => by
  match g, hg with
  | 0, _ => exact kX9_count_0
  | g + 1, hg => exact absurd hg (by omega))
theorem rX9_count : zchkM (tX9_count, 2, yX9_count, cX9_count, some .int, 4, 87, [848, 55, 846, 847]) = true := zchkM_of kX9_count (by decide +kernel)
theorem kX9_ofBag_0 : zchkT yX9_ofBag.cls cX9_ofBag 3 (decide (yX9_ofBag.name = "<init>")) (some .int) 2 45 ((tX9_ofBag.drop 0).take 3) = true := by decide +kernel
theorem kX9_ofBag : zchkT yX9_ofBag.cls cX9_ofBag 3 (decide (yX9_ofBag.name = "<init>")) (some .int) 2 45 tX9_ofBag = true := zT_all (G := 3) (n := 1) (by decide +kernel) (fun g hg => by
  match g, hg with
  | 0, _ => exact kX9_ofBag_0
  | g + 1, hg => exact absurd hg (by omega))
theorem rX9_ofBag : zchkM (tX9_ofBag, 3, yX9_ofBag, cX9_ofBag, some .int, 2, 45, [864, 55, 863, 33]) = true := zchkM_of kX9_ofBag (by decide +kernel)
theorem kX9_ofClaim_0 : zchkT yX9_ofClaim.cls cX9_ofClaim 3 (decide (yX9_ofClaim.name = "<init>")) (some .int) 2 44 ((tX9_ofClaim.drop 0).take 3) = true := by decide +kernel
theorem kX9_ofClaim : zchkT yX9_ofClaim.cls cX9_ofClaim 3 (decide (yX9_ofClaim.name = "<init>")) (some .int) 2 44 tX9_ofClaim = true := zT_all (G := 3) (n := 1) (by decide +kernel) (fun g hg => by
  match g, hg with
  | 0, _ => exact kX9_ofClaim_0
  | g + 1, hg => exact absurd hg (by omega))
theorem rX9_ofClaim : zchkM (tX9_ofClaim, 3, yX9_ofClaim, cX9_ofClaim, some .int, 2, 44, [872, 55, 871, 34]) = true := zchkM_of kX9_ofClaim (by decide +kernel)
theorem kX9_bag_0 : zchkT yX9_bag.cls cX9_bag 4 (decide (yX9_bag.name = "<init>")) (some .int) 3 67 ((tX9_bag.drop 0).take 3) = true := by decide +kernel
theorem kX9_bag : zchkT yX9_bag.cls cX9_bag 4 (decide (yX9_bag.name = "<init>")) (some .int) 3 67 tX9_bag = true := zT_all (G := 3) (n := 1) (by decide +kernel) (fun g hg => by
  match g, hg with
  | 0, _ => exact kX9_bag_0
  | g + 1, hg => exact absurd hg (by omega))
theorem rX9_bag : zchkM (tX9_bag, 4, yX9_bag, cX9_bag, some .int, 3, 67, [860, 55, 858, 859]) = true := zchkM_of kX9_bag (by decide +kernel)
theorem kX9_claimOf_0 : zchkT yX9_claimOf.cls cX9_claimOf 4 (decide (yX9_claimOf.name = "<init>")) (some .int) 3 66 ((tX9_claimOf.drop 0).take 3) = true := by decide +kernel
theorem kX9_claimOf : zchkT yX9_claimOf.cls cX9_claimOf 4 (decide (yX9_claimOf.name = "<init>")) (some .int) 3 66 tX9_claimOf = true := zT_all (G := 3) (n := 1) (by decide +kernel) (fun g hg => by
  match g, hg with
  | 0, _ => exact kX9_claimOf_0
  | g + 1, hg => exact absurd hg (by omega))
theorem rX9_claimOf : zchkM (tX9_claimOf, 4, yX9_claimOf, cX9_claimOf, some .int, 3, 66, [868, 55, 866, 867]) = true := zchkM_of kX9_claimOf (by decide +kernel)
theorem kX9_score_0 : zchkT yX9_score.cls cX9_score 6 (decide (yX9_score.name = "<init>")) (some .int) 4 100 ((tX9_score.drop 0).take 3) = true := by decide +kernel
theorem kX9_score : zchkT yX9_score.cls cX9_score 6 (decide (yX9_score.name = "<init>")) (some .int) 4 100 tX9_score = true := zT_all (G := 3) (n := 1) (by decide +kernel) (fun g hg => by
  match g, hg with
  | 0, _ => exact kX9_score_0
  | g + 1, hg => exact absurd hg (by omega))
theorem rX9_score : zchkM (tX9_score, 6, yX9_score, cX9_score, some .int, 4, 100, [876, 55, 874, 875]) = true := zchkM_of kX9_score (by decide +kernel)
theorem kX9_isSuggested_0 : zchkT yX9_isSuggested.cls cX9_isSuggested 3 (decide (yX9_isSuggested.name = "<init>")) (some .boolean) 5 122 ((tX9_isSuggested.drop 0).take 3) = true := by decide +kernel
theorem kX9_isSuggested : zchkT yX9_isSuggested.cls cX9_isSuggested 3 (decide (yX9_isSuggested.name = "<init>")) (some .boolean) 5 122 tX9_isSuggested = true := zT_all (G := 3) (n := 1) (by decide +kernel) (fun g hg => by
  match g, hg with
  | 0, _ => exact kX9_isSuggested_0
  | g + 1, hg => exact absurd hg (by omega))
theorem rX9_isSuggested : zchkM (tX9_isSuggested, 3, yX9_isSuggested, cX9_isSuggested, some .boolean, 5, 122, [884, 55, 883, 35]) = true := zchkM_of kX9_isSuggested (by decide +kernel)
theorem kX9_suggest_0 : zchkT yX9_suggest.cls cX9_suggest 9 (decide (yX9_suggest.name = "<init>")) (some .int) 6 144 ((tX9_suggest.drop 0).take 3) = true := by decide +kernel
theorem kX9_suggest_3 : zchkT yX9_suggest.cls cX9_suggest 9 (decide (yX9_suggest.name = "<init>")) (some .int) 6 144 ((tX9_suggest.drop 3).take 3) = true := by decide +kernel
theorem kX9_suggest_6 : zchkT yX9_suggest.cls cX9_suggest 9 (decide (yX9_suggest.name = "<init>")) (some .int) 6 144 ((tX9_suggest.drop 6).take 3) = true := by decide +kernel
theorem kX9_suggest : zchkT yX9_suggest.cls cX9_suggest 9 (decide (yX9_suggest.name = "<init>")) (some .int) 6 144 tX9_suggest = true := zT_all (G := 3) (n := 3) (by decide +kernel) (fun g hg => by
  match g, hg with
  | 0, _ => exact kX9_suggest_0
  | 1, _ => exact kX9_suggest_3
  | 2, _ => exact kX9_suggest_6
  | g + 3, hg => exact absurd hg (by omega))
theorem rX9_suggest : zchkM (tX9_suggest, 9, yX9_suggest, cX9_suggest, some .int, 6, 144, [880, 55, 878, 879]) = true := zchkM_of kX9_suggest (by decide +kernel)
theorem kX9_sameDigits_0 : zchkT yX9_sameDigits.cls cX9_sameDigits 5 (decide (yX9_sameDigits.name = "<init>")) (some .int) 2 48 ((tX9_sameDigits.drop 0).take 3) = true := by decide +kernel
theorem kX9_sameDigits : zchkT yX9_sameDigits.cls cX9_sameDigits 5 (decide (yX9_sameDigits.name = "<init>")) (some .int) 2 48 tX9_sameDigits = true := zT_all (G := 3) (n := 1) (by decide +kernel) (fun g hg => by
  match g, hg with
  | 0, _ => exact kX9_sameDigits_0
  | g + 1, hg => exact absurd hg (by omega))
theorem rX9_sameDigits : zchkM (tX9_sameDigits, 5, yX9_sameDigits, cX9_sameDigits, some .int, 2, 48, [888, 55, 886, 887]) = true := zchkM_of kX9_sameDigits (by decide +kernel)
theorem kX9_looks_0 : zchkT yX9_looks.cls cX9_looks 7 (decide (yX9_looks.name = "<init>")) (none) 6 146 ((tX9_looks.drop 0).take 3) = true := by decide +kernel
theorem kX9_looks_3 : zchkT yX9_looks.cls cX9_looks 7 (decide (yX9_looks.name = "<init>")) (none) 6 146 ((tX9_looks.drop 3).take 3) = true := by decide +kernel
theorem kX9_looks_6 : zchkT yX9_looks.cls cX9_looks 7 (decide (yX9_looks.name = "<init>")) (none) 6 146 ((tX9_looks.drop 6).take 3) = true := by decide +kernel
theorem kX9_looks : zchkT yX9_looks.cls cX9_looks 7 (decide (yX9_looks.name = "<init>")) (none) 6 146 tX9_looks = true := zT_all (G := 3) (n := 3) (by decide +kernel) (fun g hg => by
  match g, hg with
  | 0, _ => exact kX9_looks_0
  | 1, _ => exact kX9_looks_3
  | 2, _ => exact kX9_looks_6
  | g + 3, hg => exact absurd hg (by omega))
theorem rX9_looks : zchkM (tX9_looks, 7, yX9_looks, cX9_looks, none, 6, 146, [896, 55, 895, 36]) = true := zchkM_of kX9_looks (by decide +kernel)
theorem kX9_bestTotal_0 : zchkT yX9_bestTotal.cls cX9_bestTotal 2 (decide (yX9_bestTotal.name = "<init>")) (some .int) 7 172 ((tX9_bestTotal.drop 0).take 3) = true := by decide +kernel
theorem kX9_bestTotal_3 : zchkT yX9_bestTotal.cls cX9_bestTotal 2 (decide (yX9_bestTotal.name = "<init>")) (some .int) 7 172 ((tX9_bestTotal.drop 3).take 3) = true := by decide +kernel
