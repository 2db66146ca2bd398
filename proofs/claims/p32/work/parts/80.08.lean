theorem kX8_match_3 : zchkT yX8_match.cls cX8_match 6 (decide (yX8_match.name = "<init>")) (some .int) 4 103 ((tX8_match.drop 3).take 3) = true := by decide +kernel
theorem kX8_match : zchkT yX8_match.cls cX8_match 6 (decide (yX8_match.name = "<init>")) (some .int) 4 103 tX8_match = true := zT_all (G := 3) (n := 2) (by decide +kernel) (fun g hg => by
  match g, hg with
  | 0, _ => exact kX8_match_0
  | 1, _ => exact kX8_match_3
  | g + 2, hg => exact absurd hg (by omega))
theorem rX8_match : zchkM (tX8_match, 6, yX8_match, cX8_match, some .int, 4, 103, [485, 11, 483, 484]) = true := zchkM_of kX8_match (by decide +kernel)
theorem kX8_unmatch_0 : zchkT yX8_unmatch.cls cX8_unmatch 4 (decide (yX8_unmatch.name = "<init>")) (some .int) 4 89 ((tX8_unmatch.drop 0).take 3) = true := by decide +kernel
theorem kX8_unmatch_3 : zchkT yX8_unmatch.cls cX8_unmatch 4 (decide (yX8_unmatch.name = "<init>")) (some .int) 4 89 ((tX8_unmatch.drop 3).take 3) = true := by decide +kernel
theorem kX8_unmatch : zchkT yX8_unmatch.cls cX8_unmatch 4 (decide (yX8_unmatch.name = "<init>")) (some .int) 4 89 tX8_unmatch = true := zT_all (G := 3) (n := 2) (by decide +kernel) (fun g hg => by
  match g, hg with
  | 0, _ => exact kX8_unmatch_0
  | 1, _ => exact kX8_unmatch_3
  | g + 2, hg => exact absurd hg (by omega))
theorem rX8_unmatch : zchkM (tX8_unmatch, 4, yX8_unmatch, cX8_unmatch, some .int, 4, 89, [524, 11, 522, 523]) = true := zchkM_of kX8_unmatch (by decide +kernel)
theorem kX8_matchAll_0 : zchkT yX8_matchAll.cls cX8_matchAll 2 (decide (yX8_matchAll.name = "<init>")) (some .int) 5 127 ((tX8_matchAll.drop 0).take 3) = true := by decide +kernel
theorem kX8_matchAll_3 : zchkT yX8_matchAll.cls cX8_matchAll 2 (decide (yX8_matchAll.name = "<init>")) (some .int) 5 127 ((tX8_matchAll.drop 3).take 3) = true := by decide +kernel
theorem kX8_matchAll : zchkT yX8_matchAll.cls cX8_matchAll 2 (decide (yX8_matchAll.name = "<init>")) (some .int) 5 127 tX8_matchAll = true := zT_all (G := 3) (n := 2) (by decide +kernel) (fun g hg => by
  match g, hg with
  | 0, _ => exact kX8_matchAll_0
  | 1, _ => exact kX8_matchAll_3
  | g + 2, hg => exact absurd hg (by omega))
theorem rX8_matchAll : zchkM (tX8_matchAll, 2, yX8_matchAll, cX8_matchAll, some .int, 5, 127, [437, 11, 435, 436]) = true := zchkM_of kX8_matchAll (by decide +kernel)
theorem kX8_deliver_0 : zchkT yX8_deliver.cls cX8_deliver 4 (decide (yX8_deliver.name = "<init>")) (some .int) 4 89 ((tX8_deliver.drop 0).take 3) = true := by decide +kernel
theorem kX8_deliver_3 : zchkT yX8_deliver.cls cX8_deliver 4 (decide (yX8_deliver.name = "<init>")) (some .int) 4 89 ((tX8_deliver.drop 3).take 3) = true := by decide +kernel
theorem kX8_deliver : zchkT yX8_deliver.cls cX8_deliver 4 (decide (yX8_deliver.name = "<init>")) (some .int) 4 89 tX8_deliver = true := zT_all (G := 3) (n := 2) (by decide +kernel) (fun g hg => by
  match g, hg with
  | 0, _ => exact kX8_deliver_0
  | 1, _ => exact kX8_deliver_3
  | g + 2, hg => exact absurd hg (by omega))
theorem rX8_deliver : zchkM (tX8_deliver, 4, yX8_deliver, cX8_deliver, some .int, 4, 89, [548, 11, 546, 547]) = true := zchkM_of kX8_deliver (by decide +kernel)
theorem kX8_giveUp_0 : zchkT yX8_giveUp.cls cX8_giveUp 5 (decide (yX8_giveUp.name = "<init>")) (some .int) 4 89 ((tX8_giveUp.drop 0).take 3) = true := by decide +kernel
theorem kX8_giveUp_3 : zchkT yX8_giveUp.cls cX8_giveUp 5 (decide (yX8_giveUp.name = "<init>")) (some .int) 4 89 ((tX8_giveUp.drop 3).take 3) = true := by decide +kernel
theorem kX8_giveUp : zchkT yX8_giveUp.cls cX8_giveUp 5 (decide (yX8_giveUp.name = "<init>")) (some .int) 4 89 tX8_giveUp = true := zT_all (G := 3) (n := 2) (by decide +kernel) (fun g hg => by
  match g, hg with
  | 0, _ => exact kX8_giveUp_0
  | 1, _ => exact kX8_giveUp_3
  | g + 2, hg => exact absurd hg (by omega))
theorem rX8_giveUp : zchkM (tX8_giveUp, 5, yX8_giveUp, cX8_giveUp, some .int, 4, 89, [556, 11, 554, 555]) = true := zchkM_of kX8_giveUp (by decide +kernel)
theorem kX8_auction_0 : zchkT yX8_auction.cls cX8_auction 4 (decide (yX8_auction.name = "<init>")) (some .int) 4 89 ((tX8_auction.drop 0).take 3) = true := by decide +kernel
