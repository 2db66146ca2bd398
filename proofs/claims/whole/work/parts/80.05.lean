theorem kX8_score : zchkT yX8_score.cls cX8_score 6 (decide (yX8_score.name = "<init>")) (some .int) 4 103 tX8_score = true := zT_all (G := 3) (n := 1) (by decide +kernel) (fun g hg => by
  match g, hg with
  | 0, _ => exact kX8_score_0
  | g + 1, hg => exact absurd hg (by omega))
theorem rX8_score : zchkM (tX8_score, 6, yX8_score, cX8_score, some .int, 4, 103, [508, 45, 506, 507]) = true := zchkM_of kX8_score (by decide +kernel)
theorem kX8_suggest_0 : zchkT yX8_suggest.cls cX8_suggest 5 (decide (yX8_suggest.name = "<init>")) (some .int) 4 102 ((tX8_suggest.drop 0).take 3) = true := by decide +kernel
theorem kX8_suggest_3 : zchkT yX8_suggest.cls cX8_suggest 5 (decide (yX8_suggest.name = "<init>")) (some .int) 4 102 ((tX8_suggest.drop 3).take 3) = true := by decide +kernel
theorem kX8_suggest : zchkT yX8_suggest.cls cX8_suggest 5 (decide (yX8_suggest.name = "<init>")) (some .int) 4 102 tX8_suggest = true := zT_all (G := 3) (n := 2) (by decide +kernel) (fun g hg => by
  match g, hg with
  | 0, _ => exact kX8_suggest_0
  | 1, _ => exact kX8_suggest_3
  | g + 2, hg => exact absurd hg (by omega))
theorem rX8_suggest : zchkM (tX8_suggest, 5, yX8_suggest, cX8_suggest, some .int, 4, 102, [512, 45, 510, 511]) = true := zchkM_of kX8_suggest (by decide +kernel)
theorem kX8_sameDigits_0 : zchkT yX8_sameDigits.cls cX8_sameDigits 5 (decide (yX8_sameDigits.name = "<init>")) (some .int) 2 44 ((tX8_sameDigits.drop 0).take 3) = true := by decide +kernel
theorem kX8_sameDigits_3 : zchkT yX8_sameDigits.cls cX8_sameDigits 5 (decide (yX8_sameDigits.name = "<init>")) (some .int) 2 44 ((tX8_sameDigits.drop 3).take 3) = true := by decide +kernel
theorem kX8_sameDigits : zchkT yX8_sameDigits.cls cX8_sameDigits 5 (decide (yX8_sameDigits.name = "<init>")) (some .int) 2 44 tX8_sameDigits = true := zT_all (G := 3) (n := 2) (by decide +kernel) (fun g hg => by
  match g, hg with
  | 0, _ => exact kX8_sameDigits_0
  | 1, _ => exact kX8_sameDigits_3
  | g + 2, hg => exact absurd hg (by omega))
theorem rX8_sameDigits : zchkM (tX8_sameDigits, 5, yX8_sameDigits, cX8_sameDigits, some .int, 2, 44, [521, 45, 519, 520]) = true := zchkM_of kX8_sameDigits (by decide +kernel)
theorem kX8_bestTotal_0 : zchkT yX8_bestTotal.cls cX8_bestTotal 1 (decide (yX8_bestTotal.name = "<init>")) (some .int) 5 127 ((tX8_bestTotal.drop 0).take 3) = true := by decide +kernel
theorem kX8_bestTotal : zchkT yX8_bestTotal.cls cX8_bestTotal 1 (decide (yX8_bestTotal.name = "<init>")) (some .int) 5 127 tX8_bestTotal = true := zT_all (G := 3) (n := 1) (by decide +kernel) (fun g hg => by
  match g, hg with
  | 0, _ => exact kX8_bestTotal_0
  | g + 1, hg => exact absurd hg (by omega))
theorem rX8_bestTotal : zchkM (tX8_bestTotal, 1, yX8_bestTotal, cX8_bestTotal, some .int, 5, 127, [526, 45, 524, 525]) = true := zchkM_of kX8_bestTotal (by decide +kernel)
theorem kX8_totalOfAll_0 : zchkT yX8_totalOfAll.cls cX8_totalOfAll 4 (decide (yX8_totalOfAll.name = "<init>")) (some .int) 5 127 ((tX8_totalOfAll.drop 0).take 3) = true := by decide +kernel
theorem kX8_totalOfAll : zchkT yX8_totalOfAll.cls cX8_totalOfAll 4 (decide (yX8_totalOfAll.name = "<init>")) (some .int) 5 127 tX8_totalOfAll = true := zT_all (G := 3) (n := 1) (by decide +kernel) (fun g hg => by
  match g, hg with
  | 0, _ => exact kX8_totalOfAll_0
  | g + 1, hg => exact absurd hg (by omega))
theorem rX8_totalOfAll : zchkM (tX8_totalOfAll, 4, yX8_totalOfAll, cX8_totalOfAll, some .int, 5, 127, [570, 45, 568, 569]) = true := zchkM_of kX8_totalOfAll (by decide +kernel)
theorem kX8_thresholdFor_0 : zchkT yX8_thresholdFor.cls cX8_thresholdFor 6 (decide (yX8_thresholdFor.name = "<init>")) (some .int) 4 103 ((tX8_thresholdFor.drop 0).take 3) = true := by decide +kernel
theorem kX8_thresholdFor : zchkT yX8_thresholdFor.cls cX8_thresholdFor 6 (decide (yX8_thresholdFor.name = "<init>")) (some .int) 4 103 tX8_thresholdFor = true := zT_all (G := 3) (n := 1) (by decide +kernel) (fun g hg => by
  match g, hg with
  | 0, _ => exact kX8_thresholdFor_0
  | g + 1, hg => exact absurd hg (by omega))
theorem rX8_thresholdFor : zchkM (tX8_thresholdFor, 6, yX8_thresholdFor, cX8_thresholdFor, some .int, 4, 103, [574, 45, 572, 573]) = true := zchkM_of kX8_thresholdFor (by decide +kernel)
theorem kX8_ifEnded_0 : zchkT yX8_ifEnded.cls cX8_ifEnded 5 (decide (yX8_ifEnded.name = "<init>")) (some .int) 3 67 ((tX8_ifEnded.drop 0).take 3) = true := by decide +kernel
theorem kX8_ifEnded_3 : zchkT yX8_ifEnded.cls cX8_ifEnded 5 (decide (yX8_ifEnded.name = "<init>")) (some .int) 3 67 ((tX8_ifEnded.drop 3).take 3) = true := by decide +kernel
theorem kX8_ifEnded : zchkT yX8_ifEnded.cls cX8_ifEnded 5 (decide (yX8_ifEnded.name = "<init>")) (some .int) 3 67 tX8_ifEnded = true := zT_all (G := 3) (n := 2) (by decide +kernel) (fun g hg => by
  match g, hg with
  | 0, _ => exact kX8_ifEnded_0
  | 1, _ => exact kX8_ifEnded_3
  | g + 2, hg => exact absurd hg (by omega))
theorem rX8_ifEnded : zchkM (tX8_ifEnded, 5, yX8_ifEnded, cX8_ifEnded, some .int, 3, 67, [579, 45, 577, 578]) = true := zchkM_of kX8_ifEnded (by decide +kernel)
theorem kX8_type_0 : zchkT yX8_type.cls cX8_type 2 (decide (yX8_type.name = "<init>")) (some .int) 1 22 ((tX8_type.drop 0).take 3) = true := by decide +kernel
theorem kX8_type : zchkT yX8_type.cls cX8_type 2 (decide (yX8_type.name = "<init>")) (some .int) 1 22 tX8_type = true := zT_all (G := 3) (n := 1) (by decide +kernel) (fun g hg => by
  match g, hg with
  | 0, _ => exact kX8_type_0
  | g + 1, hg => exact absurd hg (by omega))
theorem rX8_type : zchkM (tX8_type, 2, yX8_type, cX8_type, some .int, 1, 22, [583, 45, 581, 582]) = true := zchkM_of kX8_type (by decide +kernel)
theorem kX8_clearText_0 : zchkT yX8_clearText.cls cX8_clearText 2 (decide (yX8_clearText.name = "<init>")) (some .int) 1 20 ((tX8_clearText.drop 0).take 3) = true := by decide +kernel
theorem kX8_clearText : zchkT yX8_clearText.cls cX8_clearText 2 (decide (yX8_clearText.name = "<init>")) (some .int) 1 20 tX8_clearText = true := zT_all (G := 3) (n := 1) (by decide +kernel) (fun g hg => by
  match g, hg with
  | 0, _ => exact kX8_clearText_0
  | g + 1, hg => exact absurd hg (by omega))
theorem rX8_clearText : zchkM (tX8_clearText, 2, yX8_clearText, cX8_clearText, some .int, 1, 20, [595, 45, 593, 594]) = true := zchkM_of kX8_clearText (by decide +kernel)
theorem kX8_syntaxError_0 : zchkT yX8_syntaxError.cls cX8_syntaxError 1 (decide (yX8_syntaxError.name = "<init>")) (some .int) 3 65 ((tX8_syntaxError.drop 0).take 3) = true := by decide +kernel
theorem kX8_syntaxError : zchkT yX8_syntaxError.cls cX8_syntaxError 1 (decide (yX8_syntaxError.name = "<init>")) (some .int) 3 65 tX8_syntaxError = true := zT_all (G := 3) (n := 1) (by decide +kernel) (fun g hg => by
  match g, hg with
  | 0, _ => exact kX8_syntaxError_0
  | g + 1, hg => exact absurd hg (by omega))
theorem rX8_syntaxError : zchkM (tX8_syntaxError, 1, yX8_syntaxError, cX8_syntaxError, some .int, 3, 65, [603, 45, 601, 602]) = true := zchkM_of kX8_syntaxError (by decide +kernel)
theorem kX8_readBags_0 : zchkT yX8_readBags.cls cX8_readBags 5 (decide (yX8_readBags.name = "<init>")) (some .int) 5 115 ((tX8_readBags.drop 0).take 3) = true := by decide +kernel
theorem kX8_readBags_3 : zchkT yX8_readBags.cls cX8_readBags 5 (decide (yX8_readBags.name = "<init>")) (some .int) 5 115 ((tX8_readBags.drop 3).take 3) = true := by decide +kernel
theorem kX8_readBags_6 : zchkT yX8_readBags.cls cX8_readBags 5 (decide (yX8_readBags.name = "<init>")) (some .int) 5 115 ((tX8_readBags.drop 6).take 3) = true := by decide +kernel
theorem kX8_readBags : zchkT yX8_readBags.cls cX8_readBags 5 (decide (yX8_readBags.name = "<init>")) (some .int) 5 115 tX8_readBags = true := zT_all (G := 3) (n := 3) (by decide +kernel) (fun g hg => by
  match g, hg with
  | 0, _ => exact kX8_readBags_0
  | 1, _ => exact kX8_readBags_3
  | 2, _ => exact kX8_readBags_6
  | g + 3, hg => exact absurd hg (by omega))
theorem rX8_readBags : zchkM (tX8_readBags, 5, yX8_readBags, cX8_readBags, some .int, 5, 115, [624, 45, 622, 623]) = true := zchkM_of kX8_readBags (by decide +kernel)
theorem kX8_problem_0 : zchkT yX8_problem.cls cX8_problem 2 (decide (yX8_problem.name = "<init>")) (some .int) 0 0 ((tX8_problem.drop 0).take 3) = true := by decide +kernel
theorem kX8_problem : zchkT yX8_problem.cls cX8_problem 2 (decide (yX8_problem.name = "<init>")) (some .int) 0 0 tX8_problem = true := zT_all (G := 3) (n := 1) (by decide +kernel) (fun g hg => by
  match g, hg with
  | 0, _ => exact kX8_problem_0
  | g + 1, hg => exact absurd hg (by omega))
theorem rX8_problem : zchkM (tX8_problem, 2, yX8_problem, cX8_problem, some .int, 0, 0, [636, 45, 634, 635]) = true := zchkM_of kX8_problem (by decide +kernel)
theorem kX8_undo_0 : zchkT yX8_undo.cls cX8_undo 1 (decide (yX8_undo.name = "<init>")) (some .int) 4 90 ((tX8_undo.drop 0).take 3) = true := by decide +kernel
theorem kX8_undo : zchkT yX8_undo.cls cX8_undo 1 (decide (yX8_undo.name = "<init>")) (some .int) 4 90 tX8_undo = true := zT_all (G := 3) (n := 1) (by decide +kernel) (fun g hg => by
  match g, hg with
  | 0, _ => exact kX8_undo_0
  | g + 1, hg => exact absurd hg (by omega))
theorem rX8_undo : zchkM (tX8_undo, 1, yX8_undo, cX8_undo, some .int, 4, 90, [640, 45, 638, 639]) = true := zchkM_of kX8_undo (by decide +kernel)
theorem kX8_digest_0 : zchkT yX8_digest.cls cX8_digest 5 (decide (yX8_digest.name = "<init>")) (some .long) 6 150 ((tX8_digest.drop 0).take 3) = true := by decide +kernel
theorem kX8_digest_3 : zchkT yX8_digest.cls cX8_digest 5 (decide (yX8_digest.name = "<init>")) (some .long) 6 150 ((tX8_digest.drop 3).take 3) = true := by decide +kernel
theorem kX8_digest_6 : zchkT yX8_digest.cls cX8_digest 5 (decide (yX8_digest.name = "<init>")) (some .long) 6 150 ((tX8_digest.drop 6).take 3) = true := by decide +kernel
theorem kX8_digest : zchkT yX8_digest.cls cX8_digest 5 (decide (yX8_digest.name = "<init>")) (some .long) 6 150 tX8_digest = true := zT_all (G := 3) (n := 3) (by decide +kernel) (fun g hg => by
  match g, hg with
  | 0, _ => exact kX8_digest_0
  | 1, _ => exact kX8_digest_3
  | 2, _ => exact kX8_digest_6
  | g + 3, hg => exact absurd hg (by omega))
theorem rX8_digest : zchkM (tX8_digest, 5, yX8_digest, cX8_digest, some .long, 6, 150, [652, 45, 650, 651]) = true := zchkM_of kX8_digest (by decide +kernel)
theorem kX8_outside_0 : zchkT yX8_outside.cls cX8_outside 3 (decide (yX8_outside.name = "<init>")) (some .boolean) 0 0 ((tX8_outside.drop 0).take 3) = true := by decide +kernel
theorem kX8_outside : zchkT yX8_outside.cls cX8_outside 3 (decide (yX8_outside.name = "<init>")) (some .boolean) 0 0 tX8_outside = true := zT_all (G := 3) (n := 1) (by decide +kernel) (fun g hg => by
  match g, hg with
  | 0, _ => exact kX8_outside_0
  | g + 1, hg => exact absurd hg (by omega))
theorem rX8_outside : zchkM (tX8_outside, 3, yX8_outside, cX8_outside, some .boolean, 0, 0, [280, 45, 279, 0]) = true := zchkM_of kX8_outside (by decide +kernel)
theorem kX8_tell_0 : zchkT yX8_tell.cls cX8_tell 4 (decide (yX8_tell.name = "<init>")) (some .int) 2 44 ((tX8_tell.drop 0).take 3) = true := by decide +kernel
theorem kX8_tell : zchkT yX8_tell.cls cX8_tell 4 (decide (yX8_tell.name = "<init>")) (some .int) 2 44 tX8_tell = true := zT_all (G := 3) (n := 1) (by decide +kernel) (fun g hg => by
  match g, hg with
  | 0, _ => exact kX8_tell_0
  | g + 1, hg => exact absurd hg (by omega))
theorem rX8_tell : zchkM (tX8_tell, 4, yX8_tell, cX8_tell, some .int, 2, 44, [500, 45, 499, 0]) = true := zchkM_of kX8_tell (by decide +kernel)
theorem kX8_betterBags_0 : zchkT yX8_betterBags.cls cX8_betterBags 6 (decide (yX8_betterBags.name = "<init>")) (some .int) 0 0 ((tX8_betterBags.drop 0).take 3) = true := by decide +kernel
theorem kX8_betterBags : zchkT yX8_betterBags.cls cX8_betterBags 6 (decide (yX8_betterBags.name = "<init>")) (some .int) 0 0 tX8_betterBags = true := zT_all (G := 3) (n := 1) (by decide +kernel) (fun g hg => by
  match g, hg with
  | 0, _ => exact kX8_betterBags_0
  | g + 1, hg => exact absurd hg (by omega))
theorem rX8_betterBags : zchkM (tX8_betterBags, 6, yX8_betterBags, cX8_betterBags, some .int, 0, 0, [517, 45, 516, 3]) = true := zchkM_of kX8_betterBags (by decide +kernel)
theorem kX8_refuse_0 : zchkT yX8_refuse.cls cX8_refuse 4 (decide (yX8_refuse.name = "<init>")) (some .int) 0 0 ((tX8_refuse.drop 0).take 3) = true := by decide +kernel
theorem kX8_refuse : zchkT yX8_refuse.cls cX8_refuse 4 (decide (yX8_refuse.name = "<init>")) (some .int) 0 0 tX8_refuse = true := zT_all (G := 3) (n := 1) (by decide +kernel) (fun g hg => by
  match g, hg with
  | 0, _ => exact kX8_refuse_0
  | g + 1, hg => exact absurd hg (by omega))
theorem rX8_refuse : zchkM (tX8_refuse, 4, yX8_refuse, cX8_refuse, some .int, 0, 0, [628, 45, 627, 11]) = true := zchkM_of kX8_refuse (by decide +kernel)
theorem kX9_init_0 : zchkT yX9_init.cls cX9_init 1 (decide (yX9_init.name = "<init>")) (none) 1 26 ((tX9_init.drop 0).take 3) = true := by decide +kernel
theorem kX9_init_3 : zchkT yX9_init.cls cX9_init 1 (decide (yX9_init.name = "<init>")) (none) 1 26 ((tX9_init.drop 3).take 3) = true := by decide +kernel
theorem kX9_init_6 : zchkT yX9_init.cls cX9_init 1 (decide (yX9_init.name = "<init>")) (none) 1 26 ((tX9_init.drop 6).take 3) = true := by decide +kernel
theorem kX9_init : zchkT yX9_init.cls cX9_init 1 (decide (yX9_init.name = "<init>")) (none) 1 26 tX9_init = true := zT_all (G := 3) (n := 3) (by decide +kernel) (fun g hg => by
  match g, hg with
  | 0, _ => exact kX9_init_0
  | 1, _ => exact kX9_init_3
  | 2, _ => exact kX9_init_6
  | g + 3, hg => exact absurd hg (by omega))
theorem rX9_init : zchkM (tX9_init, 1, yX9_init, cX9_init, none, 1, 26, [668, 55, 667, 0]) = true := zchkM_of kX9_init (by decide +kernel)
theorem kX9_in_0 : zchkT yX9_in.cls cX9_in 3 (decide (yX9_in.name = "<init>")) (some .boolean) 0 0 ((tX9_in.drop 0).take 3) = true := by decide +kernel
