theorem kX9_bestTotal : zchkT yX9_bestTotal.cls cX9_bestTotal 2 (decide (yX9_bestTotal.name = "<init>")) (some .int) 7 172 tX9_bestTotal = true := zT_all (G := 3) (n := 2) (by decide +kernel) (fun g hg => by
  match g, hg with
  | 0, _ => exact kX9_bestTotal_0
  | 1, _ => exact kX9_bestTotal_3
  | g + 2, hg => exact absurd hg (by omega))
theorem rX9_bestTotal : zchkM (tX9_bestTotal, 2, yX9_bestTotal, cX9_bestTotal, some .int, 7, 172, [892, 55, 890, 891]) = true := zchkM_of kX9_bestTotal (by decide +kernel)
theorem kX9_totalOfAll_0 : zchkT yX9_totalOfAll.cls cX9_totalOfAll 3 (decide (yX9_totalOfAll.name = "<init>")) (some .int) 7 172 ((tX9_totalOfAll.drop 0).take 3) = true := by decide +kernel
theorem kX9_totalOfAll_3 : zchkT yX9_totalOfAll.cls cX9_totalOfAll 3 (decide (yX9_totalOfAll.name = "<init>")) (some .int) 7 172 ((tX9_totalOfAll.drop 3).take 3) = true := by decide +kernel
theorem kX9_totalOfAll : zchkT yX9_totalOfAll.cls cX9_totalOfAll 3 (decide (yX9_totalOfAll.name = "<init>")) (some .int) 7 172 tX9_totalOfAll = true := zT_all (G := 3) (n := 2) (by decide +kernel) (fun g hg => by
  match g, hg with
  | 0, _ => exact kX9_totalOfAll_0
  | 1, _ => exact kX9_totalOfAll_3
  | g + 2, hg => exact absurd hg (by omega))
theorem rX9_totalOfAll : zchkM (tX9_totalOfAll, 3, yX9_totalOfAll, cX9_totalOfAll, some .int, 7, 172, [900, 55, 898, 899]) = true := zchkM_of kX9_totalOfAll (by decide +kernel)
theorem kX9_thresholdFor_0 : zchkT yX9_thresholdFor.cls cX9_thresholdFor 4 (decide (yX9_thresholdFor.name = "<init>")) (some .int) 5 125 ((tX9_thresholdFor.drop 0).take 3) = true := by decide +kernel
theorem kX9_thresholdFor : zchkT yX9_thresholdFor.cls cX9_thresholdFor 4 (decide (yX9_thresholdFor.name = "<init>")) (some .int) 5 125 tX9_thresholdFor = true := zT_all (G := 3) (n := 1) (by decide +kernel) (fun g hg => by
  match g, hg with
  | 0, _ => exact kX9_thresholdFor_0
  | g + 1, hg => exact absurd hg (by omega))
theorem rX9_thresholdFor : zchkM (tX9_thresholdFor, 4, yX9_thresholdFor, cX9_thresholdFor, some .int, 5, 125, [904, 55, 902, 903]) = true := zchkM_of kX9_thresholdFor (by decide +kernel)
theorem kX9_ifEnded_0 : zchkT yX9_ifEnded.cls cX9_ifEnded 5 (decide (yX9_ifEnded.name = "<init>")) (some .int) 2 45 ((tX9_ifEnded.drop 0).take 3) = true := by decide +kernel
theorem kX9_ifEnded_3 : zchkT yX9_ifEnded.cls cX9_ifEnded 5 (decide (yX9_ifEnded.name = "<init>")) (some .int) 2 45 ((tX9_ifEnded.drop 3).take 3) = true := by decide +kernel
theorem kX9_ifEnded : zchkT yX9_ifEnded.cls cX9_ifEnded 5 (decide (yX9_ifEnded.name = "<init>")) (some .int) 2 45 tX9_ifEnded = true := zT_all (G := 3) (n := 2) (by decide +kernel) (fun g hg => by
  match g, hg with
  | 0, _ => exact kX9_ifEnded_0
  | 1, _ => exact kX9_ifEnded_3
  | g + 2, hg => exact absurd hg (by omega))
theorem rX9_ifEnded : zchkM (tX9_ifEnded, 5, yX9_ifEnded, cX9_ifEnded, some .int, 2, 45, [909, 55, 907, 908]) = true := zchkM_of kX9_ifEnded (by decide +kernel)
theorem kX9_type_0 : zchkT yX9_type.cls cX9_type 2 (decide (yX9_type.name = "<init>")) (some .int) 1 22 ((tX9_type.drop 0).take 3) = true := by decide +kernel
theorem kX9_type : zchkT yX9_type.cls cX9_type 2 (decide (yX9_type.name = "<init>")) (some .int) 1 22 tX9_type = true := zT_all (G := 3) (n := 1) (by decide +kernel) (fun g hg => by
  match g, hg with
  | 0, _ => exact kX9_type_0
  | g + 1, hg => exact absurd hg (by omega))
theorem rX9_type : zchkM (tX9_type, 2, yX9_type, cX9_type, some .int, 1, 22, [913, 55, 911, 912]) = true := zchkM_of kX9_type (by decide +kernel)
theorem kX9_clearText_0 : zchkT yX9_clearText.cls cX9_clearText 2 (decide (yX9_clearText.name = "<init>")) (some .int) 0 0 ((tX9_clearText.drop 0).take 3) = true := by decide +kernel
theorem kX9_clearText : zchkT yX9_clearText.cls cX9_clearText 2 (decide (yX9_clearText.name = "<init>")) (some .int) 0 0 tX9_clearText = true := zT_all (G := 3) (n := 1) (by decide +kernel) (fun g hg => by
  match g, hg with
  | 0, _ => exact kX9_clearText_0
  | g + 1, hg => exact absurd hg (by omega))
theorem rX9_clearText : zchkM (tX9_clearText, 2, yX9_clearText, cX9_clearText, some .int, 0, 0, [917, 55, 915, 916]) = true := zchkM_of kX9_clearText (by decide +kernel)
theorem kX9_sign_0 : zchkT yX9_sign.cls cX9_sign 2 (decide (yX9_sign.name = "<init>")) (some .int) 0 0 ((tX9_sign.drop 0).take 3) = true := by decide +kernel
theorem kX9_sign : zchkT yX9_sign.cls cX9_sign 2 (decide (yX9_sign.name = "<init>")) (some .int) 0 0 tX9_sign = true := zT_all (G := 3) (n := 1) (by decide +kernel) (fun g hg => by
  match g, hg with
  | 0, _ => exact kX9_sign_0
  | g + 1, hg => exact absurd hg (by omega))
theorem rX9_sign : zchkM (tX9_sign, 2, yX9_sign, cX9_sign, some .int, 0, 0, [933, 55, 932, 39]) = true := zchkM_of kX9_sign (by decide +kernel)
theorem kX9_fits_0 : zchkT yX9_fits.cls cX9_fits 4 (decide (yX9_fits.name = "<init>")) (some .boolean) 1 22 ((tX9_fits.drop 0).take 3) = true := by decide +kernel
theorem kX9_fits_3 : zchkT yX9_fits.cls cX9_fits 4 (decide (yX9_fits.name = "<init>")) (some .boolean) 1 22 ((tX9_fits.drop 3).take 3) = true := by decide +kernel
theorem kX9_fits : zchkT yX9_fits.cls cX9_fits 4 (decide (yX9_fits.name = "<init>")) (some .boolean) 1 22 tX9_fits = true := zT_all (G := 3) (n := 2) (by decide +kernel) (fun g hg => by
  match g, hg with
  | 0, _ => exact kX9_fits_0
  | 1, _ => exact kX9_fits_3
  | g + 2, hg => exact absurd hg (by omega))
theorem rX9_fits : zchkM (tX9_fits, 4, yX9_fits, cX9_fits, some .boolean, 1, 22, [929, 55, 928, 38]) = true := zchkM_of kX9_fits (by decide +kernel)
theorem kX9_bagEnd_0 : zchkT yX9_bagEnd.cls cX9_bagEnd 4 (decide (yX9_bagEnd.name = "<init>")) (some .int) 2 45 ((tX9_bagEnd.drop 0).take 3) = true := by decide +kernel
theorem kX9_bagEnd_3 : zchkT yX9_bagEnd.cls cX9_bagEnd 4 (decide (yX9_bagEnd.name = "<init>")) (some .int) 2 45 ((tX9_bagEnd.drop 3).take 3) = true := by decide +kernel
theorem kX9_bagEnd : zchkT yX9_bagEnd.cls cX9_bagEnd 4 (decide (yX9_bagEnd.name = "<init>")) (some .int) 2 45 tX9_bagEnd = true := zT_all (G := 3) (n := 2) (by decide +kernel) (fun g hg => by
  match g, hg with
  | 0, _ => exact kX9_bagEnd_0
  | 1, _ => exact kX9_bagEnd_3
  | g + 2, hg => exact absurd hg (by omega))
theorem rX9_bagEnd : zchkM (tX9_bagEnd, 4, yX9_bagEnd, cX9_bagEnd, some .int, 2, 45, [925, 55, 924, 37]) = true := zchkM_of kX9_bagEnd (by decide +kernel)
theorem kX9_syntaxError_0 : zchkT yX9_syntaxError.cls cX9_syntaxError 4 (decide (yX9_syntaxError.name = "<init>")) (some .int) 3 68 ((tX9_syntaxError.drop 0).take 3) = true := by decide +kernel
theorem kX9_syntaxError_3 : zchkT yX9_syntaxError.cls cX9_syntaxError 4 (decide (yX9_syntaxError.name = "<init>")) (some .int) 3 68 ((tX9_syntaxError.drop 3).take 3) = true := by decide +kernel
theorem kX9_syntaxError : zchkT yX9_syntaxError.cls cX9_syntaxError 4 (decide (yX9_syntaxError.name = "<init>")) (some .int) 3 68 tX9_syntaxError = true := zT_all (G := 3) (n := 2) (by decide +kernel) (fun g hg => by
  match g, hg with
  | 0, _ => exact kX9_syntaxError_0
  | 1, _ => exact kX9_syntaxError_3
  | g + 2, hg => exact absurd hg (by omega))
theorem rX9_syntaxError : zchkM (tX9_syntaxError, 4, yX9_syntaxError, cX9_syntaxError, some .int, 3, 68, [921, 55, 919, 920]) = true := zchkM_of kX9_syntaxError (by decide +kernel)
theorem kX9_semicolons_0 : zchkT yX9_semicolons.cls cX9_semicolons 4 (decide (yX9_semicolons.name = "<init>")) (some .int) 1 21 ((tX9_semicolons.drop 0).take 3) = true := by decide +kernel
theorem kX9_semicolons : zchkT yX9_semicolons.cls cX9_semicolons 4 (decide (yX9_semicolons.name = "<init>")) (some .int) 1 21 tX9_semicolons = true := zT_all (G := 3) (n := 1) (by decide +kernel) (fun g hg => by
  match g, hg with
  | 0, _ => exact kX9_semicolons_0
  | g + 1, hg => exact absurd hg (by omega))
theorem rX9_semicolons : zchkM (tX9_semicolons, 4, yX9_semicolons, cX9_semicolons, some .int, 1, 21, [942, 55, 941, 40]) = true := zchkM_of kX9_semicolons (by decide +kernel)
theorem kX9_fails_0 : zchkT yX9_fails.cls cX9_fails 4 (decide (yX9_fails.name = "<init>")) (some .int) 0 0 ((tX9_fails.drop 0).take 3) = true := by decide +kernel
theorem kX9_fails : zchkT yX9_fails.cls cX9_fails 4 (decide (yX9_fails.name = "<init>")) (some .int) 0 0 tX9_fails = true := zT_all (G := 3) (n := 1) (by decide +kernel) (fun g hg => by
  match g, hg with
  | 0, _ => exact kX9_fails_0
  | g + 1, hg => exact absurd hg (by omega))
theorem rX9_fails : zchkM (tX9_fails, 4, yX9_fails, cX9_fails, some .int, 0, 0, [946, 55, 945, 41]) = true := zchkM_of kX9_fails (by decide +kernel)
theorem kX9_reads_0 : zchkT yX9_reads.cls cX9_reads 6 (decide (yX9_reads.name = "<init>")) (none) 3 73 ((tX9_reads.drop 0).take 3) = true := by decide +kernel
theorem kX9_reads_3 : zchkT yX9_reads.cls cX9_reads 6 (decide (yX9_reads.name = "<init>")) (none) 3 73 ((tX9_reads.drop 3).take 3) = true := by decide +kernel
theorem kX9_reads_6 : zchkT yX9_reads.cls cX9_reads 6 (decide (yX9_reads.name = "<init>")) (none) 3 73 ((tX9_reads.drop 6).take 3) = true := by decide +kernel
theorem kX9_reads : zchkT yX9_reads.cls cX9_reads 6 (decide (yX9_reads.name = "<init>")) (none) 3 73 tX9_reads = true := zT_all (G := 3) (n := 3) (by decide +kernel) (fun g hg => by
  match g, hg with
  | 0, _ => exact kX9_reads_0
  | 1, _ => exact kX9_reads_3
  | 2, _ => exact kX9_reads_6
  | g + 3, hg => exact absurd hg (by omega))
theorem rX9_reads : zchkM (tX9_reads, 6, yX9_reads, cX9_reads, none, 3, 73, [950, 55, 949, 42]) = true := zchkM_of kX9_reads (by decide +kernel)
theorem kX9_readBags_0 : zchkT yX9_readBags.cls cX9_readBags 4 (decide (yX9_readBags.name = "<init>")) (some .int) 4 98 ((tX9_readBags.drop 0).take 3) = true := by decide +kernel
theorem kX9_readBags_3 : zchkT yX9_readBags.cls cX9_readBags 4 (decide (yX9_readBags.name = "<init>")) (some .int) 4 98 ((tX9_readBags.drop 3).take 3) = true := by decide +kernel
theorem kX9_readBags : zchkT yX9_readBags.cls cX9_readBags 4 (decide (yX9_readBags.name = "<init>")) (some .int) 4 98 tX9_readBags = true := zT_all (G := 3) (n := 2) (by decide +kernel) (fun g hg => by
  match g, hg with
  | 0, _ => exact kX9_readBags_0
  | 1, _ => exact kX9_readBags_3
  | g + 2, hg => exact absurd hg (by omega))
theorem rX9_readBags : zchkM (tX9_readBags, 4, yX9_readBags, cX9_readBags, some .int, 4, 98, [937, 55, 935, 936]) = true := zchkM_of kX9_readBags (by decide +kernel)
theorem kX9_problem_0 : zchkT yX9_problem.cls cX9_problem 2 (decide (yX9_problem.name = "<init>")) (some .int) 0 0 ((tX9_problem.drop 0).take 3) = true := by decide +kernel
theorem kX9_problem : zchkT yX9_problem.cls cX9_problem 2 (decide (yX9_problem.name = "<init>")) (some .int) 0 0 tX9_problem = true := zT_all (G := 3) (n := 1) (by decide +kernel) (fun g hg => by
  match g, hg with
  | 0, _ => exact kX9_problem_0
  | g + 1, hg => exact absurd hg (by omega))
theorem rX9_problem : zchkM (tX9_problem, 2, yX9_problem, cX9_problem, some .int, 0, 0, [954, 55, 952, 953]) = true := zchkM_of kX9_problem (by decide +kernel)
theorem kX9_undo_0 : zchkT yX9_undo.cls cX9_undo 2 (decide (yX9_undo.name = "<init>")) (some .int) 0 0 ((tX9_undo.drop 0).take 3) = true := by decide +kernel
theorem kX9_undo : zchkT yX9_undo.cls cX9_undo 2 (decide (yX9_undo.name = "<init>")) (some .int) 0 0 tX9_undo = true := zT_all (G := 3) (n := 1) (by decide +kernel) (fun g hg => by
  match g, hg with
  | 0, _ => exact kX9_undo_0
  | g + 1, hg => exact absurd hg (by omega))
theorem rX9_undo : zchkM (tX9_undo, 2, yX9_undo, cX9_undo, some .int, 0, 0, [958, 55, 956, 957]) = true := zchkM_of kX9_undo (by decide +kernel)
theorem kX9_adds_0 : zchkT yX9_adds.cls cX9_adds 2 (decide (yX9_adds.name = "<init>")) (none) 0 0 ((tX9_adds.drop 0).take 3) = true := by decide +kernel
theorem kX9_adds : zchkT yX9_adds.cls cX9_adds 2 (decide (yX9_adds.name = "<init>")) (none) 0 0 tX9_adds = true := zT_all (G := 3) (n := 1) (by decide +kernel) (fun g hg => by
  match g, hg with
  | 0, _ => exact kX9_adds_0
  | g + 1, hg => exact absurd hg (by omega))
theorem rX9_adds : zchkM (tX9_adds, 2, yX9_adds, cX9_adds, none, 0, 0, [967, 55, 966, 43]) = true := zchkM_of kX9_adds (by decide +kernel)
theorem kX9_digest_0 : zchkT yX9_digest.cls cX9_digest 3 (decide (yX9_digest.name = "<init>")) (some .long) 8 194 ((tX9_digest.drop 0).take 3) = true := by decide +kernel
theorem kX9_digest_3 : zchkT yX9_digest.cls cX9_digest 3 (decide (yX9_digest.name = "<init>")) (some .long) 8 194 ((tX9_digest.drop 3).take 3) = true := by decide +kernel
theorem kX9_digest_6 : zchkT yX9_digest.cls cX9_digest 3 (decide (yX9_digest.name = "<init>")) (some .long) 8 194 ((tX9_digest.drop 6).take 3) = true := by decide +kernel
theorem kX9_digest_9 : zchkT yX9_digest.cls cX9_digest 3 (decide (yX9_digest.name = "<init>")) (some .long) 8 194 ((tX9_digest.drop 9).take 3) = true := by decide +kernel
