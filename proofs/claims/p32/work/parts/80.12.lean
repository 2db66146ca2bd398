theorem kL_areMatches_6 : zchkT yL_areMatches.cls cL_areMatches 8 (decide (yL_areMatches.name = "<init>")) (some .boolean) 5 113 ((tL_areMatches.drop 6).take 3) = true := by decide +kernel
theorem kL_areMatches_9 : zchkT yL_areMatches.cls cL_areMatches 8 (decide (yL_areMatches.name = "<init>")) (some .boolean) 5 113 ((tL_areMatches.drop 9).take 3) = true := by decide +kernel
theorem kL_areMatches : zchkT yL_areMatches.cls cL_areMatches 8 (decide (yL_areMatches.name = "<init>")) (some .boolean) 5 113 tL_areMatches = true := zT_all (G := 3) (n := 4) (by decide +kernel) (fun g hg => by
  match g, hg with
  | 0, _ => exact kL_areMatches_0
  | 1, _ => exact kL_areMatches_3
  | 2, _ => exact kL_areMatches_6
  | 3, _ => exact kL_areMatches_9
  | g + 4, hg => exact absurd hg (by omega))
theorem rL_areMatches : zchkM (tL_areMatches, 8, yL_areMatches, cL_areMatches, some .boolean, 5, 113, [340, 10, 339, 0]) = true := zchkM_of kL_areMatches (by decide +kernel)
theorem kL_areSuggested_0 : zchkT yL_areSuggested.cls cL_areSuggested 9 (decide (yL_areSuggested.name = "<init>")) (some .boolean) 5 128 ((tL_areSuggested.drop 0).take 3) = true := by decide +kernel
theorem kL_areSuggested_3 : zchkT yL_areSuggested.cls cL_areSuggested 9 (decide (yL_areSuggested.name = "<init>")) (some .boolean) 5 128 ((tL_areSuggested.drop 3).take 3) = true := by decide +kernel
theorem kL_areSuggested_6 : zchkT yL_areSuggested.cls cL_areSuggested 9 (decide (yL_areSuggested.name = "<init>")) (some .boolean) 5 128 ((tL_areSuggested.drop 6).take 3) = true := by decide +kernel
theorem kL_areSuggested_9 : zchkT yL_areSuggested.cls cL_areSuggested 9 (decide (yL_areSuggested.name = "<init>")) (some .boolean) 5 128 ((tL_areSuggested.drop 9).take 3) = true := by decide +kernel
theorem kL_areSuggested : zchkT yL_areSuggested.cls cL_areSuggested 9 (decide (yL_areSuggested.name = "<init>")) (some .boolean) 5 128 tL_areSuggested = true := zT_all (G := 3) (n := 4) (by decide +kernel) (fun g hg => by
  match g, hg with
  | 0, _ => exact kL_areSuggested_0
  | 1, _ => exact kL_areSuggested_3
  | 2, _ => exact kL_areSuggested_6
  | 3, _ => exact kL_areSuggested_9
  | g + 4, hg => exact absurd hg (by omega))
theorem rL_areSuggested : zchkM (tL_areSuggested, 9, yL_areSuggested, cL_areSuggested, some .boolean, 5, 128, [346, 10, 345, 0]) = true := zchkM_of kL_areSuggested (by decide +kernel)
theorem kL_isMatched_0 : zchkT yL_isMatched.cls cL_isMatched 20 (decide (yL_isMatched.name = "<init>")) (some .boolean) 6 150 ((tL_isMatched.drop 0).take 3) = true := by decide +kernel
theorem kL_isMatched_3 : zchkT yL_isMatched.cls cL_isMatched 20 (decide (yL_isMatched.name = "<init>")) (some .boolean) 6 150 ((tL_isMatched.drop 3).take 3) = true := by decide +kernel
theorem kL_isMatched_6 : zchkT yL_isMatched.cls cL_isMatched 20 (decide (yL_isMatched.name = "<init>")) (some .boolean) 6 150 ((tL_isMatched.drop 6).take 3) = true := by decide +kernel
