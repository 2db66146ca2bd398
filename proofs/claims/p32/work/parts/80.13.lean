theorem kL_isMatched_9 : zchkT yL_isMatched.cls cL_isMatched 20 (decide (yL_isMatched.name = "<init>")) (some .boolean) 6 150 ((tL_isMatched.drop 9).take 3) = true := by decide +kernel
theorem kL_isMatched_12 : zchkT yL_isMatched.cls cL_isMatched 20 (decide (yL_isMatched.name = "<init>")) (some .boolean) 6 150 ((tL_isMatched.drop 12).take 3) = true := by decide +kernel
theorem kL_isMatched : zchkT yL_isMatched.cls cL_isMatched 20 (decide (yL_isMatched.name = "<init>")) (some .boolean) 6 150 tL_isMatched = true := zT_all (G := 3) (n := 5) (by decide +kernel) (fun g hg => by
  match g, hg with
  | 0, _ => exact kL_isMatched_0
  | 1, _ => exact kL_isMatched_3
  | 2, _ => exact kL_isMatched_6
  | 3, _ => exact kL_isMatched_9
  | 4, _ => exact kL_isMatched_12
  | g + 5, hg => exact absurd hg (by omega))
theorem rL_isMatched : zchkM (tL_isMatched, 20, yL_isMatched, cL_isMatched, some .boolean, 6, 150, [367, 10, 366, 0]) = true := zchkM_of kL_isMatched (by decide +kernel)
theorem kL_does_0 : zchkT yL_does.cls cL_does 29 (decide (yL_does.name = "<init>")) (some .boolean) 6 141 ((tL_does.drop 0).take 3) = true := by decide +kernel
theorem kL_does_3 : zchkT yL_does.cls cL_does 29 (decide (yL_does.name = "<init>")) (some .boolean) 6 141 ((tL_does.drop 3).take 3) = true := by decide +kernel
theorem kL_does_6 : zchkT yL_does.cls cL_does 29 (decide (yL_does.name = "<init>")) (some .boolean) 6 141 ((tL_does.drop 6).take 3) = true := by decide +kernel
theorem kL_does_9 : zchkT yL_does.cls cL_does 29 (decide (yL_does.name = "<init>")) (some .boolean) 6 141 ((tL_does.drop 9).take 3) = true := by decide +kernel
theorem kL_does_12 : zchkT yL_does.cls cL_does 29 (decide (yL_does.name = "<init>")) (some .boolean) 6 141 ((tL_does.drop 12).take 3) = true := by decide +kernel
theorem kL_does_15 : zchkT yL_does.cls cL_does 29 (decide (yL_does.name = "<init>")) (some .boolean) 6 141 ((tL_does.drop 15).take 3) = true := by decide +kernel
