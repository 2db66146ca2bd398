theorem kL_does_42 : zchkT yL_does.cls cL_does 29 (decide (yL_does.name = "<init>")) (some .boolean) 6 141 ((tL_does.drop 42).take 3) = true := by decide +kernel
theorem kL_does_45 : zchkT yL_does.cls cL_does 29 (decide (yL_does.name = "<init>")) (some .boolean) 6 141 ((tL_does.drop 45).take 3) = true := by decide +kernel
theorem kL_does : zchkT yL_does.cls cL_does 29 (decide (yL_does.name = "<init>")) (some .boolean) 6 141 tL_does = true := zT_all (G := 3) (n := 16) (by decide +kernel) (fun g hg => by
  match g, hg with
  | 0, _ => exact kL_does_0
  | 1, _ => exact kL_does_3
  | 2, _ => exact kL_does_6
  | 3, _ => exact kL_does_9
  | 4, _ => exact kL_does_12
  | 5, _ => exact kL_does_15
  | 6, _ => exact kL_does_18
  | 7, _ => exact kL_does_21
  | 8, _ => exact kL_does_24
  | 9, _ => exact kL_does_27
  | 10, _ => exact kL_does_30
  | 11, _ => exact kL_does_33
  | 12, _ => exact kL_does_36
  | 13, _ => exact kL_does_39
  | 14, _ => exact kL_does_42
  | 15, _ => exact kL_does_45
  | g + 16, hg => exact absurd hg (by omega))
theorem rL_does_0 : zin 489 (.code yL_does cL_does 29 (some .boolean)) = true := zin_of rfl (by decide +kernel)
theorem rL_does : zchkM (tL_does, 29, yL_does, cL_does, some .boolean, 6, 141, [489, 10, 488, 0]) = true := zchkM_of kL_does (by rw [rL_does_0]; decide +kernel)
theorem kL_law_0 : zchkT yL_law.cls cL_law 9 (decide (yL_law.name = "<init>")) (some .boolean) 9 382 ((tL_law.drop 0).take 3) = true := by decide +kernel
theorem kL_law_3 : zchkT yL_law.cls cL_law 9 (decide (yL_law.name = "<init>")) (some .boolean) 9 382 ((tL_law.drop 3).take 3) = true := by decide +kernel
theorem kL_law_6 : zchkT yL_law.cls cL_law 9 (decide (yL_law.name = "<init>")) (some .boolean) 9 382 ((tL_law.drop 6).take 3) = true := by decide +kernel
theorem kL_law_9 : zchkT yL_law.cls cL_law 9 (decide (yL_law.name = "<init>")) (some .boolean) 9 382 ((tL_law.drop 9).take 3) = true := by decide +kernel
theorem kL_law : zchkT yL_law.cls cL_law 9 (decide (yL_law.name = "<init>")) (some .boolean) 9 382 tL_law = true := zT_all (G := 3) (n := 4) (by decide +kernel) (fun g hg => by
  match g, hg with
  | 0, _ => exact kL_law_0
  | 1, _ => exact kL_law_3
  | 2, _ => exact kL_law_6
  | 3, _ => exact kL_law_9
  | g + 4, hg => exact absurd hg (by omega))
