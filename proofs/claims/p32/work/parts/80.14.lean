theorem kL_does_18 : zchkT yL_does.cls cL_does 29 (decide (yL_does.name = "<init>")) (some .boolean) 6 141 ((tL_does.drop 18).take 3) = true := by decide +kernel
theorem kL_does_21 : zchkT yL_does.cls cL_does 29 (decide (yL_does.name = "<init>")) (some .boolean) 6 141 ((tL_does.drop 21).take 3) = true := by decide +kernel
theorem kL_does_24 : zchkT yL_does.cls cL_does 29 (decide (yL_does.name = "<init>")) (some .boolean) 6 141 ((tL_does.drop 24).take 3) = true := by decide +kernel
theorem kL_does_27 : zchkT yL_does.cls cL_does 29 (decide (yL_does.name = "<init>")) (some .boolean) 6 141 ((tL_does.drop 27).take 3) = true := by decide +kernel
theorem kL_does_30 : zchkT yL_does.cls cL_does 29 (decide (yL_does.name = "<init>")) (some .boolean) 6 141 ((tL_does.drop 30).take 3) = true := by decide +kernel
theorem kL_does_33 : zchkT yL_does.cls cL_does 29 (decide (yL_does.name = "<init>")) (some .boolean) 6 141 ((tL_does.drop 33).take 3) = true := by decide +kernel
theorem kL_does_36 : zchkT yL_does.cls cL_does 29 (decide (yL_does.name = "<init>")) (some .boolean) 6 141 ((tL_does.drop 36).take 3) = true := by decide +kernel
theorem kL_does_39 : zchkT yL_does.cls cL_does 29 (decide (yL_does.name = "<init>")) (some .boolean) 6 141 ((tL_does.drop 39).take 3) = true := by decide +kernel
