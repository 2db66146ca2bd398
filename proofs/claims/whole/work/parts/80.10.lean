theorem kX9_digest : zchkT yX9_digest.cls cX9_digest 3 (decide (yX9_digest.name = "<init>")) (some .long) 8 194 tX9_digest = true := zT_all (G := 3) (n := 4) (by decide +kernel) (fun g hg => by
  match g, hg with
  | 0, _ => exact kX9_digest_0
  | 1, _ => exact kX9_digest_3
  | 2, _ => exact kX9_digest_6
  | 3, _ => exact kX9_digest_9
  | g + 4, hg => exact absurd hg (by omega))
theorem rX9_digest : zchkM (tX9_digest, 3, yX9_digest, cX9_digest, some .long, 8, 194, [962, 55, 960, 961]) = true := zchkM_of kX9_digest (by decide +kernel)
theorem kJ6_bitCount_0f7a4_0 : zchkT yJ6_bitCount_0f7a4.cls cJ6_bitCount_0f7a4 1 (decide (yJ6_bitCount_0f7a4.name = "<init>")) (some .int) 0 0 ((tJ6_bitCount_0f7a4.drop 0).take 3) = true := by decide +kernel
theorem kJ6_bitCount_0f7a4_3 : zchkT yJ6_bitCount_0f7a4.cls cJ6_bitCount_0f7a4 1 (decide (yJ6_bitCount_0f7a4.name = "<init>")) (some .int) 0 0 ((tJ6_bitCount_0f7a4.drop 3).take 3) = true := by decide +kernel
theorem kJ6_bitCount_0f7a4 : zchkT yJ6_bitCount_0f7a4.cls cJ6_bitCount_0f7a4 1 (decide (yJ6_bitCount_0f7a4.name = "<init>")) (some .int) 0 0 tJ6_bitCount_0f7a4 = true := zT_all (G := 3) (n := 2) (by decide +kernel) (fun g hg => by
  match g, hg with
  | 0, _ => exact kJ6_bitCount_0f7a4_0
  | 1, _ => exact kJ6_bitCount_0f7a4_3
  | g + 2, hg => exact absurd hg (by omega))
theorem rJ6_bitCount_0f7a4 : zchkM (tJ6_bitCount_0f7a4, 1, yJ6_bitCount_0f7a4, cJ6_bitCount_0f7a4, some .int, 0, 0, [389, 58, 388, 0]) = true := zchkM_of kJ6_bitCount_0f7a4 (by decide +kernel)
theorem kJ7_fill_53178_0 : zchkT yJ7_fill_53178.cls cJ7_fill_53178 4 (decide (yJ7_fill_53178.name = "<init>")) (none) 0 0 ((tJ7_fill_53178.drop 0).take 3) = true := by decide +kernel
theorem kJ7_fill_53178 : zchkT yJ7_fill_53178.cls cJ7_fill_53178 4 (decide (yJ7_fill_53178.name = "<init>")) (none) 0 0 tJ7_fill_53178 = true := zT_all (G := 3) (n := 1) (by decide +kernel) (fun g hg => by
  match g, hg with
  | 0, _ => exact kJ7_fill_53178_0
  | g + 1, hg => exact absurd hg (by omega))
theorem rJ7_fill_53178 : zchkM (tJ7_fill_53178, 4, yJ7_fill_53178, cJ7_fill_53178, none, 0, 0, [245, 54, 244, 0]) = true := zchkM_of kJ7_fill_53178 (by decide +kernel)
theorem kL_law_0 : zchkT yL_law.cls cL_law 4 (decide (yL_law.name = "<init>")) (some .boolean) 11 440 ((tL_law.drop 0).take 3) = true := by decide +kernel
theorem kL_law_3 : zchkT yL_law.cls cL_law 4 (decide (yL_law.name = "<init>")) (some .boolean) 11 440 ((tL_law.drop 3).take 3) = true := by decide +kernel
theorem kL_law_6 : zchkT yL_law.cls cL_law 4 (decide (yL_law.name = "<init>")) (some .boolean) 11 440 ((tL_law.drop 6).take 3) = true := by decide +kernel
theorem kL_law_9 : zchkT yL_law.cls cL_law 4 (decide (yL_law.name = "<init>")) (some .boolean) 11 440 ((tL_law.drop 9).take 3) = true := by decide +kernel
theorem kL_law_12 : zchkT yL_law.cls cL_law 4 (decide (yL_law.name = "<init>")) (some .boolean) 11 440 ((tL_law.drop 12).take 3) = true := by decide +kernel
theorem kL_law_15 : zchkT yL_law.cls cL_law 4 (decide (yL_law.name = "<init>")) (some .boolean) 11 440 ((tL_law.drop 15).take 3) = true := by decide +kernel
theorem kL_law_18 : zchkT yL_law.cls cL_law 4 (decide (yL_law.name = "<init>")) (some .boolean) 11 440 ((tL_law.drop 18).take 3) = true := by decide +kernel
theorem kL_law_21 : zchkT yL_law.cls cL_law 4 (decide (yL_law.name = "<init>")) (some .boolean) 11 440 ((tL_law.drop 21).take 3) = true := by decide +kernel
theorem kL_law_24 : zchkT yL_law.cls cL_law 4 (decide (yL_law.name = "<init>")) (some .boolean) 11 440 ((tL_law.drop 24).take 3) = true := by decide +kernel
theorem kL_law_27 : zchkT yL_law.cls cL_law 4 (decide (yL_law.name = "<init>")) (some .boolean) 11 440 ((tL_law.drop 27).take 3) = true := by decide +kernel
theorem kL_law_30 : zchkT yL_law.cls cL_law 4 (decide (yL_law.name = "<init>")) (some .boolean) 11 440 ((tL_law.drop 30).take 3) = true := by decide +kernel
theorem kL_law_33 : zchkT yL_law.cls cL_law 4 (decide (yL_law.name = "<init>")) (some .boolean) 11 440 ((tL_law.drop 33).take 3) = true := by decide +kernel
theorem kL_law_36 : zchkT yL_law.cls cL_law 4 (decide (yL_law.name = "<init>")) (some .boolean) 11 440 ((tL_law.drop 36).take 3) = true := by decide +kernel
theorem kL_law_39 : zchkT yL_law.cls cL_law 4 (decide (yL_law.name = "<init>")) (some .boolean) 11 440 ((tL_law.drop 39).take 3) = true := by decide +kernel
theorem kL_law_42 : zchkT yL_law.cls cL_law 4 (decide (yL_law.name = "<init>")) (some .boolean) 11 440 ((tL_law.drop 42).take 3) = true := by decide +kernel
theorem kL_law_45 : zchkT yL_law.cls cL_law 4 (decide (yL_law.name = "<init>")) (some .boolean) 11 440 ((tL_law.drop 45).take 3) = true := by decide +kernel
theorem kL_law_48 : zchkT yL_law.cls cL_law 4 (decide (yL_law.name = "<init>")) (some .boolean) 11 440 ((tL_law.drop 48).take 3) = true := by decide +kernel
theorem kL_law_51 : zchkT yL_law.cls cL_law 4 (decide (yL_law.name = "<init>")) (some .boolean) 11 440 ((tL_law.drop 51).take 3) = true := by decide +kernel
theorem kL_law_54 : zchkT yL_law.cls cL_law 4 (decide (yL_law.name = "<init>")) (some .boolean) 11 440 ((tL_law.drop 54).take 3) = true := by decide +kernel
