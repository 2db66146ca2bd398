theorem kL_law : zchkT yL_law.cls cL_law 4 (decide (yL_law.name = "<init>")) (some .boolean) 11 440 tL_law = true := zT_all (G := 3) (n := 19) (by decide +kernel) (fun g hg => by
  match g, hg with
  | 0, _ => exact kL_law_0
  | 1, _ => exact kL_law_3
  | 2, _ => exact kL_law_6
  | 3, _ => exact kL_law_9
  | 4, _ => exact kL_law_12
  | 5, _ => exact kL_law_15
  | 6, _ => exact kL_law_18
  | 7, _ => exact kL_law_21
  | 8, _ => exact kL_law_24
  | 9, _ => exact kL_law_27
  | 10, _ => exact kL_law_30
  | 11, _ => exact kL_law_33
  | 12, _ => exact kL_law_36
  | 13, _ => exact kL_law_39
  | 14, _ => exact kL_law_42
  | 15, _ => exact kL_law_45
  | 16, _ => exact kL_law_48
  | 17, _ => exact kL_law_51
  | 18, _ => exact kL_law_54
  | g + 19, hg => exact absurd hg (by omega))
