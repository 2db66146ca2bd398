theorem kX5_compare : zchkT yX5_compare.cls cX5_compare 11 (decide (yX5_compare.name = "<init>")) (some .boolean) 2 49 tX5_compare = true := zT_all (G := 3) (n := 5) (by decide +kernel) (fun g hg => by
  match g, hg with
  | 0, _ => exact kX5_compare_0
  | 1, _ => exact kX5_compare_3
  | 2, _ => exact kX5_compare_6
  | 3, _ => exact kX5_compare_9
  | 4, _ => exact kX5_compare_12
  | g + 5, hg => exact absurd hg (by omega))
theorem rX5_compare : zchkM (tX5_compare, 11, yX5_compare, cX5_compare, some .boolean, 2, 49, [280, 17, 279, 1]) = true := zchkM_of kX5_compare (by decide +kernel)
theorem kX5_ofDigits_0 : zchkT yX5_ofDigits.cls cX5_ofDigits 3 (decide (yX5_ofDigits.name = "<init>")) (some .int) 1 20 ((tX5_ofDigits.drop 0).take 3) = true := by decide +kernel
theorem kX5_ofDigits : zchkT yX5_ofDigits.cls cX5_ofDigits 3 (decide (yX5_ofDigits.name = "<init>")) (some .int) 1 20 tX5_ofDigits = true := zT_all (G := 3) (n := 1) (by decide +kernel) (fun g hg => by
  match g, hg with
  | 0, _ => exact kX5_ofDigits_0
  | g + 1, hg => exact absurd hg (by omega))
theorem rX5_ofDigits : zchkM (tX5_ofDigits, 3, yX5_ofDigits, cX5_ofDigits, some .int, 1, 20, [291, 17, 290, 0]) = true := zchkM_of kX5_ofDigits (by decide +kernel)
theorem kX5_ofColours_0 : zchkT yX5_ofColours.cls cX5_ofColours 4 (decide (yX5_ofColours.name = "<init>")) (some .int) 1 26 ((tX5_ofColours.drop 0).take 3) = true := by decide +kernel
theorem kX5_ofColours : zchkT yX5_ofColours.cls cX5_ofColours 4 (decide (yX5_ofColours.name = "<init>")) (some .int) 1 26 tX5_ofColours = true := zT_all (G := 3) (n := 1) (by decide +kernel) (fun g hg => by
  match g, hg with
  | 0, _ => exact kX5_ofColours_0
  | g + 1, hg => exact absurd hg (by omega))
theorem rX5_ofColours : zchkM (tX5_ofColours, 4, yX5_ofColours, cX5_ofColours, some .int, 1, 26, [300, 17, 299, 0]) = true := zchkM_of kX5_ofColours (by decide +kernel)
theorem kX5_ofKinds_0 : zchkT yX5_ofKinds.cls cX5_ofKinds 3 (decide (yX5_ofKinds.name = "<init>")) (some .int) 0 0 ((tX5_ofKinds.drop 0).take 3) = true := by decide +kernel
theorem kX5_ofKinds : zchkT yX5_ofKinds.cls cX5_ofKinds 3 (decide (yX5_ofKinds.name = "<init>")) (some .int) 0 0 tX5_ofKinds = true := zT_all (G := 3) (n := 1) (by decide +kernel) (fun g hg => by
  match g, hg with
  | 0, _ => exact kX5_ofKinds_0
  | g + 1, hg => exact absurd hg (by omega))
theorem rX5_ofKinds : zchkM (tX5_ofKinds, 3, yX5_ofKinds, cX5_ofKinds, some .int, 0, 0, [306, 17, 305, 0]) = true := zchkM_of kX5_ofKinds (by decide +kernel)
theorem kX5_ofMarks_0 : zchkT yX5_ofMarks.cls cX5_ofMarks 3 (decide (yX5_ofMarks.name = "<init>")) (some .int) 1 20 ((tX5_ofMarks.drop 0).take 3) = true := by decide +kernel
theorem kX5_ofMarks : zchkT yX5_ofMarks.cls cX5_ofMarks 3 (decide (yX5_ofMarks.name = "<init>")) (some .int) 1 20 tX5_ofMarks = true := zT_all (G := 3) (n := 1) (by decide +kernel) (fun g hg => by
  match g, hg with
  | 0, _ => exact kX5_ofMarks_0
  | g + 1, hg => exact absurd hg (by omega))
theorem rX5_ofMarks : zchkM (tX5_ofMarks, 3, yX5_ofMarks, cX5_ofMarks, some .int, 1, 20, [309, 17, 308, 0]) = true := zchkM_of kX5_ofMarks (by decide +kernel)
theorem kX5_ofAirport_0 : zchkT yX5_ofAirport.cls cX5_ofAirport 3 (decide (yX5_ofAirport.name = "<init>")) (some .int) 0 0 ((tX5_ofAirport.drop 0).take 3) = true := by decide +kernel
theorem kX5_ofAirport : zchkT yX5_ofAirport.cls cX5_ofAirport 3 (decide (yX5_ofAirport.name = "<init>")) (some .int) 0 0 tX5_ofAirport = true := zT_all (G := 3) (n := 1) (by decide +kernel) (fun g hg => by
  match g, hg with
  | 0, _ => exact kX5_ofAirport_0
  | g + 1, hg => exact absurd hg (by omega))
theorem rX5_ofAirport : zchkM (tX5_ofAirport, 3, yX5_ofAirport, cX5_ofAirport, some .int, 0, 0, [312, 17, 311, 0]) = true := zchkM_of kX5_ofAirport (by decide +kernel)
theorem kX6_init_0 : zchkT yX6_init.cls cX6_init 3 (decide (yX6_init.name = "<init>")) (none) 1 26 ((tX6_init.drop 0).take 3) = true := by decide +kernel
theorem kX6_init : zchkT yX6_init.cls cX6_init 3 (decide (yX6_init.name = "<init>")) (none) 1 26 tX6_init = true := zT_all (G := 3) (n := 1) (by decide +kernel) (fun g hg => by
  match g, hg with
  | 0, _ => exact kX6_init_0
  | g + 1, hg => exact absurd hg (by omega))
theorem rX6_init : zchkM (tX6_init, 3, yX6_init, cX6_init, none, 1, 26, [42, 13, 41, 0]) = true := zchkM_of kX6_init (by decide +kernel)
theorem kX6_rows_0 : zchkT yX6_rows.cls cX6_rows 1 (decide (yX6_rows.name = "<init>")) (some .int) 0 0 ((tX6_rows.drop 0).take 3) = true := by decide +kernel
theorem kX6_rows : zchkT yX6_rows.cls cX6_rows 1 (decide (yX6_rows.name = "<init>")) (some .int) 0 0 tX6_rows = true := zT_all (G := 3) (n := 1) (by decide +kernel) (fun g hg => by
  match g, hg with
  | 0, _ => exact kX6_rows_0
  | g + 1, hg => exact absurd hg (by omega))
theorem rX6_rows : zchkM (tX6_rows, 1, yX6_rows, cX6_rows, some .int, 0, 0, [239, 13, 237, 238]) = true := zchkM_of kX6_rows (by decide +kernel)
theorem kX6_isFull_0 : zchkT yX6_isFull.cls cX6_isFull 1 (decide (yX6_isFull.name = "<init>")) (some .boolean) 0 0 ((tX6_isFull.drop 0).take 3) = true := by decide +kernel
theorem kX6_isFull : zchkT yX6_isFull.cls cX6_isFull 1 (decide (yX6_isFull.name = "<init>")) (some .boolean) 0 0 tX6_isFull = true := zT_all (G := 3) (n := 1) (by decide +kernel) (fun g hg => by
  match g, hg with
  | 0, _ => exact kX6_isFull_0
  | g + 1, hg => exact absurd hg (by omega))
theorem rX6_isFull : zchkM (tX6_isFull, 1, yX6_isFull, cX6_isFull, some .boolean, 0, 0, [499, 13, 497, 498]) = true := zchkM_of kX6_isFull (by decide +kernel)
theorem kX6_rowOf_0 : zchkT yX6_rowOf.cls cX6_rowOf 3 (decide (yX6_rowOf.name = "<init>")) (some .int) 0 0 ((tX6_rowOf.drop 0).take 3) = true := by decide +kernel
theorem kX6_rowOf : zchkT yX6_rowOf.cls cX6_rowOf 3 (decide (yX6_rowOf.name = "<init>")) (some .int) 0 0 tX6_rowOf = true := zT_all (G := 3) (n := 1) (by decide +kernel) (fun g hg => by
  match g, hg with
  | 0, _ => exact kX6_rowOf_0
  | g + 1, hg => exact absurd hg (by omega))
theorem rX6_rowOf : zchkM (tX6_rowOf, 3, yX6_rowOf, cX6_rowOf, some .int, 0, 0, [269, 13, 267, 268]) = true := zchkM_of kX6_rowOf (by decide +kernel)
theorem kX6_numberOf_0 : zchkT yX6_numberOf.cls cX6_numberOf 2 (decide (yX6_numberOf.name = "<init>")) (some .int) 1 21 ((tX6_numberOf.drop 0).take 3) = true := by decide +kernel
theorem kX6_numberOf : zchkT yX6_numberOf.cls cX6_numberOf 2 (decide (yX6_numberOf.name = "<init>")) (some .int) 1 21 tX6_numberOf = true := zT_all (G := 3) (n := 1) (by decide +kernel) (fun g hg => by
  match g, hg with
  | 0, _ => exact kX6_numberOf_0
  | g + 1, hg => exact absurd hg (by omega))
theorem rX6_numberOf : zchkM (tX6_numberOf, 2, yX6_numberOf, cX6_numberOf, some .int, 1, 21, [364, 13, 362, 363]) = true := zchkM_of kX6_numberOf (by decide +kernel)
theorem kX6_get_0 : zchkT yX6_get.cls cX6_get 3 (decide (yX6_get.name = "<init>")) (some .int) 1 22 ((tX6_get.drop 0).take 3) = true := by decide +kernel
theorem kX6_get : zchkT yX6_get.cls cX6_get 3 (decide (yX6_get.name = "<init>")) (some .int) 1 22 tX6_get = true := zT_all (G := 3) (n := 1) (by decide +kernel) (fun g hg => by
  match g, hg with
  | 0, _ => exact kX6_get_0
  | g + 1, hg => exact absurd hg (by omega))
theorem rX6_get : zchkM (tX6_get, 3, yX6_get, cX6_get, some .int, 1, 22, [284, 13, 282, 283]) = true := zchkM_of kX6_get (by decide +kernel)
theorem kX6_put_0 : zchkT yX6_put.cls cX6_put 4 (decide (yX6_put.name = "<init>")) (none) 1 22 ((tX6_put.drop 0).take 3) = true := by decide +kernel
theorem kX6_put : zchkT yX6_put.cls cX6_put 4 (decide (yX6_put.name = "<init>")) (none) 1 22 tX6_put = true := zT_all (G := 3) (n := 1) (by decide +kernel) (fun g hg => by
  match g, hg with
  | 0, _ => exact kX6_put_0
  | g + 1, hg => exact absurd hg (by omega))
theorem rX6_put : zchkM (tX6_put, 4, yX6_put, cX6_put, none, 1, 22, [469, 13, 467, 468]) = true := zchkM_of kX6_put (by decide +kernel)
theorem kX6_partner_0 : zchkT yX6_partner.cls cX6_partner 2 (decide (yX6_partner.name = "<init>")) (some .int) 2 44 ((tX6_partner.drop 0).take 3) = true := by decide +kernel
theorem kX6_partner : zchkT yX6_partner.cls cX6_partner 2 (decide (yX6_partner.name = "<init>")) (some .int) 2 44 tX6_partner = true := zT_all (G := 3) (n := 1) (by decide +kernel) (fun g hg => by
  match g, hg with
  | 0, _ => exact kX6_partner_0
  | g + 1, hg => exact absurd hg (by omega))
theorem rX6_partner : zchkM (tX6_partner, 2, yX6_partner, cX6_partner, some .int, 2, 44, [528, 13, 526, 527]) = true := zchkM_of kX6_partner (by decide +kernel)
theorem kX6_setPartner_0 : zchkT yX6_setPartner.cls cX6_setPartner 3 (decide (yX6_setPartner.name = "<init>")) (none) 2 45 ((tX6_setPartner.drop 0).take 3) = true := by decide +kernel
theorem kX6_setPartner : zchkT yX6_setPartner.cls cX6_setPartner 3 (decide (yX6_setPartner.name = "<init>")) (none) 2 45 tX6_setPartner = true := zT_all (G := 3) (n := 1) (by decide +kernel) (fun g hg => by
  match g, hg with
  | 0, _ => exact kX6_setPartner_0
  | g + 1, hg => exact absurd hg (by omega))
theorem rX6_setPartner : zchkM (tX6_setPartner, 3, yX6_setPartner, cX6_setPartner, none, 2, 45, [465, 13, 463, 464]) = true := zchkM_of kX6_setPartner (by decide +kernel)
theorem kX6_isFree_0 : zchkT yX6_isFree.cls cX6_isFree 2 (decide (yX6_isFree.name = "<init>")) (some .boolean) 1 21 ((tX6_isFree.drop 0).take 3) = true := by decide +kernel
