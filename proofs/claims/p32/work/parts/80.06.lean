theorem kX6_isFree : zchkT yX6_isFree.cls cX6_isFree 2 (decide (yX6_isFree.name = "<init>")) (some .boolean) 1 21 tX6_isFree = true := zT_all (G := 3) (n := 1) (by decide +kernel) (fun g hg => by
  match g, hg with
  | 0, _ => exact kX6_isFree_0
  | g + 1, hg => exact absurd hg (by omega))
theorem rX6_isFree : zchkM (tX6_isFree, 2, yX6_isFree, cX6_isFree, some .boolean, 1, 21, [247, 13, 245, 246]) = true := zchkM_of kX6_isFree (by decide +kernel)
theorem kX6_matchedRows_0 : zchkT yX6_matchedRows.cls cX6_matchedRows 3 (decide (yX6_matchedRows.name = "<init>")) (some .int) 2 42 ((tX6_matchedRows.drop 0).take 3) = true := by decide +kernel
theorem kX6_matchedRows : zchkT yX6_matchedRows.cls cX6_matchedRows 3 (decide (yX6_matchedRows.name = "<init>")) (some .int) 2 42 tX6_matchedRows = true := zT_all (G := 3) (n := 1) (by decide +kernel) (fun g hg => by
  match g, hg with
  | 0, _ => exact kX6_matchedRows_0
  | g + 1, hg => exact absurd hg (by omega))
theorem rX6_matchedRows : zchkM (tX6_matchedRows, 3, yX6_matchedRows, cX6_matchedRows, some .int, 2, 42, [243, 13, 241, 242]) = true := zchkM_of kX6_matchedRows (by decide +kernel)
theorem kX6_append_0 : zchkT yX6_append.cls cX6_append 2 (decide (yX6_append.name = "<init>")) (some .int) 3 67 ((tX6_append.drop 0).take 3) = true := by decide +kernel
theorem kX6_append : zchkT yX6_append.cls cX6_append 2 (decide (yX6_append.name = "<init>")) (some .int) 3 67 tX6_append = true := zT_all (G := 3) (n := 1) (by decide +kernel) (fun g hg => by
  match g, hg with
  | 0, _ => exact kX6_append_0
  | g + 1, hg => exact absurd hg (by omega))
theorem rX6_append : zchkM (tX6_append, 2, yX6_append, cX6_append, some .int, 3, 67, [507, 13, 505, 506]) = true := zchkM_of kX6_append (by decide +kernel)
theorem kX6_remove_0 : zchkT yX6_remove.cls cX6_remove 3 (decide (yX6_remove.name = "<init>")) (none) 1 26 ((tX6_remove.drop 0).take 3) = true := by decide +kernel
theorem kX6_remove_3 : zchkT yX6_remove.cls cX6_remove 3 (decide (yX6_remove.name = "<init>")) (none) 1 26 ((tX6_remove.drop 3).take 3) = true := by decide +kernel
theorem kX6_remove : zchkT yX6_remove.cls cX6_remove 3 (decide (yX6_remove.name = "<init>")) (none) 1 26 tX6_remove = true := zT_all (G := 3) (n := 2) (by decide +kernel) (fun g hg => by
  match g, hg with
  | 0, _ => exact kX6_remove_0
  | 1, _ => exact kX6_remove_3
  | g + 2, hg => exact absurd hg (by omega))
theorem rX6_remove : zchkM (tX6_remove, 3, yX6_remove, cX6_remove, none, 1, 26, [552, 13, 550, 551]) = true := zchkM_of kX6_remove (by decide +kernel)
theorem kX6_copyFrom_0 : zchkT yX6_copyFrom.cls cX6_copyFrom 2 (decide (yX6_copyFrom.name = "<init>")) (none) 1 26 ((tX6_copyFrom.drop 0).take 3) = true := by decide +kernel
theorem kX6_copyFrom_3 : zchkT yX6_copyFrom.cls cX6_copyFrom 2 (decide (yX6_copyFrom.name = "<init>")) (none) 1 26 ((tX6_copyFrom.drop 3).take 3) = true := by decide +kernel
theorem kX6_copyFrom : zchkT yX6_copyFrom.cls cX6_copyFrom 2 (decide (yX6_copyFrom.name = "<init>")) (none) 1 26 tX6_copyFrom = true := zT_all (G := 3) (n := 2) (by decide +kernel) (fun g hg => by
  match g, hg with
  | 0, _ => exact kX6_copyFrom_0
  | 1, _ => exact kX6_copyFrom_3
  | g + 2, hg => exact absurd hg (by omega))
theorem rX6_copyFrom : zchkM (tX6_copyFrom, 2, yX6_copyFrom, cX6_copyFrom, none, 1, 26, [449, 13, 447, 448]) = true := zchkM_of kX6_copyFrom (by decide +kernel)
theorem kX6_hasRow_0 : zchkT yX6_hasRow.cls cX6_hasRow 2 (decide (yX6_hasRow.name = "<init>")) (some .boolean) 0 0 ((tX6_hasRow.drop 0).take 3) = true := by decide +kernel
theorem kX6_hasRow : zchkT yX6_hasRow.cls cX6_hasRow 2 (decide (yX6_hasRow.name = "<init>")) (some .boolean) 0 0 tX6_hasRow = true := zT_all (G := 3) (n := 1) (by decide +kernel) (fun g hg => by
  match g, hg with
  | 0, _ => exact kX6_hasRow_0
  | g + 1, hg => exact absurd hg (by omega))
theorem rX6_hasRow : zchkM (tX6_hasRow, 2, yX6_hasRow, cX6_hasRow, some .boolean, 0, 0, [251, 13, 250, 0]) = true := zchkM_of kX6_hasRow (by decide +kernel)
theorem kX7_common_0 : zchkT yX7_common.cls cX7_common 7 (decide (yX7_common.name = "<init>")) (some .int) 0 0 ((tX7_common.drop 0).take 3) = true := by decide +kernel
theorem kX7_common_3 : zchkT yX7_common.cls cX7_common 7 (decide (yX7_common.name = "<init>")) (some .int) 0 0 ((tX7_common.drop 3).take 3) = true := by decide +kernel
theorem kX7_common : zchkT yX7_common.cls cX7_common 7 (decide (yX7_common.name = "<init>")) (some .int) 0 0 tX7_common = true := zT_all (G := 3) (n := 2) (by decide +kernel) (fun g hg => by
  match g, hg with
  | 0, _ => exact kX7_common_0
  | 1, _ => exact kX7_common_3
  | g + 2, hg => exact absurd hg (by omega))
theorem rX7_common : zchkM (tX7_common, 7, yX7_common, cX7_common, some .int, 0, 0, [288, 22, 287, 0]) = true := zchkM_of kX7_common (by decide +kernel)
theorem kX7_legible_0 : zchkT yX7_legible.cls cX7_legible 6 (decide (yX7_legible.name = "<init>")) (some .int) 0 0 ((tX7_legible.drop 0).take 3) = true := by decide +kernel
theorem kX7_legible : zchkT yX7_legible.cls cX7_legible 6 (decide (yX7_legible.name = "<init>")) (some .int) 0 0 tX7_legible = true := zT_all (G := 3) (n := 1) (by decide +kernel) (fun g hg => by
  match g, hg with
  | 0, _ => exact kX7_legible_0
  | g + 1, hg => exact absurd hg (by omega))
theorem rX7_legible : zchkM (tX7_legible, 6, yX7_legible, cX7_legible, some .int, 0, 0, [513, 22, 512, 0]) = true := zchkM_of kX7_legible (by decide +kernel)
theorem kX8_init_0 : zchkT yX8_init.cls cX8_init 1 (decide (yX8_init.name = "<init>")) (none) 4 89 ((tX8_init.drop 0).take 3) = true := by decide +kernel
