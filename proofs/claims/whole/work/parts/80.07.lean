theorem kX9_legible : zchkT yX9_legible.cls cX9_legible 4 (decide (yX9_legible.name = "<init>")) (some .int) 1 23 tX9_legible = true := zT_all (G := 3) (n := 1) (by decide +kernel) (fun g hg => by
  match g, hg with
  | 0, _ => exact kX9_legible_0
  | g + 1, hg => exact absurd hg (by omega))
theorem rX9_legible : zchkM (tX9_legible, 4, yX9_legible, cX9_legible, some .int, 1, 23, [735, 55, 734, 0]) = true := zchkM_of kX9_legible (by decide +kernel)
theorem kX9_registers_0 : zchkT yX9_registers.cls cX9_registers 8 (decide (yX9_registers.name = "<init>")) (some .int) 2 46 ((tX9_registers.drop 0).take 3) = true := by decide +kernel
theorem kX9_registers_3 : zchkT yX9_registers.cls cX9_registers 8 (decide (yX9_registers.name = "<init>")) (some .int) 2 46 ((tX9_registers.drop 3).take 3) = true := by decide +kernel
theorem kX9_registers_6 : zchkT yX9_registers.cls cX9_registers 8 (decide (yX9_registers.name = "<init>")) (some .int) 2 46 ((tX9_registers.drop 6).take 3) = true := by decide +kernel
theorem kX9_registers : zchkT yX9_registers.cls cX9_registers 8 (decide (yX9_registers.name = "<init>")) (some .int) 2 46 tX9_registers = true := zT_all (G := 3) (n := 3) (by decide +kernel) (fun g hg => by
  match g, hg with
  | 0, _ => exact kX9_registers_0
  | 1, _ => exact kX9_registers_3
  | 2, _ => exact kX9_registers_6
  | g + 3, hg => exact absurd hg (by omega))
theorem rX9_registers : zchkM (tX9_registers, 8, yX9_registers, cX9_registers, some .int, 2, 46, [728, 55, 727, 13]) = true := zchkM_of kX9_registers (by decide +kernel)
theorem kX9_found_0 : zchkT yX9_found.cls cX9_found 8 (decide (yX9_found.name = "<init>")) (some .int) 3 73 ((tX9_found.drop 0).take 3) = true := by decide +kernel
theorem kX9_found_3 : zchkT yX9_found.cls cX9_found 8 (decide (yX9_found.name = "<init>")) (some .int) 3 73 ((tX9_found.drop 3).take 3) = true := by decide +kernel
theorem kX9_found : zchkT yX9_found.cls cX9_found 8 (decide (yX9_found.name = "<init>")) (some .int) 3 73 tX9_found = true := zT_all (G := 3) (n := 2) (by decide +kernel) (fun g hg => by
  match g, hg with
  | 0, _ => exact kX9_found_0
  | 1, _ => exact kX9_found_3
  | g + 2, hg => exact absurd hg (by omega))
theorem rX9_found : zchkM (tX9_found, 8, yX9_found, cX9_found, some .int, 3, 73, [723, 55, 721, 722]) = true := zchkM_of kX9_found (by decide +kernel)
theorem kX9_claim_0 : zchkT yX9_claim.cls cX9_claim 11 (decide (yX9_claim.name = "<init>")) (some .int) 1 22 ((tX9_claim.drop 0).take 3) = true := by decide +kernel
theorem kX9_claim_3 : zchkT yX9_claim.cls cX9_claim 11 (decide (yX9_claim.name = "<init>")) (some .int) 1 22 ((tX9_claim.drop 3).take 3) = true := by decide +kernel
theorem kX9_claim_6 : zchkT yX9_claim.cls cX9_claim 11 (decide (yX9_claim.name = "<init>")) (some .int) 1 22 ((tX9_claim.drop 6).take 3) = true := by decide +kernel
theorem kX9_claim_9 : zchkT yX9_claim.cls cX9_claim 11 (decide (yX9_claim.name = "<init>")) (some .int) 1 22 ((tX9_claim.drop 9).take 3) = true := by decide +kernel
theorem kX9_claim_12 : zchkT yX9_claim.cls cX9_claim 11 (decide (yX9_claim.name = "<init>")) (some .int) 1 22 ((tX9_claim.drop 12).take 3) = true := by decide +kernel
theorem kX9_claim : zchkT yX9_claim.cls cX9_claim 11 (decide (yX9_claim.name = "<init>")) (some .int) 1 22 tX9_claim = true := zT_all (G := 3) (n := 5) (by decide +kernel) (fun g hg => by
  match g, hg with
  | 0, _ => exact kX9_claim_0
  | 1, _ => exact kX9_claim_3
  | 2, _ => exact kX9_claim_6
  | 3, _ => exact kX9_claim_9
  | 4, _ => exact kX9_claim_12
  | g + 5, hg => exact absurd hg (by omega))
theorem rX9_claim : zchkM (tX9_claim, 11, yX9_claim, cX9_claim, some .int, 1, 22, [742, 55, 740, 741]) = true := zchkM_of kX9_claim (by decide +kernel)
theorem kX9_match_0 : zchkT yX9_match.cls cX9_match 6 (decide (yX9_match.name = "<init>")) (some .int) 4 100 ((tX9_match.drop 0).take 3) = true := by decide +kernel
theorem kX9_match_3 : zchkT yX9_match.cls cX9_match 6 (decide (yX9_match.name = "<init>")) (some .int) 4 100 ((tX9_match.drop 3).take 3) = true := by decide +kernel
theorem kX9_match : zchkT yX9_match.cls cX9_match 6 (decide (yX9_match.name = "<init>")) (some .int) 4 100 tX9_match = true := zT_all (G := 3) (n := 2) (by decide +kernel) (fun g hg => by
  match g, hg with
  | 0, _ => exact kX9_match_0
  | 1, _ => exact kX9_match_3
  | g + 2, hg => exact absurd hg (by omega))
theorem rX9_match : zchkM (tX9_match, 6, yX9_match, cX9_match, some .int, 4, 100, [751, 55, 749, 750]) = true := zchkM_of kX9_match (by decide +kernel)
theorem kX9_unmatch_0 : zchkT yX9_unmatch.cls cX9_unmatch 4 (decide (yX9_unmatch.name = "<init>")) (some .int) 2 44 ((tX9_unmatch.drop 0).take 3) = true := by decide +kernel
theorem kX9_unmatch_3 : zchkT yX9_unmatch.cls cX9_unmatch 4 (decide (yX9_unmatch.name = "<init>")) (some .int) 2 44 ((tX9_unmatch.drop 3).take 3) = true := by decide +kernel
theorem kX9_unmatch : zchkT yX9_unmatch.cls cX9_unmatch 4 (decide (yX9_unmatch.name = "<init>")) (some .int) 2 44 tX9_unmatch = true := zT_all (G := 3) (n := 2) (by decide +kernel) (fun g hg => by
  match g, hg with
  | 0, _ => exact kX9_unmatch_0
  | 1, _ => exact kX9_unmatch_3
  | g + 2, hg => exact absurd hg (by omega))
theorem rX9_unmatch : zchkM (tX9_unmatch, 4, yX9_unmatch, cX9_unmatch, some .int, 2, 44, [796, 55, 794, 795]) = true := zchkM_of kX9_unmatch (by decide +kernel)
theorem kX9_open_0 : zchkT yX9_open.cls cX9_open 5 (decide (yX9_open.name = "<init>")) (some .int) 5 122 ((tX9_open.drop 0).take 3) = true := by decide +kernel
theorem kX9_open_3 : zchkT yX9_open.cls cX9_open 5 (decide (yX9_open.name = "<init>")) (some .int) 5 122 ((tX9_open.drop 3).take 3) = true := by decide +kernel
theorem kX9_open : zchkT yX9_open.cls cX9_open 5 (decide (yX9_open.name = "<init>")) (some .int) 5 122 tX9_open = true := zT_all (G := 3) (n := 2) (by decide +kernel) (fun g hg => by
  match g, hg with
  | 0, _ => exact kX9_open_0
  | 1, _ => exact kX9_open_3
  | g + 2, hg => exact absurd hg (by omega))
theorem rX9_open : zchkM (tX9_open, 5, yX9_open, cX9_open, some .int, 5, 122, [808, 55, 807, 25]) = true := zchkM_of kX9_open (by decide +kernel)
theorem kX9_matchesBest_0 : zchkT yX9_matchesBest.cls cX9_matchesBest 7 (decide (yX9_matchesBest.name = "<init>")) (some .int) 6 146 ((tX9_matchesBest.drop 0).take 3) = true := by decide +kernel
theorem kX9_matchesBest_3 : zchkT yX9_matchesBest.cls cX9_matchesBest 7 (decide (yX9_matchesBest.name = "<init>")) (some .int) 6 146 ((tX9_matchesBest.drop 3).take 3) = true := by decide +kernel
theorem kX9_matchesBest_6 : zchkT yX9_matchesBest.cls cX9_matchesBest 7 (decide (yX9_matchesBest.name = "<init>")) (some .int) 6 146 ((tX9_matchesBest.drop 6).take 3) = true := by decide +kernel
theorem kX9_matchesBest : zchkT yX9_matchesBest.cls cX9_matchesBest 7 (decide (yX9_matchesBest.name = "<init>")) (some .int) 6 146 tX9_matchesBest = true := zT_all (G := 3) (n := 3) (by decide +kernel) (fun g hg => by
  match g, hg with
  | 0, _ => exact kX9_matchesBest_0
  | 1, _ => exact kX9_matchesBest_3
  | 2, _ => exact kX9_matchesBest_6
  | g + 3, hg => exact absurd hg (by omega))
theorem rX9_matchesBest : zchkM (tX9_matchesBest, 7, yX9_matchesBest, cX9_matchesBest, some .int, 6, 146, [804, 55, 803, 24]) = true := zchkM_of kX9_matchesBest (by decide +kernel)
theorem kX9_matchAll_0 : zchkT yX9_matchAll.cls cX9_matchAll 2 (decide (yX9_matchAll.name = "<init>")) (some .int) 7 172 ((tX9_matchAll.drop 0).take 3) = true := by decide +kernel
theorem kX9_matchAll : zchkT yX9_matchAll.cls cX9_matchAll 2 (decide (yX9_matchAll.name = "<init>")) (some .int) 7 172 tX9_matchAll = true := zT_all (G := 3) (n := 1) (by decide +kernel) (fun g hg => by
  match g, hg with
  | 0, _ => exact kX9_matchAll_0
  | g + 1, hg => exact absurd hg (by omega))
theorem rX9_matchAll : zchkM (tX9_matchAll, 2, yX9_matchAll, cX9_matchAll, some .int, 7, 172, [800, 55, 798, 799]) = true := zchkM_of kX9_matchAll (by decide +kernel)
theorem kX9_bagGoes_0 : zchkT yX9_bagGoes.cls cX9_bagGoes 3 (decide (yX9_bagGoes.name = "<init>")) (none) 1 22 ((tX9_bagGoes.drop 0).take 3) = true := by decide +kernel
theorem kX9_bagGoes : zchkT yX9_bagGoes.cls cX9_bagGoes 3 (decide (yX9_bagGoes.name = "<init>")) (none) 1 22 tX9_bagGoes = true := zT_all (G := 3) (n := 1) (by decide +kernel) (fun g hg => by
  match g, hg with
  | 0, _ => exact kX9_bagGoes_0
  | g + 1, hg => exact absurd hg (by omega))
theorem rX9_bagGoes : zchkM (tX9_bagGoes, 3, yX9_bagGoes, cX9_bagGoes, none, 1, 22, [824, 55, 823, 28]) = true := zchkM_of kX9_bagGoes (by decide +kernel)
theorem kX9_claimGoes_0 : zchkT yX9_claimGoes.cls cX9_claimGoes 3 (decide (yX9_claimGoes.name = "<init>")) (none) 1 22 ((tX9_claimGoes.drop 0).take 3) = true := by decide +kernel
theorem kX9_claimGoes : zchkT yX9_claimGoes.cls cX9_claimGoes 3 (decide (yX9_claimGoes.name = "<init>")) (none) 1 22 tX9_claimGoes = true := zT_all (G := 3) (n := 1) (by decide +kernel) (fun g hg => by
  match g, hg with
  | 0, _ => exact kX9_claimGoes_0
  | g + 1, hg => exact absurd hg (by omega))
theorem rX9_claimGoes : zchkM (tX9_claimGoes, 3, yX9_claimGoes, cX9_claimGoes, none, 1, 22, [828, 55, 827, 29]) = true := zchkM_of kX9_claimGoes (by decide +kernel)
theorem kX9_forDelivery_0 : zchkT yX9_forDelivery.cls cX9_forDelivery 4 (decide (yX9_forDelivery.name = "<init>")) (some .int) 1 22 ((tX9_forDelivery.drop 0).take 3) = true := by decide +kernel
theorem kX9_forDelivery : zchkT yX9_forDelivery.cls cX9_forDelivery 4 (decide (yX9_forDelivery.name = "<init>")) (some .int) 1 22 tX9_forDelivery = true := zT_all (G := 3) (n := 1) (by decide +kernel) (fun g hg => by
  match g, hg with
  | 0, _ => exact kX9_forDelivery_0
  | g + 1, hg => exact absurd hg (by omega))
theorem rX9_forDelivery : zchkM (tX9_forDelivery, 4, yX9_forDelivery, cX9_forDelivery, some .int, 1, 22, [820, 55, 819, 27]) = true := zchkM_of kX9_forDelivery (by decide +kernel)
theorem kX9_forGivingUp_0 : zchkT yX9_forGivingUp.cls cX9_forGivingUp 4 (decide (yX9_forGivingUp.name = "<init>")) (some .int) 1 22 ((tX9_forGivingUp.drop 0).take 3) = true := by decide +kernel
