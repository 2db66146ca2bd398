/-! the reference's questions -/
section QU9
variable {M : Me} {h : Ml} {V : Nat → Int} {nb nc t : Nat}
theorem MS.at0 (hS : MS M 0 V nb nc t) : ∀ j, j < 214 → M 75 j = V j := fun j hj => by have := hS.2.2.1 j hj; rw [Nat.zero_add] at this; exact this
theorem m9_matches (hS : MS M 0 V nb nc t) : Wp zS0 tX9_matches none 0 [zr 74, zn, zn] [] M h (Ri (rMatched V nc) M h) := by
  have hV := hS.at0
  have hW := hS.2.2.2
  have hnc := hW.1.2.2.2
  have e12 : M 75 12 = (nc : Int) := (hV 12 (by omega)).trans hW.1.2.1
  have loop : ∀ d r : Nat, r + d = nc → Wp zS0 tX9_matches none 4 [zr 74, zi (rMatched V r), zi r] [] M h (Ri (rMatched V nc) M h) := by
    intro d
    induction d with
    | zero =>
      intro r hr
      have e : r = nc := by omega
      subst e
      refine Wp.g1 rfl ?_
      refine Wp.ld rfl rfl 12 rfl (by omega) ?_
      rw [e12]
      refine Wp.brt rfl (Int.le_refl _) ?_
      refine Wp.g1 rfl ?_
      exact Wp.rei rfl rfl rfl rfl
    | succ d ih =>
      intro r hr
      have hb := sumI_bd (f := fun r => if V (114 + 10 * r + 9) = 0 then 0 else 1) r (fun j _ => by split <;> omega)
      have hb : 0 ≤ rMatched V r ∧ rMatched V r ≤ r := hb
      have next := ih (r + 1) (by omega)
      have e : rMatched V (r + 1) = rMatched V r + (if V (114 + 10 * r + 9) = 0 then 0 else 1) := rfl
      rw [e] at next
      refine Wp.g1 rfl ?_
      refine Wp.ld rfl rfl 12 rfl (by omega) ?_
      rw [e12]
      refine Wp.brf rfl (by omega) ?_
      refine Wp.g1 rfl ?_
      refine Wp.calli rfl (m9_isFreeClaim hS r (by omega)) ?_
      by_cases g : V (114 + 10 * r + 9) = 0
      · rw [if_pos g] at next
        rw [if_pos g]
        refine Wp.brf rfl (by decide) ?_
        refine Wp.gt 4 rfl ?_
        rw [w32_s (n := r) (by omega), w32_id (x := rMatched V r + 0) ⟨by omega, by omega⟩]
        exact next
      · rw [if_neg g] at next
        rw [if_neg g]
        refine Wp.brt rfl rfl ?_
        refine Wp.gt 4 rfl ?_
        rw [w32_s (n := r) (by omega), w32_id (x := rMatched V r + 1) ⟨by omega, by omega⟩]
        exact next
  refine Wp.gt 4 rfl ?_
  exact loop nc 0 (by omega)
theorem m9_number (hS : MS M 0 V nb nc t) (x : Int) (hx : 0 ≤ x ∧ x ≤ 7) : Wp zS0 tX9_number none 0 [zr 74, zi x] [] M h (Ri (rCount V nb nc x) M h) := by
  have hV := hS.at0
  have hW := hS.2.2.2
  rcases (show x = 0 ∨ x = 1 ∨ x = 2 ∨ x = 3 ∨ x = 4 ∨ x = 5 ∨ x = 6 ∨ x = 7 by omega) with e | e | e | e | e | e | e | e <;> subst e <;> refine Wp.g1 rfl ?_
  · refine Wp.sw rfl ?_
    refine Wp.g1 rfl ?_
    refine Wp.ld rfl rfl 0 rfl (by omega) ?_
    exact Wp.rei rfl (hV 0 (by omega)) rfl rfl
  · refine Wp.sw rfl ?_
    refine Wp.g1 rfl ?_
    refine Wp.ld rfl rfl 10 rfl (by omega) ?_
    exact Wp.rei rfl ((hV 10 (by omega)).trans hW.1.1) rfl rfl
  · refine Wp.sw rfl ?_
    refine Wp.g1 rfl ?_
    refine Wp.ld rfl rfl 12 rfl (by omega) ?_
    exact Wp.rei rfl ((hV 12 (by omega)).trans hW.1.2.1) rfl rfl
  · refine Wp.sw rfl ?_
    refine Wp.g1 rfl ?_
    refine Wp.calli rfl (m9_matches hS) ?_
    exact Wp.rei rfl rfl rfl rfl
  · refine Wp.swo rfl (by decide) ?_
    refine Wp.g1 rfl ?_
    rw [show w32 (w32 (14 + 4) - 4) = ((14 : Nat) : Int) from by decide]
    refine Wp.ld rfl rfl 14 rfl (by omega) ?_
    exact Wp.rei rfl (hV 14 (by omega)) rfl rfl
  · refine Wp.swo rfl (by decide) ?_
    refine Wp.g1 rfl ?_
    rw [show w32 (w32 (14 + 5) - 4) = ((15 : Nat) : Int) from by decide]
    refine Wp.ld rfl rfl 15 rfl (by omega) ?_
    exact Wp.rei rfl (hV 15 (by omega)) rfl rfl
  · refine Wp.swo rfl (by decide) ?_
    refine Wp.g1 rfl ?_
    rw [show w32 (w32 (14 + 6) - 4) = ((16 : Nat) : Int) from by decide]
    refine Wp.ld rfl rfl 16 rfl (by omega) ?_
    exact Wp.rei rfl (hV 16 (by omega)) rfl rfl
  · refine Wp.swo rfl (by decide) ?_
    refine Wp.g1 rfl ?_
    rw [show w32 (w32 (14 + 7) - 4) = ((17 : Nat) : Int) from by decide]
    refine Wp.ld rfl rfl 17 rfl (by omega) ?_
    exact Wp.rei rfl (hV 17 (by omega)) rfl rfl
theorem m9_count (hS : MS M 0 V nb nc t) (x : Int) : Wp zS0 tX9_count none 0 [zr 74, zi x] [] M h (Ri (rCount V nb nc x) M h) := by
  refine Wp.g1 rfl ?_
  refine Wp.calli rfl (m9_in x 0 7 M h) ?_
  by_cases hx : 0 ≤ x ∧ x ≤ 7
  · rw [if_pos hx]
    refine Wp.brf rfl (by decide) ?_
    refine Wp.g1 rfl ?_
    refine Wp.calli rfl (m9_number hS x hx) ?_
    refine Wp.g1 rfl ?_
    exact Wp.rei rfl rfl rfl rfl
  · rw [if_neg hx]
    refine Wp.brt rfl rfl ?_
    refine Wp.g1 rfl ?_
    refine Wp.rei rfl ?_ rfl rfl
    unfold rCount
    repeat rw [if_neg (by omega)]
theorem m9_ofBag (hS : MS M 0 V nb nc t) {r k : Nat} (hr : r < nb) (hk : k < 8) : Wp zS0 tX9_ofBag none 0 [zr 74, zi r, zi k] [] M h (Ri (if k = 7 then cw V nc r else V (18 + 8 * r + 1 + k)) M h) := by
  have hV := hS.at0
  have hnb := hS.2.2.2.1.2.2.1
  refine Wp.g1 rfl ?_
  by_cases g : k = 7
  · rw [if_pos g]
    refine Wp.brf rfl (by omega) ?_
    refine Wp.g1 rfl ?_
    refine Wp.calli rfl (m9_claimWith hS r (by omega)) ?_
    refine Wp.g1 rfl ?_
    exact Wp.rei rfl rfl rfl rfl
  · rw [if_neg g]
    refine Wp.brt rfl (by omega) ?_
    refine Wp.g1 rfl ?_
    refine Wp.calli rfl (m9_bag0 r (by omega) M h) ?_
    refine Wp.g1 rfl ?_
    rw [w32_s (n := 18 + 8 * r) (by omega), w32_n (n := 18 + 8 * r + 1 + k) (by omega) (by omega)]
    refine Wp.ld rfl rfl (18 + 8 * r + 1 + k) rfl (by omega) ?_
    exact Wp.rei rfl (hV _ (by omega)) rfl rfl
theorem m9_ofClaim (hS : MS M 0 V nb nc t) {r k : Nat} (hr : r < nc) (hk : k < 9) : Wp zS0 tX9_ofClaim none 0 [zr 74, zi r, zi k] [] M h (Ri (if k = 8 then pt V r else V (114 + 10 * r + 1 + k)) M h) := by
  have hV := hS.at0
  have hnc := hS.2.2.2.1.2.2.2
  have rest : ∀ x : Int, x = V (114 + 10 * r + 1 + k) → Wp zS0 tX9_ofClaim none 21 [zr 74, zi r, zi k] [] M h (Ri x M h) := by
    intro x hx
    refine Wp.g1 rfl ?_
    refine Wp.calli rfl (m9_claim0 r (by omega) M h) ?_
    refine Wp.g1 rfl ?_
    rw [w32_s (n := 114 + 10 * r) (by omega), w32_n (n := 114 + 10 * r + 1 + k) (by omega) (by omega)]
    refine Wp.ld rfl rfl (114 + 10 * r + 1 + k) rfl (by omega) ?_
    exact Wp.rei rfl ((hV _ (by omega)).trans hx.symm) rfl rfl
  refine Wp.g1 rfl ?_
  by_cases g : k = 8
  · rw [if_pos g]
    refine Wp.brf rfl (by omega) ?_
    refine Wp.g1 rfl ?_
    refine Wp.calli rfl (m9_isFreeClaim hS r (by omega)) ?_
    unfold pt
    by_cases g2 : V (114 + 10 * r + 9) = 0
    · rw [if_pos g2, if_pos g2]
      refine Wp.brf rfl (by decide) ?_
      refine Wp.g1 rfl ?_
      exact Wp.rei rfl rfl rfl rfl
    · rw [if_neg g2, if_neg g2]
      refine Wp.brt rfl rfl ?_
      exact rest _ (by subst g; rfl)
  · rw [if_neg g]
    refine Wp.brt rfl (by omega) ?_
    exact rest _ rfl
theorem m9_bag (hS : MS M 0 V nb nc t) (x y : Int) : Wp zS0 tX9_bag none 0 [zr 74, zi x, zi y, zn] [] M h (Ri (rBag V nb nc x y) M h) := by
  unfold rBag
  refine Wp.g1 rfl ?_
  refine Wp.calli rfl (m9_bagOf hS x) ?_
  refine Wp.g1 rfl ?_
  by_cases gb : rkB V nb x < nb
  · rw [if_pos gb, if_pos gb]
    refine Wp.brt rfl (by omega) ?_
    refine Wp.g1 rfl ?_
    refine Wp.calli rfl (m9_in y 0 7 M h) ?_
    by_cases gy : y < 0 ∨ 7 < y
    · rw [if_neg (c := 0 ≤ y ∧ y ≤ 7) (by omega), if_pos gy]
      refine Wp.brt rfl rfl ?_
      refine Wp.g1 rfl ?_
      exact Wp.rei rfl rfl rfl rfl
    · rw [if_pos (c := 0 ≤ y ∧ y ≤ 7) (by omega), if_neg gy]
      obtain ⟨k, rfl⟩ := Int.eq_ofNat_of_zero_le (show 0 ≤ y by omega)
      refine Wp.brf rfl (by decide) ?_
      refine Wp.g1 rfl ?_
      refine Wp.calli rfl (m9_ofBag hS gb (k := k) (by omega)) ?_
      refine Wp.g1 rfl ?_
      refine Wp.rei rfl ?_ rfl rfl
      rw [Int.toNat_natCast]
      by_cases g7 : k = 7
      · rw [if_pos g7, if_pos (by omega)]
      · rw [if_neg g7, if_neg (by omega)]
  · rw [if_neg gb, if_neg gb]
    refine Wp.brf rfl (by decide) ?_
    refine Wp.g1 rfl ?_
    exact Wp.rei rfl rfl rfl rfl
theorem m9_claimOf (hS : MS M 0 V nb nc t) (x y : Int) : Wp zS0 tX9_claimOf none 0 [zr 74, zi x, zi y, zn] [] M h (Ri (rClaimOf V nc x y) M h) := by
  unfold rClaimOf
  refine Wp.g1 rfl ?_
  refine Wp.calli rfl (m9_rankOf hS x) ?_
  refine Wp.g1 rfl ?_
  by_cases gb : rkC V nc x < nc
  · rw [if_pos gb, if_pos gb]
    refine Wp.brt rfl (by omega) ?_
    refine Wp.g1 rfl ?_
    refine Wp.calli rfl (m9_in y 0 8 M h) ?_
    by_cases gy : y < 0 ∨ 8 < y
    · rw [if_neg (c := 0 ≤ y ∧ y ≤ 8) (by omega), if_pos gy]
      refine Wp.brt rfl rfl ?_
      refine Wp.g1 rfl ?_
      exact Wp.rei rfl rfl rfl rfl
    · rw [if_pos (c := 0 ≤ y ∧ y ≤ 8) (by omega), if_neg gy]
      obtain ⟨k, rfl⟩ := Int.eq_ofNat_of_zero_le (show 0 ≤ y by omega)
      refine Wp.brf rfl (by decide) ?_
      refine Wp.g1 rfl ?_
      refine Wp.calli rfl (m9_ofClaim hS gb (k := k) (by omega)) ?_
      refine Wp.g1 rfl ?_
      refine Wp.rei rfl ?_ rfl rfl
      rw [Int.toNat_natCast]
      by_cases g7 : k = 8
      · rw [if_pos g7, if_pos (by omega)]
      · rw [if_neg g7, if_neg (by omega)]
  · rw [if_neg gb, if_neg gb]
    refine Wp.brf rfl (by decide) ?_
    refine Wp.g1 rfl ?_
    exact Wp.rei rfl rfl rfl rfl
theorem m9_score (hS : MS M 0 V nb nc t) (x y z : Int) : Wp zS0 tX9_score none 0 [zr 74, zi x, zi y, zi z, zn, zn] [] M h (Ri (rScore V nb nc x y z) M h) := by
  have hnb := hS.2.2.2.1.2.2.1
  have hnc := hS.2.2.2.1.2.2.2
  unfold rScore
  refine Wp.g1 rfl ?_
  refine Wp.calli rfl (m9_rankOf hS x) ?_
  refine Wp.g1 rfl ?_
  refine Wp.calli rfl (m9_bagOf hS y) ?_
  refine Wp.g1 rfl ?_
  by_cases gc : rkC V nc x < nc
  · rw [if_pos (c := rkC V nc x < nc) gc]
    refine Wp.brf rfl (by omega) ?_
    refine Wp.g1 rfl ?_
    by_cases gb : rkB V nb y < nb
    · rw [if_pos (c := rkB V nb y < nb) gb, if_pos ⟨gc, gb⟩]
      refine Wp.brt rfl (by omega) ?_
      refine Wp.g1 rfl ?_
      refine Wp.calli rfl (m9_in z 0 6 M h) ?_
      by_cases gz : z < 0 ∨ 6 < z
      · rw [if_neg (c := 0 ≤ z ∧ z ≤ 6) (by omega), if_pos gz]
        refine Wp.brt rfl rfl ?_
        refine Wp.g1 rfl ?_
        exact Wp.rei rfl rfl rfl rfl
      · rw [if_pos (c := 0 ≤ z ∧ z ≤ 6) (by omega), if_neg gz]
        obtain ⟨k, rfl⟩ := Int.eq_ofNat_of_zero_le (show 0 ≤ z by omega)
        refine Wp.brf rfl (by decide) ?_
        refine Wp.g1 rfl ?_
        refine Wp.calli rfl (m9_claim0 _ (by omega) M h) ?_
        refine Wp.g1 rfl ?_
        refine Wp.calli rfl (m9_bag0 _ (by omega) M h) ?_
        refine Wp.g1 rfl ?_
        refine Wp.calli rfl (m9_scoreOf hS gc gb (by omega) (by omega) k (by omega)) ?_
        refine Wp.g1 rfl ?_
        exact Wp.rei rfl rfl rfl rfl
    · rw [if_neg (c := rkB V nb y < nb) gb, if_neg (fun q => gb q.2)]
      refine Wp.brf rfl (by decide) ?_
      refine Wp.g1 rfl ?_
      exact Wp.rei rfl rfl rfl rfl
  · rw [if_neg (c := rkC V nc x < nc) gc, if_neg (c := rkC V nc x < nc ∧ rkB V nb y < nb) (fun q => gc q.1)]
    refine Wp.brt rfl rfl ?_
    refine Wp.g1 rfl ?_
    exact Wp.rei rfl rfl rfl rfl
theorem m9_sameDigits (hS : MS M 0 V nb nc t) (x y : Int) : Wp zS0 tX9_sameDigits none 0 [zr 74, zi x, zi y, zn, zn] [] M h (Ri (rSame V nb nc x y) M h) := by
  have hnb := hS.2.2.2.1.2.2.1
  have hnc := hS.2.2.2.1.2.2.2
  unfold rSame
  refine Wp.g1 rfl ?_
  refine Wp.calli rfl (m9_rankOf hS x) ?_
  refine Wp.g1 rfl ?_
  refine Wp.calli rfl (m9_bagOf hS y) ?_
  refine Wp.g1 rfl ?_
  by_cases gc : rkC V nc x < nc
  · rw [if_pos (c := rkC V nc x < nc) gc]
    refine Wp.brf rfl (by omega) ?_
    refine Wp.g1 rfl ?_
    by_cases gb : rkB V nb y < nb
    · rw [if_pos (c := rkB V nb y < nb) gb, if_pos ⟨gc, gb⟩]
      refine Wp.brt rfl (by omega) ?_
      refine Wp.g1 rfl ?_
      refine Wp.calli rfl (m9_claim0 _ (by omega) M h) ?_
      refine Wp.g1 rfl ?_
      refine Wp.calli rfl (m9_bag0 _ (by omega) M h) ?_
      refine Wp.calli rfl (m9_same hS gc gb (by omega) (by omega)) ?_
      exact Wp.rei rfl rfl rfl rfl
    · rw [if_neg (c := rkB V nb y < nb) gb, if_neg (fun q => gb q.2)]
      refine Wp.brf rfl (by decide) ?_
      refine Wp.g1 rfl ?_
      exact Wp.rei rfl rfl rfl rfl
  · rw [if_neg (c := rkC V nc x < nc) gc, if_neg (c := rkC V nc x < nc ∧ rkB V nb y < nb) (fun q => gc q.1)]
    refine Wp.brt rfl rfl ?_
    refine Wp.g1 rfl ?_
    exact Wp.rei rfl rfl rfl rfl
theorem scN_bd {c b : Nat} (hW : WF V nb nc t) (hc : c < nc) (hb : b < nb) (i : Nat) : scN V c b i = -10006 ∨ (-9600 ≤ scN V c b i ∧ scN V c b i ≤ 9600) := by
  unfold scN
  by_cases g : V (18 + 8 * b + 7) < V (114 + 10 * c + 8)
  · rw [if_pos g]; exact Or.inl rfl
  · rw [if_neg g]; exact Or.inr (scI_bd hW hc hb (by omega) i)
theorem m9_thresholdFor (hS : MS M 0 V nb nc t) (x y : Int) : Wp zS0 tX9_thresholdFor none 0 [zr 74, zi x, zi y, zn] [] M h (Ri (rThreshold V nb nc x y) M h) := by
  have ks := m9_score (h := h) hS x y 0
  unfold rScore at ks
  unfold rThreshold
  refine Wp.g1 rfl ?_
  refine Wp.calli rfl ks ?_
  refine Wp.g1 rfl ?_
  by_cases g : rkC V nc x < nc ∧ rkB V nb y < nb
  · rw [if_pos g, if_pos g, if_neg (c := (0 : Int) < 0 ∨ (6 : Int) < 0) (by decide), show (0 : Int).toNat = 0 from rfl]
    have bd := scN_bd hS.2.2.2 g.1 g.2 0
    generalize scN V (rkC V nc x) (rkB V nb y) 0 = s at bd
    refine Wp.brt rfl (by omega) ?_
    refine Wp.g1 rfl ?_
    by_cases g2 : s < 0
    · rw [if_pos g2]
      refine Wp.brf rfl (by omega) ?_
      refine Wp.g1 rfl ?_
      exact Wp.rei rfl rfl rfl rfl
    · rw [if_neg g2]
      refine Wp.brt rfl (by omega) ?_
      refine Wp.g1 rfl ?_
      refine Wp.calli rfl (m9_less _ _ M h) ?_
      exact Wp.rei rfl rfl rfl rfl
  · rw [if_neg g, if_neg g]
    refine Wp.brf rfl (by decide) ?_
    refine Wp.g1 rfl ?_
    exact Wp.rei rfl rfl rfl rfl
theorem m9_ifEnded (hS : MS M 0 V nb nc t) (x d w : Int) : Wp zS0 tX9_ifEnded none 0 [zr 74, zi x, zi d, zi w, zn] [] M h (Ri (rIfEnded V nc x d w) M h) := by
  have h0 := hS.2.2.2.2.1.1
  unfold rIfEnded
  refine Wp.g1 rfl ?_
  refine Wp.calli rfl (m9_rankOf hS x) ?_
  refine Wp.g1 rfl ?_
  by_cases gc : rkC V nc x < nc
  · rw [if_pos (c := rkC V nc x < nc) gc, if_pos (c := rkC V nc x < nc) gc]
    refine Wp.brt rfl (by omega) ?_
    refine Wp.g1 rfl ?_
    refine Wp.calli rfl (m9_in d 0 400 M h) ?_
    by_cases gd : d < 0 ∨ 400 < d
    · rw [if_neg (c := 0 ≤ d ∧ d ≤ 400) (by omega), if_pos (Or.inl gd)]
      refine Wp.brt rfl rfl ?_
      refine Wp.g1 rfl ?_
      exact Wp.rei rfl rfl rfl rfl
    rw [if_pos (c := 0 ≤ d ∧ d ≤ 400) (by omega)]
    refine Wp.brf rfl (by decide) ?_
    refine Wp.g1 rfl ?_
    refine Wp.calli rfl (m9_in w 0 1 M h) ?_
    by_cases gw : w < 0 ∨ 1 < w
    · rw [if_neg (c := 0 ≤ w ∧ w ≤ 1) (by omega), if_pos (Or.inr gw)]
      refine Wp.brf rfl (fun q => q rfl) ?_
      refine Wp.g1 rfl ?_
      exact Wp.rei rfl rfl rfl rfl
    rw [if_pos (c := 0 ≤ w ∧ w ≤ 1) (by omega), if_neg (fun q => q.elim gd gw)]
    refine Wp.brt rfl (by decide) ?_
    refine Wp.g1 rfl ?_
    by_cases g0 : w = 0
    · rw [if_pos g0]
      refine Wp.brf rfl (fun q => q g0) ?_
      refine Wp.g1 rfl ?_
      refine Wp.ld rfl rfl 0 rfl (by omega) ?_
      rw [hS.at0 0 (by omega)]
      refine Wp.g1 rfl ?_
      rw [w32_id (x := V 0 + d) ⟨by omega, by omega⟩]
      refine Wp.calli rfl (m9_forDelivery hS gc (V 0 + d) ⟨by omega, by omega⟩) ?_
      refine Wp.g1 rfl ?_
      exact Wp.rei rfl rfl rfl rfl
    · rw [if_neg g0]
      refine Wp.brt rfl g0 ?_
      refine Wp.g1 rfl ?_
      refine Wp.calli rfl (m9_forGivingUp hS gc) ?_
      exact Wp.rei rfl rfl rfl rfl
  · rw [if_neg (c := rkC V nc x < nc) gc, if_neg (c := rkC V nc x < nc) gc]
    refine Wp.brf rfl (by decide) ?_
    refine Wp.g1 rfl ?_
    exact Wp.rei rfl rfl rfl rfl
theorem lkG_alt (hW : WF V nb nc t) {c b : Nat} (hb : b < nb) : (lkG V nb nc c b ≠ -1 ∧ cw V nc b = -10006 ∧ V 1 ≤ scN V c b 0 ∧ lkG V nb nc c b = scN V c b 0 ∧ 0 ≤ scN V c b 0) ∨ (lkG V nb nc c b = -1 ∧ (cw V nc b = -10006 → scN V c b 0 < V 1)) := by
  have hth := hW.2.1.2.1
  unfold lkG scN
  by_cases g : V (18 + 8 * b + 7) < V (114 + 10 * c + 8)
  · rw [if_pos g, if_neg (by omega)]
    exact Or.inr ⟨rfl, fun _ => by omega⟩
  · rw [if_neg g]
    by_cases g2 : b < nb ∧ cw V nc b = -10006 ∧ V (114 + 10 * c + 8) ≤ V (18 + 8 * b + 7) ∧ V 1 ≤ scI V c b 0
    · rw [if_pos g2]
      exact Or.inl ⟨by omega, g2.2.1, g2.2.2.2, rfl, by omega⟩
    · rw [if_neg g2]
      refine Or.inr ⟨rfl, fun q => ?_⟩
      refine Int.not_le.mp (fun r => g2 ⟨hb, q, by omega, r⟩)
theorem m9_isSuggested (hS : MS M 0 V nb nc t) {c b : Nat} (hc : c < nc) (hb : b < nb) : Wp zS0 tX9_isSuggested none 0 [zr 74, zi c, zi b] [] M h (Ri (if lkG V nb nc c b = -1 then 0 else 1) M h) := by
  have hW := hS.2.2.2
  have hnb := hW.1.2.2.1
  have hnc := hW.1.2.2.2
  refine Wp.g1 rfl ?_
  refine Wp.calli rfl (m9_claimWith hS b (by omega)) ?_
  refine Wp.g1 rfl ?_
  by_cases g1 : cw V nc b = -10006
  · refine Wp.brf rfl (fun q => q g1) ?_
    refine Wp.g1 rfl ?_
    refine Wp.calli rfl (m9_claim0 c (by omega) M h) ?_
    refine Wp.g1 rfl ?_
    refine Wp.calli rfl (m9_bag0 b (by omega) M h) ?_
    refine Wp.calli rfl (m9_isLikely hS hc hb (by omega) (by omega)) ?_
    rcases lkG_alt hW (c := c) hb with ⟨k1, k2, k3, k4, k5⟩ | ⟨k1, k2⟩
    · rw [if_pos k3, if_neg k1]
      refine Wp.brf rfl (by decide) ?_
      refine Wp.g1 rfl ?_
      exact Wp.rei rfl rfl rfl rfl
    · have k2 := k2 g1
      rw [if_neg (by omega), if_pos k1]
      refine Wp.brt rfl rfl ?_
      refine Wp.g1 rfl ?_
      exact Wp.rei rfl rfl rfl rfl
  · refine Wp.brt rfl g1 ?_
    refine Wp.g1 rfl ?_
    rcases lkG_alt hW (c := c) hb with ⟨k1, k2, k3, k4, k5⟩ | ⟨k1, k2⟩
    · exact absurd k2 g1
    · exact Wp.rei rfl (by rw [if_pos k1]) rfl rfl
/-- how many suggested bags stand ahead of b, as the reference counts -/
def ahM (l s : Nat → Int) (b n : Nat) : Int := sumI (fun q => if l q ≠ -1 ∧ (0 < s q - s b ∨ (s q - s b = 0 ∧ q < b)) then 1 else 0) n
theorem ahM_bet (hW : WF V nb nc t) {c b : Nat} (hb : b < nb) (hl : lkG V nb nc c b ≠ -1) : ahM (lkG V nb nc c) (fun q => scN V c q 0) b nb = bet (lkG V nb nc c) b 12 := by
  have hnb := hW.1.2.2.1
  unfold ahM bet
  rcases lkG_alt hW (c := c) hb with ⟨-, -, -, e4, e5⟩ | ⟨q, -⟩
  rotate_left
  · exact absurd q hl
  rw [show 12 = nb + (12 - nb) by omega, sumI_tail (12 - nb) (fun j h1 h2 => ?_)]
  · refine sumI_congr nb (fun q hq => ?_)
    rcases lkG_alt hW (c := c) hq with ⟨k1, k2, k3, k4, k5⟩ | ⟨k1, k2⟩
    · rw [k4, e4]
      by_cases g : 0 < scN V c q 0 - scN V c b 0 ∨ (scN V c q 0 - scN V c b 0 = 0 ∧ q < b)
      · rw [if_pos g, if_pos ⟨by omega, g⟩]
      · rw [if_neg g, if_neg (fun q => g q.2)]
    · rw [if_neg (fun q => q.1 k1), if_neg (by omega)]
  · have : lkG V nb nc c j = -1 := by
      unfold lkG
      rw [if_neg (by omega)]
    rw [this, if_neg (by omega)]
theorem m9_suggest (hS : MS M 0 V nb nc t) (x y : Int) : Wp zS0 tX9_suggest none 0 [zr 74, zi x, zi y, zn, zn, zn, zn, zn, zn] [] M h (Ri (rSuggest V nb nc x y) M h) := by
  have hW := hS.2.2.2
  have hnb := hW.1.2.2.1
  have hnc := hW.1.2.2.2
  have e10 : M 75 10 = (nb : Int) := (hS.at0 10 (by omega)).trans hW.1.1
  unfold rSuggest
  refine Wp.g1 rfl ?_
  refine Wp.calli rfl (m9_rankOf hS x) ?_
  by_cases gc : rkC V nc x < nc
  rotate_left
  · rw [if_neg (c := rkC V nc x < nc) gc, if_neg (c := rkC V nc x < nc) gc]
    refine Wp.g1 rfl ?_
    refine Wp.brt rfl rfl ?_
    refine Wp.g1 rfl ?_
    exact Wp.rei rfl rfl rfl rfl
  rw [if_pos (c := rkC V nc x < nc) gc, if_pos (c := rkC V nc x < nc) gc]
  generalize rkC V nc x = c at gc
  have outer : ∀ d b : Nat, b + d = nb → (∀ j, j < b → ¬ (lkG V nb nc c j ≠ -1 ∧ bet (lkG V nb nc c) j 12 = y)) → ∀ (l5 l6 l7 l8 : ZV),
      Wp zS0 tX9_suggest none 9 [zr 74, zi x, zi y, zi c, zi b, l5, l6, l7, l8] [] M h (Ri (if sgF (lkG V nb nc c) y 12 < 12 then V (18 + 8 * sgF (lkG V nb nc c) y 12) else -10001) M h) := by
    intro d
    induction d with
    | zero =>
      intro b hb hj l5 l6 l7 l8
      have e : sgF (lkG V nb nc c) y 12 = 12 := by
        refine fnd_none (fun j h1 => ?_)
        rw [if_neg]
        · decide
        · by_cases g : j < b
          · exact hj j g
          · intro q
            refine q.1 ?_
            unfold lkG
            rw [if_neg (by omega)]
      rw [e, if_neg (by decide)]
      refine Wp.g1 rfl ?_
      refine Wp.brf rfl (by omega) ?_
      refine Wp.g1 rfl ?_
      refine Wp.ld rfl rfl 10 rfl (by omega) ?_
      rw [e10]
      refine Wp.brt rfl (by omega) ?_
      refine Wp.g1 rfl ?_
      exact Wp.rei rfl rfl rfl rfl
    | succ d ih =>
      intro b hb hj l5 l6 l7 l8
      have hb' : b < nb := by omega
      refine Wp.g1 rfl ?_
      refine Wp.brf rfl (by omega) ?_
      refine Wp.g1 rfl ?_
      refine Wp.ld rfl rfl 10 rfl (by omega) ?_
      rw [e10]
      refine Wp.brf rfl (by omega) ?_
      refine Wp.g1 rfl ?_
      refine Wp.calli rfl (m9_claim0 c (by omega) M h) ?_
      refine Wp.g1 rfl ?_
      refine Wp.calli rfl (m9_bag0 b (by omega) M h) ?_
      refine Wp.g1 rfl ?_
      refine Wp.calli rfl (m9_scoreOf hS gc hb' (by omega) (by omega) 0 (by omega)) ?_
      have bdb := scN_bd hW gc hb' 0
      have inner : ∀ e q : Nat, q + e = nb → ∀ l8 : ZV, Wp zS0 tX9_suggest none 54 [zr 74, zi x, zi y, zi c, zi b, zi (scN V c b 0), zi (ahM (lkG V nb nc c) (fun q => scN V c q 0) b q), zi q, l8] [] M h (Ri (if sgF (lkG V nb nc c) y 12 < 12 then V (18 + 8 * sgF (lkG V nb nc c) y 12) else -10001) M h) := by
        intro e
        induction e with
        | zero =>
          intro q hq l8
          have eq : q = nb := by omega
          subst eq
          refine Wp.g1 rfl ?_
          refine Wp.ld rfl rfl 10 rfl (by omega) ?_
          rw [e10]
          refine Wp.brt rfl (Int.le_refl _) ?_
          refine Wp.g1 rfl ?_
          refine Wp.calli rfl (m9_isSuggested hS gc hb') ?_
          by_cases g : lkG V q nc c b = -1
          · rw [if_pos g]
            refine Wp.brt rfl rfl ?_
            refine Wp.gt 9 rfl ?_
            rw [w32_s (n := b) (by omega)]
            refine ih (b + 1) (by omega) (fun j h1 => ?_) _ _ _ _
            by_cases ej : j = b
            · subst ej; exact fun q => q.1 g
            · exact hj j (by omega)
          · rw [if_neg g]
            have ea := ahM_bet hW hb' g
            refine Wp.brf rfl (by decide) ?_
            refine Wp.g1 rfl ?_
            rw [ea]
            by_cases g2 : bet (lkG V q nc c) b 12 = y
            · refine Wp.brf rfl (fun q => q g2) ?_
              have es : sgF (lkG V q nc c) y 12 = b := by
                refine fnd_some (by omega) (if_pos ⟨g, g2⟩) (fun j h1 => ?_)
                rw [if_neg (hj j h1)]
                decide
              rw [es, if_pos (by omega)]
              refine Wp.g1 rfl ?_
              refine Wp.calli rfl (m9_bag0 b (by omega) M h) ?_
              refine Wp.ld rfl rfl (18 + 8 * b) rfl (by omega) ?_
              exact Wp.rei rfl (hS.at0 _ (by omega)) rfl rfl
            · refine Wp.brt rfl g2 ?_
              refine Wp.gt 9 rfl ?_
              rw [w32_s (n := b) (by omega)]
              refine ih (b + 1) (by omega) (fun j h1 => ?_) _ _ _ _
              by_cases ej : j = b
              · subst ej; exact fun q => g2 q.2
              · exact hj j (by omega)
        | succ e ihe =>
          intro q hq l8
          have hq' : q < nb := by omega
          have bdq := scN_bd hW gc hq' 0
          have next := ihe (q + 1) (by omega)
          have ea : ahM (lkG V nb nc c) (fun q => scN V c q 0) b (q + 1) = ahM (lkG V nb nc c) (fun q => scN V c q 0) b q + (if lkG V nb nc c q ≠ -1 ∧ (0 < scN V c q 0 - scN V c b 0 ∨ (scN V c q 0 - scN V c b 0 = 0 ∧ q < b)) then 1 else 0) := rfl
          have bda := sumI_bd (f := fun q => if lkG V nb nc c q ≠ -1 ∧ (0 < scN V c q 0 - scN V c b 0 ∨ (scN V c q 0 - scN V c b 0 = 0 ∧ q < b)) then 1 else 0) q (fun j _ => by split <;> omega)
          have bda : 0 ≤ ahM (lkG V nb nc c) (fun q => scN V c q 0) b q ∧ ahM (lkG V nb nc c) (fun q => scN V c q 0) b q ≤ q := bda
          rw [ea] at next
          generalize hA : ahM (lkG V nb nc c) (fun q => scN V c q 0) b q = A at next bda
          have adds : ∀ z : Int, (z = 0 ∨ z = 1) → (∀ l8 : ZV, Wp zS0 tX9_suggest none 54 [zr 74, zi x, zi y, zi c, zi b, zi (scN V c b 0), zi (A + z), zi ((q + 1 : Nat) : Int), l8] [] M h (Ri (if sgF (lkG V nb nc c) y 12 < 12 then V (18 + 8 * sgF (lkG V nb nc c) y 12) else -10001) M h)) → Wp zS0 tX9_suggest none 123 [zr 74, zi x, zi y, zi c, zi b, zi (scN V c b 0), zi A, zi q, zi (scN V c q 0 - scN V c b 0)] [zi z, zi A] M h (Ri (if sgF (lkG V nb nc c) y 12 < 12 then V (18 + 8 * sgF (lkG V nb nc c) y 12) else -10001) M h) := by
            intro z hz k
            refine Wp.gt 54 rfl ?_
            rw [w32_s (n := q) (by omega), w32_id (x := A + z) ⟨by omega, by omega⟩]
            exact k _
          refine Wp.g1 rfl ?_
          refine Wp.ld rfl rfl 10 rfl (by omega) ?_
          rw [e10]
          refine Wp.brf rfl (by omega) ?_
          refine Wp.g1 rfl ?_
          refine Wp.calli rfl (m9_claim0 c (by omega) M h) ?_
          refine Wp.g1 rfl ?_
          refine Wp.calli rfl (m9_bag0 q (by omega) M h) ?_
          refine Wp.g1 rfl ?_
          refine Wp.calli rfl (m9_scoreOf hS gc hq' (by omega) (by omega) 0 (by omega)) ?_
          refine Wp.g1 rfl ?_
          rw [w32_id (x := scN V c q 0 - scN V c b 0) ⟨by omega, by omega⟩]
          refine Wp.calli rfl (m9_isSuggested hS gc hq') ?_
          by_cases g : lkG V nb nc c q = -1
          · rw [if_neg (fun q => q.1 g)] at next
            rw [if_pos g]
            refine Wp.brt rfl rfl ?_
            refine Wp.gt 123 rfl ?_
            exact adds 0 (Or.inl rfl) next
          · rw [if_neg g]
            refine Wp.brf rfl (by decide) ?_
            refine Wp.g1 rfl ?_
            by_cases g1 : 0 < scN V c q 0 - scN V c b 0
            · rw [if_pos ⟨g, Or.inl g1⟩] at next
              refine Wp.brt rfl g1 ?_
              refine Wp.gt 123 rfl ?_
              exact adds 1 (Or.inr rfl) next
            · refine Wp.brf rfl g1 ?_
              refine Wp.g1 rfl ?_
              by_cases g2 : scN V c q 0 - scN V c b 0 = 0
              · refine Wp.brf rfl (fun q => q g2) ?_
                refine Wp.g1 rfl ?_
                by_cases g3 : q < b
                · rw [if_pos ⟨g, Or.inr ⟨g2, g3⟩⟩] at next
                  refine Wp.brf rfl (by omega) ?_
                  refine Wp.gt 123 rfl ?_
                  exact adds 1 (Or.inr rfl) next
                · rw [if_neg (fun q => q.2.elim g1 (fun q => g3 q.2))] at next
                  refine Wp.brt rfl (by omega) ?_
                  refine Wp.gt 123 rfl ?_
                  exact adds 0 (Or.inl rfl) next
              · rw [if_neg (fun q => q.2.elim g1 (fun q => g2 q.1))] at next
                refine Wp.brt rfl g2 ?_
                refine Wp.gt 123 rfl ?_
                exact adds 0 (Or.inl rfl) next
      refine Wp.gt 54 rfl ?_
      exact inner nb 0 (by omega) _
  refine Wp.gt 9 rfl ?_
  exact outer nb 0 (by omega) (fun j h1 => by omega) _ _ _ _
end QU9
