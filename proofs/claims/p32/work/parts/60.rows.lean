/-! the law asks bags and claims by their numbers: they stand in rows, by their numbers -/
def SB (V : Nat → Int) (nb : Nat) : Prop := ∀ r q, r < q → q < nb → V (18 + 8 * r) < V (18 + 8 * q)
def SC (V : Nat → Int) (nc : Nat) : Prop := ∀ r q, r < q → q < nc → V (114 + 10 * r) < V (114 + 10 * q)
section ROWS
variable {V : Nat → Int} {nb nc t : Nat}
theorem rkB_at (hW : WF V nb nc t) {r : Nat} (hr : r < nb) : rkB V nb (V (18 + 8 * r)) = r := fnd_some (f := fun r => V (18 + 8 * r)) hr rfl (fun j hj e => by
  have := hW.2.2.2.2.1 j r (by omega) hr e
  omega)
theorem rkC_at (hS : SC V nc) {r : Nat} (hr : r < nc) : rkC V nc (V (114 + 10 * r)) = r := fnd_some (f := fun r => V (114 + 10 * r)) hr rfl (fun j hj e => by
  have := hS j r hj hr
  omega)
theorem rkB_no {x : Int} (h : ∀ r, r < nb → V (18 + 8 * r) ≠ x) : rkB V nb x = nb := fnd_none (f := fun r => V (18 + 8 * r)) h
theorem rkC_no {x : Int} (h : ∀ r, r < nc → V (114 + 10 * r) ≠ x) : rkC V nc x = nc := fnd_none (f := fun r => V (114 + 10 * r)) h
/-- what calls answer of the bag in row r, the claim in row r -/
theorem bag_at (hW : WF V nb nc t) {r : Nat} (hr : r < nb) {y : Nat} (hy : y < 7) : rBag V nb nc (V (18 + 8 * r)) (y : Int) = V (18 + 8 * r + 1 + y) := by
  unfold rBag
  rw [rkB_at hW hr, if_pos hr, if_neg (by omega), if_neg (by omega), Int.toNat_natCast]
theorem bag_7 (hW : WF V nb nc t) {r : Nat} (hr : r < nb) : rBag V nb nc (V (18 + 8 * r)) 7 = cw V nc r := by
  unfold rBag
  rw [rkB_at hW hr, if_pos hr, if_neg (by omega), if_pos rfl]
theorem bag_no {x y : Int} (h : ∀ r, r < nb → V (18 + 8 * r) ≠ x) : rBag V nb nc x y = -10001 := by
  unfold rBag
  rw [rkB_no h, if_neg (Nat.lt_irrefl _)]
theorem claim_at (hS : SC V nc) {r : Nat} (hr : r < nc) {y : Nat} (hy : y < 8) : rClaimOf V nc (V (114 + 10 * r)) (y : Int) = V (114 + 10 * r + 1 + y) := by
  unfold rClaimOf
  rw [rkC_at hS hr, if_pos hr, if_neg (by omega), if_neg (by omega), Int.toNat_natCast]
theorem claim_8 (hS : SC V nc) {r : Nat} (hr : r < nc) : rClaimOf V nc (V (114 + 10 * r)) 8 = pt V r := by
  unfold rClaimOf
  rw [rkC_at hS hr, if_pos hr, if_neg (by omega), if_pos rfl]
theorem claim_no {x y : Int} (h : ∀ r, r < nc → V (114 + 10 * r) ≠ x) : rClaimOf V nc x y = -10001 := by
  unfold rClaimOf
  rw [rkC_no h, if_neg (Nat.lt_irrefl _)]
theorem score_at (hW : WF V nb nc t) (hS : SC V nc) {c b : Nat} (hc : c < nc) (hb : b < nb) {z : Nat} (hz : z < 7) : rScore V nb nc (V (114 + 10 * c)) (V (18 + 8 * b)) (z : Int) = scN V c b z := by
  unfold rScore
  rw [rkC_at hS hc, rkB_at hW hb, if_pos ⟨hc, hb⟩, if_neg (by omega), Int.toNat_natCast]
/-- a matched bag's claim -/
theorem cw_claim {r : Nat} (h : cw V nc r ≠ -10006) : ∃ c, c < nc ∧ cw V nc r = V (114 + 10 * c) ∧ V (114 + 10 * c + 9) = V (18 + 8 * r) := by
  unfold cw at h ⊢
  rcases fnd_spec (f := fun c => V (114 + 10 * c + 9)) (x := V (18 + 8 * r)) (n := nc) with ⟨h1, h2, h3⟩ | ⟨h1, h2⟩
  · rw [if_pos h1]
    exact ⟨_, h1, rfl, h2⟩
  · rw [if_neg (by omega)] at h
    exact absurd rfl h
theorem pt_val {r : Nat} (h : V (114 + 10 * r + 9) ≠ 0) : pt V r = V (114 + 10 * r + 9) := if_neg h
/-- a matched claim's bag: its row, and that it is matched with this claim -/
theorem pt_bag (hW : WF V nb nc t) {c : Nat} (hc : c < nc) (h0 : V (114 + 10 * c + 9) ≠ 0) : ∃ b, b < nb ∧ V (18 + 8 * b) = V (114 + 10 * c + 9) ∧ cw V nc b = V (114 + 10 * c) := by
  obtain ⟨b, h1, h2⟩ := hW.2.2.2.2.2.1 c hc h0
  refine ⟨b, h1, h2, cw_some hc h2.symm (fun q hq hne e => hne ?_)⟩
  exact hW.2.2.2.2.2.2 q c hq hc (e.trans h2) (by rw [e, h2]; exact h0)
end ROWS
