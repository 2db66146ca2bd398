/-! the law's search for the greatest pair -/
section SCAN
variable {M : Me} {h : Ml} {W : Nat → Int} {nb nc t : Nat}
def fk (W : Nat → Int) (nb nc : Nat) : Nat → Int := fun k => gF W nb nc (k / nb) (k % nb)
def cl (W : Nat → Int) (nb nc k : Nat) : Int := if bv (fk W nb nc) k = -1 then 0 else W (114 + 10 * (bp (fk W nb nc) k / nb))
def ba (W : Nat → Int) (nb nc k : Nat) : Int := if bv (fk W nb nc) k = -1 then 0 else W (18 + 8 * (bp (fk W nb nc) k % nb))
theorem fk_stay {k : Nat} (h : ¬ bv (fk W nb nc) k < fk W nb nc k) : bv (fk W nb nc) (k + 1) = bv (fk W nb nc) k ∧ cl W nb nc (k + 1) = cl W nb nc k ∧ ba W nb nc (k + 1) = ba W nb nc k := by
  have e1 : bv (fk W nb nc) (k + 1) = bv (fk W nb nc) k := if_neg h
  have e2 : bp (fk W nb nc) (k + 1) = bp (fk W nb nc) k := if_neg h
  unfold cl ba
  rw [e1, e2]
  exact ⟨rfl, rfl, rfl⟩
theorem fk_new {k : Nat} (h : bv (fk W nb nc) k < fk W nb nc k) : bv (fk W nb nc) (k + 1) = fk W nb nc k ∧ cl W nb nc (k + 1) = W (114 + 10 * (k / nb)) ∧ ba W nb nc (k + 1) = W (18 + 8 * (k % nb)) := by
  have e1 : bv (fk W nb nc) (k + 1) = fk W nb nc k := if_pos h
  have e2 : bp (fk W nb nc) (k + 1) = k := if_pos h
  have := bv_ge (fk W nb nc) k
  unfold cl ba
  rw [e1, e2, if_neg (by omega), if_neg (by omega)]
  exact ⟨rfl, rfl, rfl⟩
theorem gF_open (hW : WF W nb nc t) {c b : Nat} (hc : c < nc) (hb : b < nb) : gF W nb nc c b ≠ -1 ↔ pt W c = -10006 ∧ cw W nc b = -10006 ∧ W 1 ≤ scN W c b 0 := by
  rw [pt_free hW hc]
  constructor
  · intro g
    unfold gF at g
    by_cases q : c < nc ∧ W (114 + 10 * c + 9) = 0
    · rw [if_pos q] at g
      have := (lk_iff hW hc hb).mp g
      exact ⟨q.2, this⟩
    · rw [if_neg q] at g
      exact absurd rfl g
  · intro ⟨q1, q2⟩
    unfold gF
    rw [if_pos ⟨hc, q1⟩]
    exact (lk_iff hW hc hb).mpr q2
theorem gF_sc (hW : WF W nb nc t) {c b : Nat} (g : gF W nb nc c b ≠ -1) : gF W nb nc c b = scN W c b 0 := by
  unfold gF at g ⊢
  by_cases q : c < nc ∧ W (114 + 10 * c + 9) = 0
  · rw [if_pos q] at g ⊢
    exact (lk_some g).2.2.2.2
  · rw [if_neg q] at g
    exact absurd rfl g
theorem m_scan (hS : CS M W nb nc t) (hC : SC W nc) (hA : AM M W nb nc) {best told had many now is sum n : Int} {Φ : Option ZV → Me → Ml → Prop}
    (kk : ∀ (M' : Me) (y15 y16 y17 y18 y19 : ZV), (∀ k, k < 61 ∨ k = 71 ∨ 74 ≤ k → M' k = M k) → Wp zS0 tL_isMatched none 263 [zr 0, zr 75, zr 76, zi (W 1), zi best, zi told, zi had, zi many, zi now, zi is, zi sum, zi n, zi (bv (fk W nb nc) (nb * nc)), zi (cl W nb nc (nb * nc)), zi (ba W nb nc (nb * nc)), y15, y16, y17, y18, y19] [] M' h Φ) :
    ∀ d k : Nat, k + d = nb * nc → ∀ (M' : Me) (y16 y17 y18 y19 : ZV), (∀ k, k < 61 ∨ k = 71 ∨ 74 ≤ k → M' k = M k) → Wp zS0 tL_isMatched none 134 [zr 0, zr 75, zr 76, zi (W 1), zi best, zi told, zi had, zi many, zi now, zi is, zi sum, zi n, zi (bv (fk W nb nc) k), zi (cl W nb nc k), zi (ba W nb nc k), zi k, y16, y17, y18, y19] [] M' h Φ := by
  have hW := hS.2.2.2
  have hnb := hW.1.2.2.1
  have hnc := hW.1.2.2.2
  have hm : nb * nc ≤ 120 := Nat.le_trans (Nat.mul_le_mul hnb hnc) (by decide)
  have em : w32 (rCount W nb nc 1 * rCount W nb nc 2) = ((nb * nc : Nat) : Int) := by
    have e1 : rCount W nb nc 1 * rCount W nb nc 2 = ((nb * nc : Nat) : Int) := (Int.natCast_mul nb nc).symm
    rw [e1]
    exact w32_id ⟨by omega, by omega⟩
  intro d
  induction d with
  | zero =>
    intro k hd M' y16 y17 y18 y19 hk
    have hd : k = nb * nc := hd
    have hS0 : CS M' W nb nc t := hS.kept (fun k g => hk k (Or.inl g))
    refine Wp.g1 rfl ?_
    refine Wp.call rfl (c_count hS0 _) (fun v M1 h1 q => ?_)
    obtain ⟨rfl, rfl, q1⟩ := q
    have hS1 : CS M1 W nb nc t := hS0.kept (fun k g => q1 k (Or.inl g))
    refine Wp.g1 rfl ?_
    refine Wp.call rfl (c_count hS1 _) (fun v M2 h2 q => ?_)
    obtain ⟨rfl, rfl, q2⟩ := q
    refine Wp.g1 rfl ?_
    rw [em]
    refine Wp.brt rfl (by omega) ?_
    rw [← hd] at kk
    exact kk M2 _ y16 y17 y18 y19 (fun k g => (q2 k g).trans ((q1 k g).trans (hk k g)))
  | succ d ih =>
    intro k hd M' y16 y17 y18 y19 hk
    have h0 : 0 < nb := by
      rcases Nat.eq_zero_or_pos nb with e | e
      · rw [e, Nat.zero_mul] at hd; omega
      · exact e
    have hc : k / nb < nc := Nat.div_lt_of_lt_mul (by omega)
    have hb : k % nb < nb := Nat.mod_lt _ h0
    have hS0 : CS M' W nb nc t := hS.kept (fun k g => hk k (Or.inl g))
    refine Wp.g1 rfl ?_
    refine Wp.call rfl (c_count hS0 _) (fun v M1 h1 q => ?_)
    obtain ⟨rfl, rfl, q1⟩ := q
    have hS1 : CS M1 W nb nc t := hS0.kept (fun k g => q1 k (Or.inl g))
    refine Wp.g1 rfl ?_
    refine Wp.call rfl (c_count hS1 _) (fun v M2 h2 q => ?_)
    obtain ⟨rfl, rfl, q2⟩ := q
    have hS2 : CS M2 W nb nc t := hS1.kept (fun k g => q2 k (Or.inl g))
    refine Wp.g1 rfl ?_
    rw [em]
    refine Wp.brf rfl (by omega) ?_
    refine Wp.g1 rfl ?_
    refine Wp.brf rfl (by omega) ?_
    refine Wp.g1 rfl ?_
    refine Wp.call rfl (c_count hS2 _) (fun v M3 h3 q => ?_)
    obtain ⟨rfl, rfl, q3⟩ := q
    have hS3 : CS M3 W nb nc t := hS2.kept (fun k g => q3 k (Or.inl g))
    have hk3 : ∀ k, k < 61 ∨ k = 71 ∨ 74 ≤ k → M3 k = M k := fun k g => (q3 k g).trans ((q2 k g).trans ((q1 k g).trans (hk k g)))
    have e1 : rCount W nb nc 1 = (nb : Int) := rfl
    rw [e1]
    refine Wp.div rfl (by omega) (by omega) ?_
    refine Wp.ld rfl rfl (k / nb) rfl (by omega) ?_
    rw [hk3 76 (by omega), hA.2 _ hc]
    refine Wp.g1 rfl ?_
    refine Wp.call rfl (c_count hS3 _) (fun v M4 h4 q => ?_)
    obtain ⟨rfl, rfl, q4⟩ := q
    have hS4 : CS M4 W nb nc t := hS3.kept (fun k g => q4 k (Or.inl g))
    have hk4 : ∀ k, k < 61 ∨ k = 71 ∨ 74 ≤ k → M4 k = M k := fun k g => (q4 k g).trans (hk3 k g)
    rw [e1]
    refine Wp.rem rfl (by omega) (by omega) ?_
    refine Wp.ld rfl rfl (k % nb) rfl (by omega) ?_
    rw [hk4 75 (by omega), hA.1 _ hb]
    refine Wp.g1 rfl ?_
    refine Wp.call rfl (c_claimOf hS4 _ _) (fun v M5 h5 q => ?_)
    obtain ⟨rfl, rfl, q5⟩ := q
    rw [claim_8 hC hc]
    have hS5 : CS M5 W nb nc t := hS4.kept (fun k g => q5 k (Or.inl g))
    have hk5 : ∀ k, k < 61 ∨ k = 71 ∨ 74 ≤ k → M5 k = M k := fun k g => (q5 k g).trans (hk4 k g)
    have e0 : rScore W nb nc (W (114 + 10 * (k / nb))) (W (18 + 8 * (k % nb))) 0 = scN W (k / nb) (k % nb) 0 := score_at hW hC hc hb (z := 0) (by decide)
    have gop := gF_open hW hc hb
    have gsc := gF_sc (c := k / nb) (b := k % nb) hW
    have ge := bv_ge (fk W nb nc) k
    have efk : fk W nb nc k = gF W nb nc (k / nb) (k % nb) := rfl
    -- behind the comparison
    have cont : ∀ (M6 : Me) (mo c1 b1 : Int) (y18 y19 : ZV), (∀ k, k < 61 ∨ k = 71 ∨ 74 ≤ k → M6 k = M k) → mo = bv (fk W nb nc) (k + 1) → c1 = cl W nb nc (k + 1) → b1 = ba W nb nc (k + 1) → Wp zS0 tL_isMatched none 257 [zr 0, zr 75, zr 76, zi (W 1), zi best, zi told, zi had, zi many, zi now, zi is, zi sum, zi n, zi mo, zi c1, zi b1, zi k, zi (W (114 + 10 * (k / nb))), zi (W (18 + 8 * (k % nb))), y18, y19] [] M6 h5 Φ := by
      intro M6 mo c1 b1 y18 y19 hk6 i1 i2 i3
      refine Wp.gt 134 rfl ?_
      rw [w32_s (n := k) (by omega), i1, i2, i3]
      exact ih (k + 1) (by omega) M6 _ _ _ _ hk6
    -- not free
    have no : ∀ M6 : Me, (∀ k, k < 61 ∨ k = 71 ∨ 74 ≤ k → M6 k = M k) → gF W nb nc (k / nb) (k % nb) = -1 → Wp zS0 tL_isMatched none 213 [zr 0, zr 75, zr 76, zi (W 1), zi best, zi told, zi had, zi many, zi now, zi is, zi sum, zi n, zi (bv (fk W nb nc) k), zi (cl W nb nc k), zi (ba W nb nc k), zi k, zi (W (114 + 10 * (k / nb))), zi (W (18 + 8 * (k % nb))), y18, y19] [] M6 h5 Φ := by
      intro M6 hk6 hn
      have hS6 : CS M6 W nb nc t := hS.kept (fun k g => hk6 k (Or.inl g))
      refine Wp.g1 rfl ?_
      refine Wp.call rfl (c_score hS6 _ _ _) (fun v M7 h7 q => ?_)
      obtain ⟨rfl, rfl, q7⟩ := q
      refine Wp.g1 rfl ?_
      refine Wp.brt rfl rfl ?_
      obtain ⟨i1, i2, i3⟩ := fk_stay (W := W) (nb := nb) (nc := nc) (k := k) (by rw [efk, hn]; omega)
      exact cont M7 _ _ _ _ _ (fun k g => (q7 k g).trans (hk6 k g)) i1.symm i2.symm i3.symm
    refine Wp.g1 rfl ?_
    by_cases p1 : pt W (k / nb) = -10006
    · refine Wp.brf rfl (fun q => q p1) ?_
      refine Wp.g1 rfl ?_
      refine Wp.call rfl (c_bag hS5 _ _) (fun v M6 h6 q => ?_)
      obtain ⟨rfl, rfl, q6⟩ := q
      rw [bag_7 hW hb]
      have hS6 : CS M6 W nb nc t := hS5.kept (fun k g => q6 k (Or.inl g))
      have hk6 : ∀ k, k < 61 ∨ k = 71 ∨ 74 ≤ k → M6 k = M k := fun k g => (q6 k g).trans (hk5 k g)
      refine Wp.g1 rfl ?_
      by_cases p2 : cw W nc (k % nb) = -10006
      · refine Wp.brf rfl (fun q => q p2) ?_
        refine Wp.g1 rfl ?_
        refine Wp.call rfl (c_score hS6 _ _ _) (fun v M7 h7 q => ?_)
        obtain ⟨rfl, rfl, q7⟩ := q
        rw [e0]
        have hk7 : ∀ k, k < 61 ∨ k = 71 ∨ 74 ≤ k → M7 k = M k := fun k g => (q7 k g).trans (hk6 k g)
        refine Wp.g1 rfl ?_
        refine Wp.brf rfl (by decide) ?_
        refine Wp.g1 rfl ?_
        by_cases p3 : W 1 ≤ scN W (k / nb) (k % nb) 0
        · have hy := gop.mpr ⟨p1, p2, p3⟩
          have hv := gsc hy
          refine Wp.brf rfl (by omega) ?_
          refine Wp.g1 rfl ?_
          by_cases p4 : scN W (k / nb) (k % nb) 0 ≤ bv (fk W nb nc) k
          · refine Wp.brt rfl p4 ?_
            obtain ⟨i1, i2, i3⟩ := fk_stay (W := W) (nb := nb) (nc := nc) (k := k) (by rw [efk, hv]; omega)
            exact cont M7 _ _ _ _ _ hk7 i1.symm i2.symm i3.symm
          · refine Wp.brf rfl p4 ?_
            obtain ⟨i1, i2, i3⟩ := fk_new (W := W) (nb := nb) (nc := nc) (k := k) (by rw [efk, hv]; omega)
            refine Wp.gt 257 rfl ?_
            exact cont M7 _ _ _ _ _ hk7 (by rw [i1, efk, hv]) i2.symm i3.symm
        · have hn : gF W nb nc (k / nb) (k % nb) = -1 := Classical.byContradiction (fun q => p3 (gop.mp q).2.2)
          refine Wp.brt rfl (by omega) ?_
          obtain ⟨i1, i2, i3⟩ := fk_stay (W := W) (nb := nb) (nc := nc) (k := k) (by rw [efk, hn]; omega)
          exact cont M7 _ _ _ _ _ hk7 i1.symm i2.symm i3.symm
      · refine Wp.brt rfl p2 ?_
        exact no M6 hk6 (Classical.byContradiction (fun q => p2 (gop.mp q).2.1))
    · refine Wp.brt rfl p1 ?_
      exact no M5 hk5 (Classical.byContradiction (fun q => p1 (gop.mp q).1))
end SCAN
