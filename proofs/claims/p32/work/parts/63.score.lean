/-! a score is the sum of its parts -/
theorem sm_key : ∀ (b0 b1 b2 b3 b4 b5 : Bool), ∀ i : Nat, i < 64 → bAnd ((ms (fun k => (match k with | 0 => b0 | 1 => b1 | 2 => b2 | 3 => b3 | 4 => b4 | _ => b5) && decide (ib (i : Int) (k : Int) = 0)) 6 : Nat) : Int) (i : Int) = 0 := by decide +kernel
theorem sm (e : Nat → Bool) (i : Nat) (hi : i < 64) : bAnd ((ms (fun k => e k && decide (ib (i : Int) (k : Int) = 0)) 6 : Nat) : Int) (i : Int) = 0 := sm_key (e 0) (e 1) (e 2) (e 3) (e 4) (e 5) i hi
section SCORE
variable {M : Me} {h : Ml} {V : Nat → Int} {nb nc t c b : Nat}
theorem scN_late (hl : V (18 + 8 * b + 7) < V (114 + 10 * c + 8)) (i : Nat) : scN V c b i = -10006 := if_pos hl
theorem scN_not (hl : ¬ V (18 + 8 * b + 7) < V (114 + 10 * c + 8)) (i : Nat) : scN V c b i = scI V c b i := if_neg hl
theorem scN_iff (hW : WF V nb nc t) (hc : c < nc) (hb : b < nb) (i : Nat) : scN V c b i = -10006 ↔ V (18 + 8 * b + 7) < V (114 + 10 * c + 8) := by
  constructor
  · intro e
    refine Classical.byContradiction (fun hl => ?_)
    rw [scN_not hl] at e
    have := scI_bd hW hc hb (by omega) i
    omega
  · intro hl
    exact scN_late hl i
theorem m_isScore (hS : CS M V nb nc t) (hC : SC V nc) (hc : c < nc) (hb : b < nb) (th : Int) (hth : 0 ≤ th) : Wp zS0 tL_isScore none 0 [zr 0, zi (V (114 + 10 * c)), zi (V (18 + 8 * b)), zi th, zn, zn, zn, zn, zn] [] M h (Qr 1 M h) := by
  have hW := hS.2.2.2
  have fin : ∀ (M' : Me) (sum p : Int) (y7 y8 : ZV), (∀ k, k < 61 ∨ k = 71 ∨ 74 ≤ k → M' k = M k) → (V (18 + 8 * b + 7) < V (114 + 10 * c + 8) ∨ sum = scN V c b 0) → Wp zS0 tL_isScore none 76 [zr 0, zi (V (114 + 10 * c)), zi (V (18 + 8 * b)), zi th, zi (scN V c b 0), zi sum, zi p, y7, y8] [] M' h (Qr 1 M h) := by
    intro M' sum p y7 y8 hk hs
    have hS0 : CS M' V nb nc t := hS.kept (fun k g => hk k (Or.inl g))
    refine Wp.g1 rfl ?_
    refine Wp.call rfl (c_bag hS0 _ _) (fun v M1 h1 q => ?_)
    obtain ⟨rfl, rfl, q1⟩ := q
    have e6 : rBag V nb nc (V (18 + 8 * b)) 6 = V (18 + 8 * b + 7) := bag_at hW hb (y := 6) (by decide)
    rw [e6]
    have hS1 : CS M1 V nb nc t := hS0.kept (fun k g => q1 k (Or.inl g))
    refine Wp.g1 rfl ?_
    refine Wp.call rfl (c_claimOf hS1 _ _) (fun v M2 h2 q => ?_)
    obtain ⟨rfl, rfl, q2⟩ := q
    have e7 : rClaimOf V nc (V (114 + 10 * c)) 7 = V (114 + 10 * c + 8) := claim_at hC hc (y := 7) (by decide)
    rw [e7]
    have hS2 : CS M2 V nb nc t := hS1.kept (fun k g => q2 k (Or.inl g))
    have eT : rThreshold V nb nc (V (114 + 10 * c)) (V (18 + 8 * b)) = if scN V c b 0 < 0 then -10006 else min (scN V c b 0) 200 := by
      unfold rThreshold
      rw [rkC_at hC hc, rkB_at hW hb, if_pos ⟨hc, hb⟩]
    have eD : ∃ m : Nat, m < 64 ∧ rSame V nb nc (V (114 + 10 * c)) (V (18 + 8 * b)) = (m : Int) ∧ bAnd (m : Int) (V (18 + 8 * b + 3)) = 0 := by
      unfold rSame
      rw [rkC_at hC hc, rkB_at hW hb, if_pos ⟨hc, hb⟩]
      obtain ⟨i, hi⟩ := Int.eq_ofNat_of_zero_le (hW.2.2.1 b hb).2.2.2.2.1.1
      have hi2 := (hW.2.2.1 b hb).2.2.2.2.1.2
      rw [hi] at hi2 ⊢
      refine ⟨_, ms_lt _ 6, rfl, ?_⟩
      exact sm _ i (by omega)
    obtain ⟨m, m1, m2, m3⟩ := eD
    -- behind isLate
    have rest : ∀ il : Int, (il = if V (18 + 8 * b + 7) < V (114 + 10 * c + 8) then 1 else 0) → Wp zS0 tL_isScore none 98 [zr 0, zi (V (114 + 10 * c)), zi (V (18 + 8 * b)), zi th, zi (scN V c b 0), zi sum, zi p, y7, y8] [zi il] M2 h2 (Qr 1 M h2) := by
      intro il hil
      refine Wp.g1 rfl ?_
      refine Wp.call rfl (c_thresholdFor hS2 _ _) (fun v M3 h3 q => ?_)
      obtain ⟨rfl, rfl, q3⟩ := q
      have hS3 : CS M3 V nb nc t := hS2.kept (fun k g => q3 k (Or.inl g))
      refine Wp.g1 rfl ?_
      refine Wp.call rfl (c_same hS3 _ _) (fun v M4 h4 q => ?_)
      obtain ⟨rfl, rfl, q4⟩ := q
      have hS4 : CS M4 V nb nc t := hS3.kept (fun k g => q4 k (Or.inl g))
      have hk4 : ∀ k, k < 61 ∨ k = 71 ∨ 74 ≤ k → M4 k = M k := fun k g => (q4 k g).trans ((q3 k g).trans ((q2 k g).trans ((q1 k g).trans (hk k g))))
      rw [eT, m2]
      -- from 146 on
      have r2 : Wp zS0 tL_isScore none 146 [zr 0, zi (V (114 + 10 * c)), zi (V (18 + 8 * b)), zi th, zi (scN V c b 0), zi sum, zi il, zi (if scN V c b 0 < 0 then -10006 else min (scN V c b 0) 200), zi m] [] M4 h4 (Qr 1 M h4) := by
        have r3 : ∀ x : Int, x = (if scN V c b 0 < 0 then -10006 else min (scN V c b 0) 200) → Wp zS0 tL_isScore none 175 [zr 0, zi (V (114 + 10 * c)), zi (V (18 + 8 * b)), zi th, zi (scN V c b 0), zi sum, zi il, zi (if scN V c b 0 < 0 then -10006 else min (scN V c b 0) 200), zi m] [zi x, zi (if scN V c b 0 < 0 then -10006 else min (scN V c b 0) 200)] M4 h4 (Qr 1 M h4) := by
          intro x hx
          refine Wp.brf rfl (fun q => q hx.symm) ?_
          refine Wp.g1 rfl ?_
          refine Wp.brf rfl (by omega) ?_
          refine Wp.g1 rfl ?_
          refine Wp.brf rfl (by omega) ?_
          refine Wp.g1 rfl ?_
          refine Wp.call rfl (c_bag hS4 _ _) (fun v M5 h5 q => ?_)
          obtain ⟨rfl, rfl, q5⟩ := q
          have e2 : rBag V nb nc (V (18 + 8 * b)) 2 = V (18 + 8 * b + 3) := bag_at hW hb (y := 2) (by decide)
          rw [e2]
          refine Wp.g1 rfl ?_
          rw [m3]
          refine Wp.brf rfl (fun q => q rfl) ?_
          refine Wp.g1 rfl ?_
          refine Wp.brf rfl (by omega) ?_
          refine Wp.g1 rfl ?_
          exact Wp.re rfl ⟨rfl, rfl, fun k g => (q5 k g).trans (hk4 k g)⟩
        refine Wp.g1 rfl ?_
        by_cases g0 : scN V c b 0 < 0
        · refine Wp.brf rfl (by omega) ?_
          refine Wp.gt 175 rfl ?_
          exact r3 _ (by rw [if_pos g0])
        · refine Wp.brt rfl (by omega) ?_
          refine Wp.g1 rfl ?_
          by_cases g1 : 200 ≤ scN V c b 0
          · refine Wp.brt rfl g1 ?_
            refine Wp.gt 175 rfl ?_
            exact r3 _ (by rw [if_neg g0]; omega)
          · refine Wp.brf rfl g1 ?_
            refine Wp.gt 175 rfl ?_
            exact r3 _ (by rw [if_neg g0]; omega)
      refine Wp.g1 rfl ?_
      by_cases hl : V (18 + 8 * b + 7) < V (114 + 10 * c + 8)
      · rw [if_pos hl] at hil
        subst hil
        refine Wp.brf rfl (fun q => q (scN_late hl 0)) ?_
        refine Wp.g1 rfl ?_
        refine Wp.brf rfl (fun q => q rfl) ?_
        refine Wp.g1 rfl ?_
        refine Wp.brt rfl (by decide) ?_
        exact r2
      · rw [if_neg hl] at hil
        subst hil
        have hne : scN V c b 0 ≠ -10006 := fun e => hl ((scN_iff hW hc hb 0).mp e)
        refine Wp.brt rfl hne ?_
        refine Wp.g1 rfl ?_
        refine Wp.brf rfl (fun q => q rfl) ?_
        refine Wp.g1 rfl ?_
        refine Wp.brf rfl (fun q => q rfl) ?_
        refine Wp.g1 rfl ?_
        refine Wp.brf rfl (fun q => q (hs.resolve_left hl)) ?_
        exact r2
    by_cases hl : V (18 + 8 * b + 7) < V (114 + 10 * c + 8)
    · refine Wp.brf rfl (by omega) ?_
      refine Wp.gt 98 rfl ?_
      exact rest 1 (by rw [if_pos hl])
    · refine Wp.brt rfl (by omega) ?_
      refine Wp.gt 98 rfl ?_
      exact rest 0 (by rw [if_neg hl])
  have loop : ∀ d p : Nat, p + d = 7 → 1 ≤ p → ∀ (M' : Me) (sum : Int) (y7 y8 : ZV), (∀ k, k < 61 ∨ k = 71 ∨ 74 ≤ k → M' k = M k) → (V (18 + 8 * b + 7) < V (114 + 10 * c + 8) ∨ sum = scS (scP V c b) p) → Wp zS0 tL_isScore none 15 [zr 0, zi (V (114 + 10 * c)), zi (V (18 + 8 * b)), zi th, zi (scN V c b 0), zi sum, zi p, y7, y8] [] M' h (Qr 1 M h) := by
    intro d
    induction d with
    | zero =>
      intro p hd hp M' sum y7 y8 hk hs
      have hd : p = 7 := hd
      subst hd
      refine Wp.g1 rfl ?_
      refine Wp.brt rfl (by omega) ?_
      refine fin M' sum _ y7 y8 hk ?_
      by_cases hl : V (18 + 8 * b + 7) < V (114 + 10 * c + 8)
      · exact Or.inl hl
      · refine Or.inr ?_
        rw [scN_not hl, hs.resolve_left hl]; rfl
    | succ d ih =>
      intro p hd hp M' sum y7 y8 hk hs
      have hS0 : CS M' V nb nc t := hS.kept (fun k g => hk k (Or.inl g))
      refine Wp.g1 rfl ?_
      refine Wp.brf rfl (by omega) ?_
      refine Wp.g1 rfl ?_
      refine Wp.call rfl (c_score hS0 _ _ _) (fun v M1 h1 q => ?_)
      obtain ⟨rfl, rfl, q1⟩ := q
      have hk1 : ∀ k, k < 61 ∨ k = 71 ∨ 74 ≤ k → M1 k = M k := fun k g => (q1 k g).trans (hk k g)
      rw [score_at hW hC hc hb (z := p) (by omega)]
      refine Wp.g1 rfl ?_
      by_cases hl : V (18 + 8 * b + 7) < V (114 + 10 * c + 8)
      · refine Wp.brf rfl (fun q => q (scN_late hl p)) ?_
        refine Wp.g1 rfl ?_
        refine Wp.brf rfl (fun q => q (scN_late hl 0)) ?_
        refine Wp.g1 rfl ?_
        refine Wp.brt rfl rfl ?_
        refine Wp.gt 15 rfl ?_
        rw [w32_s (n := p) (by omega)]
        exact ih (p + 1) (by omega) (by omega) M1 _ _ y8 hk1 (Or.inl hl)
      · have hn0 : scN V c b 0 ≠ -10006 := fun e => hl ((scN_iff hW hc hb 0).mp e)
        have hnp : scN V c b p ≠ -10006 := fun e => hl ((scN_iff hW hc hb p).mp e)
        have bp1 := scP_bd hW hc hb (by omega)
        have bs1 := scS_bd bp1 p
        have ep : scN V c b p = scP V c b p := by
          rw [scN_not hl]; unfold scI; rw [if_neg (by omega)]
        have hs := hs.resolve_left hl
        have bpp := bp1 p
        refine Wp.brt rfl hnp ?_
        refine Wp.g1 rfl ?_
        refine Wp.brt rfl hn0 ?_
        refine Wp.g1 rfl ?_
        refine Wp.brt rfl rfl ?_
        refine Wp.gt 15 rfl ?_
        rw [w32_s (n := p) (by omega), ep, w32_id (x := sum + scP V c b p) ⟨by omega, by omega⟩]
        refine ih (p + 1) (by omega) (by omega) M1 _ _ y8 hk1 (Or.inr ?_)
        show _ = scS (scP V c b) p + (if p = 0 then 0 else scP V c b p)
        rw [if_neg (by omega), hs]
  refine Wp.g1 rfl ?_
  refine Wp.call rfl (c_score hS _ _ _) (fun v M1 h1 q => ?_)
  obtain ⟨rfl, rfl, q1⟩ := q
  have e0 : rScore V nb nc (V (114 + 10 * c)) (V (18 + 8 * b)) 0 = scN V c b 0 := score_at hW hC hc hb (z := 0) (by decide)
  rw [e0]
  refine Wp.gt 15 rfl ?_
  refine loop 6 1 (by omega) (by omega) M1 0 _ _ q1 (Or.inr ?_)
  rfl
end SCORE
