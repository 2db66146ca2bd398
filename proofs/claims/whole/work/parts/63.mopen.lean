/-! the reference: scores, and what could be matched -/
section OP9
variable {M : Me} {h : Ml} {p : Nat} {V : Nat → Int} {nb nc t : Nat}
theorem m9_scoreOf (hS : MS M p V nb nc t) {c b cl bg : Nat} (hc : c < nc) (hb : b < nb) (ec : cl = p + (114 + 10 * c)) (eb : bg = p + (18 + 8 * b)) (i : Nat) (hi : i ≤ 6) : Wp zS0 tX9_scoreOf none 0 [zr 74, zi cl, zi bg, zi i, zn, zn] [] M h (Ri (scN V c b i) M h) := by
  have hp := hS.1
  have hV := hS.2.2.1
  have hW := hS.2.2.2
  have hnb := hW.1.2.2.1
  have hnc := hW.1.2.2.2
  have lc : M 75 (cl + 8) = V (114 + 10 * c + 8) := by rw [ec, Nat.add_assoc]; exact hV _ (by omega)
  have lb : M 75 (bg + 7) = V (18 + 8 * b + 7) := by rw [eb, Nat.add_assoc]; exact hV _ (by omega)
  unfold scN
  refine Wp.g1 rfl ?_
  rw [w32_n (n := bg + 7) (by omega) (by omega)]
  refine Wp.ld rfl rfl (bg + 7) rfl (by omega) ?_
  rw [lb]
  refine Wp.g1 rfl ?_
  rw [w32_n (n := cl + 8) (by omega) (by omega)]
  refine Wp.ld rfl rfl (cl + 8) rfl (by omega) ?_
  rw [lc]
  by_cases g : V (18 + 8 * b + 7) < V (114 + 10 * c + 8)
  · rw [if_pos g]
    refine Wp.brf rfl (by omega) ?_
    refine Wp.g1 rfl ?_
    exact Wp.rei rfl rfl rfl rfl
  rw [if_neg g]
  have bdP := scP_bd hW hc hb (by omega)
  refine Wp.brt rfl (by omega) ?_
  refine Wp.g1 rfl ?_
  by_cases g0 : i = 0
  · subst g0
    refine Wp.brt rfl (by decide) ?_
    have loop : ∀ d k : Nat, k + d = 7 → 1 ≤ k → Wp zS0 tX9_scoreOf none 43 [zr 74, zi cl, zi bg, zi ((0 : Nat) : Int), zi (scS (scP V c b) k), zi k] [] M h (Ri (scI V c b 0) M h) := by
      intro d
      induction d with
      | zero =>
        intro k hk h1
        have e : k = 7 := by omega
        subst e
        refine Wp.g1 rfl ?_
        refine Wp.brt rfl (by decide) ?_
        refine Wp.g1 rfl ?_
        exact Wp.rei rfl rfl rfl rfl
      | succ d ih =>
        intro k hk h1
        have bd := scS_bd bdP k
        have b1 := bdP k
        refine Wp.g1 rfl ?_
        refine Wp.brf rfl (by omega) ?_
        refine Wp.g1 rfl ?_
        refine Wp.calli rfl (m9_part hS hc hb ec eb k ⟨h1, by omega⟩) ?_
        refine Wp.gt 43 rfl ?_
        have e : scS (scP V c b) (k + 1) = scS (scP V c b) k + scP V c b k := by
          show scS (scP V c b) k + (if k = 0 then 0 else scP V c b k) = _
          rw [if_neg (by omega)]
        rw [w32_s (n := k) (by omega), w32_id (x := scS (scP V c b) k + scP V c b k) ⟨by omega, by omega⟩, ← e]
        exact ih (k + 1) (by omega) (by omega)
    refine Wp.gt 43 rfl ?_
    exact loop 6 1 (by omega) (by omega)
  · refine Wp.brf rfl (by omega) ?_
    refine Wp.g1 rfl ?_
    refine Wp.calli rfl (m9_part hS hc hb ec eb i ⟨by omega, hi⟩) ?_
    refine Wp.rei rfl ?_ rfl rfl
    unfold scI
    rw [if_neg g0]
theorem m9_isLikely (hS : MS M p V nb nc t) {c b cl bg : Nat} (hc : c < nc) (hb : b < nb) (ec : cl = p + (114 + 10 * c)) (eb : bg = p + (18 + 8 * b)) : Wp zS0 tX9_isLikely none 0 [zr 74, zi cl, zi bg] [] M h (Ri (if V 1 ≤ scN V c b 0 then 1 else 0) M h) := by
  refine Wp.g1 rfl ?_
  refine Wp.calli rfl (m9_scoreOf hS hc hb ec eb 0 (by omega)) ?_
  refine Wp.g1 rfl ?_
  refine Wp.ld rfl rfl 1 rfl (by omega) ?_
  rw [hS.2.1 1 (by omega)]
  refine Wp.br rfl (fun g => ?_) (fun g => ?_)
  · refine Wp.g1 rfl ?_
    exact Wp.rei rfl (by rw [if_neg (by omega)]) rfl rfl
  · refine Wp.g1 rfl ?_
    exact Wp.rei rfl (by rw [if_pos (by omega)]) rfl rfl
/-- what the reference calls open: the score, or none -/
def opn (V : Nat → Int) (nb nc c b : Nat) : Int := if gF V nb nc c b = -1 then -10006 else gF V nb nc c b
theorem m9_open (hS : MS M p V nb nc t) {c b : Nat} (hc : c < nc) (hb : b < nb) : Wp zS0 tX9_open none 0 [zr 74, zi p, zi c, zi b, zn] [] M h (Ri (opn V nb nc c b) M h) := by
  have hp := hS.1
  have hW := hS.2.2.2
  have hnb := hW.1.2.2.1
  have hnc := hW.1.2.2.2
  have hth := hW.2.1.2.1
  have no : ∀ {x : ZV}, opn V nb nc c b = -10006 → Wp zS0 tX9_open none 44 [zr 74, zi p, zi c, zi b, x] [] M h (Ri (opn V nb nc c b) M h) := by
    intro x hx
    rw [hx]
    refine Wp.g1 rfl ?_
    refine Wp.brt rfl (by decide) ?_
    refine Wp.g1 rfl ?_
    exact Wp.rei rfl rfl rfl rfl
  refine Wp.g1 rfl ?_
  refine Wp.calli rfl (m9_isFreeClaim hS c (by omega)) ?_
  by_cases g0 : V (114 + 10 * c + 9) = 0
  · rw [if_pos g0]
    refine Wp.brf rfl (by decide) ?_
    refine Wp.g1 rfl ?_
    refine Wp.calli rfl (m9_claimWith hS b (by omega)) ?_
    refine Wp.g1 rfl ?_
    by_cases g1 : cw V nc b = -10006
    · refine Wp.brf rfl (fun q => q g1) ?_
      refine Wp.g1 rfl ?_
      refine Wp.calli rfl (m9_claimAt p c (by omega) (by omega) M h) ?_
      refine Wp.g1 rfl ?_
      refine Wp.calli rfl (m9_bagAt p b (by omega) (by omega) M h) ?_
      refine Wp.calli rfl (m9_isLikely hS hc hb rfl rfl) ?_
      by_cases g2 : V 1 ≤ scN V c b 0
      · rw [if_pos g2]
        refine Wp.brf rfl (by decide) ?_
        refine Wp.g1 rfl ?_
        refine Wp.brf rfl (by decide) ?_
        refine Wp.g1 rfl ?_
        refine Wp.calli rfl (m9_claimAt p c (by omega) (by omega) M h) ?_
        refine Wp.g1 rfl ?_
        refine Wp.calli rfl (m9_bagAt p b (by omega) (by omega) M h) ?_
        refine Wp.g1 rfl ?_
        refine Wp.calli rfl (m9_scoreOf hS hc hb rfl rfl 0 (by omega)) ?_
        refine Wp.g1 rfl ?_
        refine Wp.rei rfl ?_ rfl rfl
        unfold scN at g2 ⊢
        by_cases gl : V (18 + 8 * b + 7) < V (114 + 10 * c + 8)
        · rw [if_pos gl] at g2; omega
        · rw [if_neg gl] at g2 ⊢
          have e : gF V nb nc c b = scI V c b 0 := by
            unfold gF lkG
            rw [if_pos ⟨hc, g0⟩, if_pos ⟨hb, g1, by omega, g2⟩]
          unfold opn
          rw [e, if_neg (by omega)]
      · rw [if_neg g2]
        refine Wp.brt rfl (by decide) ?_
        refine no ?_
        have e : gF V nb nc c b = -1 := by
          unfold gF lkG
          rw [if_pos ⟨hc, g0⟩, if_neg (fun q => g2 ?_)]
          unfold scN
          rw [if_neg (by omega)]
          exact q.2.2.2
        unfold opn
        rw [e, if_pos rfl]
    · refine Wp.brt rfl g1 ?_
      refine no ?_
      have e : gF V nb nc c b = -1 := by
        unfold gF lkG
        rw [if_pos ⟨hc, g0⟩, if_neg (fun q => g1 q.2.1)]
      unfold opn
      rw [e, if_pos rfl]
  · rw [if_neg g0]
    refine Wp.brt rfl (by decide) ?_
    refine no ?_
    have e : gF V nb nc c b = -1 := by
      unfold gF
      rw [if_neg (fun q => g0 q.2)]
    unfold opn
    rw [e, if_pos rfl]
end OP9
