/-! the reference's digest -/
theorem updl_two {h : Ml} {k : Nat} {x y : Int64} : updl (updl h k x) k y = updl h k y := by
  funext a
  unfold updl
  by_cases e : a = k
  · rw [if_pos e, if_pos e]
  · rw [if_neg e, if_neg e, if_neg e]
theorem updl_at {h : Ml} {k : Nat} {x : Int64} : updl h k x k = x := by unfold updl; rw [if_pos rfl]
theorem m9_adds (x : Int) (s : Int64) (M : Me) (h : Ml) : Wp zS0 tX9_adds none 0 [zr 74, zi x] [] M (updl h 74 s) (Rv M (updl h 74 (31 * s + Int64.ofInt x))) := by
  refine Wp.g1 rfl ?_
  rw [updl_at, updl_two]
  exact Wp.rev rfl rfl rfl
abbrev Qd (r : Int64) (M : Me) : Option ZV → Me → Ml → Prop := fun v M' _ => v = some (zl r) ∧ (∀ k, k < 78 → k ≠ 75 → M' k = M k) ∧ ∀ j, j < 214 → M' 75 j = M 75 j
section DG9
variable {M : Me} {h : Ml} {V : Nat → Int} {nb nc t : Nat}
theorem m9_digest (hS : MS M 0 V nb nc t) : Wp zS0 tX9_digest none 0 [zr 74, zn, zn] [] M h (Qd (rDigest V nb nc) M) := by
  have hW := hS.2.2.2
  have hV := hS.at0
  have hnb := hW.1.2.2.1
  have hnc := hW.1.2.2.2
  have e10 : M 75 10 = (nb : Int) := (hV 10 (by omega)).trans hW.1.1
  have e12 : M 75 12 = (nc : Int) := (hV 12 (by omega)).trans hW.1.2.1
  have last : ∀ (x y : ZV) (s : Int64), s = hClm V nb nc (hBag V nb nc (hfold (fun k => rCount V nb nc (k : Int)) 234 8) nb) nc → Wp zS0 tX9_digest none 186 [zr 74, x, y] [] M (updl h 74 s) (Qd (rDigest V nb nc) M) := by
    intro x y s hs
    refine Wp.g1 rfl ?_
    refine Wp.call rfl (m9_bestTotal hS) (fun v M1 h1 q => ?_)
    obtain ⟨rfl, rfl, q1⟩ := q
    have hS1 : MS M1 0 V nb nc t := hS.kept (q1 75 (by decide))
    refine Wp.callv rfl (m9_adds (rBest V nb nc) s M1 h) ?_
    refine Wp.g1 rfl ?_
    refine Wp.call rfl (m9_totalOfAll hS1) (fun v M2 h2 q => ?_)
    obtain ⟨rfl, rfl, q2, q3⟩ := q
    refine Wp.callv rfl (m9_adds (rTotal V nb nc) _ M2 h) ?_
    refine Wp.g1 rfl ?_
    rw [updl_at]
    refine Wp.re rfl ⟨by rw [hs]; rfl, fun k g1 g2 => by rw [q2 k g1 g2]; exact q1 k (by omega), fun j hj => by rw [q3 j hj, q1 75 (by decide)]⟩
  have rowsC : ∀ d r : Nat, r + d = nc → ∀ (y : ZV), Wp zS0 tX9_digest none 90 [zr 74, zi r, y] [] M (updl h 74 (hClm V nb nc (hBag V nb nc (hfold (fun k => rCount V nb nc (k : Int)) 234 8) nb) r)) (Qd (rDigest V nb nc) M) := by
    intro d
    induction d with
    | zero =>
      intro r hr y
      have e : r = nc := by omega
      subst e
      refine Wp.g1 rfl ?_
      refine Wp.ld rfl rfl 12 rfl (by omega) ?_
      rw [e12]
      refine Wp.brt rfl (Int.le_refl _) ?_
      exact last _ _ _ rfl
    | succ d ih =>
      intro r hr y
      have hr' : r < nc := by omega
      have next := ih (r + 1) (by omega)
      have eS : hClm V nb nc (hBag V nb nc (hfold (fun k => rCount V nb nc (k : Int)) 234 8) nb) (r + 1) = hfold (fun b => scN V r b 0) (hfold (fun c => if c = 8 then pt V r else V (114 + 10 * r + 1 + c)) (31 * hClm V nb nc (hBag V nb nc (hfold (fun k => rCount V nb nc (k : Int)) 234 8) nb) r + Int64.ofInt (V (114 + 10 * r))) 9) nb := rfl
      rw [eS] at next
      generalize hClm V nb nc (hBag V nb nc (hfold (fun k => rCount V nb nc (k : Int)) 234 8) nb) r = s0 at next
      have bags : ∀ e b : Nat, b + e = nb → Wp zS0 tX9_digest none 142 [zr 74, zi r, zi b] [] M (updl h 74 (hfold (fun b => scN V r b 0) (hfold (fun c => if c = 8 then pt V r else V (114 + 10 * r + 1 + c)) (31 * s0 + Int64.ofInt (V (114 + 10 * r))) 9) b)) (Qd (rDigest V nb nc) M) := by
        intro e
        induction e with
        | zero =>
          intro b hb
          have eb : b = nb := by omega
          subst eb
          refine Wp.g1 rfl ?_
          refine Wp.ld rfl rfl 10 rfl (by omega) ?_
          rw [e10]
          refine Wp.brt rfl (Int.le_refl _) ?_
          refine Wp.gt 90 rfl ?_
          rw [w32_s (n := r) (by omega)]
          exact next _
        | succ e ihe =>
          intro b hb
          refine Wp.g1 rfl ?_
          refine Wp.ld rfl rfl 10 rfl (by omega) ?_
          rw [e10]
          refine Wp.brf rfl (by omega) ?_
          refine Wp.g1 rfl ?_
          refine Wp.calli rfl (m9_claim0 r (by omega) M _) ?_
          refine Wp.g1 rfl ?_
          refine Wp.calli rfl (m9_bag0 b (by omega) M _) ?_
          refine Wp.g1 rfl ?_
          refine Wp.calli rfl (m9_scoreOf hS hr' (show b < nb by omega) (by omega) (by omega) 0 (by omega)) ?_
          refine Wp.callv rfl (m9_adds _ _ M h) ?_
          refine Wp.gt 142 rfl ?_
          rw [w32_s (n := b) (by omega)]
          exact ihe (b + 1) (by omega)
      have fields : ∀ e c : Nat, c + e = 9 → Wp zS0 tX9_digest none 118 [zr 74, zi r, zi c] [] M (updl h 74 (hfold (fun c => if c = 8 then pt V r else V (114 + 10 * r + 1 + c)) (31 * s0 + Int64.ofInt (V (114 + 10 * r))) c)) (Qd (rDigest V nb nc) M) := by
        intro e
        induction e with
        | zero =>
          intro c hc
          have ec : c = 9 := by omega
          subst ec
          refine Wp.g1 rfl ?_
          refine Wp.brt rfl (by decide) ?_
          refine Wp.gt 142 rfl ?_
          exact bags nb 0 (by omega)
        | succ e ihe =>
          intro c hc
          refine Wp.g1 rfl ?_
          refine Wp.brf rfl (by omega) ?_
          refine Wp.g1 rfl ?_
          refine Wp.calli rfl (m9_ofClaim hS hr' (show c < 9 by omega)) ?_
          refine Wp.callv rfl (m9_adds _ _ M h) ?_
          refine Wp.gt 118 rfl ?_
          rw [w32_s (n := c) (by omega)]
          exact ihe (c + 1) (by omega)
      refine Wp.g1 rfl ?_
      refine Wp.ld rfl rfl 12 rfl (by omega) ?_
      rw [e12]
      refine Wp.brf rfl (by omega) ?_
      refine Wp.g1 rfl ?_
      refine Wp.calli rfl (m9_claim0 r (by omega) M _) ?_
      refine Wp.ld rfl rfl (114 + 10 * r) rfl (by omega) ?_
      rw [hV _ (by omega)]
      refine Wp.callv rfl (m9_adds _ _ M h) ?_
      refine Wp.gt 118 rfl ?_
      exact fields 9 0 (by omega)
  have rowsB : ∀ d r : Nat, r + d = nb → ∀ (y : ZV), Wp zS0 tX9_digest none 32 [zr 74, zi r, y] [] M (updl h 74 (hBag V nb nc (hfold (fun k => rCount V nb nc (k : Int)) 234 8) r)) (Qd (rDigest V nb nc) M) := by
    intro d
    induction d with
    | zero =>
      intro r hr y
      have e : r = nb := by omega
      subst e
      refine Wp.g1 rfl ?_
      refine Wp.ld rfl rfl 10 rfl (by omega) ?_
      rw [e10]
      refine Wp.brt rfl (Int.le_refl _) ?_
      refine Wp.gt 90 rfl ?_
      exact rowsC nc 0 (by omega) _
    | succ d ih =>
      intro r hr y
      have hr' : r < nb := by omega
      have next := ih (r + 1) (by omega)
      have eS : hBag V nb nc (hfold (fun k => rCount V nb nc (k : Int)) 234 8) (r + 1) = hfold (fun c => if c = 7 then cw V nc r else V (18 + 8 * r + 1 + c)) (31 * hBag V nb nc (hfold (fun k => rCount V nb nc (k : Int)) 234 8) r + Int64.ofInt (V (18 + 8 * r))) 8 := rfl
      rw [eS] at next
      generalize hBag V nb nc (hfold (fun k => rCount V nb nc (k : Int)) 234 8) r = s0 at next
      have fields : ∀ e c : Nat, c + e = 8 → Wp zS0 tX9_digest none 60 [zr 74, zi r, zi c] [] M (updl h 74 (hfold (fun c => if c = 7 then cw V nc r else V (18 + 8 * r + 1 + c)) (31 * s0 + Int64.ofInt (V (18 + 8 * r))) c)) (Qd (rDigest V nb nc) M) := by
        intro e
        induction e with
        | zero =>
          intro c hc
          have ec : c = 8 := by omega
          subst ec
          refine Wp.g1 rfl ?_
          refine Wp.brt rfl (by decide) ?_
          refine Wp.gt 32 rfl ?_
          rw [w32_s (n := r) (by omega)]
          exact next _
        | succ e ihe =>
          intro c hc
          refine Wp.g1 rfl ?_
          refine Wp.brf rfl (by omega) ?_
          refine Wp.g1 rfl ?_
          refine Wp.calli rfl (m9_ofBag hS hr' (show c < 8 by omega)) ?_
          refine Wp.callv rfl (m9_adds _ _ M h) ?_
          refine Wp.gt 60 rfl ?_
          rw [w32_s (n := c) (by omega)]
          exact ihe (c + 1) (by omega)
      refine Wp.g1 rfl ?_
      refine Wp.ld rfl rfl 10 rfl (by omega) ?_
      rw [e10]
      refine Wp.brf rfl (by omega) ?_
      refine Wp.g1 rfl ?_
      refine Wp.calli rfl (m9_bag0 r (by omega) M _) ?_
      refine Wp.ld rfl rfl (18 + 8 * r) rfl (by omega) ?_
      rw [hV _ (by omega)]
      refine Wp.callv rfl (m9_adds _ _ M h) ?_
      refine Wp.gt 60 rfl ?_
      exact fields 8 0 (by omega)
  have counts : ∀ d r : Nat, r + d = 8 → Wp zS0 tX9_digest none 9 [zr 74, zi r, zn] [] M (updl h 74 (hfold (fun k => rCount V nb nc (k : Int)) 234 r)) (Qd (rDigest V nb nc) M) := by
    intro d
    induction d with
    | zero =>
      intro r hr
      have e : r = 8 := by omega
      subst e
      refine Wp.g1 rfl ?_
      refine Wp.brt rfl (by decide) ?_
      refine Wp.gt 32 rfl ?_
      exact rowsB nb 0 (by omega) _
    | succ d ih =>
      intro r hr
      refine Wp.g1 rfl ?_
      refine Wp.brf rfl (by omega) ?_
      refine Wp.g1 rfl ?_
      refine Wp.calli rfl (m9_number hS (r : Int) (by omega)) ?_
      refine Wp.callv rfl (m9_adds _ _ M h) ?_
      refine Wp.gt 9 rfl ?_
      rw [w32_s (n := r) (by omega)]
      exact ih (r + 1) (by omega)
  refine Wp.gt 9 rfl ?_
  exact counts 8 0 (by omega)
end DG9
