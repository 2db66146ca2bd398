/-! the reference: places, rows, partners -/
/-- the reference's numbers from p on are V; its settings stand at 0 -/
def MS (M : Me) (p : Nat) (V : Nat → Int) (nb nc t : Nat) : Prop := p ≤ 214 ∧ (∀ j, j < 10 → M 75 j = V j) ∧ (∀ j, j < 214 → M 75 (p + j) = V j) ∧ WF V nb nc t
theorem MS.kept {M M' : Me} {p : Nat} {V : Nat → Int} {nb nc t : Nat} (h : MS M p V nb nc t) (hk : M' 75 = M 75) : MS M' p V nb nc t := by
  unfold MS at h ⊢
  rw [hk]
  exact h
theorem w32_n {x : Int} {n : Nat} (h : x = (n : Int)) (hn : n < 2000000000) : w32 x = (n : Int) := by
  rw [h, w32_id ⟨by omega, by omega⟩]
theorem m9_bagAt (p r : Nat) (hp : p ≤ 1000) (hr : r ≤ 1000) (M : Me) (h : Ml) : Wp zS0 tX9_bagAt none 0 [zr 74, zi p, zi r] [] M h (Ri ((p + (18 + 8 * r) : Nat) : Int) M h) := by
  refine Wp.g1 rfl ?_
  refine Wp.rei rfl ?_ rfl rfl
  rw [w32_n (x := (p : Int) + 18) (n := p + 18) (by omega) (by omega), w32_n (x := 8 * (r : Int)) (n := 8 * r) (by omega) (by omega), w32_n (n := p + (18 + 8 * r)) (by omega) (by omega)]
theorem m9_claimAt (p r : Nat) (hp : p ≤ 1000) (hr : r ≤ 1000) (M : Me) (h : Ml) : Wp zS0 tX9_claimAt none 0 [zr 74, zi p, zi r] [] M h (Ri ((p + (114 + 10 * r) : Nat) : Int) M h) := by
  refine Wp.g1 rfl ?_
  refine Wp.rei rfl ?_ rfl rfl
  rw [w32_n (x := (p : Int) + 114) (n := p + 114) (by omega) (by omega), w32_n (x := 10 * (r : Int)) (n := 10 * r) (by omega) (by omega), w32_n (n := p + (114 + 10 * r)) (by omega) (by omega)]
theorem m9_in (x l g : Int) (M : Me) (h : Ml) : Wp zS0 tX9_in none 0 [zi x, zi l, zi g] [] M h (Ri (if l ≤ x ∧ x ≤ g then 1 else 0) M h) := by
  refine Wp.g1 rfl ?_
  refine Wp.br rfl (fun c0 => ?_) (fun c0 => ?_)
  · refine Wp.g1 rfl ?_
    exact Wp.rei rfl (by rw [if_neg (by omega)]) rfl rfl
  refine Wp.g1 rfl ?_
  refine Wp.br rfl (fun c1 => ?_) (fun c1 => ?_)
  · refine Wp.g1 rfl ?_
    exact Wp.rei rfl (by rw [if_neg (by omega)]) rfl rfl
  · refine Wp.g1 rfl ?_
    exact Wp.rei rfl (by rw [if_pos (by omega)]) rfl rfl
theorem m9_less (x y : Int) (M : Me) (h : Ml) : Wp zS0 tX9_less none 0 [zi x, zi y] [] M h (Ri (min x y) M h) := by
  refine Wp.g1 rfl ?_
  refine Wp.br rfl (fun c0 => ?_) (fun c0 => ?_)
  · refine Wp.g1 rfl ?_
    exact Wp.rei rfl (by omega) rfl rfl
  · refine Wp.g1 rfl ?_
    exact Wp.rei rfl (by omega) rfl rfl
theorem m9_size (x : Int) (hx : -1000000 ≤ x ∧ x ≤ 1000000) (M : Me) (h : Ml) : Wp zS0 tX9_size none 0 [zi x] [] M h (Ri (x.natAbs : Int) M h) := by
  refine Wp.g1 rfl ?_
  refine Wp.br rfl (fun c0 => ?_) (fun c0 => ?_)
  · refine Wp.g1 rfl ?_
    exact Wp.rei rfl (by omega) rfl rfl
  · refine Wp.g1 rfl ?_
    exact Wp.rei rfl (by rw [w32_id ⟨by omega, by omega⟩]; omega) rfl rfl
section M9
variable {M : Me} {h : Ml} {p : Nat} {V : Nat → Int} {nb nc t : Nat}
theorem m9_weight (hS : MS M p V nb nc t) (i : Nat) (hi : i < 6) : Wp zS0 tX9_weight none 0 [zr 74, zi i] [] M h (Ri (V (4 + i)) M h) := by
  refine Wp.g1 rfl ?_
  rw [w32_n (n := 4 + i) (by omega) (by omega)]
  refine Wp.ld rfl rfl (4 + i) rfl (by omega) ?_
  exact Wp.rei rfl (hS.2.1 _ (by omega)) rfl rfl
theorem m9_bagOf (hS : MS M 0 V nb nc t) (x : Int) : Wp zS0 tX9_bagOf none 0 [zr 74, zi x, zn] [] M h (Ri (if rkB V nb x < nb then (rkB V nb x : Int) else -10006) M h) := by
  obtain ⟨-, -, hV, hW⟩ := hS
  have hV : ∀ j, j < 214 → M 75 j = V j := fun j hj => by have := hV j hj; rw [Nat.zero_add] at this; exact this
  have hnb := hW.1.2.2.1
  have loop : ∀ d r : Nat, r + d = nb → (∀ j, j < r → V (18 + 8 * j) ≠ x) → Wp zS0 tX9_bagOf none 2 [zr 74, zi x, zi r] [] M h (Ri (if rkB V nb x < nb then (rkB V nb x : Int) else -10006) M h) := by
    intro d
    induction d with
    | zero =>
      intro r hr hj
      have e : rkB V nb x = nb := fnd_none (fun j h1 => hj j (by omega))
      refine Wp.g1 rfl ?_
      refine Wp.ld rfl rfl 10 rfl (by decide) ?_
      rw [hV 10 (by omega), hW.1.1]
      refine Wp.brt rfl (by omega) ?_
      refine Wp.g1 rfl ?_
      exact Wp.rei rfl (by rw [e, if_neg (by omega)]) rfl rfl
    | succ d ih =>
      intro r hr hj
      refine Wp.g1 rfl ?_
      refine Wp.ld rfl rfl 10 rfl (by decide) ?_
      rw [hV 10 (by omega), hW.1.1]
      refine Wp.brf rfl (by omega) ?_
      refine Wp.g1 rfl ?_
      refine Wp.calli rfl (m9_bagAt 0 r (by omega) (by omega) M h) ?_
      refine Wp.ld rfl rfl (0 + (18 + 8 * r)) rfl (by omega) ?_
      rw [Nat.zero_add, hV _ (by omega)]
      refine Wp.g1 rfl ?_
      refine Wp.br rfl (fun c0 => ?_) (fun c0 => ?_)
      · refine Wp.gt 2 rfl ?_
        rw [w32_s (n := r) (by omega)]
        refine ih (r + 1) (by omega) (fun j h1 => ?_)
        by_cases e : j = r
        · subst e; exact c0
        · exact hj j (by omega)
      · have c0 : V (18 + 8 * r) = x := Decidable.not_not.mp c0
        have e : rkB V nb x = r := fnd_some (by omega) c0 hj
        refine Wp.g1 rfl ?_
        exact Wp.rei rfl (by rw [e, if_pos (by omega)]) rfl rfl
  refine Wp.gt 2 rfl ?_
  exact loop nb 0 (by omega) (fun j h1 => by omega)
theorem m9_rankOf (hS : MS M 0 V nb nc t) (x : Int) : Wp zS0 tX9_rankOf none 0 [zr 74, zi x, zn] [] M h (Ri (if rkC V nc x < nc then (rkC V nc x : Int) else -10006) M h) := by
  obtain ⟨-, -, hV, hW⟩ := hS
  have hV : ∀ j, j < 214 → M 75 j = V j := fun j hj => by have := hV j hj; rw [Nat.zero_add] at this; exact this
  have hnc := hW.1.2.2.2
  have loop : ∀ d r : Nat, r + d = nc → (∀ j, j < r → V (114 + 10 * j) ≠ x) → Wp zS0 tX9_rankOf none 2 [zr 74, zi x, zi r] [] M h (Ri (if rkC V nc x < nc then (rkC V nc x : Int) else -10006) M h) := by
    intro d
    induction d with
    | zero =>
      intro r hr hj
      have e : rkC V nc x = nc := fnd_none (fun j h1 => hj j (by omega))
      refine Wp.g1 rfl ?_
      refine Wp.ld rfl rfl 12 rfl (by decide) ?_
      rw [hV 12 (by omega), hW.1.2.1]
      refine Wp.brt rfl (by omega) ?_
      refine Wp.g1 rfl ?_
      exact Wp.rei rfl (by rw [e, if_neg (by omega)]) rfl rfl
    | succ d ih =>
      intro r hr hj
      refine Wp.g1 rfl ?_
      refine Wp.ld rfl rfl 12 rfl (by decide) ?_
      rw [hV 12 (by omega), hW.1.2.1]
      refine Wp.brf rfl (by omega) ?_
      refine Wp.g1 rfl ?_
      refine Wp.calli rfl (m9_claimAt 0 r (by omega) (by omega) M h) ?_
      refine Wp.ld rfl rfl (0 + (114 + 10 * r)) rfl (by omega) ?_
      rw [Nat.zero_add, hV _ (by omega)]
      refine Wp.g1 rfl ?_
      refine Wp.br rfl (fun c0 => ?_) (fun c0 => ?_)
      · refine Wp.gt 2 rfl ?_
        rw [w32_s (n := r) (by omega)]
        refine ih (r + 1) (by omega) (fun j h1 => ?_)
        by_cases e : j = r
        · subst e; exact c0
        · exact hj j (by omega)
      · have c0 : V (114 + 10 * r) = x := Decidable.not_not.mp c0
        have e : rkC V nc x = r := fnd_some (by omega) c0 hj
        refine Wp.g1 rfl ?_
        exact Wp.rei rfl (by rw [e, if_pos (by omega)]) rfl rfl
  refine Wp.gt 2 rfl ?_
  exact loop nc 0 (by omega) (fun j h1 => by omega)
theorem m9_isFreeClaim (hS : MS M p V nb nc t) (c : Nat) (hc : c < 10) : Wp zS0 tX9_isFreeClaim none 0 [zr 74, zi p, zi c] [] M h (Ri (if V (114 + 10 * c + 9) = 0 then 1 else 0) M h) := by
  have hp := hS.1
  refine Wp.g1 rfl ?_
  refine Wp.calli rfl (m9_claimAt p c (by omega) (by omega) M h) ?_
  refine Wp.g1 rfl ?_
  rw [w32_n (n := p + (114 + 10 * c + 9)) (by omega) (by omega)]
  refine Wp.ld rfl rfl (p + (114 + 10 * c + 9)) rfl (by omega) ?_
  rw [hS.2.2.1 _ (by omega)]
  refine Wp.br rfl (fun c0 => ?_) (fun c0 => ?_)
  · refine Wp.g1 rfl ?_
    exact Wp.rei rfl (by rw [if_neg c0]) rfl rfl
  · refine Wp.g1 rfl ?_
    exact Wp.rei rfl (by rw [if_pos (Decidable.not_not.mp c0)]) rfl rfl
theorem m9_claimWith (hS : MS M p V nb nc t) (b : Nat) (hb : b < 12) : Wp zS0 tX9_claimWith none 0 [zr 74, zi p, zi b, zn] [] M h (Ri (cw V nc b) M h) := by
  obtain ⟨hp, -, hV, hW⟩ := hS
  have hnc := hW.1.2.2.2
  have loop : ∀ d r : Nat, r + d = nc → (∀ j, j < r → V (114 + 10 * j + 9) ≠ V (18 + 8 * b)) → Wp zS0 tX9_claimWith none 2 [zr 74, zi p, zi b, zi r] [] M h (Ri (cw V nc b) M h) := by
    intro d
    induction d with
    | zero =>
      intro r hr hj
      refine Wp.g1 rfl ?_
      rw [w32_n (n := p + 12) (by omega) (by omega)]
      refine Wp.ld rfl rfl (p + 12) rfl (by omega) ?_
      rw [hV 12 (by omega), hW.1.2.1]
      refine Wp.brt rfl (by omega) ?_
      refine Wp.g1 rfl ?_
      exact Wp.rei rfl (cw_none (fun j h1 => hj j (by omega))).symm rfl rfl
    | succ d ih =>
      intro r hr hj
      refine Wp.g1 rfl ?_
      rw [w32_n (n := p + 12) (by omega) (by omega)]
      refine Wp.ld rfl rfl (p + 12) rfl (by omega) ?_
      rw [hV 12 (by omega), hW.1.2.1]
      refine Wp.brf rfl (by omega) ?_
      refine Wp.g1 rfl ?_
      refine Wp.calli rfl (m9_claimAt p r (by omega) (by omega) M h) ?_
      refine Wp.g1 rfl ?_
      rw [w32_n (n := p + (114 + 10 * r + 9)) (by omega) (by omega)]
      refine Wp.ld rfl rfl (p + (114 + 10 * r + 9)) rfl (by omega) ?_
      rw [hV _ (by omega)]
      refine Wp.g1 rfl ?_
      refine Wp.calli rfl (m9_bagAt p b (by omega) (by omega) M h) ?_
      refine Wp.ld rfl rfl (p + (18 + 8 * b)) rfl (by omega) ?_
      rw [hV _ (by omega)]
      refine Wp.br rfl (fun c0 => ?_) (fun c0 => ?_)
      · refine Wp.gt 2 rfl ?_
        rw [w32_s (n := r) (by omega)]
        refine ih (r + 1) (by omega) (fun j h1 => ?_)
        by_cases e : j = r
        · subst e; exact c0
        · exact hj j (by omega)
      · have c0 : V (114 + 10 * r + 9) = V (18 + 8 * b) := Decidable.not_not.mp c0
        refine Wp.g1 rfl ?_
        refine Wp.calli rfl (m9_claimAt p r (by omega) (by omega) M h) ?_
        refine Wp.ld rfl rfl (p + (114 + 10 * r)) rfl (by omega) ?_
        rw [hV _ (by omega)]
        refine Wp.rei rfl ?_ rfl rfl
        unfold cw
        rw [fnd_some (f := fun c => V (114 + 10 * c + 9)) (k := r) (by omega) c0 hj, if_pos (by omega)]
  refine Wp.gt 2 rfl ?_
  exact loop nc 0 (by omega) (fun j h1 => by omega)
end M9
