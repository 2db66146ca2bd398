/-! the reference: the score -/
theorem m9_digit (x : Int) (k : Nat) (hx : 0 ≤ x) (hk : k ≤ 5) (M : Me) (h : Ml) : Wp zS0 tX9_digit none 0 [zi x, zi k, zn, zn] [] M h (Ri (digN x k) M h) := by
  have loop : ∀ d j : Nat, j + d = 5 → k ≤ j → Wp zS0 tX9_digit none 4 [zi x, zi k, zi (dv x (j - k)), zi j] [] M h (Ri (digN x k) M h) := by
    intro d
    induction d with
    | zero =>
      intro j hj hkj
      have e : j = 5 := by omega
      subst e
      have hb := (dv_rn hx (5 - k)).1
      refine Wp.g1 rfl ?_
      refine Wp.brt rfl (by decide) ?_
      refine Wp.g1 rfl ?_
      refine Wp.rem rfl hb (by decide) ?_
      exact Wp.rei rfl rfl rfl rfl
    | succ d ih =>
      intro j hj hkj
      have hb := (dv_rn hx (j - k)).1
      refine Wp.g1 rfl ?_
      refine Wp.brf rfl (by omega) ?_
      refine Wp.g1 rfl ?_
      refine Wp.div rfl hb (by decide) ?_
      refine Wp.gt 4 rfl ?_
      rw [w32_s (n := j) (by omega)]
      have k2 := ih (j + 1) (by omega) (by omega)
      rw [show j + 1 - k = j - k + 1 by omega] at k2
      exact k2
  have k3 := loop (5 - k) k (by omega) (Nat.le_refl _)
  rw [Nat.sub_self] at k3
  refine Wp.gt 4 rfl ?_
  exact k3
theorem ones_pc : ∀ i : Nat, i < 256 → sumI (fun k => ib (i : Int) (k : Int)) 8 = (pcN i : Int) := by decide +kernel
theorem m9_ones (i : Nat) (hi : i < 256) (M : Me) (h : Ml) : Wp zS0 tX9_ones none 0 [zi i, zn, zn] [] M h (Ri (pcN i) M h) := by
  have loop : ∀ d k : Nat, k + d = 8 → Wp zS0 tX9_ones none 4 [zi i, zi (sumI (fun k => ib (i : Int) (k : Int)) k), zi k] [] M h (Ri (pcN i) M h) := by
    intro d
    induction d with
    | zero =>
      intro k hk
      have e : k = 8 := by omega
      subst e
      refine Wp.g1 rfl ?_
      refine Wp.brt rfl (by decide) ?_
      refine Wp.g1 rfl ?_
      exact Wp.rei rfl (ones_pc i hi) rfl rfl
    | succ d ih =>
      intro k hk
      have hb := sumI_bd (f := fun k => ib (i : Int) (k : Int)) k (fun j _ => by rcases ib_01 (i : Int) (j : Int) with e | e <;> rw [e] <;> decide)
      have h1 := ib_01 (i : Int) (k : Int)
      refine Wp.g1 rfl ?_
      refine Wp.brf rfl (by omega) ?_
      refine Wp.gt 4 rfl ?_
      rw [w32_s (n := k) (by omega), show bAnd (bShr (i : Int) (k : Int)) 1 = ib (i : Int) (k : Int) from rfl, w32_id (x := sumI (fun k => ib (i : Int) (k : Int)) k + ib (i : Int) (k : Int)) ⟨by omega, by omega⟩]
      exact ih (k + 1) (by omega)
  refine Wp.gt 4 rfl ?_
  exact loop 8 0 (by omega)
theorem bOr_m : ∀ n : Nat, n < 6 → ∀ q : Nat, q < 64 → q < 2 ^ n → bOr (q : Int) (bShl 1 (n : Int)) = ((q + 2 ^ n : Nat) : Int) := by decide +kernel
section SC9
variable {M : Me} {h : Ml} {p : Nat} {V : Nat → Int} {nb nc t : Nat}
theorem m9_same (hS : MS M p V nb nc t) {c b cl bg : Nat} (hc : c < nc) (hb : b < nb) (ec : cl = p + (114 + 10 * c)) (eb : bg = p + (18 + 8 * b)) : Wp zS0 tX9_same none 0 [zr 74, zi cl, zi bg, zn, zn, zn] [] M h (Ri (smk (V (114 + 10 * c + 1)) (V (18 + 8 * b + 2)) (V (18 + 8 * b + 3)) : Int) M h) := by
  obtain ⟨hp, -, hV, hW⟩ := hS
  have hnb := hW.1.2.2.1
  have hnc := hW.1.2.2.2
  have b2 := (hW.2.2.1 _ hb).2.2.2.1
  have c1 := (hW.2.2.2.1 _ hc).2.2.1
  have lc : ∀ k, k < 10 → M 75 (cl + k) = V (114 + 10 * c + k) := fun k hk => by rw [ec, Nat.add_assoc]; exact hV _ (by omega)
  have lb : ∀ k, k < 8 → M 75 (bg + k) = V (18 + 8 * b + k) := fun k hk => by rw [eb, Nat.add_assoc]; exact hV _ (by omega)
  unfold smk
  generalize he : (fun k => decide (digN (V (114 + 10 * c + 1)) k = digN (V (18 + 8 * b + 2)) k) && decide (ib (V (18 + 8 * b + 3)) (k : Int) = 0)) = e
  have loop : ∀ d k : Nat, k + d = 6 → ∀ x : ZV, Wp zS0 tX9_same none 5 [zr 74, zi cl, zi bg, zi (ms e k : Nat), zi k, x] [] M h (Ri (ms e 6 : Nat) M h) := by
    intro d
    induction d with
    | zero =>
      intro k hk x
      have e6 : k = 6 := by omega
      subst e6
      refine Wp.g1 rfl ?_
      refine Wp.brt rfl (by decide) ?_
      refine Wp.g1 rfl ?_
      exact Wp.rei rfl rfl rfl rfl
    | succ d ih =>
      intro k hk x
      have hq := ms_lt e k
      have hq64 : ms e k < 64 := Nat.lt_of_lt_of_le hq (Nat.pow_le_pow_right (n := 2) (by decide) (show k ≤ 6 by omega))
      have es : ms e (k + 1) = ms e k + if e k then 2 ^ k else 0 := rfl
      have ih' := fun x => ih (k + 1) (by omega) x
      rw [es] at ih'
      have ek : e k = (decide (digN (V (114 + 10 * c + 1)) k = digN (V (18 + 8 * b + 2)) k) && decide (ib (V (18 + 8 * b + 3)) (k : Int) = 0)) := by rw [← he]
      have no : e k = false → Wp zS0 tX9_same none 61 [zr 74, zi cl, zi bg, zi (ms e k : Nat), zi k, x] [] M h (Ri (ms e 6 : Nat) M h) := by
        intro hf
        refine Wp.g1 rfl ?_
        refine Wp.brt rfl (by decide) ?_
        refine Wp.gt 5 rfl ?_
        rw [w32_s (n := k) (by omega), bOr_0 _ (by omega)]
        have := ih' (zi 0)
        rw [hf] at this
        exact this
      refine Wp.g1 rfl ?_
      refine Wp.brf rfl (by omega) ?_
      refine Wp.g1 rfl ?_
      rw [w32_n (x := (cl : Int) + 1) (n := cl + 1) (by omega) (by omega)]
      refine Wp.ld rfl rfl (cl + 1) rfl (by omega) ?_
      rw [lc 1 (by omega)]
      refine Wp.g1 rfl ?_
      refine Wp.calli rfl (m9_digit _ k c1.1 (by omega) M h) ?_
      refine Wp.g1 rfl ?_
      rw [w32_n (x := (bg : Int) + 2) (n := bg + 2) (by omega) (by omega)]
      refine Wp.ld rfl rfl (bg + 2) rfl (by omega) ?_
      rw [lb 2 (by omega)]
      refine Wp.g1 rfl ?_
      refine Wp.calli rfl (m9_digit _ k b2.1 (by omega) M h) ?_
      refine Wp.br rfl (fun c0 => ?_) (fun c0 => ?_)
      · exact no (by rw [ek, decide_eq_false c0]; rfl)
      · have c0 := Decidable.not_not.mp c0
        refine Wp.g1 rfl ?_
        rw [w32_n (x := (bg : Int) + 3) (n := bg + 3) (by omega) (by omega)]
        refine Wp.ld rfl rfl (bg + 3) rfl (by omega) ?_
        rw [lb 3 (by omega)]
        refine Wp.g1 rfl ?_
        refine Wp.br rfl (fun c2 => ?_) (fun c2 => ?_)
        · exact no (by rw [ek, show decide (ib (V (18 + 8 * b + 3)) (k : Int) = 0) = false from decide_eq_false c2, Bool.and_false])
        · have c2 : ib (V (18 + 8 * b + 3)) (k : Int) = 0 := Decidable.not_not.mp c2
          refine Wp.g1 rfl ?_
          refine Wp.brf rfl (by decide) ?_
          refine Wp.gt 5 rfl ?_
          rw [w32_s (n := k) (by omega), bOr_m k (by omega) _ hq64 hq]
          have := ih' (zi 1)
          rw [show e k = true by rw [ek, decide_eq_true c0, decide_eq_true c2]; rfl] at this
          exact this
  refine Wp.gt 5 rfl ?_
  exact loop 6 0 (by omega) _
end SC9
