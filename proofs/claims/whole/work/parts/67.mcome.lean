/-! the reference: bags and claims that come, matches -/
section CO9
variable {M : Me} {h : Ml} {V : Nat → Int} {nb nc t : Nat} {a : At}
theorem m9_bag0 (r : Nat) (hr : r ≤ 1000) (M : Me) (h : Ml) : Wp zS0 tX9_bagAt none 0 [zr 74, zi 0, zi r] [] M h (Ri ((18 + 8 * r : Nat) : Int) M h) := by
  have := m9_bagAt 0 r (by omega) hr M h
  rw [Nat.zero_add] at this
  exact this
theorem m9_claim0 (r : Nat) (hr : r ≤ 1000) (M : Me) (h : Ml) : Wp zS0 tX9_claimAt none 0 [zr 74, zi 0, zi r] [] M h (Ri ((114 + 10 * r : Nat) : Int) M h) := by
  have := m9_claimAt 0 r (by omega) hr M h
  rw [Nat.zero_add] at this
  exact this
/-- the legible digits, from the first -/
def hq (y : Nat → Int) : Nat → Int
  | 0 => 0
  | n + 1 => 10 * hq y n + y n
theorem hq_rn {y : Nat → Int} (hy : ∀ k, 0 ≤ y k ∧ y k ≤ 9) : ∀ n, 0 ≤ hq y n ∧ hq y n < 10 ^ n := by
  intro n
  induction n with
  | zero => show (0 : Int) ≤ 0 ∧ (0 : Int) < 1; decide
  | succ n ih =>
    have h1 := hy n
    show 0 ≤ 10 * hq y n + y n ∧ 10 * hq y n + y n < 10 ^ (n + 1)
    rw [Int.pow_succ]
    omega
def lgy (t ill : Int) (k : Nat) : Int := if ib ill (k : Int) = 0 then digN t k else 0
theorem hq_leg (t ill : Int) : hq (lgy t ill) 6 = leg t ill := by
  have e : ∀ n, lq t ill (n + 1) = lq t ill n + lgy t ill (5 - n) * 10 ^ n := fun n => rfl
  have f : ∀ n, hq (lgy t ill) (n + 1) = 10 * hq (lgy t ill) n + lgy t ill n := fun n => rfl
  unfold leg
  rw [e, e, e, e, e, e, f, f, f, f, f, f, show lq t ill 0 = 0 from rfl, show hq (lgy t ill) 0 = 0 from rfl]
  show 10 * (10 * (10 * (10 * (10 * (10 * 0 + lgy t ill 0) + lgy t ill 1) + lgy t ill 2) + lgy t ill 3) + lgy t ill 4) + lgy t ill 5 = 0 + lgy t ill 5 * 1 + lgy t ill 4 * 10 + lgy t ill 3 * 100 + lgy t ill 2 * 1000 + lgy t ill 1 * 10000 + lgy t ill 0 * 100000
  omega
theorem lgy_rn {t ill : Int} (ht : 0 ≤ t) (k : Nat) : 0 ≤ lgy t ill k ∧ lgy t ill k ≤ 9 := by
  have := (dv_rn ht (5 - k)).1
  unfold lgy digN
  split <;> omega
theorem m9_legible (tg ill : Int) (ht : 0 ≤ tg) (M : Me) (h : Ml) : Wp zS0 tX9_legible none 0 [zi tg, zi ill, zn, zn] [] M h (Ri (leg tg ill) M h) := by
  rw [← hq_leg]
  have loop : ∀ d k : Nat, k + d = 6 → Wp zS0 tX9_legible none 4 [zi tg, zi ill, zi (hq (lgy tg ill) k), zi k] [] M h (Ri (hq (lgy tg ill) 6) M h) := by
    intro d
    induction d with
    | zero =>
      intro k hk
      have e : k = 6 := by omega
      subst e
      refine Wp.g1 rfl ?_
      refine Wp.brt rfl (by decide) ?_
      refine Wp.g1 rfl ?_
      exact Wp.rei rfl rfl rfl rfl
    | succ d ih =>
      intro k hk
      have b1 := hq_rn (lgy_rn (ill := ill) ht) k
      have b2 := lgy_rn (ill := ill) ht k
      have b3 := (ten_pow k (by omega)).1
      have e1 : w32 (10 * hq (lgy tg ill) k) = 10 * hq (lgy tg ill) k := w32_id ⟨by omega, by omega⟩
      have e2 : w32 (10 * hq (lgy tg ill) k + lgy tg ill k) = hq (lgy tg ill) (k + 1) := w32_id ⟨by omega, by omega⟩
      have next := ih (k + 1) (by omega)
      rw [← e2] at next
      refine Wp.g1 rfl ?_
      refine Wp.brf rfl (by omega) ?_
      refine Wp.g1 rfl ?_
      rw [e1]
      by_cases g : ib ill (k : Int) = 0
      · have el : lgy tg ill k = digN tg k := if_pos g
        rw [el] at next
        refine Wp.brt rfl (fun q => ?_) ?_
        · have q : ib ill (k : Int) = 1 := q
          omega
        refine Wp.g1 rfl ?_
        refine Wp.calli rfl (m9_digit tg k ht (by omega) M h) ?_
        refine Wp.gt 4 rfl ?_
        rw [w32_s (n := k) (by omega)]
        exact next
      · have el : lgy tg ill k = 0 := if_neg g
        rw [el] at next
        refine Wp.brf rfl (fun q => q ?_) ?_
        · show ib ill (k : Int) = 1
          rcases ib_01 ill (k : Int) with e | e
          · exact absurd e g
          · exact e
        refine Wp.gt 4 rfl ?_
        rw [w32_s (n := k) (by omega)]
        exact next
  refine Wp.gt 4 rfl ?_
  exact loop 6 0 (by omega)
theorem m9_registers (hM : MR M a) (hnb : a.V 10 = (a.nb : Int)) (hn : a.nb < 12) (h11 : 0 ≤ a.V 11 ∧ a.V 11 ≤ 1000000) (x0 x1 x2 x3 x4 x5 : Int) (hx : 0 ≤ x1) : Wp zS0 tX9_registers none 0 [zr 74, zi x0, zi x1, zi x2, zi x3, zi x4, zi x5, zn] [] M h (fun v M' h' => v = some (zi (a.V 11 + 1)) ∧ h' = h ∧ (∀ k, k ≠ 75 → M' k = M k) ∧ MR M' ((nBag a.V a.nb x0 (leg x1 x2) x2 x3 x4 x5, a.nb + 1, a.nc), a.2)) := by
  have e10 : M 75 10 = (a.nb : Int) := (hM.1 10 (by omega)).trans hnb
  have e11 : M 75 11 = a.V 11 := hM.1 11 (by omega)
  have e0 : M 75 0 = a.V 0 := hM.1 0 (by omega)
  have at' : ∀ (k : Nat) (x : Int), x = (k : Int) → k < 8 → w32 (((18 + 8 * a.nb : Nat) : Int) + x) = ((18 + 8 * a.nb + k : Nat) : Int) := fun k x hx hk => w32_n (by omega) (by omega)
  refine Wp.g1 rfl ?_
  refine Wp.ld rfl rfl 10 rfl (by omega) ?_
  rw [e10]
  refine Wp.calli rfl (m9_bag0 a.nb (by omega) M h) ?_
  refine Wp.g1 rfl ?_
  refine Wp.ld rfl rfl 10 rfl (by omega) ?_
  rw [e10]
  refine Wp.g1 rfl ?_
  rw [w32_s (n := a.nb) (by omega)]
  have q1 := hM.put (j := 10) ((a.nb + 1 : Nat) : Int) a.nb a.nc
  refine Wp.sto rfl rfl 10 rfl (by omega) ?_
  refine Wp.g1 rfl ?_
  refine Wp.ld rfl rfl 11 rfl (by omega) ?_
  rw [upd2_off (by decide), e11]
  refine Wp.g1 rfl ?_
  rw [w32_id (x := a.V 11 + 1) ⟨by omega, by omega⟩]
  have q2 := q1.put (j := 11) (a.V 11 + 1) a.nb a.nc
  refine Wp.sto rfl rfl 11 rfl (by omega) ?_
  refine Wp.g1 rfl ?_
  refine Wp.ld rfl rfl 11 rfl (by omega) ?_
  rw [upd2_at]
  have q3 := q2.put (j := 18 + 8 * a.nb) (a.V 11 + 1) a.nb a.nc
  refine Wp.sto rfl rfl (18 + 8 * a.nb) rfl (by omega) ?_
  refine Wp.g1 rfl ?_
  rw [at' 1 1 rfl (by omega)]
  have q4 := q3.put (j := 18 + 8 * a.nb + 1) x0 a.nb a.nc
  refine Wp.sto rfl rfl (18 + 8 * a.nb + 1) rfl (by omega) ?_
  refine Wp.g1 rfl ?_
  rw [at' 2 2 rfl (by omega)]
  refine Wp.calli rfl (m9_legible x1 x2 hx _ h) ?_
  have q5 := q4.put (j := 18 + 8 * a.nb + 2) (leg x1 x2) a.nb a.nc
  refine Wp.sto rfl rfl (18 + 8 * a.nb + 2) rfl (by omega) ?_
  refine Wp.g1 rfl ?_
  rw [at' 3 3 rfl (by omega)]
  have q6 := q5.put (j := 18 + 8 * a.nb + 3) x2 a.nb a.nc
  refine Wp.sto rfl rfl (18 + 8 * a.nb + 3) rfl (by omega) ?_
  refine Wp.g1 rfl ?_
  rw [at' 4 4 rfl (by omega)]
  have q7 := q6.put (j := 18 + 8 * a.nb + 4) x3 a.nb a.nc
  refine Wp.sto rfl rfl (18 + 8 * a.nb + 4) rfl (by omega) ?_
  refine Wp.g1 rfl ?_
  rw [at' 5 5 rfl (by omega)]
  have q8 := q7.put (j := 18 + 8 * a.nb + 5) x4 a.nb a.nc
  refine Wp.sto rfl rfl (18 + 8 * a.nb + 5) rfl (by omega) ?_
  refine Wp.g1 rfl ?_
  rw [at' 6 6 rfl (by omega)]
  have q9 := q8.put (j := 18 + 8 * a.nb + 6) x5 a.nb a.nc
  refine Wp.sto rfl rfl (18 + 8 * a.nb + 6) rfl (by omega) ?_
  refine Wp.g1 rfl ?_
  rw [at' 7 7 rfl (by omega)]
  refine Wp.ld rfl rfl 0 rfl (by omega) ?_
  repeat rw [upd2_off (j := 18 + 8 * a.nb + _) (by omega)]
  rw [upd2_off (j := 18 + 8 * a.nb) (by omega), upd2_off (j := 11) (by omega), upd2_off (j := 10) (by omega), e0]
  have q10 := q9.put (j := 18 + 8 * a.nb + 7) (a.V 0) (a.nb + 1) a.nc
  refine Wp.sto rfl rfl (18 + 8 * a.nb + 7) rfl (by omega) ?_
  refine Wp.g1 rfl ?_
  refine Wp.ld rfl rfl 11 rfl (by omega) ?_
  refine Wp.re rfl ⟨?_, rfl, fun k g => by repeat rw [upd2_ne g], q10⟩
  repeat rw [upd2_off (j := 18 + 8 * a.nb + _) (by omega)]
  rw [upd2_off (j := 18 + 8 * a.nb) (by omega), upd2_at]
theorem m9_found (hM : MR M a) (hS : SO a t) (ht : t ≤ 600) (x0 x1 x2 x3 x4 x5 : Int) : Wp zS0 tX9_found none 0 [zr 74, zi x0, zi x1, zi x2, zi x3, zi x4, zi x5, zn] [] M h (Ms (sFound a x0 x1 x2 x3 x4 x5) M h) := by
  have hW := hS.1
  have e10 : M 75 10 = (a.nb : Int) := (hM.1 10 (by omega)).trans hW.1.1
  have h11 := hW.2.1.2.2.2.2.2.1
  have hnb := hW.1.2.2.1
  refine Wp.g1 rfl ?_
  refine Wp.calli rfl (m9_in x0 0 7 M h) ?_
  by_cases g0 : ¬ (0 ≤ x0 ∧ x0 ≤ 7)
  · rw [if_neg (c := 0 ≤ x0 ∧ x0 ≤ 7) g0, show sFound a x0 x1 x2 x3 x4 x5 = (-10002, a) from if_pos (by omega)]
    refine Wp.brt rfl rfl ?_
    refine Wp.g1 rfl ?_
    refine Wp.brt rfl rfl ?_
    refine Wp.g1 rfl ?_
    exact Ms.no hM (Wp.rei rfl rfl rfl rfl)
  have g0 := Decidable.not_not.mp g0
  rw [if_pos (c := 0 ≤ x0 ∧ x0 ≤ 7) g0]
  refine Wp.brf rfl (by decide) ?_
  refine Wp.g1 rfl ?_
  refine Wp.calli rfl (m9_in x1 0 999999 M h) ?_
  by_cases g1 : ¬ (0 ≤ x1 ∧ x1 ≤ 999999)
  · rw [if_neg (c := 0 ≤ x1 ∧ x1 ≤ 999999) g1, show sFound a x0 x1 x2 x3 x4 x5 = (-10002, a) from if_pos (by omega)]
    refine Wp.brt rfl rfl ?_
    refine Wp.g1 rfl ?_
    refine Wp.brt rfl rfl ?_
    refine Wp.g1 rfl ?_
    exact Ms.no hM (Wp.rei rfl rfl rfl rfl)
  have g1 := Decidable.not_not.mp g1
  rw [if_pos (c := 0 ≤ x1 ∧ x1 ≤ 999999) g1]
  refine Wp.brf rfl (by decide) ?_
  refine Wp.g1 rfl ?_
  refine Wp.calli rfl (m9_in x2 0 63 M h) ?_
  by_cases g2 : ¬ (0 ≤ x2 ∧ x2 ≤ 63)
  · rw [if_neg (c := 0 ≤ x2 ∧ x2 ≤ 63) g2, show sFound a x0 x1 x2 x3 x4 x5 = (-10002, a) from if_pos (by omega)]
    refine Wp.brt rfl rfl ?_
    refine Wp.g1 rfl ?_
    refine Wp.brt rfl rfl ?_
    refine Wp.g1 rfl ?_
    exact Ms.no hM (Wp.rei rfl rfl rfl rfl)
  have g2 := Decidable.not_not.mp g2
  rw [if_pos (c := 0 ≤ x2 ∧ x2 ≤ 63) g2]
  refine Wp.brf rfl (by decide) ?_
  refine Wp.g1 rfl ?_
  refine Wp.brf rfl (by decide) ?_
  refine Wp.g1 rfl ?_
  refine Wp.calli rfl (m9_in x3 0 7 M h) ?_
  by_cases g3 : ¬ (0 ≤ x3 ∧ x3 ≤ 7)
  · rw [if_neg (c := 0 ≤ x3 ∧ x3 ≤ 7) g3, show sFound a x0 x1 x2 x3 x4 x5 = (-10002, a) from if_pos (by omega)]
    refine Wp.brt rfl rfl ?_
    refine Wp.g1 rfl ?_
    exact Ms.no hM (Wp.rei rfl rfl rfl rfl)
  have g3 := Decidable.not_not.mp g3
  rw [if_pos (c := 0 ≤ x3 ∧ x3 ≤ 7) g3]
  refine Wp.brf rfl (by decide) ?_
  refine Wp.g1 rfl ?_
  refine Wp.calli rfl (m9_in x4 0 11 M h) ?_
  by_cases g4 : ¬ (0 ≤ x4 ∧ x4 ≤ 11)
  · rw [if_neg (c := 0 ≤ x4 ∧ x4 ≤ 11) g4, show sFound a x0 x1 x2 x3 x4 x5 = (-10002, a) from if_pos (by omega)]
    refine Wp.brt rfl rfl ?_
    refine Wp.g1 rfl ?_
    exact Ms.no hM (Wp.rei rfl rfl rfl rfl)
  have g4 := Decidable.not_not.mp g4
  rw [if_pos (c := 0 ≤ x4 ∧ x4 ≤ 11) g4]
  refine Wp.brf rfl (by decide) ?_
  refine Wp.g1 rfl ?_
  refine Wp.calli rfl (m9_in x5 0 255 M h) ?_
  by_cases g5 : ¬ (0 ≤ x5 ∧ x5 ≤ 255)
  · rw [if_neg (c := 0 ≤ x5 ∧ x5 ≤ 255) g5, show sFound a x0 x1 x2 x3 x4 x5 = (-10002, a) from if_pos (by omega)]
    refine Wp.brf rfl (fun q => q rfl) ?_
    refine Wp.g1 rfl ?_
    exact Ms.no hM (Wp.rei rfl rfl rfl rfl)
  have g5 := Decidable.not_not.mp g5
  rw [if_pos (c := 0 ≤ x5 ∧ x5 ≤ 255) g5]
  refine Wp.brt rfl (by decide) ?_
  refine Wp.g1 rfl ?_
  refine Wp.ld rfl rfl 10 rfl (by omega) ?_
  rw [e10]
  refine Wp.g1 rfl ?_
  by_cases e : a.nb = 12
  · rw [show sFound a x0 x1 x2 x3 x4 x5 = (-10004, a) from (if_neg (by omega)).trans (if_pos e)]
    refine Wp.brf rfl (by omega) ?_
    refine Wp.g1 rfl ?_
    exact Ms.no hM (Wp.rei rfl rfl rfl rfl)
  rw [show sFound a x0 x1 x2 x3 x4 x5 = (a.V 11 + 1, ((nBag a.V a.nb x0 (leg x1 x2) x2 x3 x4 x5, a.nb + 1, a.nc), (sv a).2)) from (if_neg (by omega)).trans (if_neg e)]
  refine Wp.brt rfl (by omega) ?_
  refine Wp.g1 rfl ?_
  refine Wp.call rfl (m9_saves hM hS) (fun v M1 h1 q => ?_)
  obtain ⟨rfl, rfl, q1, q2⟩ := q
  refine Wp.g1 rfl ?_
  refine Wp.call rfl (m9_registers q2 hW.1.1 (show a.nb < 12 by omega) (show 0 ≤ a.V 11 ∧ a.V 11 ≤ 1000000 by omega) x0 x1 x2 x3 x4 x5 g1.1) (fun v M2 h2 q => ?_)
  obtain ⟨rfl, rfl, q3, q4⟩ := q
  exact Wp.re rfl ⟨rfl, rfl, fun k g => (q3 k (by omega)).trans (q1 k (by omega) (by omega)), q4⟩
theorem m9_claim (hM : MR M a) (hS : SO a t) (ht : t ≤ 600) (x0 x1 x2 x3 x4 x5 x6 x7 : Int) : Wp zS0 tX9_claim none 0 [zr 74, zi x0, zi x1, zi x2, zi x3, zi x4, zi x5, zi x6, zi x7, zn, zn] [] M h (Ms (sClaim a x0 x1 x2 x3 x4 x5 x6 x7) M h) := by
  have hW := hS.1
  have e12 : M 75 12 = (a.nc : Int) := (hM.1 12 (by omega)).trans hW.1.2.1
  have h13 := hW.2.1.2.2.2.2.2.2
  have h0 := hW.2.1.1
  have hnc := hW.1.2.2.2
  refine Wp.g1 rfl ?_
  refine Wp.calli rfl (m9_in x0 0 999999 M h) ?_
  by_cases g0 : ¬ (0 ≤ x0 ∧ x0 ≤ 999999)
  · rw [if_neg (c := 0 ≤ x0 ∧ x0 ≤ 999999) g0, show sClaim a x0 x1 x2 x3 x4 x5 x6 x7 = (-10002, a) from if_pos (by omega)]
    refine Wp.brt rfl rfl ?_
    refine Wp.g1 rfl ?_
    refine Wp.brt rfl rfl ?_
    refine Wp.g1 rfl ?_
    exact Ms.no hM (Wp.rei rfl rfl rfl rfl)
  have g0 := Decidable.not_not.mp g0
  rw [if_pos (c := 0 ≤ x0 ∧ x0 ≤ 999999) g0]
  refine Wp.brf rfl (by decide) ?_
  refine Wp.g1 rfl ?_
  refine Wp.calli rfl (m9_in x1 0 7 M h) ?_
  by_cases g1 : ¬ (0 ≤ x1 ∧ x1 ≤ 7)
  · rw [if_neg (c := 0 ≤ x1 ∧ x1 ≤ 7) g1, show sClaim a x0 x1 x2 x3 x4 x5 x6 x7 = (-10002, a) from if_pos (by omega)]
    refine Wp.brt rfl rfl ?_
    refine Wp.g1 rfl ?_
    refine Wp.brt rfl rfl ?_
    refine Wp.g1 rfl ?_
    exact Ms.no hM (Wp.rei rfl rfl rfl rfl)
  have g1 := Decidable.not_not.mp g1
  rw [if_pos (c := 0 ≤ x1 ∧ x1 ≤ 7) g1]
  refine Wp.brf rfl (by decide) ?_
  refine Wp.g1 rfl ?_
  refine Wp.calli rfl (m9_in x2 0 11 M h) ?_
  by_cases g2 : ¬ (0 ≤ x2 ∧ x2 ≤ 11)
  · rw [if_neg (c := 0 ≤ x2 ∧ x2 ≤ 11) g2, show sClaim a x0 x1 x2 x3 x4 x5 x6 x7 = (-10002, a) from if_pos (by omega)]
    refine Wp.brt rfl rfl ?_
    refine Wp.g1 rfl ?_
    refine Wp.brt rfl rfl ?_
    refine Wp.g1 rfl ?_
    exact Ms.no hM (Wp.rei rfl rfl rfl rfl)
  have g2 := Decidable.not_not.mp g2
  rw [if_pos (c := 0 ≤ x2 ∧ x2 ≤ 11) g2]
  refine Wp.brf rfl (by decide) ?_
  refine Wp.g1 rfl ?_
  refine Wp.calli rfl (m9_in x3 0 255 M h) ?_
  by_cases g3 : ¬ (0 ≤ x3 ∧ x3 ≤ 255)
  · rw [if_neg (c := 0 ≤ x3 ∧ x3 ≤ 255) g3, show sClaim a x0 x1 x2 x3 x4 x5 x6 x7 = (-10002, a) from if_pos (by omega)]
    refine Wp.brt rfl rfl ?_
    refine Wp.g1 rfl ?_
    refine Wp.brt rfl rfl ?_
    refine Wp.g1 rfl ?_
    exact Ms.no hM (Wp.rei rfl rfl rfl rfl)
  have g3 := Decidable.not_not.mp g3
  rw [if_pos (c := 0 ≤ x3 ∧ x3 ≤ 255) g3]
  refine Wp.brf rfl (by decide) ?_
  refine Wp.g1 rfl ?_
  refine Wp.brf rfl (by decide) ?_
  refine Wp.g1 rfl ?_
  refine Wp.calli rfl (m9_in x4 1 255 M h) ?_
  by_cases g4 : ¬ (1 ≤ x4 ∧ x4 ≤ 255)
  · rw [if_neg (c := 1 ≤ x4 ∧ x4 ≤ 255) g4, show sClaim a x0 x1 x2 x3 x4 x5 x6 x7 = (-10002, a) from if_pos (by omega)]
    refine Wp.brt rfl rfl ?_
    refine Wp.g1 rfl ?_
    exact Ms.no hM (Wp.rei rfl rfl rfl rfl)
  have g4 := Decidable.not_not.mp g4
  rw [if_pos (c := 1 ≤ x4 ∧ x4 ≤ 255) g4]
  refine Wp.brf rfl (by decide) ?_
  refine Wp.g1 rfl ?_
  refine Wp.calli rfl (m9_in x5 1 99999 M h) ?_
  by_cases g5 : ¬ (1 ≤ x5 ∧ x5 ≤ 99999)
  · rw [if_neg (c := 1 ≤ x5 ∧ x5 ≤ 99999) g5, show sClaim a x0 x1 x2 x3 x4 x5 x6 x7 = (-10002, a) from if_pos (by omega)]
    refine Wp.brt rfl rfl ?_
    refine Wp.g1 rfl ?_
    exact Ms.no hM (Wp.rei rfl rfl rfl rfl)
  have g5 := Decidable.not_not.mp g5
  rw [if_pos (c := 1 ≤ x5 ∧ x5 ≤ 99999) g5]
  refine Wp.brf rfl (by decide) ?_
  refine Wp.g1 rfl ?_
  refine Wp.calli rfl (m9_in x6 0 20 M h) ?_
  by_cases g6 : ¬ (0 ≤ x6 ∧ x6 ≤ 20)
  · rw [if_neg (c := 0 ≤ x6 ∧ x6 ≤ 20) g6, show sClaim a x0 x1 x2 x3 x4 x5 x6 x7 = (-10002, a) from if_pos (by omega)]
    refine Wp.brt rfl rfl ?_
    refine Wp.g1 rfl ?_
    exact Ms.no hM (Wp.rei rfl rfl rfl rfl)
  have g6 := Decidable.not_not.mp g6
  rw [if_pos (c := 0 ≤ x6 ∧ x6 ≤ 20) g6]
  refine Wp.brf rfl (by decide) ?_
  refine Wp.g1 rfl ?_
  refine Wp.calli rfl (m9_in x7 0 30 M h) ?_
  by_cases g7 : ¬ (0 ≤ x7 ∧ x7 ≤ 30)
  · rw [if_neg (c := 0 ≤ x7 ∧ x7 ≤ 30) g7, show sClaim a x0 x1 x2 x3 x4 x5 x6 x7 = (-10002, a) from if_pos (by omega)]
    refine Wp.brf rfl (fun q => q rfl) ?_
    refine Wp.g1 rfl ?_
    exact Ms.no hM (Wp.rei rfl rfl rfl rfl)
  have g7 := Decidable.not_not.mp g7
  rw [if_pos (c := 0 ≤ x7 ∧ x7 ≤ 30) g7]
  refine Wp.brt rfl (by decide) ?_
  refine Wp.g1 rfl ?_
  refine Wp.ld rfl rfl 12 rfl (by omega) ?_
  rw [e12]
  refine Wp.g1 rfl ?_
  by_cases e : a.nc = 10
  · rw [show sClaim a x0 x1 x2 x3 x4 x5 x6 x7 = (-10004, a) from (if_neg (by omega)).trans (if_pos e)]
    refine Wp.brf rfl (by omega) ?_
    refine Wp.g1 rfl ?_
    exact Ms.no hM (Wp.rei rfl rfl rfl rfl)
  rw [show sClaim a x0 x1 x2 x3 x4 x5 x6 x7 = (a.V 13 + 1, ((nClm a.V a.nc x0 x1 x2 x3 x4 x5 x6 (a.V 0 - x7), a.nb, a.nc + 1), (sv a).2)) from (if_neg (by omega)).trans (if_neg e)]
  refine Wp.brt rfl (by omega) ?_
  refine Wp.g1 rfl ?_
  refine Wp.call rfl (m9_saves hM hS) (fun v M1 h1 q => ?_)
  obtain ⟨rfl, rfl, p1, p2⟩ := q
  have e12 : M1 75 12 = (a.nc : Int) := (p2.1 12 (by omega)).trans hW.1.2.1
  have e13 : M1 75 13 = a.V 13 := p2.1 13 (by omega)
  have e0 : M1 75 0 = a.V 0 := p2.1 0 (by omega)
  have at' : ∀ (k : Nat) (x : Int), x = (k : Int) → k < 10 → w32 (((114 + 10 * a.nc : Nat) : Int) + x) = ((114 + 10 * a.nc + k : Nat) : Int) := fun k x hx hk => w32_n (by omega) (by omega)
  refine Wp.g1 rfl ?_
  refine Wp.ld rfl rfl 12 rfl (by omega) ?_
  rw [e12]
  refine Wp.calli rfl (m9_claim0 a.nc (by omega) M1 h1) ?_
  refine Wp.g1 rfl ?_
  refine Wp.ld rfl rfl 12 rfl (by omega) ?_
  rw [e12]
  refine Wp.g1 rfl ?_
  rw [w32_s (n := a.nc) (by omega)]
  have q1 := p2.put (j := 12) ((a.nc + 1 : Nat) : Int) a.nb a.nc
  refine Wp.sto rfl rfl 12 rfl (by omega) ?_
  refine Wp.g1 rfl ?_
  refine Wp.ld rfl rfl 13 rfl (by omega) ?_
  rw [upd2_off (by decide), e13]
  refine Wp.g1 rfl ?_
  rw [w32_id (x := a.V 13 + 1) ⟨by omega, by omega⟩]
  have q2 := q1.put (j := 13) (a.V 13 + 1) a.nb a.nc
  refine Wp.sto rfl rfl 13 rfl (by omega) ?_
  refine Wp.g1 rfl ?_
  refine Wp.ld rfl rfl 13 rfl (by omega) ?_
  rw [upd2_at]
  have q3 := q2.put (j := 114 + 10 * a.nc) (a.V 13 + 1) a.nb a.nc
  refine Wp.sto rfl rfl (114 + 10 * a.nc) rfl (by omega) ?_
  refine Wp.g1 rfl ?_
  rw [at' 1 1 rfl (by omega)]
  have q4 := q3.put (j := 114 + 10 * a.nc + 1) x0 a.nb a.nc
  refine Wp.sto rfl rfl (114 + 10 * a.nc + 1) rfl (by omega) ?_
  refine Wp.g1 rfl ?_
  rw [at' 2 2 rfl (by omega)]
  have q5 := q4.put (j := 114 + 10 * a.nc + 2) x1 a.nb a.nc
  refine Wp.sto rfl rfl (114 + 10 * a.nc + 2) rfl (by omega) ?_
  refine Wp.g1 rfl ?_
  rw [at' 3 3 rfl (by omega)]
  have q6 := q5.put (j := 114 + 10 * a.nc + 3) x2 a.nb a.nc
  refine Wp.sto rfl rfl (114 + 10 * a.nc + 3) rfl (by omega) ?_
  refine Wp.g1 rfl ?_
  rw [at' 4 4 rfl (by omega)]
  have q7 := q6.put (j := 114 + 10 * a.nc + 4) x3 a.nb a.nc
  refine Wp.sto rfl rfl (114 + 10 * a.nc + 4) rfl (by omega) ?_
  refine Wp.g1 rfl ?_
  rw [at' 5 5 rfl (by omega)]
  have q8 := q7.put (j := 114 + 10 * a.nc + 5) x4 a.nb a.nc
  refine Wp.sto rfl rfl (114 + 10 * a.nc + 5) rfl (by omega) ?_
  refine Wp.g1 rfl ?_
  rw [at' 6 6 rfl (by omega)]
  have q9 := q8.put (j := 114 + 10 * a.nc + 6) x5 a.nb a.nc
  refine Wp.sto rfl rfl (114 + 10 * a.nc + 6) rfl (by omega) ?_
  refine Wp.g1 rfl ?_
  rw [at' 7 7 rfl (by omega)]
  have q10 := q9.put (j := 114 + 10 * a.nc + 7) x6 a.nb a.nc
  refine Wp.sto rfl rfl (114 + 10 * a.nc + 7) rfl (by omega) ?_
  refine Wp.g1 rfl ?_
  rw [at' 8 8 rfl (by omega)]
  refine Wp.ld rfl rfl 0 rfl (by omega) ?_
  repeat rw [upd2_off (j := 114 + 10 * a.nc + _) (by omega)]
  rw [upd2_off (j := 114 + 10 * a.nc) (by omega), upd2_off (j := 13) (by omega), upd2_off (j := 12) (by omega), e0]
  refine Wp.g1 rfl ?_
  rw [w32_id (x := a.V 0 - x7) ⟨by omega, by omega⟩]
  have q11 := q10.put (j := 114 + 10 * a.nc + 8) (a.V 0 - x7) a.nb a.nc
  refine Wp.sto rfl rfl (114 + 10 * a.nc + 8) rfl (by omega) ?_
  refine Wp.g1 rfl ?_
  rw [at' 9 9 rfl (by omega)]
  have q12 := q11.put (j := 114 + 10 * a.nc + 9) 0 a.nb (a.nc + 1)
  refine Wp.sto rfl rfl (114 + 10 * a.nc + 9) rfl (by omega) ?_
  refine Wp.g1 rfl ?_
  refine Wp.ld rfl rfl 13 rfl (by omega) ?_
  refine Wp.re rfl ⟨?_, rfl, fun k g => ?_, q12⟩
  · repeat rw [upd2_off (j := 114 + 10 * a.nc + _) (by omega)]
    rw [upd2_off (j := 114 + 10 * a.nc) (by omega), upd2_at]
  · repeat rw [upd2_ne (by omega)]
    exact p1 k (by omega) (by omega)
theorem m9_match (hM : MR M a) (hS : SO a t) (x y : Int) : Wp zS0 tX9_match none 0 [zr 74, zi x, zi y, zn, zn, zn] [] M h (Ms (sMatch a x y) M h) := by
  have hK := hM.ms hS
  have hnb : a.nb ≤ 12 := hS.1.1.2.2.1
  have hnc : a.nc ≤ 10 := hS.1.1.2.2.2
  unfold sMatch
  refine Wp.g1 rfl ?_
  refine Wp.calli rfl (m9_rankOf hK x) ?_
  refine Wp.g1 rfl ?_
  refine Wp.calli rfl (m9_bagOf hK y) ?_
  refine Wp.g1 rfl ?_
  by_cases gc : rkC a.V a.nc x < a.nc
  · rw [if_pos (c := rkC a.V a.nc x < a.nc) gc]
    refine Wp.brf rfl (by omega) ?_
    refine Wp.g1 rfl ?_
    by_cases gb : rkB a.V a.nb y < a.nb
    · rw [if_pos (c := rkB a.V a.nb y < a.nb) gb, if_pos ⟨gc, gb⟩]
      refine Wp.brt rfl (by omega) ?_
      refine Wp.g1 rfl ?_
      refine Wp.calli rfl (m9_claim0 _ (by omega) M h) ?_
      refine Wp.g1 rfl ?_
      refine Wp.calli rfl (m9_bag0 _ (by omega) M h) ?_
      refine Wp.g1 rfl ?_
      refine Wp.calli rfl (m9_scoreOf hK gc gb (by omega) (by omega) 0 (by omega)) ?_
      refine Wp.g1 rfl ?_
      refine Wp.calli rfl (m9_isFreeClaim hK _ (by omega)) ?_
      by_cases g0 : a.V (114 + 10 * rkC a.V a.nc x + 9) = 0
      · rw [if_pos (c := a.V (114 + 10 * rkC a.V a.nc x + 9) = 0) g0]
        refine Wp.brf rfl (by decide) ?_
        refine Wp.g1 rfl ?_
        refine Wp.calli rfl (m9_claimWith hK _ (by omega)) ?_
        refine Wp.g1 rfl ?_
        by_cases g1 : cw a.V a.nc (rkB a.V a.nb y) = -10006
        · refine Wp.brf rfl (fun q => q g1) ?_
          refine Wp.g1 rfl ?_
          by_cases g2 : scN a.V (rkC a.V a.nc x) (rkB a.V a.nb y) 0 = -10006
          · rw [if_neg (fun q => q.2.2 g2)]
            refine Wp.brf rfl (fun q => q g2) ?_
            refine Wp.g1 rfl ?_
            exact Ms.no hM (Wp.rei rfl rfl rfl rfl)
          · rw [if_pos ⟨g0, g1, g2⟩]
            refine Wp.brt rfl g2 ?_
            refine Wp.g1 rfl ?_
            refine Wp.call rfl (m9_saves hM hS) (fun v M1 h1 q => ?_)
            obtain ⟨rfl, rfl, p1, p2⟩ := q
            refine Wp.g1 rfl ?_
            refine Wp.calli rfl (m9_claim0 _ (by omega) M1 h1) ?_
            refine Wp.g1 rfl ?_
            rw [w32_n (n := 114 + 10 * rkC a.V a.nc x + 9) (by omega) (by omega)]
            refine Wp.sto rfl rfl (114 + 10 * rkC a.V a.nc x + 9) rfl (by omega) ?_
            refine Wp.g1 rfl ?_
            have ey : a.V (18 + 8 * rkB a.V a.nb y) = y := by
              rcases fnd_spec (f := fun r => a.V (18 + 8 * r)) (x := y) (n := a.nb) with ⟨-, e, -⟩ | ⟨e, -⟩
              · exact e
              · exact absurd gb (by unfold rkB; omega)
            rw [ey]
            exact Wp.re rfl ⟨rfl, rfl, fun k g => by rw [upd2_ne (by omega)]; exact p1 k (by omega) (by omega), p2.put _ _ _⟩
        · rw [if_neg (fun q => g1 q.2.1)]
          refine Wp.brt rfl g1 ?_
          refine Wp.g1 rfl ?_
          exact Ms.no hM (Wp.rei rfl rfl rfl rfl)
      · rw [if_neg (c := a.V (114 + 10 * rkC a.V a.nc x + 9) = 0) g0, if_neg (fun q => g0 q.1)]
        refine Wp.brt rfl rfl ?_
        refine Wp.g1 rfl ?_
        exact Ms.no hM (Wp.rei rfl rfl rfl rfl)
    · rw [if_neg (c := rkB a.V a.nb y < a.nb) gb, if_neg (fun q => gb q.2)]
      refine Wp.brf rfl (by decide) ?_
      refine Wp.g1 rfl ?_
      exact Ms.no hM (Wp.rei rfl rfl rfl rfl)
  · rw [if_neg (c := rkC a.V a.nc x < a.nc) gc, if_neg (c := rkC a.V a.nc x < a.nc ∧ rkB a.V a.nb y < a.nb) (fun q => gc q.1)]
    refine Wp.brt rfl rfl ?_
    refine Wp.g1 rfl ?_
    exact Ms.no hM (Wp.rei rfl rfl rfl rfl)
theorem m9_unmatch (hM : MR M a) (hS : SO a t) (x : Int) : Wp zS0 tX9_unmatch none 0 [zr 74, zi x, zn, zn] [] M h (Ms (sUnmatch a x) M h) := by
  have hK := hM.ms hS
  have hnc : a.nc ≤ 10 := hS.1.1.2.2.2
  unfold sUnmatch
  refine Wp.g1 rfl ?_
  refine Wp.calli rfl (m9_rankOf hK x) ?_
  refine Wp.g1 rfl ?_
  by_cases gc : rkC a.V a.nc x < a.nc
  · rw [if_pos (c := rkC a.V a.nc x < a.nc) gc, if_pos (c := rkC a.V a.nc x < a.nc) gc]
    refine Wp.brt rfl (by omega) ?_
    refine Wp.g1 rfl ?_
    refine Wp.calli rfl (m9_isFreeClaim hK _ (by omega)) ?_
    by_cases g0 : a.V (114 + 10 * rkC a.V a.nc x + 9) = 0
    · rw [if_pos (c := a.V (114 + 10 * rkC a.V a.nc x + 9) = 0) g0, if_pos g0]
      refine Wp.brf rfl (by decide) ?_
      refine Wp.g1 rfl ?_
      exact Ms.no hM (Wp.rei rfl rfl rfl rfl)
    · rw [if_neg (c := a.V (114 + 10 * rkC a.V a.nc x + 9) = 0) g0, if_neg g0]
      refine Wp.brt rfl rfl ?_
      refine Wp.g1 rfl ?_
      refine Wp.call rfl (m9_saves hM hS) (fun v M1 h1 q => ?_)
      obtain ⟨rfl, rfl, p1, p2⟩ := q
      have ew : w32 (((114 + 10 * rkC a.V a.nc x : Nat) : Int) + 9) = ((114 + 10 * rkC a.V a.nc x + 9 : Nat) : Int) := w32_n (by omega) (by omega)
      refine Wp.g1 rfl ?_
      refine Wp.calli rfl (m9_claim0 _ (by omega) M1 h1) ?_
      refine Wp.g1 rfl ?_
      rw [ew]
      refine Wp.ld rfl rfl (114 + 10 * rkC a.V a.nc x + 9) rfl (by omega) ?_
      rw [show M1 75 (114 + 10 * rkC a.V a.nc x + 9) = a.V (114 + 10 * rkC a.V a.nc x + 9) from p2.1 _ (by omega)]
      refine Wp.g1 rfl ?_
      refine Wp.calli rfl (m9_claim0 _ (by omega) M1 h1) ?_
      refine Wp.g1 rfl ?_
      rw [ew]
      refine Wp.sto rfl rfl (114 + 10 * rkC a.V a.nc x + 9) rfl (by omega) ?_
      refine Wp.g1 rfl ?_
      exact Wp.re rfl ⟨rfl, rfl, fun k g => by rw [upd2_ne (by omega)]; exact p1 k (by omega) (by omega), p2.put _ _ _⟩
  · rw [if_neg (c := rkC a.V a.nc x < a.nc) gc, if_neg (c := rkC a.V a.nc x < a.nc) gc]
    refine Wp.brf rfl (by decide) ?_
    refine Wp.g1 rfl ?_
    exact Ms.no hM (Wp.rei rfl rfl rfl rfl)
end CO9
