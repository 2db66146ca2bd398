/-! the reference: the best total -/
theorem not_bit : ∀ b : Nat, b < 12 → Int32.ofInt (bXor (bShl 1 (b : Int)) (-1)) = nI (4294967295 ^^^ 2 ^ b) := by decide +kernel
theorem drop_bit {m b : Nat} (hm : m < 2 ^ 12) (hb : b < 12) (ht : m.testBit b = true) : bAnd (m : Int) (bXor (bShl 1 (b : Int)) (-1)) = ((m ^^^ 2 ^ b : Nat) : Int) := by
  have e : m &&& (4294967295 ^^^ 2 ^ b) = m ^^^ 2 ^ b := by
    refine Nat.eq_of_testBit_eq (fun i => ?_)
    rw [Nat.testBit_and, Nat.testBit_xor, Nat.testBit_xor, Nat.testBit_two_pow, show (4294967295 : Nat) = 2 ^ 32 - 1 from rfl, Nat.testBit_two_pow_sub_one]
    by_cases hi : i < 12
    · rw [decide_eq_true (show i < 32 by omega)]
      by_cases ei : b = i
      · subst ei
        rw [ht, decide_eq_true rfl]
        rfl
      · rw [decide_eq_false ei]
        cases m.testBit i <;> rfl
    · have : m.testBit i = false := Nat.testBit_lt_two_pow (Nat.lt_of_lt_of_le hm (Nat.pow_le_pow_right (by decide) (by omega)))
      rw [this, decide_eq_false (show ¬ b = i by omega)]
      rfl
  unfold bAnd
  rw [not_bit b hb]
  show (nI m &&& nI (4294967295 ^^^ 2 ^ b)).toInt = _
  rw [nI_and, e, nI_toInt (Nat.xor_lt_two_pow (n := 31) (by omega) (Nat.pow_lt_pow_right (by decide) (by omega)))]
theorem drop_lt : ∀ b m : Nat, m.testBit b = true → m ^^^ 2 ^ b < m := by
  intro b
  induction b with
  | zero =>
    intro m h
    have h0 : m % 2 = 1 := by rw [Nat.testBit_zero] at h; exact of_decide_eq_true h
    have h1 : (m ^^^ 2 ^ 0) / 2 = m / 2 := by
      rw [Nat.xor_div_two, show 2 ^ 0 / 2 = 0 from rfl, Nat.xor_zero]
    have h2 : ¬ (m ^^^ 2 ^ 0) % 2 = 1 := fun q => (Nat.xor_mod_two_eq_one.mp q) ⟨fun _ => rfl, fun _ => h0⟩
    omega
  | succ b ih =>
    intro m h
    rw [Nat.testBit_succ] at h
    have h1 := ih (m / 2) h
    have e : 2 ^ (b + 1) = 2 * 2 ^ b := by rw [Nat.pow_succ, Nat.mul_comm]
    have h2 : (m ^^^ 2 ^ (b + 1)) / 2 = m / 2 ^^^ 2 ^ b := by
      rw [Nat.xor_div_two, e, Nat.mul_div_cancel_left _ (by decide)]
    have h3 : (m ^^^ 2 ^ (b + 1)) % 2 = 1 → m % 2 = 1 := fun q => by
      have k := Nat.xor_mod_two_eq_one.mp q
      refine Classical.byContradiction (fun g => k ⟨fun r => absurd r g, fun r => ?_⟩)
      omega
    omega
theorem dpB_bd {g D : Nat → Int} {B : Int} (hD : ∀ s, 0 ≤ D s ∧ D s ≤ B) (hg : ∀ b, g b ≤ 9600 ∧ (g b ≠ -1 → 0 ≤ g b)) (s : Nat) : ∀ n, 0 ≤ dpB g D s n ∧ dpB g D s n ≤ B + 9600 := by
  intro n
  induction n with
  | zero =>
    have := hD s
    show 0 ≤ D s ∧ D s ≤ B + 9600
    omega
  | succ n ih =>
    have h1 := hD (s ^^^ 2 ^ n)
    have h2 := hg n
    show 0 ≤ (if s.testBit n = true ∧ g n ≠ -1 then max (dpB g D s n) (g n + D (s ^^^ 2 ^ n)) else dpB g D s n) ∧ (if s.testBit n = true ∧ g n ≠ -1 then max (dpB g D s n) (g n + D (s ^^^ 2 ^ n)) else dpB g D s n) ≤ B + 9600
    split
    · omega
    · exact ih
theorem dpB_none {g D : Nat → Int} (hg : ∀ b, g b = -1) (s : Nat) : ∀ n, dpB g D s n = D s := by
  intro n
  induction n with
  | zero => rfl
  | succ n ih =>
    show (if s.testBit n = true ∧ g n ≠ -1 then max (dpB g D s n) (g n + D (s ^^^ 2 ^ n)) else dpB g D s n) = D s
    rw [if_neg (fun q => q.2 (hg n)), ih]
section BT9
variable {M : Me} {h : Ml} {V : Nat → Int} {nb nc t : Nat}
theorem gF_le (hW : WF V nb nc t) {c : Nat} (hc : c < nc) (b : Nat) : gF V nb nc c b ≤ 9600 ∧ (gF V nb nc c b ≠ -1 → 0 ≤ gF V nb nc c b) := by
  refine ⟨?_, fun q => (gF_ge hW c b q).1⟩
  unfold gF
  split
  · exact (lkG_bd hW hc b).2
  · decide
theorem dpS_bd (hW : WF V nb nc t) : ∀ c, c ≤ nc → ∀ s, 0 ≤ dpS (gF V nb nc) nb c s ∧ dpS (gF V nb nc) nb c s ≤ 9600 * (c : Int) := by
  intro c
  induction c with
  | zero => intro _ s; show (0 : Int) ≤ 0 ∧ (0 : Int) ≤ 9600 * ((0 : Nat) : Int); omega
  | succ c ih =>
    intro hc s
    have := dpB_bd (g := gF V nb nc c) (D := dpS (gF V nb nc) nb c) (B := 9600 * (c : Int)) (ih (by omega)) (gF_le hW (by omega)) s nb
    show 0 ≤ dpB (gF V nb nc c) (dpS (gF V nb nc) nb c) s nb ∧ dpB (gF V nb nc c) (dpS (gF V nb nc) nb c) s nb ≤ 9600 * ((c + 1 : Nat) : Int)
    omega
theorem m9_looks (hS : MS M 0 V nb nc t) {c : Nat} (hc : c < nc) {D : Nat → Int} (hD : ∀ s, 0 ≤ D s ∧ D s ≤ 96000) (hM : ∀ s, s < 2 ^ nb → M 78 s = D s) : Wp zS0 tX9_looks none 0 [zr 74, zi c, zn, zn, zn, zn, zn] [] M h (fun v M' h' => v = none ∧ h' = h ∧ (∀ k, k ≠ 78 → M' k = M k) ∧ ∀ s, s < 2 ^ nb → M' 78 s = dpB (gF V nb nc c) D s nb) := by
  have hW := hS.2.2.2
  have hnb := hW.1.2.2.1
  have hnc := hW.1.2.2.2
  have hp : 2 ^ nb ≤ 4096 := Nat.pow_le_pow_right (n := 2) (by decide) hnb
  have hp1 : 1 ≤ 2 ^ nb := Nat.two_pow_pos nb
  have e10 : M 75 10 = (nb : Int) := (hS.at0 10 (by omega)).trans hW.1.1
  have hg := gF_le hW hc
  have hbd := dpB_bd (g := gF V nb nc c) hD hg
  have sets : ∀ n : Nat, n ≤ 2 ^ nb → ∀ (M' : Me) (l3 l4 l5 l6 : ZV), (∀ k, k ≠ 78 → M' k = M k) → (∀ s, s < 2 ^ nb → M' 78 s = if n ≤ s then dpB (gF V nb nc c) D s nb else D s) →
      Wp zS0 tX9_looks none 12 [zr 74, zi c, zi ((n : Int) - 1), l3, l4, l5, l6] [] M' h (fun v M' h' => v = none ∧ h' = h ∧ (∀ k, k ≠ 78 → M' k = M k) ∧ ∀ s, s < 2 ^ nb → M' 78 s = dpB (gF V nb nc c) D s nb) := by
    intro n
    induction n with
    | zero =>
      intro hn M' l3 l4 l5 l6 q1 q2
      refine Wp.g1 rfl ?_
      refine Wp.brt rfl (by omega) ?_
      exact Wp.re rfl ⟨rfl, rfl, q1, fun s hs => by rw [q2 s hs, if_pos (Nat.zero_le _)]⟩
    | succ m ih =>
      intro hn M' l3 l4 l5 l6 q1 q2
      have hS' : MS M' 0 V nb nc t := hS.kept (q1 75 (by decide))
      have e10' : M' 75 10 = (nb : Int) := by rw [q1 75 (by decide)]; exact e10
      rw [show ((m + 1 : Nat) : Int) - 1 = (m : Int) by omega]
      refine Wp.g1 rfl ?_
      refine Wp.brf rfl (by omega) ?_
      refine Wp.g1 rfl ?_
      refine Wp.ld rfl rfl m rfl (by omega) ?_
      rw [q2 m (by omega), if_neg (by omega)]
      have bags : ∀ d b : Nat, b + d = nb → ∀ (l5 l6 : ZV), Wp zS0 tX9_looks none 26 [zr 74, zi c, zi m, zi (dpB (gF V nb nc c) D m b), zi b, l5, l6] [] M' h (fun v M' h' => v = none ∧ h' = h ∧ (∀ k, k ≠ 78 → M' k = M k) ∧ ∀ s, s < 2 ^ nb → M' 78 s = dpB (gF V nb nc c) D s nb) := by
        intro d
        induction d with
        | zero =>
          intro b hb l5 l6
          have e : b = nb := by omega
          subst e
          refine Wp.g1 rfl ?_
          refine Wp.ld rfl rfl 10 rfl (by omega) ?_
          rw [e10']
          refine Wp.brt rfl (Int.le_refl _) ?_
          refine Wp.g1 rfl ?_
          refine Wp.sto rfl rfl m rfl (by omega) ?_
          refine Wp.gt 12 rfl ?_
          rw [w32_id (x := (m : Int) + -1) ⟨by omega, by omega⟩]
          refine ih (by omega) _ _ _ _ _ (fun k g => by rw [upd2_ne g]; exact q1 k g) (fun s hs => ?_)
          by_cases es : s = m
          · subst es; rw [upd2_at, if_pos (Nat.le_refl _)]
          · rw [upd2_off es, q2 s hs]
            by_cases g : m + 1 ≤ s
            · rw [if_pos g, if_pos (by omega)]
            · rw [if_neg g, if_neg (by omega)]
        | succ d ihd =>
          intro b hb l5 l6
          have next := ihd (b + 1) (by omega)
          have ed : dpB (gF V nb nc c) D m (b + 1) = if m.testBit b = true ∧ gF V nb nc c b ≠ -1 then max (dpB (gF V nb nc c) D m b) (gF V nb nc c b + D (m ^^^ 2 ^ b)) else dpB (gF V nb nc c) D m b := rfl
          rw [ed] at next
          have bx := hbd m b
          generalize hX : dpB (gF V nb nc c) D m b = X at next bx
          have fin : ∀ (s y : Int) (its : Int), y = max X s → (∀ (l5 l6 : ZV), Wp zS0 tX9_looks none 26 [zr 74, zi c, zi m, zi y, zi ((b + 1 : Nat) : Int), l5, l6] [] M' h (fun v M' h' => v = none ∧ h' = h ∧ (∀ k, k ≠ 78 → M' k = M k) ∧ ∀ s, s < 2 ^ nb → M' 78 s = dpB (gF V nb nc c) D s nb)) →
              Wp zS0 tX9_looks none 92 [zr 74, zi c, zi m, zi X, zi b, zi its, l6] [zi s] M' h (fun v M' h' => v = none ∧ h' = h ∧ (∀ k, k ≠ 78 → M' k = M k) ∧ ∀ s, s < 2 ^ nb → M' 78 s = dpB (gF V nb nc c) D s nb) := by
            intro s y its hy k
            refine Wp.g1 rfl ?_
            by_cases g : s ≤ X
            · refine Wp.brt rfl g ?_
              refine Wp.gt 26 rfl ?_
              rw [w32_s (n := b) (by omega), show X = y by omega]
              exact k _ _
            · refine Wp.brf rfl g ?_
              refine Wp.gt 26 rfl ?_
              rw [w32_s (n := b) (by omega), show s = y by omega]
              exact k _ _
          have none' : ¬ (m.testBit b = true ∧ gF V nb nc c b ≠ -1) → Wp zS0 tX9_looks none 64 [zr 74, zi c, zi m, zi X, zi b, zi (-10006), l6] [] M' h (fun v M' h' => v = none ∧ h' = h ∧ (∀ k, k ≠ 78 → M' k = M k) ∧ ∀ s, s < 2 ^ nb → M' 78 s = dpB (gF V nb nc c) D s nb) := by
            intro g
            rw [if_neg g] at next
            refine Wp.g1 rfl ?_
            refine Wp.brf rfl (fun q => q rfl) ?_
            refine Wp.gt 92 rfl ?_
            exact fin X X _ (by omega) next
          refine Wp.g1 rfl ?_
          refine Wp.ld rfl rfl 10 rfl (by omega) ?_
          rw [e10']
          refine Wp.brf rfl (by omega) ?_
          refine Wp.g1 rfl ?_
          have eb : bAnd (bShr (m : Int) (b : Int)) 1 = if m.testBit b then 1 else 0 := ib_nat (by omega) (by omega)
          rw [eb]
          by_cases tb : m.testBit b = true
          · rw [if_pos tb]
            refine Wp.brf rfl (fun q => q rfl) ?_
            refine Wp.g1 rfl ?_
            refine Wp.calli rfl (m9_open hS' hc (show b < nb by omega)) ?_
            refine Wp.gt 64 rfl ?_
            rcases opn_ge hW c b with ⟨k1, k2⟩ | ⟨k1, k2⟩
            · rw [k1]
              exact none' (fun q => q.2 k2)
            · rw [k2]
              rw [k2] at k1
              have hdl := drop_lt b m tb
              have bD := hD (m ^^^ 2 ^ b)
              have bg := (hg b).1
              refine Wp.g1 rfl ?_
              refine Wp.brt rfl (by omega) ?_
              refine Wp.g1 rfl ?_
              rw [drop_bit (by omega) (by omega) tb]
              refine Wp.ld rfl rfl (m ^^^ 2 ^ b) rfl (by omega) ?_
              rw [q2 _ (by omega), if_neg (by omega)]
              refine Wp.gt 92 rfl ?_
              rw [w32_id (x := gF V nb nc c b + D (m ^^^ 2 ^ b)) ⟨by omega, by omega⟩]
              rw [if_pos ⟨tb, by omega⟩] at next
              exact fin _ _ _ rfl next
          · rw [if_neg tb]
            refine Wp.brt rfl (by decide) ?_
            refine Wp.gt 64 rfl ?_
            exact none' (fun q => tb q.1)
      refine Wp.gt 26 rfl ?_
      exact bags nb 0 (by omega) _ _
  refine Wp.g1 rfl ?_
  refine Wp.ld rfl rfl 10 rfl (by omega) ?_
  rw [e10]
  refine Wp.gt 12 rfl ?_
  rw [bShl_pow nb (by omega), w32_id (x := ((2 ^ nb : Nat) : Int) - 1) ⟨by omega, by omega⟩]
  exact sets (2 ^ nb) (Nat.le_refl _) M _ _ _ _ (fun _ _ => rfl) (fun s hs => by rw [if_neg (by omega)]; exact hM s hs)
theorem m9_bestTotal (hS : MS M 0 V nb nc t) : Wp zS0 tX9_bestTotal none 0 [zr 74, zn] [] M h (fun v M' h' => v = some (zi (rBest V nb nc)) ∧ h' = h ∧ ∀ k, k ≠ 78 → M' k = M k) := by
  have hW := hS.2.2.2
  have hnb := hW.1.2.2.1
  have hnc := hW.1.2.2.2
  have hp : 2 ^ nb ≤ 4096 := Nat.pow_le_pow_right (n := 2) (by decide) hnb
  have hp1 : 1 ≤ 2 ^ nb := Nat.two_pow_pos nb
  have e10 : M 75 10 = (nb : Int) := (hS.at0 10 (by omega)).trans hW.1.1
  have e12 : M 75 12 = (nc : Int) := (hS.at0 12 (by omega)).trans hW.1.2.1
  have claims : ∀ d c : Nat, c + d = nc → ∀ M' : Me, (∀ k, k ≠ 78 → M' k = M k) → (∀ s, s < 2 ^ nb → M' 78 s = dpS (gF V nb nc) nb c s) → Wp zS0 tX9_bestTotal none 30 [zr 74, zi c] [] M' h (fun v M' h' => v = some (zi (rBest V nb nc)) ∧ h' = h ∧ ∀ k, k ≠ 78 → M' k = M k) := by
    intro d
    induction d with
    | zero =>
      intro c hc M' q1 q2
      have e : c = nc := by omega
      subst e
      refine Wp.g1 rfl ?_
      refine Wp.ld rfl rfl 12 rfl (by omega) ?_
      rw [q1 75 (by decide), e12]
      refine Wp.brt rfl (Int.le_refl _) ?_
      refine Wp.g1 rfl ?_
      refine Wp.ld rfl rfl 10 rfl (by omega) ?_
      rw [q1 75 (by decide), e10]
      refine Wp.g1 rfl ?_
      rw [bShl_pow nb (by omega), w32_n (n := 2 ^ nb - 1) (by omega) (by omega)]
      refine Wp.ld rfl rfl (2 ^ nb - 1) rfl (by omega) ?_
      rw [q2 _ (by omega)]
      exact Wp.re rfl ⟨rfl, rfl, q1⟩
    | succ d ih =>
      intro c hc M' q1 q2
      have hS' : MS M' 0 V nb nc t := hS.kept (q1 75 (by decide))
      refine Wp.g1 rfl ?_
      refine Wp.ld rfl rfl 12 rfl (by omega) ?_
      rw [q1 75 (by decide), e12]
      refine Wp.brf rfl (by omega) ?_
      refine Wp.g1 rfl ?_
      refine Wp.calli rfl (m9_isFreeClaim hS' c (by omega)) ?_
      by_cases g : V (114 + 10 * c + 9) = 0
      · rw [if_pos g]
        refine Wp.brf rfl (by decide) ?_
        refine Wp.g1 rfl ?_
        have bd := dpS_bd hW c (by omega)
        refine Wp.call rfl (m9_looks hS' (show c < nc by omega) (fun s => ⟨(bd s).1, by have := (bd s).2; omega⟩) q2) (fun v M1 h1 q => ?_)
        obtain ⟨rfl, rfl, q3, q4⟩ := q
        refine Wp.gt 30 rfl ?_
        rw [w32_s (n := c) (by omega)]
        exact ih (c + 1) (by omega) M1 (fun k g => by rw [q3 k g]; exact q1 k g) q4
      · rw [if_neg g]
        refine Wp.brt rfl rfl ?_
        refine Wp.gt 30 rfl ?_
        rw [w32_s (n := c) (by omega)]
        refine ih (c + 1) (by omega) M' q1 (fun s hs => ?_)
        rw [q2 s hs]
        exact (dpB_none (g := gF V nb nc c) (D := dpS (gF V nb nc) nb c) (fun b => if_neg (fun q => g q.2)) s nb).symm
  have zero : ∀ d k : Nat, k + d = 2 ^ nb → ∀ M' : Me, (∀ k, k ≠ 78 → M' k = M k) → (∀ s, s < k → M' 78 s = 0) → Wp zS0 tX9_bestTotal none 2 [zr 74, zi k] [] M' h (fun v M' h' => v = some (zi (rBest V nb nc)) ∧ h' = h ∧ ∀ k, k ≠ 78 → M' k = M k) := by
    intro d
    induction d with
    | zero =>
      intro k hk M' q1 q2
      refine Wp.g1 rfl ?_
      refine Wp.ld rfl rfl 10 rfl (by omega) ?_
      rw [q1 75 (by decide), e10]
      refine Wp.g1 rfl ?_
      rw [bShl_pow nb (by omega)]
      refine Wp.brt rfl (by omega) ?_
      refine Wp.gt 30 rfl ?_
      exact claims nc 0 (by omega) M' q1 (fun s hs => q2 s (by omega))
    | succ d ih =>
      intro k hk M' q1 q2
      refine Wp.g1 rfl ?_
      refine Wp.ld rfl rfl 10 rfl (by omega) ?_
      rw [q1 75 (by decide), e10]
      refine Wp.g1 rfl ?_
      rw [bShl_pow nb (by omega)]
      refine Wp.brf rfl (by omega) ?_
      refine Wp.g1 rfl ?_
      refine Wp.sto rfl rfl k rfl (by omega) ?_
      refine Wp.gt 2 rfl ?_
      rw [w32_s (n := k) (by omega)]
      refine ih (k + 1) (by omega) _ (fun r g => by rw [upd2_ne g]; exact q1 r g) (fun s hs => ?_)
      by_cases e : s = k
      · subst e; rw [upd2_at]
      · rw [upd2_off e]; exact q2 s (by omega)
  refine Wp.gt 2 rfl ?_
  exact zero (2 ^ nb) 0 (by omega) M (fun _ _ => rfl) (fun s hs => by omega)
end BT9
