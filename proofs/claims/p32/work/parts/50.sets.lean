/-! the best sum over all sets of bags -/
def dpB (g : Nat → Int) (prev : Nat → Int) (set : Nat) : Nat → Int
  | 0 => prev set
  | n + 1 => if set.testBit n = true ∧ g n ≠ -1 then max (dpB g prev set n) (g n + prev (set ^^^ 2 ^ n)) else dpB g prev set n
def dpS (G : Nat → Nat → Int) (nb : Nat) : Nat → Nat → Int
  | 0, _ => 0
  | c + 1, set => dpB (G c) (dpS G nb c) set nb
def rBest (V : Nat → Int) (nb nc : Nat) : Int := dpS (gF V nb nc) nb nc (2 ^ nb - 1)
theorem tb_xor (s n j : Nat) : (s ^^^ 2 ^ n).testBit j = (s.testBit j ^^ decide (n = j)) := by rw [Nat.testBit_xor, Nat.testBit_two_pow]
theorem dp_le {G : Nat → Nat → Int} {nb : Nat} {P Q : Nat → Int} : ∀ c, (∀ i, i < c → 0 ≤ P i) → (∀ i b, i < c → b < nb → G i b ≠ -1 → G i b ≤ P i + Q b) → ∀ set, (∀ b, b < nb → 0 ≤ Q b) → dpS G nb c set ≤ sumI P c + sumI (fun b => if set.testBit b then Q b else 0) nb := by
  intro c
  induction c with
  | zero =>
    intro _ _ set hQ
    have : 0 ≤ sumI (fun b => if set.testBit b then Q b else 0) nb := by
      have := sumI_le (f := fun _ => (0 : Int)) (g := fun b => if set.testBit b then Q b else 0) nb (fun j hj => by
        have := hQ j hj
        show 0 ≤ if set.testBit j then Q j else 0
        split <;> omega)
      rw [sumI_zero] at this
      exact this
    show (0 : Int) ≤ 0 + _
    omega
  | succ c ih =>
    intro hP hG set hQ
    have ih' := ih (fun i hi => hP i (by omega)) (fun i b hi => hG i b (by omega))
    have hPc := hP c (by omega)
    have key : ∀ n, n ≤ nb → dpB (G c) (dpS G nb c) set n ≤ sumI P c + P c + sumI (fun b => if set.testBit b then Q b else 0) nb := by
      intro n
      induction n with
      | zero =>
        intro _
        have := ih' set hQ
        show dpS G nb c set ≤ _
        omega
      | succ n ihn =>
        intro hn
        have h1 := ihn (by omega)
        show (if set.testBit n = true ∧ G c n ≠ -1 then max (dpB (G c) (dpS G nb c) set n) (G c n + dpS G nb c (set ^^^ 2 ^ n)) else dpB (G c) (dpS G nb c) set n) ≤ _
        by_cases g : set.testBit n = true ∧ G c n ≠ -1
        · rw [if_pos g]
          have h2 := ih' (set ^^^ 2 ^ n) hQ
          have h3 := hG c n (by omega) (by omega) g.2
          have h4 : sumI (fun b => if set.testBit b then Q b else 0) nb = sumI (fun b => if (set ^^^ 2 ^ n).testBit b then Q b else 0) nb + Q n := by
            have e : sumI (fun b => if set.testBit b then Q b else 0) nb = sumI (fun b => (if (set ^^^ 2 ^ n).testBit b then Q b else 0) + (if b = n then Q n else 0)) nb := sumI_congr nb (fun b hb => by
              rw [tb_xor]
              by_cases eb : b = n
              · rw [eb, g.1]; simp
              · rw [show decide (n = b) = false from decide_eq_false (fun q => eb q.symm), if_neg eb]; simp)
            rw [e, sumI_add, sumI_one (f := fun b => if b = n then Q n else 0) (k := n) nb (by omega) (fun j _ hne => if_neg hne), if_pos rfl]
          omega
        · rw [if_neg g]; exact h1
    exact key nb (Nat.le_refl _)
theorem dpB_ge (g prev : Nat → Int) (set : Nat) : ∀ n, prev set ≤ dpB g prev set n ∧ ∀ b, b < n → set.testBit b = true → g b ≠ -1 → g b + prev (set ^^^ 2 ^ b) ≤ dpB g prev set n := by
  intro n
  induction n with
  | zero => exact ⟨Int.le_refl _, fun b hb => by omega⟩
  | succ n ih =>
    have e : dpB g prev set (n + 1) = if set.testBit n = true ∧ g n ≠ -1 then max (dpB g prev set n) (g n + prev (set ^^^ 2 ^ n)) else dpB g prev set n := rfl
    rw [e]
    refine ⟨?_, fun b hb h1 h2 => ?_⟩
    · split
      · have := ih.1; omega
      · exact ih.1
    · by_cases eb : b = n
      · subst eb
        rw [if_pos ⟨h1, h2⟩]
        omega
      · have := ih.2 b (by omega) h1 h2
        split <;> omega
def hC (G : Nat → Nat → Int) (w : Nat → Nat) (c : Nat) : Int := sumI (fun b => if w (b + 1) = c + 1 then max (G c b) 0 else 0) 12
theorem dp_ge {G : Nat → Nat → Int} {nb : Nat} {w : Nat → Nat} (hnb : nb ≤ 12) (hJ : ∀ b b', 1 ≤ b → b ≤ 12 → 1 ≤ b' → b' ≤ 12 → w b = w b' → w b ≠ 0 → b = b') (hG0 : ∀ c b, nb ≤ b → G c b = -1) (hGp : ∀ c b, G c b ≠ -1 → 0 ≤ G c b) : ∀ c set, (∀ c' b, c' < c → b < nb → w (b + 1) = c' + 1 → set.testBit b = true) → sumI (hC G w) c ≤ dpS G nb c set := by
  intro c
  induction c with
  | zero => intro set _; exact Int.le_refl _
  | succ c ih =>
    intro set hs
    show sumI (hC G w) c + hC G w c ≤ dpB (G c) (dpS G nb c) set nb
    obtain ⟨g1, g2⟩ := dpB_ge (G c) (dpS G nb c) set nb
    by_cases hx : ∃ b, b < nb ∧ w (b + 1) = c + 1 ∧ G c b ≠ -1
    · obtain ⟨b, b1, b2, b3⟩ := hx
      have h1 := g2 b b1 (hs c b (by omega) b1 b2) b3
      have h2 := ih (set ^^^ 2 ^ b) (fun c' b' k1 k2 k3 => by
        rw [tb_xor, hs c' b' (by omega) k2 k3, show decide (b = b') = false from decide_eq_false (fun e => by rw [← e, b2] at k3; omega)]
        rfl)
      have h3 : hC G w c = G c b := by
        have e : hC G w c = (if w (b + 1) = c + 1 then max (G c b) 0 else 0) := sumI_one (f := fun b => if w (b + 1) = c + 1 then max (G c b) 0 else 0) (k := b) 12 (by omega) (fun j j1 j2 => by
          refine if_neg (fun q => j2 ?_)
          have := hJ (j + 1) (b + 1) (by omega) (by omega) (by omega) (by omega) (q.trans b2.symm) (by omega)
          omega)
        rw [e, if_pos b2]
        have := hGp c b b3
        omega
      omega
    · have h2 := ih set (fun c' b' k1 => hs c' b' (by omega))
      have h3 : hC G w c = 0 := by
        have e : hC G w c = sumI (fun _ => 0) 12 := sumI_congr 12 (fun b hb => by
          by_cases q : w (b + 1) = c + 1
          · rw [if_pos q]
            have : G c b = -1 := by
              by_cases k : b < nb
              · exact Classical.byContradiction (fun k2 => hx ⟨b, k, q, k2⟩)
              · exact hG0 c b (by omega)
            rw [this]; decide
          · rw [if_neg q])
        rw [e, sumI_zero]
      omega
