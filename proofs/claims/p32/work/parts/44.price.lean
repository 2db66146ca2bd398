/-! the class's best sum: relaxing, the nearest, the prices -/
def gn (M : Me) (c b : Nat) : Int := max (M 64 (12 * (c - 1) + (b - 1))) 0
theorem w32_p {n : Nat} (h : 1 ≤ n) (h2 : n < 1000000) : w32 ((n : Int) - 1) = ((n - 1 : Nat) : Int) := by
  rw [w32_id ⟨by omega, by omega⟩]; omega
theorem m_gainA (c b : Nat) (hc : 1 ≤ c ∧ c ≤ 10) (hb : 1 ≤ b ∧ b ≤ 12) (M : Me) (h : Ml) : Wp zS0 tX0_gain none 0 [zr 63, zi c, zi b] [] M h (Ri (gn M c b) M h) := by
  refine Wp.g1 rfl ?_
  rw [w32_p (n := c) hc.1 (by omega), w32_p (n := b) hb.1 (by omega)]
  refine Wp.calli rfl (m_gainN (c - 1) (b - 1) (by omega) (by omega) M h) ?_
  refine Wp.g1 rfl ?_
  exact Wp.rei rfl rfl rfl rfl
theorem m_gainA0 (b : Nat) (hb : 1 ≤ b ∧ b ≤ 12) (M : Me) (h : Ml) : Wp zS0 tX0_gain none 0 [zr 63, zi 0, zi b] [] M h (Ri 0 M h) := by
  refine Wp.g1 rfl ?_
  rw [w32_p (n := b) hb.1 (by omega), show w32 (0 - 1) = -1 from by decide]
  have k := m_gain (-1) ((b - 1 : Nat) : Int) M h
  rw [if_neg (by omega)] at k
  refine Wp.calli rfl k ?_
  refine Wp.g1 rfl ?_
  exact Wp.rei rfl (by decide) rfl rfl
theorem m_isReached (m j : Nat) (M : Me) (h : Ml) (hm : M 65 5 = (m : Int)) (hl : m < 2 ^ 13) (hj : j < 13) : Wp zS0 tX0_isReached none 0 [zr 65, zi j] [] M h (Ri (if m.testBit j then 1 else 0) M h) := by
  have e : bAnd (bShr (M 65 5) (j : Int)) 1 = if m.testBit j then 1 else 0 := by
    rw [hm]; exact ib_nat (by omega) hj
  refine Wp.g1 rfl ?_
  rw [e]
  cases m.testBit j
  · refine Wp.brt rfl (by decide) ?_
    refine Wp.g1 rfl ?_
    exact Wp.rei rfl rfl rfl rfl
  · refine Wp.brf rfl (by decide) ?_
    refine Wp.g1 rfl ?_
    exact Wp.rei rfl rfl rfl rfl
/-- what a bag costs a claim -/
def cst (M : Me) (c b : Nat) : Int := -gn M c b - M 66 c - M 67 b
theorem m_relax (m col c : Nat) (M : Me) (h : Ml) (hm : M 65 5 = (m : Int)) (hl : m < 2 ^ 13) (hcol : col ≤ 12) (hc : M 68 col = (c : Int)) (hc1 : 1 ≤ c ∧ c ≤ 10) (hg : ∀ b, 1 ≤ b → b ≤ 12 → -100000 ≤ gn M c b ∧ gn M c b ≤ 100000) (hp : -100000 ≤ M 66 c ∧ M 66 c ≤ 100000) (hq : ∀ b, 1 ≤ b → b ≤ 12 → -100000 ≤ M 67 b ∧ M 67 b ≤ 100000) :
    Wp zS0 tX0_relax none 0 [zr 65, zr 63, zi col, zn, zn, zn] [] M h (fun v M' h' => v = none ∧ h' = h ∧ (∀ k, k ≠ 69 → k ≠ 70 → M' k = M k) ∧ ∀ b, 1 ≤ b → b ≤ 12 → (m.testBit b = false ∧ cst M c b < M 70 b ∧ M' 70 b = cst M c b ∧ M' 69 b = (col : Int)) ∨ (¬ (m.testBit b = false ∧ cst M c b < M 70 b) ∧ M' 70 b = M 70 b ∧ M' 69 b = M 69 b)) := by
  have loop : ∀ d b : Nat, b + d = 13 → 1 ≤ b → ∀ (M' : Me) (x : ZV), (∀ k, k ≠ 69 → k ≠ 70 → M' k = M k) → (∀ i, b ≤ i → M' 70 i = M 70 i ∧ M' 69 i = M 69 i) → (∀ i, 1 ≤ i → i < b → (m.testBit i = false ∧ cst M c i < M 70 i ∧ M' 70 i = cst M c i ∧ M' 69 i = (col : Int)) ∨ (¬ (m.testBit i = false ∧ cst M c i < M 70 i) ∧ M' 70 i = M 70 i ∧ M' 69 i = M 69 i)) →
      Wp zS0 tX0_relax none 21 [zr 65, zr 63, zi col, zi c, zi b, x] [] M' h (fun v M' h' => v = none ∧ h' = h ∧ (∀ k, k ≠ 69 → k ≠ 70 → M' k = M k) ∧ ∀ b, 1 ≤ b → b ≤ 12 → (m.testBit b = false ∧ cst M c b < M 70 b ∧ M' 70 b = cst M c b ∧ M' 69 b = (col : Int)) ∨ (¬ (m.testBit b = false ∧ cst M c b < M 70 b) ∧ M' 70 b = M 70 b ∧ M' 69 b = M 69 b)) := by
    intro d
    induction d with
    | zero =>
      intro b hb _ M' x hk ho hn
      refine Wp.g1 rfl ?_
      refine Wp.brt rfl (by omega) ?_
      exact Wp.re rfl ⟨rfl, rfl, hk, fun i h1 h2 => hn i h1 (by omega)⟩
    | succ d ih =>
      intro b hb hb1 M' x hk ho hn
      have g1 := hg b hb1 (by omega)
      have g2 := hq b hb1 (by omega)
      refine Wp.g1 rfl ?_
      refine Wp.brf rfl (by omega) ?_
      refine Wp.g1 rfl ?_
      refine Wp.calli rfl (m_gainA c b hc1 ⟨hb1, by omega⟩ M' h) ?_
      rw [show gn M' c b = gn M c b by unfold gn; rw [hk 64 (by decide) (by decide)]]
      refine Wp.g1 rfl ?_
      refine Wp.ld rfl rfl c rfl (by omega) ?_
      refine Wp.g1 rfl ?_
      refine Wp.ld rfl rfl b rfl (by omega) ?_
      refine Wp.g1 rfl ?_
      rw [hk 66 (by decide) (by decide), hk 67 (by decide) (by decide)]
      rw [w32_id (x := -gn M c b) ⟨by omega, by omega⟩, w32_id (x := -gn M c b - M 66 c) ⟨by omega, by omega⟩, w32_id (x := -gn M c b - M 66 c - M 67 b) ⟨by omega, by omega⟩]
      rw [show -gn M c b - M 66 c - M 67 b = cst M c b from rfl]
      refine Wp.calli rfl (m_isReached m b M' h (by rw [hk 65 (by decide) (by decide)]; exact hm) hl (by omega)) ?_
      have nxt : ∀ (M2 : Me), (∀ k, k ≠ 69 → k ≠ 70 → M2 k = M k) → (∀ i, i ≠ b → M2 70 i = M' 70 i ∧ M2 69 i = M' 69 i) → ((m.testBit b = false ∧ cst M c b < M 70 b ∧ M2 70 b = cst M c b ∧ M2 69 b = (col : Int)) ∨ (¬ (m.testBit b = false ∧ cst M c b < M 70 b) ∧ M2 70 b = M 70 b ∧ M2 69 b = M 69 b)) → Wp zS0 tX0_relax none 91 [zr 65, zr 63, zi col, zi c, zi b, zi (cst M c b)] [] M2 h (fun v M' h' => v = none ∧ h' = h ∧ (∀ k, k ≠ 69 → k ≠ 70 → M' k = M k) ∧ ∀ b, 1 ≤ b → b ≤ 12 → (m.testBit b = false ∧ cst M c b < M 70 b ∧ M' 70 b = cst M c b ∧ M' 69 b = (col : Int)) ∨ (¬ (m.testBit b = false ∧ cst M c b < M 70 b) ∧ M' 70 b = M 70 b ∧ M' 69 b = M 69 b)) := by
        intro M2 k1 k2 k3
        refine Wp.gt 21 rfl ?_
        rw [w32_s (n := b) (by omega)]
        refine ih (b + 1) (by omega) (by omega) M2 _ k1 (fun i hi => ?_) (fun i h1 h2 => ?_)
        · rw [(k2 i (by omega)).1, (k2 i (by omega)).2]
          exact ho i (by omega)
        · by_cases e : i = b
          · subst e; exact k3
          · rw [(k2 i e).1, (k2 i e).2]
            exact hn i h1 (by omega)
      cases hr : m.testBit b
      · refine Wp.brf rfl (by decide) ?_
        refine Wp.g1 rfl ?_
        refine Wp.ld rfl rfl b rfl (by omega) ?_
        rw [(ho b (Nat.le_refl _)).1]
        refine Wp.br rfl (fun c0 => ?_) (fun c0 => ?_)
        · exact nxt M' hk (fun i _ => ⟨rfl, rfl⟩) (Or.inr ⟨fun q => by have := q.2; omega, ho b (Nat.le_refl _)⟩)
        · refine Wp.g1 rfl ?_
          refine Wp.sto rfl rfl b rfl (by omega) ?_
          refine Wp.g1 rfl ?_
          refine Wp.sto rfl rfl b rfl (by omega) ?_
          refine nxt _ (fun k k1 k2 => by rw [upd2_ne k1, upd2_ne k2]; exact hk k k1 k2) (fun i hi => ?_) (Or.inl ⟨hr, by omega, ?_, ?_⟩)
          · rw [upd2_ne (by decide), upd2_off hi, upd2_off hi, upd2_ne (by decide)]
            exact ⟨rfl, rfl⟩
          · rw [upd2_ne (by decide), upd2_at]
          · rw [upd2_at]
      · refine Wp.brt rfl (by decide) ?_
        exact nxt M' hk (fun i _ => ⟨rfl, rfl⟩) (Or.inr ⟨fun q => Bool.false_ne_true (q.1.symm.trans hr), ho b (Nat.le_refl _)⟩)
  refine Wp.g1 rfl ?_
  refine Wp.ld rfl rfl col rfl (by omega) ?_
  refine Wp.g1 rfl ?_
  rw [hc]
  refine Wp.calli rfl (m_outside _ _ _ M h) ?_
  rw [if_neg (by omega)]
  refine Wp.brt rfl (by decide) ?_
  refine Wp.gt 21 rfl ?_
  exact loop 12 1 (by omega) (by omega) M _ (fun _ _ _ => rfl) (fun _ _ => ⟨rfl, rfl⟩) (fun i h1 h2 => by omega)
theorem m_nearest (m : Nat) (M : Me) (h : Ml) (hm : M 65 5 = (m : Int)) (hl : m < 2 ^ 13) (he : ∃ b, 1 ≤ b ∧ b ≤ 12 ∧ m.testBit b = false) :
    Wp zS0 tX0_nearest none 0 [zr 65, zn, zn] [] M h (fun v M' h' => M' = M ∧ h' = h ∧ ∃ k : Nat, v = some (zi k) ∧ 1 ≤ k ∧ k ≤ 12 ∧ m.testBit k = false ∧ ∀ b, 1 ≤ b → b ≤ 12 → m.testBit b = false → M 70 k ≤ M 70 b) := by
  have loop : ∀ d b : Nat, b + d = 13 → 1 ≤ b → ∀ k : Nat, ((k = 0 ∧ ∀ i, 1 ≤ i → i < b → m.testBit i = true) ∨ (1 ≤ k ∧ k ≤ 12 ∧ m.testBit k = false ∧ ∀ i, 1 ≤ i → i < b → m.testBit i = false → M 70 k ≤ M 70 i)) →
      Wp zS0 tX0_nearest none 4 [zr 65, zi k, zi b] [] M h (fun v M' h' => M' = M ∧ h' = h ∧ ∃ k : Nat, v = some (zi k) ∧ 1 ≤ k ∧ k ≤ 12 ∧ m.testBit k = false ∧ ∀ b, 1 ≤ b → b ≤ 12 → m.testBit b = false → M 70 k ≤ M 70 b) := by
    intro d
    induction d with
    | zero =>
      intro b hb _ k hk
      refine Wp.g1 rfl ?_
      refine Wp.brt rfl (by omega) ?_
      refine Wp.g1 rfl ?_
      rcases hk with ⟨-, hk⟩ | ⟨k1, k2, k3, k4⟩
      · obtain ⟨i, i1, i2, i3⟩ := he
        rw [hk i i1 (by omega)] at i3
        cases i3
      · exact Wp.re rfl ⟨rfl, rfl, k, rfl, k1, k2, k3, fun i i1 i2 i3 => k4 i i1 (by omega) i3⟩
    | succ d ih =>
      intro b hb hb1 k hk
      refine Wp.g1 rfl ?_
      refine Wp.brf rfl (by omega) ?_
      refine Wp.g1 rfl ?_
      refine Wp.calli rfl (m_isReached m b M h hm hl (by omega)) ?_
      cases hr : m.testBit b
      · refine Wp.brf rfl (by decide) ?_
        refine Wp.g1 rfl ?_
        have take : (∀ i, 1 ≤ i → i < b → m.testBit i = false → M 70 b ≤ M 70 i) → Wp zS0 tX0_nearest none 37 [zr 65, zi k, zi b] [] M h (fun v M' h' => M' = M ∧ h' = h ∧ ∃ k : Nat, v = some (zi k) ∧ 1 ≤ k ∧ k ≤ 12 ∧ m.testBit k = false ∧ ∀ b, 1 ≤ b → b ≤ 12 → m.testBit b = false → M 70 k ≤ M 70 b) := by
          intro hle
          refine Wp.gt 4 rfl ?_
          rw [w32_s (n := b) (by omega)]
          refine ih (b + 1) (by omega) (by omega) b (Or.inr ⟨hb1, by omega, hr, fun i i1 i2 i3 => ?_⟩)
          by_cases e : i = b
          · subst e; exact Int.le_refl _
          · exact hle i i1 (by omega) i3
        rcases hk with ⟨k0, hk⟩ | ⟨k1, k2, k3, k4⟩
        · subst k0
          refine Wp.brt rfl (by decide) ?_
          exact take (fun i i1 i2 i3 => by rw [hk i i1 i2] at i3; cases i3)
        · refine Wp.brf rfl (by omega) ?_
          refine Wp.g1 rfl ?_
          refine Wp.ld rfl rfl b rfl (by omega) ?_
          refine Wp.g1 rfl ?_
          refine Wp.ld rfl rfl k rfl (by omega) ?_
          refine Wp.br rfl (fun c0 => ?_) (fun c0 => ?_)
          · refine Wp.gt 4 rfl ?_
            rw [w32_s (n := b) (by omega)]
            refine ih (b + 1) (by omega) (by omega) k (Or.inr ⟨k1, k2, k3, fun i i1 i2 i3 => ?_⟩)
            by_cases e : i = b
            · subst e; exact c0
            · exact k4 i i1 (by omega) i3
          · exact take (fun i i1 i2 i3 => by have := k4 i i1 i2 i3; omega)
      · refine Wp.brt rfl (by decide) ?_
        refine Wp.gt 4 rfl ?_
        rw [w32_s (n := b) (by omega)]
        refine ih (b + 1) (by omega) (by omega) k ?_
        rcases hk with ⟨k0, hk⟩ | ⟨k1, k2, k3, k4⟩
        · refine Or.inl ⟨k0, fun i i1 i2 => ?_⟩
          by_cases e : i = b
          · subst e; exact hr
          · exact hk i i1 (by omega)
        · refine Or.inr ⟨k1, k2, k3, fun i i1 i2 i3 => ?_⟩
          by_cases e : i = b
          · subst e; rw [hr] at i3; cases i3
          · exact k4 i i1 (by omega) i3
  refine Wp.gt 4 rfl ?_
  exact loop 12 1 (by omega) (by omega) 0 (Or.inl ⟨rfl, fun i h1 h2 => by omega⟩)
theorem m_shift (m : Nat) (ch : Int) (w : Nat → Nat) (M : Me) (h : Ml) (hm : M 65 5 = (m : Int)) (hl : m < 2 ^ 13) (hw : ∀ j, j ≤ 12 → M 68 j = (w j : Int) ∧ w j ≤ 10) (hj : ∀ i j, i ≤ 12 → j ≤ 12 → m.testBit i = true → m.testBit j = true → w i = w j → i = j) (hc : -200000 ≤ ch ∧ ch ≤ 200000) (hs : ∀ b, 1 ≤ b → b ≤ 12 → m.testBit b = false → -1000000 ≤ M 70 b ∧ M 70 b ≤ 1100000000) (hp : ∀ c, c ≤ 10 → -1000000 ≤ M 66 c ∧ M 66 c ≤ 1000000) (hq : ∀ b, 1 ≤ b → b ≤ 12 → -1000000 ≤ M 67 b ∧ M 67 b ≤ 1000000) (h0 : m.testBit 0 = true) :
    Wp zS0 tX0_shiftPrices none 0 [zr 65, zi ch, zn, zn] [] M h (fun v M' h' => v = none ∧ h' = h ∧ (∀ k, k ≠ 66 → k ≠ 67 → k ≠ 70 → M' k = M k) ∧ (∀ b, 1 ≤ b → b ≤ 12 → M' 70 b = if m.testBit b then M 70 b else M 70 b - ch) ∧ (∀ b, 1 ≤ b → b ≤ 12 → M' 67 b = if m.testBit b then M 67 b - ch else M 67 b) ∧ (∀ j, j ≤ 12 → m.testBit j = true → M' 66 (w j) = M 66 (w j) + ch) ∧ ∀ c, c ≤ 10 → (∀ j, j ≤ 12 → m.testBit j = true → w j ≠ c) → M' 66 c = M 66 c) := by
  have loop : ∀ d b : Nat, b + d = 13 → ∀ (M' : Me) (x : ZV), (∀ k, k ≠ 66 → k ≠ 67 → k ≠ 70 → M' k = M k) → (∀ i, 1 ≤ i → i ≤ 12 → M' 70 i = if i < b ∧ m.testBit i = false then M 70 i - ch else M 70 i) → (∀ i, 1 ≤ i → i ≤ 12 → M' 67 i = if i < b ∧ m.testBit i = true then M 67 i - ch else M 67 i) → (∀ j, j < b → m.testBit j = true → M' 66 (w j) = M 66 (w j) + ch) → (∀ c, c ≤ 10 → (∀ j, j < b → m.testBit j = true → w j ≠ c) → M' 66 c = M 66 c) →
      Wp zS0 tX0_shiftPrices none 2 [zr 65, zi ch, zi b, x] [] M' h (fun v M' h' => v = none ∧ h' = h ∧ (∀ k, k ≠ 66 → k ≠ 67 → k ≠ 70 → M' k = M k) ∧ (∀ b, 1 ≤ b → b ≤ 12 → M' 70 b = if m.testBit b then M 70 b else M 70 b - ch) ∧ (∀ b, 1 ≤ b → b ≤ 12 → M' 67 b = if m.testBit b then M 67 b - ch else M 67 b) ∧ (∀ j, j ≤ 12 → m.testBit j = true → M' 66 (w j) = M 66 (w j) + ch) ∧ ∀ c, c ≤ 10 → (∀ j, j ≤ 12 → m.testBit j = true → w j ≠ c) → M' 66 c = M 66 c) := by
    intro d
    induction d with
    | zero =>
      intro b hb M' x hk h70 h67 h66 h66'
      refine Wp.g1 rfl ?_
      refine Wp.brt rfl (by omega) ?_
      refine Wp.re rfl ⟨rfl, rfl, hk, fun i i1 i2 => ?_, fun i i1 i2 => ?_, fun j j1 j2 => h66 j (by omega) j2, fun c c1 c2 => h66' c c1 (fun j j1 j2 => c2 j (by omega) j2)⟩
      · rw [h70 i i1 i2]
        cases m.testBit i
        · rw [if_pos ⟨by omega, rfl⟩]; rfl
        · rw [if_neg (fun q => Bool.false_ne_true q.2.symm)]; rfl
      · rw [h67 i i1 i2]
        cases m.testBit i
        · rw [if_neg (fun q => Bool.false_ne_true q.2)]; rfl
        · rw [if_pos ⟨by omega, rfl⟩]; rfl
    | succ d ih =>
      intro b hb M' x hk h70 h67 h66 h66'
      have hwb := hw b (by omega)
      refine Wp.g1 rfl ?_
      refine Wp.brf rfl (by omega) ?_
      refine Wp.g1 rfl ?_
      refine Wp.ld rfl rfl b rfl (by omega) ?_
      refine Wp.g1 rfl ?_
      rw [hk 68 (by decide) (by decide) (by decide), hwb.1]
      refine Wp.calli rfl (m_isReached m b M' h (by rw [hk 65 (by decide) (by decide) (by decide)]; exact hm) hl (by omega)) ?_
      cases hr : m.testBit b
      · have hb1 : 1 ≤ b := by
          by_cases e : b = 0
          · subst e; rw [h0] at hr; cases hr
          · omega
        have s1 := hs b hb1 (by omega) hr
        refine Wp.brf rfl (by decide) ?_
        refine Wp.g1 rfl ?_
        refine Wp.ld rfl rfl b rfl (by omega) ?_
        refine Wp.g1 rfl ?_
        rw [h70 b hb1 (by omega), if_neg (fun q => by omega), w32_id (x := M 70 b - ch) ⟨by omega, by omega⟩]
        refine Wp.sto rfl rfl b rfl (by omega) ?_
        refine Wp.gt 2 rfl ?_
        rw [w32_s (n := b) (by omega)]
        refine ih (b + 1) (by omega) _ _ (fun k k1 k2 k3 => by rw [upd2_ne k3]; exact hk k k1 k2 k3) (fun i i1 i2 => ?_) (fun i i1 i2 => ?_) (fun j j1 j2 => ?_) (fun c c1 c2 => ?_)
        · by_cases e : i = b
          · subst e; rw [upd2_at, if_pos ⟨by omega, hr⟩]
          · rw [upd2_off e, h70 i i1 i2]
            by_cases g : i < b ∧ m.testBit i = false
            · rw [if_pos g, if_pos ⟨by omega, g.2⟩]
            · rw [if_neg g, if_neg (fun q => g ⟨by omega, q.2⟩)]
        · rw [upd2_ne (by decide), h67 i i1 i2]
          by_cases g : i < b ∧ m.testBit i = true
          · rw [if_pos g, if_pos ⟨by omega, g.2⟩]
          · rw [if_neg g, if_neg (fun q => g ⟨by
              by_cases e : i = b
              · subst e; exact absurd (hr.symm.trans q.2) Bool.false_ne_true
              · omega, q.2⟩)]
        · rw [upd2_ne (by decide)]
          by_cases e : j = b
          · subst e; exact absurd (hr.symm.trans j2) Bool.false_ne_true
          · exact h66 j (by omega) j2
        · rw [upd2_ne (by decide)]
          exact h66' c c1 (fun j j1 j2 => c2 j (by omega) j2)
      · refine Wp.brt rfl (by decide) ?_
        refine Wp.g1 rfl ?_
        refine Wp.calli rfl (m_outside _ _ _ M' h) ?_
        rw [if_neg (by omega)]
        refine Wp.brf rfl (by decide) ?_
        refine Wp.g1 rfl ?_
        refine Wp.ld rfl rfl (w b) rfl (by omega) ?_
        have fresh : ∀ j, j < b → m.testBit j = true → w j ≠ w b := fun j j1 j2 e => by
          have := hj j b (by omega) (by omega) j2 hr e
          omega
        have p1 := hp (w b) hwb.2
        refine Wp.g1 rfl ?_
        rw [h66' (w b) hwb.2 fresh, w32_id (x := M 66 (w b) + ch) ⟨by omega, by omega⟩]
        refine Wp.sto rfl rfl (w b) rfl (by omega) ?_
        refine Wp.g1 rfl ?_
        refine Wp.ld rfl rfl b rfl (by omega) ?_
        refine Wp.g1 rfl ?_
        refine Wp.sto rfl rfl b rfl (by omega) ?_
        refine Wp.gt 2 rfl ?_
        rw [w32_s (n := b) (by omega), upd2_ne (by decide : (67 : Nat) ≠ 66)]
        refine ih (b + 1) (by omega) _ _ (fun k k1 k2 k3 => by rw [upd2_ne k2, upd2_ne k1]; exact hk k k1 k2 k3) (fun i i1 i2 => ?_) (fun i i1 i2 => ?_) (fun j j1 j2 => ?_) (fun c c1 c2 => ?_)
        · rw [upd2_ne (by decide), upd2_ne (by decide), h70 i i1 i2]
          by_cases g : i < b ∧ m.testBit i = false
          · rw [if_pos g, if_pos ⟨by omega, g.2⟩]
          · rw [if_neg g, if_neg (fun q => g ⟨by
              by_cases e : i = b
              · subst e; exact absurd (q.2.symm.trans hr) Bool.false_ne_true
              · omega, q.2⟩)]
        · by_cases e : i = b
          · subst e
            have q1 := hq i i1 i2
            rw [upd2_at, h67 i i1 i2, if_neg (fun q => by omega), if_pos ⟨by omega, hr⟩, w32_id ⟨by omega, by omega⟩]
          · rw [upd2_off e, upd2_ne (by decide), h67 i i1 i2]
            by_cases g : i < b ∧ m.testBit i = true
            · rw [if_pos g, if_pos ⟨by omega, g.2⟩]
            · rw [if_neg g, if_neg (fun q => g ⟨by omega, q.2⟩)]
        · rw [upd2_ne (by decide)]
          by_cases e : j = b
          · subst e; rw [upd2_at]
          · rw [upd2_off (fresh j (by omega) j2)]
            exact h66 j (by omega) j2
        · rw [upd2_ne (by decide), upd2_off (fun q => c2 b (by omega) hr q.symm)]
          exact h66' c c1 (fun j j1 j2 => c2 j (by omega) j2)
  refine Wp.gt 2 rfl ?_
  exact loop 13 0 (by omega) M _ (fun _ _ _ _ => rfl) (fun i _ _ => by rw [if_neg (by omega)]) (fun i _ _ => by rw [if_neg (by omega)]) (fun j hj' => by omega) (fun c _ _ => rfl)
