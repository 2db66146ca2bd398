theorem ix12 {c b : Nat} (hc : c < 10) (hb : b < 12) : w32 (w32 ((c : Int) * 12) + (b : Int)) = ((12 * c + b : Nat) : Int) := by
  rw [w32_id (x := (c : Int) * 12) ⟨by omega, by omega⟩, w32_id ⟨by omega, by omega⟩]
  omega
theorem w32_s {n : Nat} (h : n < 1000000) : w32 ((n : Int) + 1) = ((n + 1 : Nat) : Int) := by
  rw [w32_id ⟨by omega, by omega⟩]
  omega
theorem m_part {V : Nat → Int} {nb nc t c b : Nat} {M : Me} {h : Ml} (hR : OfRel M 1 V nb nc) (hw2 : M 2 0 = 8) (hw5 : M 5 0 = 9) (hW : WF V nb nc t) (hc : c < nc) (hb : b < nb) (i : Nat) (hi : i < 7) :
    Wp zS0 tX5_part none 0 [zr 61, zr 1, zi c, zi b, zi i] [] M h (fun v M' h' => v = some (zi (scN V c b i)) ∧ h' = h ∧ ∀ k, k ≠ 62 → M' k = M k) := by
  refine Wp.g1 rfl ?_
  refine Wp.brf rfl (by omega) ?_
  refine Wp.g1 rfl ?_
  refine Wp.brf rfl (by omega) ?_
  refine Wp.g1 rfl ?_
  refine Wp.call rfl (m_compare hR hw2 hw5 hW hc hb) (fun v M1 h1 q => ?_)
  obtain ⟨rfl, hk, ⟨hl, rfl⟩ | ⟨hl, rfl, hv⟩⟩ := q
  · refine Wp.brf rfl (by decide) ?_
    refine Wp.g1 rfl ?_
    refine Wp.re rfl ⟨?_, rfl, hk⟩
    unfold scN
    rw [if_pos hl]
  · refine Wp.brt rfl (by decide) ?_
    refine Wp.g1 rfl ?_
    refine Wp.ld rfl rfl i rfl (by omega) ?_
    refine Wp.re rfl ⟨?_, rfl, hk⟩
    unfold scN
    rw [if_neg (by omega), hv i hi]
/-- what the class calls likely: the score, or -1 -/
def lkG (V : Nat → Int) (nb nc c b : Nat) : Int := if b < nb ∧ cw V nc b = -10006 ∧ V (114 + 10 * c + 8) ≤ V (18 + 8 * b + 7) ∧ V 1 ≤ scI V c b 0 then scI V c b 0 else -1
def gF (V : Nat → Int) (nb nc c b : Nat) : Int := if c < nc ∧ V (114 + 10 * c + 9) = 0 then lkG V nb nc c b else -1
theorem m_likely {V : Nat → Int} {nb nc t c b : Nat} {M : Me} {h : Ml} (hR : OfRel M 1 V nb nc) (hw2 : M 2 0 = 8) (hw5 : M 5 0 = 9) (hW : WF V nb nc t) (hc : c < nc) :
    Wp zS0 tX5_likely none 0 [zr 61, zr 1, zi c, zi b] [] M h (fun v M' h' => v = some (zi (lkG V nb nc c b)) ∧ h' = h ∧ ∀ k, k ≠ 62 → M' k = M k) := by
  have hf := m2_isFree b nb M h hw2 hR.2.2.1.1 hW.1.2.2.1
  refine Wp.g1 rfl ?_
  refine Wp.calli rfl hf ?_
  by_cases hb : b < nb
  · rw [(hR.2.2.2.1 b hb).2.2]
    by_cases hfr : cw V nc b = -10006
    · refine Wp.brf rfl (by rw [if_pos ⟨hb, hfr⟩]; decide) ?_
      refine Wp.g1 rfl ?_
      refine Wp.call rfl (m_compare hR hw2 hw5 hW hc hb) (fun v M1 h1 q => ?_)
      obtain ⟨rfl, hk, ⟨hl, rfl⟩ | ⟨hl, rfl, hv⟩⟩ := q
      · refine Wp.brt rfl (by decide) ?_
        refine Wp.g1 rfl ?_
        refine Wp.re rfl ⟨?_, rfl, hk⟩
        unfold lkG
        rw [if_neg (fun q => by omega)]
      · refine Wp.brf rfl (by decide) ?_
        refine Wp.g1 rfl ?_
        refine Wp.ld rfl rfl 0 rfl (by omega) ?_
        refine Wp.g1 rfl ?_
        rw [hv 0 (by omega), hk 1 (by omega), hR.1.2.1]
        refine Wp.br rfl (fun c0 => ?_) (fun c0 => ?_)
        · refine Wp.g1 rfl ?_
          refine Wp.ld rfl rfl 0 rfl (by omega) ?_
          refine Wp.re rfl ⟨?_, rfl, hk⟩
          unfold lkG
          rw [if_pos ⟨hb, hfr, hl, c0⟩, hv 0 (by omega)]
        · refine Wp.g1 rfl ?_
          refine Wp.re rfl ⟨?_, rfl, hk⟩
          unfold lkG
          rw [if_neg (fun q => c0 q.2.2.2)]
    · refine Wp.brt rfl (by rw [if_neg (fun q => hfr q.2)]) ?_
      refine Wp.g1 rfl ?_
      refine Wp.re rfl ⟨?_, rfl, fun _ _ => rfl⟩
      unfold lkG
      rw [if_neg (fun q => hfr q.2.1)]
  · refine Wp.brt rfl (by rw [if_neg (fun q => hb q.1)]) ?_
    refine Wp.g1 rfl ?_
    refine Wp.re rfl ⟨?_, rfl, fun _ _ => rfl⟩
    unfold lkG
    rw [if_neg (fun q => hb q.1)]
theorem pt_free {V : Nat → Int} {nb nc t c : Nat} (hW : WF V nb nc t) (hc : c < nc) : pt V c = -10006 ↔ V (114 + 10 * c + 9) = 0 := by
  have h := hW.2.2.2.1 c hc
  obtain ⟨-, -, -, -, -, -, -, -, -, -, c9⟩ := h
  unfold pt
  split
  · next e => exact ⟨fun _ => e, fun _ => rfl⟩
  · next e => exact ⟨fun q => by omega, fun q => absurd q e⟩
theorem m_fill {V : Nat → Int} {nb nc t : Nat} {M : Me} {h : Ml} (hR : OfRel M 1 V nb nc) (hw2 : M 2 0 = 8) (hw5 : M 5 0 = 9) (hW : WF V nb nc t) :
    Wp zS0 tX4_fill none 0 [zr 63, zr 1, zr 61, zn, zn, zn] [] M h (fun v M' h' => v = none ∧ h' = h ∧ (∀ k, k ≠ 62 → k ≠ 64 → M' k = M k) ∧ ∀ c b, c < 10 → b < 12 → M' 64 (12 * c + b) = gF V nb nc c b) := by
  have outer : ∀ e c : Nat, c + e = 10 → ∀ (M' : Me) (x y : ZV), (∀ k, k ≠ 62 → k ≠ 64 → M' k = M k) → (∀ c' b, c' < c → b < 12 → M' 64 (12 * c' + b) = gF V nb nc c' b) →
      Wp zS0 tX4_fill none 2 [zr 63, zr 1, zr 61, zi c, x, y] [] M' h (fun v M' h' => v = none ∧ h' = h ∧ (∀ k, k ≠ 62 → k ≠ 64 → M' k = M k) ∧ ∀ c b, c < 10 → b < 12 → M' 64 (12 * c + b) = gF V nb nc c b) := by
    intro e
    induction e with
    | zero =>
      intro c hce M' x y hk hv
      refine Wp.g1 rfl ?_
      refine Wp.brt rfl (by omega) ?_
      exact Wp.re rfl ⟨rfl, rfl, hk, fun c' b h1 h2 => hv c' b (by omega) h2⟩
    | succ e ih =>
      intro c hce M' x y hk hv
      have hR' : OfRel M' 1 V nb nc := hR.kept (fun k g1 g2 => hk k (by omega) (by omega))
      have hfree := m5_isFree c nc M' h (by rw [hk 5 (by omega) (by omega)]; exact hw5) hR'.2.2.1.2.2.1 hW.1.2.2.2
      refine Wp.g1 rfl ?_
      refine Wp.brf rfl (by omega) ?_
      refine Wp.g1 rfl ?_
      refine Wp.calli rfl hfree ?_
      have hfx : (if c < nc ∧ M' 7 (9 * c + 8) = -10006 then (1 : Int) else 0) = if c < nc ∧ V (114 + 10 * c + 9) = 0 then 1 else 0 := by
        by_cases hc : c < nc
        · rw [(hR'.2.2.2.2 c hc).2.2]
          have := pt_free hW hc
          by_cases hz : V (114 + 10 * c + 9) = 0
          · rw [if_pos ⟨hc, this.mpr hz⟩, if_pos ⟨hc, hz⟩]
          · rw [if_neg (fun q => hz (this.mp q.2)), if_neg (fun q => hz q.2)]
        · rw [if_neg (fun q => hc q.1), if_neg (fun q => hc q.1)]
      rw [hfx]
      have inner : ∀ d b : Nat, b + d = 12 → ∀ (M' : Me), (∀ k, k ≠ 62 → k ≠ 64 → M' k = M k) → (∀ c' b', (c' < c ∨ (c' = c ∧ b' < b)) → b' < 12 → M' 64 (12 * c' + b') = gF V nb nc c' b') →
          Wp zS0 tX4_fill none 21 [zr 63, zr 1, zr 61, zi c, zi (if c < nc ∧ V (114 + 10 * c + 9) = 0 then 1 else 0), zi b] [] M' h (fun v M' h' => v = none ∧ h' = h ∧ (∀ k, k ≠ 62 → k ≠ 64 → M' k = M k) ∧ ∀ c b, c < 10 → b < 12 → M' 64 (12 * c + b) = gF V nb nc c b) := by
        intro d
        induction d with
        | zero =>
          intro b hbd M' hk hv
          refine Wp.g1 rfl ?_
          refine Wp.brt rfl (by omega) ?_
          refine Wp.gt 2 rfl ?_
          rw [w32_s (n := c) (by omega)]
          exact ih (c + 1) (by omega) M' _ _ hk (fun c' b' g1 g2 => hv c' b' (by omega) g2)
        | succ d ihd =>
          intro b hbd M' hk hv
          have hix := ix12 (c := c) (b := b) (by omega) (by omega)
          have nxt : ∀ (M1 : Me), (∀ k, k ≠ 62 → k ≠ 64 → M1 k = M k) → (M1 64 = upd2 M' 64 (12 * c + b) (gF V nb nc c b) 64) → Wp zS0 tX4_fill none 21 [zr 63, zr 1, zr 61, zi c, zi (if c < nc ∧ V (114 + 10 * c + 9) = 0 then 1 else 0), zi ((b + 1 : Nat) : Int)] [] M1 h (fun v M' h' => v = none ∧ h' = h ∧ (∀ k, k ≠ 62 → k ≠ 64 → M' k = M k) ∧ ∀ c b, c < 10 → b < 12 → M' 64 (12 * c + b) = gF V nb nc c b) := by
            intro M1 hk1 h64
            refine ihd (b + 1) (by omega) M1 hk1 (fun c' b' g1 g2 => ?_)
            rw [h64]
            by_cases e1 : c' = c ∧ b' = b
            · rw [e1.1, e1.2, upd2_at]
            · rw [upd2_off (by omega)]
              exact hv c' b' (by omega) g2
          refine Wp.g1 rfl ?_
          refine Wp.brf rfl (by omega) ?_
          refine Wp.g1 rfl ?_
          rw [hix]
          by_cases hg : c < nc ∧ V (114 + 10 * c + 9) = 0
          · have hR' : OfRel M' 1 V nb nc := hR.kept (fun k g1 g2 => hk k (by omega) (by omega))
            refine Wp.brf rfl (by rw [if_pos hg]; decide) ?_
            refine Wp.g1 rfl ?_
            refine Wp.call rfl (m_likely (b := b) hR' (by rw [hk 2 (by omega) (by omega)]; exact hw2) (by rw [hk 5 (by omega) (by omega)]; exact hw5) hW hg.1) (fun v M1 h1 q => ?_)
            obtain ⟨rfl, rfl, hk1⟩ := q
            refine Wp.g1 rfl ?_
            refine Wp.sto rfl rfl (12 * c + b) rfl (by omega) ?_
            refine Wp.gt 21 rfl ?_
            rw [w32_s (n := b) (by omega)]
            refine nxt _ (fun k g1 g2 => by rw [upd2_ne g2, hk1 k g1]; exact hk k g1 g2) ?_
            have e2 : gF V nb nc c b = lkG V nb nc c b := by unfold gF; rw [if_pos hg]
            rw [e2]
            funext i
            unfold upd2
            rw [hk1 64 (by omega)]
          · refine Wp.brt rfl (by rw [if_neg hg]) ?_
            refine Wp.g1 rfl ?_
            refine Wp.sto rfl rfl (12 * c + b) rfl (by omega) ?_
            refine Wp.gt 21 rfl ?_
            rw [w32_s (n := b) (by omega)]
            have e2 : gF V nb nc c b = -1 := by unfold gF; rw [if_neg hg]
            exact nxt _ (fun k g1 g2 => by rw [upd2_ne g2]; exact hk k g1 g2) (by rw [e2])
      refine Wp.gt 21 rfl ?_
      exact inner 12 0 (by omega) M' hk (fun c' b' g1 g2 => hv c' b' (by omega) g2)
  refine Wp.gt 2 rfl ?_
  exact outer 10 0 (by omega) M _ _ (fun _ _ _ => rfl) (fun c' b h1 => by omega)
theorem m_gain (x y : Int) (M : Me) (h : Ml) : Wp zS0 tX4_gain none 0 [zr 63, zi x, zi y] [] M h (Ri (if 0 ≤ x ∧ x < 10 ∧ 0 ≤ y ∧ y < 12 then M 64 (12 * x.toNat + y.toNat) else -1) M h) := by
  by_cases hx : 0 ≤ x ∧ x < 10 ∧ 0 ≤ y ∧ y < 12
  · rw [if_pos hx]
    refine Wp.g1 rfl ?_
    refine Wp.brf rfl (by omega) ?_
    refine Wp.g1 rfl ?_
    refine Wp.brf rfl (by omega) ?_
    refine Wp.g1 rfl ?_
    refine Wp.brf rfl (by omega) ?_
    refine Wp.g1 rfl ?_
    refine Wp.brt rfl (by omega) ?_
    refine Wp.g1 rfl ?_
    refine Wp.ld rfl rfl (12 * x.toNat + y.toNat) (by simp only [w32_def]; omega) (by omega) ?_
    exact Wp.rei rfl rfl rfl rfl
  · rw [if_neg hx]
    repeat' first | refine Wp.g1 rfl ?_ | refine Wp.br rfl (fun _ => ?_) (fun _ => ?_)
    all_goals first | omega | exact Wp.rei rfl rfl rfl rfl
theorem m_gainN (c b : Nat) (hc : c < 10) (hb : b < 12) (M : Me) (h : Ml) : Wp zS0 tX4_gain none 0 [zr 63, zi c, zi b] [] M h (Ri (M 64 (12 * c + b)) M h) := by
  have := m_gain c b M h
  rw [if_pos (by omega)] at this
  exact this
/-- the greatest of the first n numbers above -1, and its first place -/
def bv (f : Nat → Int) : Nat → Int
  | 0 => -1
  | n + 1 => if bv f n < f n then f n else bv f n
def bp (f : Nat → Int) : Nat → Nat
  | 0 => 0
  | n + 1 => if bv f n < f n then n else bp f n
theorem bv_ge (f : Nat → Int) : ∀ n, -1 ≤ bv f n := by
  intro n
  induction n with
  | zero => exact Int.le_refl _
  | succ n ih => unfold bv; split <;> omega
theorem m_strikeOut (ci bi : Nat) (M : Me) (h : Ml) (h1 : M 63 1 = (ci : Int)) (h2 : M 63 2 = (bi : Int)) :
    Wp zS0 tX4_strikeOut none 0 [zr 63, zn, zn] [] M h (fun v M' h' => v = none ∧ h' = h ∧ (∀ k, k ≠ 64 → M' k = M k) ∧ ∀ i, i < 120 → M' 64 i = if i / 12 = ci ∨ i % 12 = bi then -1 else M 64 i) := by
  have outer : ∀ e c : Nat, c + e = 10 → ∀ (M' : Me) (y : ZV), (∀ k, k ≠ 64 → M' k = M k) → (∀ i, i < 120 → M' 64 i = if i < 12 * c ∧ (i / 12 = ci ∨ i % 12 = bi) then -1 else M 64 i) →
      Wp zS0 tX4_strikeOut none 2 [zr 63, zi c, y] [] M' h (fun v M' h' => v = none ∧ h' = h ∧ (∀ k, k ≠ 64 → M' k = M k) ∧ ∀ i, i < 120 → M' 64 i = if i / 12 = ci ∨ i % 12 = bi then -1 else M 64 i) := by
    intro e
    induction e with
    | zero =>
      intro c hce M' y hk hv
      refine Wp.g1 rfl ?_
      refine Wp.brt rfl (by omega) ?_
      refine Wp.re rfl ⟨rfl, rfl, hk, fun i hi => ?_⟩
      rw [hv i hi]
      by_cases hp : i / 12 = ci ∨ i % 12 = bi
      · rw [if_pos ⟨by omega, hp⟩, if_pos hp]
      · rw [if_neg (fun q => hp q.2), if_neg hp]
    | succ e ih =>
      intro c hce M' y hk hv
      refine Wp.g1 rfl ?_
      refine Wp.brf rfl (by omega) ?_
      have inner : ∀ d b : Nat, b + d = 12 → ∀ (M' : Me), (∀ k, k ≠ 64 → M' k = M k) → (∀ i, i < 120 → M' 64 i = if i < 12 * c + b ∧ (i / 12 = ci ∨ i % 12 = bi) then -1 else M 64 i) →
          Wp zS0 tX4_strikeOut none 10 [zr 63, zi c, zi b] [] M' h (fun v M' h' => v = none ∧ h' = h ∧ (∀ k, k ≠ 64 → M' k = M k) ∧ ∀ i, i < 120 → M' 64 i = if i / 12 = ci ∨ i % 12 = bi then -1 else M 64 i) := by
        intro d
        induction d with
        | zero =>
          intro b hbd M' hk hv
          refine Wp.g1 rfl ?_
          refine Wp.brt rfl (by omega) ?_
          refine Wp.gt 2 rfl ?_
          rw [w32_s (n := c) (by omega)]
          refine ih (c + 1) (by omega) M' _ hk (fun i hi => ?_)
          rw [hv i hi, show 12 * c + b = 12 * (c + 1) by omega]
        | succ d ihd =>
          intro b hbd M' hk hv
          have e1 := w32_s (n := b) (by omega)
          have put : (c = ci ∨ b = bi) → Wp zS0 tX4_strikeOut none 32 [zr 63, zi c, zi b] [] M' h (fun v M' h' => v = none ∧ h' = h ∧ (∀ k, k ≠ 64 → M' k = M k) ∧ ∀ i, i < 120 → M' 64 i = if i / 12 = ci ∨ i % 12 = bi then -1 else M 64 i) := by
            intro hp
            have hix := ix12 (c := c) (b := b) (by omega) (by omega)
            refine Wp.g1 rfl ?_
            rw [hix]
            refine Wp.sto rfl rfl (12 * c + b) rfl (by omega) ?_
            refine Wp.gt 10 rfl ?_
            rw [e1]
            refine ihd (b + 1) (by omega) _ (fun k hk' => (upd2_ne hk').trans (hk k hk')) (fun i hi => ?_)
            by_cases ei : i = 12 * c + b
            · subst ei
              rw [upd2_at, if_pos ⟨by omega, by omega⟩]
            · rw [upd2_off ei, hv i hi]
              by_cases hq : i < 12 * c + b ∧ (i / 12 = ci ∨ i % 12 = bi)
              · rw [if_pos hq, if_pos ⟨by omega, hq.2⟩]
              · rw [if_neg hq, if_neg (fun q => hq ⟨by omega, q.2⟩)]
          refine Wp.g1 rfl ?_
          refine Wp.brf rfl (by omega) ?_
          refine Wp.g1 rfl ?_
          rw [hk 63 (by omega), h1]
          refine Wp.br rfl (fun c0 => put (by omega)) (fun c0 => ?_)
          refine Wp.g1 rfl ?_
          rw [hk 63 (by omega), h2]
          refine Wp.br rfl (fun c1 => ?_) (fun c1 => put (by omega))
          refine Wp.gt 10 rfl ?_
          rw [e1]
          refine ihd (b + 1) (by omega) _ hk (fun i hi => ?_)
          rw [hv i hi]
          by_cases hq : i < 12 * c + b ∧ (i / 12 = ci ∨ i % 12 = bi)
          · rw [if_pos hq, if_pos ⟨by omega, hq.2⟩]
          · rw [if_neg hq, if_neg (fun q => hq ⟨by omega, q.2⟩)]
      refine Wp.gt 10 rfl ?_
      exact inner 12 0 (by omega) M' hk (fun i hi => hv i hi)
  refine Wp.gt 2 rfl ?_
  exact outer 10 0 (by omega) M _ (fun _ _ => rfl) (fun i hi => by rw [if_neg (by omega)])
theorem m_takeGreatest (M : Me) (h : Ml) :
    Wp zS0 tX4_takeGreatest none 0 [zr 63, zn, zn, zn] [] M h (fun v M' h' => v = some (zi (bv (M 64) 120)) ∧ h' = h ∧ (∀ k, k ≠ 63 → k ≠ 64 → M' k = M k) ∧ (bv (M 64) 120 = -1 → M' 64 = M 64) ∧ (bv (M 64) 120 ≠ -1 → M' 63 1 = ((bp (M 64) 120 / 12 : Nat) : Int) ∧ M' 63 2 = ((bp (M 64) 120 % 12 : Nat) : Int) ∧ ∀ i, i < 120 → M' 64 i = if i / 12 = bp (M 64) 120 / 12 ∨ i % 12 = bp (M 64) 120 % 12 then -1 else M 64 i)) := by
  have outer : ∀ e c : Nat, c + e = 10 → ∀ (M' : Me) (y : ZV), (∀ k, k ≠ 63 → M' k = M k) → (bv (M 64) (12 * c) ≠ -1 → M' 63 1 = ((bp (M 64) (12 * c) / 12 : Nat) : Int) ∧ M' 63 2 = ((bp (M 64) (12 * c) % 12 : Nat) : Int)) →
      Wp zS0 tX4_takeGreatest none 4 [zr 63, zi (bv (M 64) (12 * c)), zi c, y] [] M' h (fun v M' h' => v = some (zi (bv (M 64) 120)) ∧ h' = h ∧ (∀ k, k ≠ 63 → k ≠ 64 → M' k = M k) ∧ (bv (M 64) 120 = -1 → M' 64 = M 64) ∧ (bv (M 64) 120 ≠ -1 → M' 63 1 = ((bp (M 64) 120 / 12 : Nat) : Int) ∧ M' 63 2 = ((bp (M 64) 120 % 12 : Nat) : Int) ∧ ∀ i, i < 120 → M' 64 i = if i / 12 = bp (M 64) 120 / 12 ∨ i % 12 = bp (M 64) 120 % 12 then -1 else M 64 i)) := by
    intro e
    induction e with
    | zero =>
      intro c hce M' y hk hv
      have ec : c = 10 := by omega
      subst ec
      refine Wp.g1 rfl ?_
      refine Wp.brt rfl (by decide) ?_
      refine Wp.g1 rfl ?_
      refine Wp.br rfl (fun c0 => ?_) (fun c0 => ?_)
      · refine Wp.g1 rfl ?_
        exact Wp.re rfl ⟨rfl, rfl, fun k g1 _ => hk k g1, fun _ => hk 64 (by omega), fun q => absurd c0 q⟩
      · refine Wp.g1 rfl ?_
        obtain ⟨g1, g2⟩ := hv c0
        refine Wp.call rfl (m_strikeOut _ _ M' h g1 g2) (fun v M1 h1 q => ?_)
        obtain ⟨rfl, rfl, q1, q2⟩ := q
        refine Wp.g1 rfl ?_
        refine Wp.re rfl ⟨rfl, rfl, fun k g3 g4 => (q1 k g4).trans (hk k g3), fun q => absurd q c0, fun _ => ⟨by rw [q1 63 (by omega)]; exact g1, by rw [q1 63 (by omega)]; exact g2, fun i hi => ?_⟩⟩
        rw [q2 i hi, hk 64 (by omega)]
    | succ e ih =>
      intro c hce M' y hk hv
      refine Wp.g1 rfl ?_
      refine Wp.brf rfl (by omega) ?_
      have inner : ∀ d b : Nat, b + d = 12 → ∀ (M' : Me), (∀ k, k ≠ 63 → M' k = M k) → (bv (M 64) (12 * c + b) ≠ -1 → M' 63 1 = ((bp (M 64) (12 * c + b) / 12 : Nat) : Int) ∧ M' 63 2 = ((bp (M 64) (12 * c + b) % 12 : Nat) : Int)) →
          Wp zS0 tX4_takeGreatest none 12 [zr 63, zi (bv (M 64) (12 * c + b)), zi c, zi b] [] M' h (fun v M' h' => v = some (zi (bv (M 64) 120)) ∧ h' = h ∧ (∀ k, k ≠ 63 → k ≠ 64 → M' k = M k) ∧ (bv (M 64) 120 = -1 → M' 64 = M 64) ∧ (bv (M 64) 120 ≠ -1 → M' 63 1 = ((bp (M 64) 120 / 12 : Nat) : Int) ∧ M' 63 2 = ((bp (M 64) 120 % 12 : Nat) : Int) ∧ ∀ i, i < 120 → M' 64 i = if i / 12 = bp (M 64) 120 / 12 ∨ i % 12 = bp (M 64) 120 % 12 then -1 else M 64 i)) := by
        intro d
        induction d with
        | zero =>
          intro b hbd M' hk hv
          refine Wp.g1 rfl ?_
          refine Wp.brt rfl (by omega) ?_
          refine Wp.gt 4 rfl ?_
          rw [w32_s (n := c) (by omega)]
          rw [show 12 * c + b = 12 * (c + 1) by omega] at hv ⊢
          exact ih (c + 1) (by omega) M' _ hk hv
        | succ d ihd =>
          intro b hbd M' hk hv
          have e1 := w32_s (n := b) (by omega)
          have ihd' := ihd (b + 1) (by omega)
          have ebv : bv (M 64) (12 * c + (b + 1)) = if bv (M 64) (12 * c + b) < M 64 (12 * c + b) then M 64 (12 * c + b) else bv (M 64) (12 * c + b) := rfl
          have ebp : bp (M 64) (12 * c + (b + 1)) = if bv (M 64) (12 * c + b) < M 64 (12 * c + b) then 12 * c + b else bp (M 64) (12 * c + b) := rfl
          rw [ebv, ebp] at ihd'
          have hg := m_gainN c b (by omega) (by omega) M' h
          rw [hk 64 (by omega)] at hg
          refine Wp.g1 rfl ?_
          refine Wp.brf rfl (by omega) ?_
          refine Wp.g1 rfl ?_
          refine Wp.calli rfl hg ?_
          refine Wp.g1 rfl ?_
          refine Wp.br rfl (fun c0 => ?_) (fun c0 => ?_)
          · rw [if_neg (by omega)] at ihd'
            refine Wp.gt 12 rfl ?_
            rw [e1]
            rw [if_neg (by omega)] at ihd'
            exact ihd' M' hk hv
          · rw [if_pos (by omega)] at ihd'
            refine Wp.g1 rfl ?_
            refine Wp.calli rfl hg ?_
            refine Wp.gt 12 rfl ?_
            rw [e1]
            rw [if_pos (by omega)] at ihd'
            refine ihd' _ (fun k hk' => by rw [upd2_ne hk', upd2_ne hk']; exact hk k hk') (fun _ => ⟨?_, ?_⟩)
            · rw [upd2_off (by omega), upd2_at]
              omega
            · rw [upd2_at]
              omega
      refine Wp.gt 12 rfl ?_
      exact inner 12 0 (by omega) M' hk hv
  refine Wp.gt 4 rfl ?_
  exact outer 10 0 (by omega) M _ (fun _ _ => rfl) (fun q => absurd rfl q)
theorem m_hasGain (c : Nat) (hc : c < 10) (M : Me) (h : Ml) : Wp zS0 tX4_hasGain none 0 [zr 63, zi c, zn] [] M h (fun v M' h' => M' = M ∧ h' = h ∧ ((v = some (zi 1) ∧ ∃ b, b < 12 ∧ M 64 (12 * c + b) ≠ -1) ∨ (v = some (zi 0) ∧ ∀ b, b < 12 → M 64 (12 * c + b) = -1))) := by
  have loop : ∀ d b : Nat, b + d = 12 → (∀ b', b' < b → M 64 (12 * c + b') = -1) → Wp zS0 tX4_hasGain none 2 [zr 63, zi c, zi b] [] M h (fun v M' h' => M' = M ∧ h' = h ∧ ((v = some (zi 1) ∧ ∃ b, b < 12 ∧ M 64 (12 * c + b) ≠ -1) ∨ (v = some (zi 0) ∧ ∀ b, b < 12 → M 64 (12 * c + b) = -1))) := by
    intro d
    induction d with
    | zero =>
      intro b hb hv
      refine Wp.g1 rfl ?_
      refine Wp.brt rfl (by omega) ?_
      refine Wp.g1 rfl ?_
      exact Wp.re rfl ⟨rfl, rfl, Or.inr ⟨rfl, fun b' h1 => hv b' (by omega)⟩⟩
    | succ d ih =>
      intro b hb hv
      refine Wp.g1 rfl ?_
      refine Wp.brf rfl (by omega) ?_
      refine Wp.g1 rfl ?_
      refine Wp.calli rfl (m_gainN c b hc (by omega) M h) ?_
      refine Wp.g1 rfl ?_
      refine Wp.br rfl (fun c0 => ?_) (fun c0 => ?_)
      · refine Wp.gt 2 rfl ?_
        rw [w32_s (n := b) (by omega)]
        exact ih (b + 1) (by omega) (fun b' h1 => by
          by_cases e : b' = b
          · subst e; exact c0
          · exact hv b' (by omega))
      · refine Wp.g1 rfl ?_
        exact Wp.re rfl ⟨rfl, rfl, Or.inl ⟨rfl, b, by omega, c0⟩⟩
  refine Wp.gt 2 rfl ?_
  exact loop 12 0 (by omega) (fun b' h1 => by omega)
