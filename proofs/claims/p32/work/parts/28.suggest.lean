/-- how many bags stand ahead of b, by numbers l -/
def bet (l : Nat → Int) (b n : Nat) : Int := sumI (fun o => if 0 < l o - l b ∨ (l o - l b = 0 ∧ o < b) then 1 else 0) n
theorem m_betterBags (b : Nat) (hb : b < 12) (M : Me) (h : Ml) (l : Nat → Int) (hl : ∀ o, o < 12 → M 73 o = l o) (hbd : ∀ o, -1 ≤ l o ∧ l o ≤ 9600) :
    Wp zS0 tX8_betterBags none 0 [zr 0, zi b, zn, zn, zn, zn] [] M h (Ri (bet l b 12) M h) := by
  have loop : ∀ d o : Nat, o + d = 12 → ∀ (x y : ZV), Wp zS0 tX8_betterBags none 4 [zr 0, zi b, zi (bet l b o), zi o, x, y] [] M h (Ri (bet l b 12) M h) := by
    intro d
    induction d with
    | zero =>
      intro o ho x y
      refine Wp.g1 rfl ?_
      refine Wp.brt rfl (by omega) ?_
      refine Wp.g1 rfl ?_
      have e : o = 12 := by omega
      subst e
      exact Wp.rei rfl rfl rfl rfl
    | succ d ih =>
      intro o ho x y
      have b1 := sumI_bd (f := fun o => if 0 < l o - l b ∨ (l o - l b = 0 ∧ o < b) then 1 else 0) o (fun j _ => by split <;> omega)
      have b1 : 0 ≤ bet l b o ∧ bet l b o ≤ o := b1
      have h1 := hbd o
      have h2 := hbd b
      have e1 := w32_s (n := o) (by omega)
      have e2 : w32 (l o - l b) = l o - l b := w32_id ⟨by omega, by omega⟩
      have e3 : w32 (bet l b o + 1) = bet l b o + 1 := w32_id ⟨by omega, by omega⟩
      have ih' := ih (o + 1) (by omega)
      have e4 : bet l b (o + 1) = bet l b o + (if 0 < l o - l b ∨ (l o - l b = 0 ∧ o < b) then 1 else 0) := rfl
      rw [e4] at ih'
      have main : ∀ f : Int, f = (if (o : Int) < b then 1 else 0) → Wp zS0 tX8_betterBags none 20 [zr 0, zi b, zi (bet l b o), zi o, x, y] [zi f] M h (Ri (bet l b 12) M h) := by
        intro f hf
        refine Wp.g1 rfl ?_
        refine Wp.ld rfl rfl o rfl (by omega) ?_
        refine Wp.g1 rfl ?_
        refine Wp.ld rfl rfl b rfl (by omega) ?_
        refine Wp.g1 rfl ?_
        rw [hl o (by omega), hl b hb, e2]
        refine Wp.br rfl (fun c0 => ?_) (fun c0 => ?_)
        · refine Wp.gt 4 rfl ?_
          rw [e1, e3]
          rw [if_pos (Or.inl c0)] at ih'
          exact ih' _ _
        · refine Wp.g1 rfl ?_
          refine Wp.br rfl (fun c1 => ?_) (fun c1 => ?_)
          · refine Wp.gt 4 rfl ?_
            rw [e1]
            rw [if_neg (fun q => q.elim c0 (fun q => c1 q.1)), Int.add_zero] at ih'
            exact ih' _ _
          · have c1 : l o - l b = 0 := Decidable.not_not.mp c1
            refine Wp.g1 rfl ?_
            by_cases hob : o < b
            · rw [if_pos (by omega)] at hf
              subst hf
              refine Wp.brf rfl (by decide) ?_
              refine Wp.gt 4 rfl ?_
              rw [e1, e3]
              rw [if_pos (Or.inr ⟨c1, hob⟩)] at ih'
              exact ih' _ _
            · rw [if_neg (by omega)] at hf
              subst hf
              refine Wp.brt rfl (by decide) ?_
              refine Wp.gt 4 rfl ?_
              rw [e1]
              rw [if_neg (fun q => q.elim c0 (fun q => hob q.2)), Int.add_zero] at ih'
              exact ih' _ _
      refine Wp.g1 rfl ?_
      refine Wp.brf rfl (by omega) ?_
      refine Wp.g1 rfl ?_
      refine Wp.br rfl (fun c0 => ?_) (fun c0 => ?_)
      · refine Wp.gt 20 rfl ?_
        exact main 0 (by rw [if_neg (by omega)])
      · refine Wp.gt 20 rfl ?_
        exact main 1 (by rw [if_pos (by omega)])
  refine Wp.gt 4 rfl ?_
  exact loop 12 0 (by omega) _ _
theorem lkG_bd {V : Nat → Int} {nb nc t c : Nat} (hW : WF V nb nc t) (hc : c < nc) (b : Nat) : -1 ≤ lkG V nb nc c b ∧ lkG V nb nc c b ≤ 9600 := by
  unfold lkG
  split
  · next q =>
    have := scI_bd hW hc q.1 q.2.2.1 0
    have := hW.2.1.2.1
    omega
  · omega
/-- the first bag below n whose number of those ahead is x -/
def sgF (l : Nat → Int) (x : Int) : Nat → Nat := fnd (fun b => if l b ≠ -1 ∧ bet l b 12 = x then 1 else 0) 1
def rSuggest (V : Nat → Int) (nb nc : Nat) (x y : Int) : Int := if rkC V nc x < nc then (if sgF (lkG V nb nc (rkC V nc x)) y 12 < 12 then V (18 + 8 * sgF (lkG V nb nc (rkC V nc x)) y 12) else -10001) else -10001
theorem c_suggest {M : Me} {h : Ml} {V : Nat → Int} {nb nc t : Nat} (hS : CS M V nb nc t) (x y : Int) : Wp zS0 tX8_suggest none 0 [zr 0, zi x, zi y, zn, zn] [] M h (Qr (rSuggest V nb nc x y) M h) := by
  have hW := hS.2.2.2
  unfold rSuggest
  refine Wp.g1 rfl ?_
  refine Wp.calli rfl (c_rowC hS x) ?_
  refine Wp.g1 rfl ?_
  by_cases hk : rkC V nc x < nc
  · rw [if_pos hk, if_pos hk]
    refine Wp.brt rfl (by omega) ?_
    generalize hc : rkC V nc x = c at hk ⊢
    have hbd := lkG_bd hW hk (nb := nb)
    have loop2 : ∀ d b : Nat, b + d = 12 → ∀ (M' : Me), (∀ k, k ≠ 62 → k ≠ 73 → M' k = M k) → (∀ o, o < 12 → M' 73 o = lkG V nb nc c o) → (∀ j, j < b → (if lkG V nb nc c j ≠ -1 ∧ bet (lkG V nb nc c) j 12 = y then (1 : Int) else 0) ≠ 1) →
        Wp zS0 tX8_suggest none 60 [zr 0, zi x, zi y, zi c, zi b] [] M' h (Qr (if sgF (lkG V nb nc c) y 12 < 12 then V (18 + 8 * sgF (lkG V nb nc c) y 12) else -10001) M h) := by
      intro d
      induction d with
      | zero =>
        intro b hbd2 M' hk' hv hj
        refine Wp.g1 rfl ?_
        refine Wp.brt rfl (by omega) ?_
        refine Wp.g1 rfl ?_
        have e : sgF (lkG V nb nc c) y 12 = 12 := fnd_none (fun j h1 => hj j (by omega))
        exact Wp.re rfl ⟨by rw [e, if_neg (by omega)], rfl, fun k g => hk' k (by omega) (by omega)⟩
      | succ d ih =>
        intro b hbd2 M' hk' hv hj
        have nxt : ((if lkG V nb nc c b ≠ -1 ∧ bet (lkG V nb nc c) b 12 = y then (1 : Int) else 0) ≠ 1) → Wp zS0 tX8_suggest none 101 [zr 0, zi x, zi y, zi c, zi b] [] M' h (Qr (if sgF (lkG V nb nc c) y 12 < 12 then V (18 + 8 * sgF (lkG V nb nc c) y 12) else -10001) M h) := by
          intro hq
          refine Wp.gt 60 rfl ?_
          rw [w32_s (n := b) (by omega)]
          exact ih (b + 1) (by omega) M' hk' hv (fun j h1 => by
            by_cases e : j = b
            · subst e; exact hq
            · exact hj j (by omega))
        refine Wp.g1 rfl ?_
        refine Wp.brf rfl (by omega) ?_
        refine Wp.g1 rfl ?_
        refine Wp.ld rfl rfl b rfl (by omega) ?_
        refine Wp.g1 rfl ?_
        rw [hv b (by omega)]
        refine Wp.br rfl (fun c0 => ?_) (fun c0 => ?_)
        · exact nxt (by rw [if_neg (fun q => q.1 c0)]; decide)
        · refine Wp.g1 rfl ?_
          refine Wp.calli rfl (m_betterBags b (by omega) M' h _ hv hbd) ?_
          refine Wp.g1 rfl ?_
          refine Wp.br rfl (fun c1 => ?_) (fun c1 => ?_)
          · exact nxt (by rw [if_neg (fun q => c1 q.2)]; decide)
          · have c1 : bet (lkG V nb nc c) b 12 = y := Decidable.not_not.mp c1
            have hnb : b < nb := by
              by_cases e : b < nb
              · exact e
              · exfalso
                apply c0
                unfold lkG
                rw [if_neg (fun q => e q.1)]
            have hS' : CS M' V nb nc t := hS.kept (fun k g => hk' k (by omega) (by omega))
            refine Wp.g1 rfl ?_
            have g := m2_numberOf b nb M' h hS'.1.2.2.1.1 hW.1.2.2.1 hnb
            rw [(hS'.1.2.2.2.1 b hnb).1] at g
            refine Wp.calli rfl g ?_
            have e : sgF (lkG V nb nc c) y 12 = b := fnd_some (by omega) (by show (if lkG V nb nc c b ≠ -1 ∧ bet (lkG V nb nc c) b 12 = y then (1 : Int) else 0) = 1; rw [if_pos ⟨c0, c1⟩]) (fun j h1 => hj j h1)
            exact Wp.re rfl ⟨by rw [e, if_pos (by omega)], rfl, fun k g => hk' k (by omega) (by omega)⟩
    have loop1 : ∀ d b : Nat, b + d = 12 → ∀ (M' : Me), (∀ k, k ≠ 62 → k ≠ 73 → M' k = M k) → (∀ o, o < b → M' 73 o = lkG V nb nc c o) →
        Wp zS0 tX8_suggest none 23 [zr 0, zi x, zi y, zi c, zi b] [] M' h (Qr (if sgF (lkG V nb nc c) y 12 < 12 then V (18 + 8 * sgF (lkG V nb nc c) y 12) else -10001) M h) := by
      intro d
      induction d with
      | zero =>
        intro b hbd2 M' hk' hv
        refine Wp.g1 rfl ?_
        refine Wp.brt rfl (by omega) ?_
        refine Wp.gt 60 rfl ?_
        exact loop2 12 0 (by omega) M' hk' (fun o ho => hv o (by omega)) (fun j h1 => by omega)
      | succ d ih =>
        intro b hbd2 M' hk' hv
        have hS' : CS M' V nb nc t := hS.kept (fun k g => hk' k (by omega) (by omega))
        refine Wp.g1 rfl ?_
        refine Wp.brf rfl (by omega) ?_
        refine Wp.g1 rfl ?_
        refine Wp.call rfl (m_likely (b := b) hS'.1 hS'.2.1 hS'.2.2.1 hW hk) (fun v M1 h1 q => ?_)
        obtain ⟨rfl, rfl, hq⟩ := q
        refine Wp.sto rfl rfl b rfl (by omega) ?_
        refine Wp.gt 23 rfl ?_
        rw [w32_s (n := b) (by omega)]
        refine ih (b + 1) (by omega) _ (fun k g1 g2 => by rw [upd2_ne g2, hq k g1]; exact hk' k g1 g2) (fun o ho => ?_)
        by_cases e : o = b
        · subst e; rw [upd2_at]
        · rw [upd2_off e, hq 73 (by omega)]
          exact hv o (by omega)
    refine Wp.gt 23 rfl ?_
    exact loop1 12 0 (by omega) M (fun _ _ _ => rfl) (fun o ho => by omega)
  · rw [if_neg hk, if_neg hk]
    refine Wp.brf rfl (by decide) ?_
    refine Wp.g1 rfl ?_
    exact Qr.of (Wp.rei rfl rfl rfl rfl)
/-- a matrix with the greatest's row and column struck out; the sum of the greatest, one after the other -/
def stk (f : Nat → Int) : Nat → Int := fun i => if i / 12 = bp f 120 / 12 ∨ i % 12 = bp f 120 % 12 then -1 else f i
def tot (f : Nat → Int) : Nat → Int
  | 0 => 0
  | n + 1 => if bv f 120 = -1 then 0 else bv f 120 + tot (stk f) n
theorem bv_congr {f g : Nat → Int} : ∀ n, (∀ i, i < n → f i = g i) → bv f n = bv g n ∧ bp f n = bp g n := by
  intro n
  induction n with
  | zero => intro _; exact ⟨rfl, rfl⟩
  | succ n ih =>
    intro h
    obtain ⟨h1, h2⟩ := ih (fun i hi => h i (by omega))
    unfold bv bp
    rw [h1, h2, h n (by omega)]
    exact ⟨rfl, rfl⟩
theorem stk_congr {f g : Nat → Int} (h : ∀ i, i < 120 → f i = g i) : ∀ i, i < 120 → stk f i = stk g i := by
  intro i hi
  unfold stk
  rw [(bv_congr 120 h).2, h i hi]
theorem tot_congr : ∀ (n : Nat) {f g : Nat → Int}, (∀ i, i < 120 → f i = g i) → tot f n = tot g n := by
  intro n
  induction n with
  | zero => intro f g _; rfl
  | succ n ih =>
    intro f g h
    unfold tot
    rw [(bv_congr 120 h).1, ih (stk_congr h)]
theorem bv_le {f : Nat → Int} {B : Int} (hB : -1 ≤ B) : ∀ n, (∀ i, i < n → f i ≤ B) → bv f n ≤ B := by
  intro n
  induction n with
  | zero => intro _; exact hB
  | succ n ih =>
    intro h
    have h1 := ih (fun i hi => h i (by omega))
    have h2 := h n (by omega)
    unfold bv
    split <;> assumption
theorem stk_le {f : Nat → Int} {B : Int} (hB : -1 ≤ B) (h : ∀ i, i < 120 → f i ≤ B) : ∀ i, i < 120 → stk f i ≤ B := by
  intro i hi
  unfold stk
  split
  · exact hB
  · exact h i hi
/-- the matrix of the class, as a row of 120 -/
def gM (V : Nat → Int) (nb nc : Nat) : Nat → Int := fun i => gF V nb nc (i / 12) (i % 12)
theorem gM_bd {V : Nat → Int} {nb nc t : Nat} (hW : WF V nb nc t) (i : Nat) : gM V nb nc i ≤ 9600 := by
  unfold gM gF
  split
  · next q => exact (lkG_bd hW q.1 _).2
  · omega
def rTotal (V : Nat → Int) (nb nc : Nat) : Int := tot (gM V nb nc) 10
theorem c_totalOfAll {M : Me} {h : Ml} {V : Nat → Int} {nb nc t : Nat} (hS : CS M V nb nc t) : Wp zS0 tX8_totalOfAll none 0 [zr 0, zn, zn, zn] [] M h (Qr (rTotal V nb nc) M h) := by
  have hW := hS.2.2.2
  have loop : ∀ d n : Nat, n + d = 10 → ∀ (M' : Me) (a : Int) (y : ZV), (∀ k, k ≠ 62 → k ≠ 63 → k ≠ 64 → M' k = M k) → (∀ i, i < 120 → M' 64 i ≤ 9600) → 0 ≤ a → a ≤ 9600 * n → a + tot (M' 64) d = rTotal V nb nc →
      Wp zS0 tX8_totalOfAll none 19 [zr 0, zi a, zi n, y] [] M' h (Qr (rTotal V nb nc) M h) := by
    intro d
    induction d with
    | zero =>
      intro n hn M' a y hk hb ha ha2 ht
      refine Wp.g1 rfl ?_
      refine Wp.brt rfl (by omega) ?_
      refine Wp.g1 rfl ?_
      refine Wp.re rfl ⟨?_, rfl, fun k g => hk k (by omega) (by omega) (by omega)⟩
      rw [← ht, show tot (M' 64) 0 = 0 from rfl, Int.add_zero]
    | succ d ih =>
      intro n hn M' a y hk hb ha ha2 ht
      have hle := bv_le (B := 9600) (by decide) 120 hb
      have hge := bv_ge (M' 64) 120
      have et : tot (M' 64) (d + 1) = if bv (M' 64) 120 = -1 then 0 else bv (M' 64) 120 + tot (stk (M' 64)) d := rfl
      rw [et] at ht
      refine Wp.g1 rfl ?_
      refine Wp.brf rfl (by omega) ?_
      refine Wp.g1 rfl ?_
      refine Wp.call rfl (m_takeGreatest M' h) (fun v M1 h1 q => ?_)
      obtain ⟨rfl, rfl, q1, q2, q3⟩ := q
      refine Wp.g1 rfl ?_
      refine Wp.br rfl (fun c0 => ?_) (fun c0 => ?_)
      · obtain ⟨-, -, q4⟩ := q3 c0
        refine Wp.gt 19 rfl ?_
        rw [w32_s (n := n) (by omega), w32_id (x := a + bv (M' 64) 120) ⟨by omega, by omega⟩]
        rw [if_neg c0] at ht
        refine ih (n + 1) (by omega) M1 _ _ (fun k g1 g2 g3 => (q1 k g2 g3).trans (hk k g1 g2 g3)) (fun i hi => ?_) (by omega) (by omega) ?_
        · rw [q4 i hi]
          exact stk_le (by decide) hb i hi
        · have e5 : tot (M1 64) d = tot (stk (M' 64)) d := tot_congr d (fun i hi => q4 i hi)
          rw [e5]
          omega
      · have c0 : bv (M' 64) 120 = -1 := Decidable.not_not.mp c0
        rw [if_pos c0] at ht
        refine Wp.g1 rfl ?_
        refine Wp.re rfl ⟨?_, rfl, fun k g => (q1 k (by omega) (by omega)).trans (hk k (by omega) (by omega) (by omega))⟩
        rw [← ht, Int.add_zero]
  refine Wp.g1 rfl ?_
  refine Wp.call rfl (m_fill hS.1 hS.2.1 hS.2.2.1 hW) (fun v M1 h1 q => ?_)
  obtain ⟨rfl, rfl, q1, q2⟩ := q
  refine Wp.gt 19 rfl ?_
  have e : ∀ i, i < 120 → M1 64 i = gM V nb nc i := fun i hi => by
    have := q2 (i / 12) (i % 12) (by omega) (by omega)
    rw [show 12 * (i / 12) + i % 12 = i by omega] at this
    exact this
  refine loop 10 0 (by omega) M1 0 _ (fun k g1 _ g3 => q1 k g1 g3) (fun i hi => by rw [e i hi]; exact gM_bd hW i) (by decide) (by decide) ?_
  rw [Int.zero_add]
  exact tot_congr 10 e
