/-! the class's best sum is the sum over all sets of bags -/
theorem sumI_shift (f : Nat → Int) : ∀ n, sumI f (n + 1) = f 0 + sumI (fun i => f (i + 1)) n := by
  intro n
  induction n with
  | zero => show 0 + f 0 = f 0 + 0; omega
  | succ n ih =>
    show sumI f (n + 1) + f (n + 1) = f 0 + (sumI (fun i => f (i + 1)) n + f (n + 1))
    rw [ih]; omega
theorem sumI_tail {f : Nat → Int} {n : Nat} : ∀ d, (∀ j, n ≤ j → j < n + d → f j = 0) → sumI f (n + d) = sumI f n := by
  intro d
  induction d with
  | zero => intro _; rfl
  | succ d ih =>
    intro h
    show sumI f (n + d) + f (n + d) = sumI f n
    rw [ih (fun j h1 h2 => h j h1 (by omega)), h (n + d) (by omega) (by omega), Int.add_zero]
theorem sumI_mono {f : Nat → Int} {n : Nat} : ∀ d, (∀ j, j < n + d → 0 ≤ f j) → sumI f n ≤ sumI f (n + d) := by
  intro d
  induction d with
  | zero => intro _; exact Int.le_refl _
  | succ d ih =>
    intro h
    have h1 := ih (fun j hj => h j (by omega))
    have h2 := h (n + d) (by omega)
    show sumI f n ≤ sumI f (n + d) + f (n + d)
    omega
theorem gF_ge {V : Nat → Int} {nb nc t : Nat} (hW : WF V nb nc t) (c b : Nat) (h : gF V nb nc c b ≠ -1) : 0 ≤ gF V nb nc c b ∧ c < nc ∧ b < nb := by
  have h1 := hW.2.1.2.1
  unfold gF at h ⊢
  by_cases g : c < nc ∧ V (114 + 10 * c + 9) = 0
  · rw [if_pos g] at h ⊢
    unfold lkG at h ⊢
    by_cases g2 : b < nb ∧ cw V nc b = -10006 ∧ V (114 + 10 * c + 8) ≤ V (18 + 8 * b + 7) ∧ V 1 ≤ scI V c b 0
    · rw [if_pos g2]
      exact ⟨by omega, g.1, g2.1⟩
    · rw [if_neg g2] at h; exact absurd rfl h
  · rw [if_neg g] at h; exact absurd rfl h
theorem best_eq {M M' : Me} {h h' : Ml} {v : Option ZV} {V : Nat → Int} {nb nc t : Nat} (hW : WF V nb nc t) (hM : ∀ i, i < 120 → M 64 i = gM V nb nc i) (hB : Bst M h v M' h') : v = some (zi (rBest V nb nc)) := by
  obtain ⟨-, -, N, w, hI, hgn, hun, hv⟩ := hB
  obtain ⟨f, ff1, ff2, ff3⟩ := own_free hI.1 hI.2.1
  obtain ⟨bd1, bd2⟩ := hI.bd
  obtain ⟨hWw, hJ, hF, hT, hN, hG⟩ := hI
  have hnb := hW.1.2.2.1
  have hnc := hW.1.2.2.2
  have eM : ∀ c b, c < 10 → b < 12 → M 64 (12 * c + b) = gF V nb nc c b := fun c b hc hb => by
    rw [hM _ (by omega)]
    unfold gM
    rw [show (12 * c + b) / 12 = c by omega, show (12 * c + b) % 12 = b by omega]
  have eg : ∀ c b, c < 10 → b < 12 → gn N (c + 1) (b + 1) = max (gF V nb nc c b) 0 := fun c b hc hb => by
    rw [hgn, ← eM c b hc hb]
    rfl
  rw [hv]
  congr 3
  -- the sum by prices
  have hS1 : sumI (fun i => if w (i + 1) = 0 then 0 else gn M (w (i + 1)) (i + 1)) 12 = sumI (fun c => @ite _ (∃ b, b < 12 ∧ w (b + 1) = c + 1) (Classical.propDecidable _) (-N 66 (c + 1)) 0) 10 + sumI (fun b => -N 67 (b + 1)) 12 := by
    have e1 : sumI (fun i => if w (i + 1) = 0 then 0 else gn M (w (i + 1)) (i + 1)) 12 = sumI (fun i => (if w (i + 1) = 0 then 0 else -N 66 (w (i + 1))) + -N 67 (i + 1)) 12 := sumI_congr 12 (fun i hi => by
      by_cases e : w (i + 1) = 0
      · rw [if_pos e, if_pos e, (hN (i + 1) (by omega) (by omega)).2 e]; rfl
      · rw [if_neg e, if_neg e, ← hgn]
        have := hT (i + 1) (by omega) (by omega) e
        unfold cst at this
        omega)
    rw [e1, sumI_add]
    congr 1
    have k := sumI_own (w := fun i => w (i + 1)) (f := fun c => if c = 0 then 0 else -N 66 c) (n := 12) (m := 11) (fun b hb => by have := hWw (b + 1) (by omega) (by omega); show w (b + 1) < 11; omega) rfl
      (fun b b' hb hb' e hne => by have := hJ (b + 1) (b' + 1) (by omega) (by omega) (by omega) (by omega) e hne; omega) (fun c => ∃ b, b < 12 ∧ w (b + 1) = c ∧ c ≠ 0) (fun c => Iff.rfl) (fun c => Classical.propDecidable _)
    rw [k, sumI_shift]
    have z : (@ite _ (∃ b, b < 12 ∧ w (b + 1) = 0 ∧ (0 : Nat) ≠ 0) (Classical.propDecidable _) (if (0 : Nat) = 0 then (0 : Int) else -N 66 0) 0) = 0 := by
      split <;> rfl
    rw [z, Int.zero_add]
    refine sumI_congr 10 (fun c hc => ?_)
    by_cases g : ∃ b, b < 12 ∧ w (b + 1) = c + 1
    · obtain ⟨b, b1, b2⟩ := g
      rw [if_pos (c := ∃ b, b < 12 ∧ w (b + 1) = c + 1 ∧ c + 1 ≠ 0) ⟨b, b1, b2, by omega⟩, if_pos (c := ∃ b, b < 12 ∧ w (b + 1) = c + 1) ⟨b, b1, b2⟩, if_neg (by omega)]
    · rw [if_neg (c := ∃ b, b < 12 ∧ w (b + 1) = c + 1 ∧ c + 1 ≠ 0) (fun q => by obtain ⟨y, y1, y2, -⟩ := q; exact g ⟨y, y1, y2⟩), if_neg g]
  have hP : ∀ c, c < 10 → 0 ≤ @ite _ (∃ b, b < 12 ∧ w (b + 1) = c + 1) (Classical.propDecidable _) (-N 66 (c + 1)) 0 := fun c hc => by
    by_cases g : ∃ b, b < 12 ∧ w (b + 1) = c + 1
    · rw [if_pos g]
      obtain ⟨b, b1, b2⟩ := g
      have := bd2 (b + 1) (by omega) (by omega) (by omega)
      rw [b2] at this
      omega
    · rw [if_neg g]; exact Int.le_refl _
  have hQ : ∀ b, b < 12 → 0 ≤ -N 67 (b + 1) := fun b hb => by
    have := (hN (b + 1) (by omega) (by omega)).1
    omega
  have up : rBest V nb nc ≤ sumI (fun i => if w (i + 1) = 0 then 0 else gn M (w (i + 1)) (i + 1)) 12 := by
    rw [hS1]
    have k := dp_le (G := gF V nb nc) (nb := nb) (P := fun c => @ite _ (∃ b, b < 12 ∧ w (b + 1) = c + 1) (Classical.propDecidable _) (-N 66 (c + 1)) 0) (Q := fun b => -N 67 (b + 1)) nc (fun i hi => hP i (by omega)) (fun i b hi hb hne => by
      have g1 := (gF_ge hW i b hne).1
      by_cases g : ∃ b, b < 12 ∧ w (b + 1) = i + 1
      · rw [if_pos g]
        obtain ⟨y, y1, y2⟩ := g
        have g2 := hF (y + 1) (b + 1) (by omega) (by omega) (by omega) (by omega) (by omega)
        rw [y2] at g2
        unfold cst at g2
        rw [eg i b (by omega) (by omega)] at g2
        omega
      · exfalso
        have := hun (i + 1) (by omega) (by omega) (fun y y1 y2 y3 => g ⟨y - 1, by omega, by rw [show y - 1 + 1 = y by omega]; exact y3⟩) b (by omega)
        rw [show i + 1 - 1 = i by omega, eM i b (by omega) (by omega)] at this
        exact hne this) (2 ^ nb - 1) (fun b hb => hQ b (by omega))
    have k2 := sumI_mono (f := fun c => @ite _ (∃ b, b < 12 ∧ w (b + 1) = c + 1) (Classical.propDecidable _) (-N 66 (c + 1)) 0) (n := nc) (10 - nc) (fun j hj => hP j (by omega))
    rw [show nc + (10 - nc) = 10 by omega] at k2
    have k3 := sumI_mono (f := fun b => -N 67 (b + 1)) (n := nb) (12 - nb) (fun j hj => hQ j (by omega))
    rw [show nb + (12 - nb) = 12 by omega] at k3
    have k4 := sumI_le (f := fun b => if (2 ^ nb - 1).testBit b then -N 67 (b + 1) else 0) (g := fun b => -N 67 (b + 1)) nb (fun j hj => by
      have hqj := hQ j (by omega)
      show (if (2 ^ nb - 1).testBit j then -N 67 (j + 1) else 0) ≤ -N 67 (j + 1)
      by_cases g : (2 ^ nb - 1).testBit j = true
      · rw [if_pos g]; exact Int.le_refl _
      · rw [if_neg g]; exact hqj)
    unfold rBest
    omega
  have lo : sumI (fun i => if w (i + 1) = 0 then 0 else gn M (w (i + 1)) (i + 1)) 12 ≤ rBest V nb nc := by
    have e1 : sumI (fun i => if w (i + 1) = 0 then 0 else gn M (w (i + 1)) (i + 1)) 12 = sumI (fun i => sumI (fun c => if w (i + 1) = c + 1 then max (gF V nb nc c i) 0 else 0) 10) 12 := sumI_congr 12 (fun i hi => by
      by_cases e : w (i + 1) = 0
      · rw [if_pos e]
        have : sumI (fun c => if w (i + 1) = c + 1 then max (gF V nb nc c i) 0 else 0) 10 = sumI (fun _ => 0) 10 := sumI_congr 10 (fun c hc => if_neg (by omega))
        rw [this, sumI_zero]
      · have h10 := hWw (i + 1) (by omega) (by omega)
        rw [if_neg e, sumI_one (f := fun c => if w (i + 1) = c + 1 then max (gF V nb nc c i) 0 else 0) (k := w (i + 1) - 1) 10 (by omega) (fun j _ hne => if_neg (by omega)), if_pos (by omega), ← eg (w (i + 1) - 1) i (by omega) hi, hgn, show w (i + 1) - 1 + 1 = w (i + 1) by omega])
    rw [e1, sumI_swap]
    have k := dp_ge (G := gF V nb nc) (nb := nb) (w := w) hnb hJ (fun c b hb => Classical.byContradiction (fun q => by have := (gF_ge hW c b q).2.2; omega)) (fun c b q => (gF_ge hW c b q).1) nc (2 ^ nb - 1) (fun c' b _ hb _ => by rw [Nat.testBit_two_pow_sub_one]; exact decide_eq_true hb)
    have k2 := sumI_tail (f := hC (gF V nb nc) w) (n := nc) (10 - nc) (fun j j1 j2 => by
      have e : hC (gF V nb nc) w j = sumI (fun _ => 0) 12 := sumI_congr 12 (fun b hb => by
        have : gF V nb nc j b = -1 := Classical.byContradiction (fun q => by have := (gF_ge hW j b q).2.1; omega)
        rw [this]
        split <;> decide)
      rw [e, sumI_zero])
    rw [show nc + (10 - nc) = 10 by omega] at k2
    have k3 : sumI (fun j => sumI (fun i => if w (i + 1) = j + 1 then max (gF V nb nc j i) 0 else 0) 12) 10 = sumI (hC (gF V nb nc) w) 10 := rfl
    rw [k3, k2]
    exact k
  omega
