/-! how many rows are better: an order of the likely ones -/
def btr (l : Nat → Int) (o b : Nat) : Prop := 0 < l o - l b ∨ (l o - l b = 0 ∧ o < b)
def due (l : Nat → Int) : Nat → Int := sumI (fun o => if l o = -1 then 0 else 1)
theorem sumI_const : ∀ n : Nat, sumI (fun _ => 1) n = (n : Int) := by
  intro n
  induction n with
  | zero => rfl
  | succ n ih => show sumI (fun _ => 1) n + 1 = _; rw [ih]; omega
section ORDER
variable {l : Nat → Int} {n : Nat}
theorem bet_nn (b : Nat) : 0 ≤ bet l b n := by
  have := sumI_le (f := fun _ => (0 : Int)) (g := fun o => if 0 < l o - l b ∨ (l o - l b = 0 ∧ o < b) then 1 else 0) n (fun j _ => by
    show 0 ≤ if 0 < l j - l b ∨ (l j - l b = 0 ∧ j < b) then (1 : Int) else 0
    split <;> decide)
  rw [sumI_zero] at this
  exact this
theorem btr_tot {o b : Nat} (h : o ≠ b) : btr l o b ∨ btr l b o := by unfold btr; omega
theorem bet_lt {o b : Nat} (ho : o < n) (h : btr l o b) : bet l o n + 1 ≤ bet l b n := by
  have e1 : sumI (fun x => if x = o then 1 else 0) n = 1 := by
    rw [sumI_one (f := fun x => if x = o then 1 else 0) (k := o) n ho (fun j _ hne => if_neg hne), if_pos rfl]
  have e2 := sumI_add (fun x => if 0 < l x - l o ∨ (l x - l o = 0 ∧ x < o) then 1 else 0) (fun x => if x = o then 1 else 0) n
  have e3 := sumI_le (f := fun x => (if 0 < l x - l o ∨ (l x - l o = 0 ∧ x < o) then 1 else 0) + (if x = o then 1 else 0)) (g := fun x => if 0 < l x - l b ∨ (l x - l b = 0 ∧ x < b) then 1 else 0) n (fun j _ => by
    show (if 0 < l j - l o ∨ (l j - l o = 0 ∧ j < o) then (1 : Int) else 0) + (if j = o then 1 else 0) ≤ if 0 < l j - l b ∨ (l j - l b = 0 ∧ j < b) then (1 : Int) else 0
    unfold btr at h
    by_cases g : j = o
    · subst g
      rw [if_neg (by omega), if_pos rfl, if_pos h]
      decide
    · rw [if_neg g]
      by_cases g2 : 0 < l j - l o ∨ (l j - l o = 0 ∧ j < o)
      · rw [if_pos g2, if_pos (by omega)]
        decide
      · rw [if_neg g2]
        split <;> decide)
  unfold bet
  omega
theorem bet_due {b : Nat} (hl : ∀ o, -1 ≤ l o) (hb : b < n) (h : l b ≠ -1) : bet l b n + 1 ≤ due l n := by
  have e1 : sumI (fun x => if x = b then 1 else 0) n = 1 := by
    rw [sumI_one (f := fun x => if x = b then 1 else 0) (k := b) n hb (fun j _ hne => if_neg hne), if_pos rfl]
  have e2 := sumI_add (fun x => if 0 < l x - l b ∨ (l x - l b = 0 ∧ x < b) then 1 else 0) (fun x => if x = b then 1 else 0) n
  have e3 := sumI_le (f := fun x => (if 0 < l x - l b ∨ (l x - l b = 0 ∧ x < b) then 1 else 0) + (if x = b then 1 else 0)) (g := fun x => if l x = -1 then 0 else 1) n (fun j _ => by
    show (if 0 < l j - l b ∨ (l j - l b = 0 ∧ j < b) then (1 : Int) else 0) + (if j = b then 1 else 0) ≤ if l j = -1 then 0 else 1
    have hb1 := hl b
    by_cases g : j = b
    · subst g
      rw [if_neg (by omega), if_pos rfl, if_neg h]
      decide
    · rw [if_neg g]
      by_cases g2 : 0 < l j - l b ∨ (l j - l b = 0 ∧ j < b)
      · rw [if_pos g2, if_neg (by omega)]
        decide
      · rw [if_neg g2]
        split <;> decide)
  unfold bet due
  omega
theorem bet_inj {b b' : Nat} (hb : b < n) (hb' : b' < n) (h : bet l b n = bet l b' n) : b = b' := by
  refine Classical.byContradiction (fun hne => ?_)
  rcases btr_tot (l := l) hne with g | g
  · have := bet_lt hb g; omega
  · have := bet_lt hb' g; omega
theorem bet_bt {b b' : Nat} (hb' : b' < n) (h : bet l b n < bet l b' n) : btr l b b' := by
  rcases btr_tot (l := l) (o := b) (b := b') (fun e => by rw [e] at h; omega) with g | g
  · exact g
  · have := bet_lt hb' g; omega
theorem due_bd : 0 ≤ due l n ∧ due l n ≤ n := sumI_bd n (fun j _ => by by_cases g : l j = -1 <;> simp [g])
theorem bet_ex (hl : ∀ o, -1 ≤ l o) {k d : Nat} (hd : due l n = (d : Int)) (hk : k < d) : ∃ b, b < n ∧ l b ≠ -1 ∧ bet l b n = (k : Int) := by
  refine Classical.byContradiction (fun hno => ?_)
  have h1 : sumI (fun k' => sumI (fun b => if l b ≠ -1 ∧ bet l b n = ((k' : Nat) : Int) then 1 else 0) n) d = (d : Int) := by
    rw [sumI_swap, ← hd]
    refine sumI_congr n (fun b hb => ?_)
    by_cases g : l b = -1
    · rw [if_pos g]
      have : sumI (fun i => if l b ≠ -1 ∧ bet l b n = ((i : Nat) : Int) then 1 else 0) d = sumI (fun _ => 0) d := sumI_congr d (fun i _ => if_neg (fun q => q.1 g))
      rw [this, sumI_zero]
    · rw [if_neg g]
      have a1 := bet_nn (l := l) (n := n) b
      have a2 := bet_due hl hb g
      obtain ⟨m, hm⟩ := Int.eq_ofNat_of_zero_le a1
      rw [sumI_one (f := fun i => if l b ≠ -1 ∧ bet l b n = ((i : Nat) : Int) then 1 else 0) (k := m) d (by omega) (fun j _ hne => if_neg (fun q => by have := q.2; omega)), if_pos ⟨g, hm⟩]
  have h2 : ∀ k', sumI (fun b => if l b ≠ -1 ∧ bet l b n = ((k' : Nat) : Int) then 1 else 0) n ≤ 1 := fun k' => by
    by_cases g : ∃ b, b < n ∧ l b ≠ -1 ∧ bet l b n = (k' : Int)
    · obtain ⟨b, g1, g2, g3⟩ := g
      rw [sumI_one (f := fun b => if l b ≠ -1 ∧ bet l b n = ((k' : Nat) : Int) then 1 else 0) (k := b) n g1 (fun j hj hne => if_neg (fun q => hne (bet_inj hj g1 (q.2.trans g3.symm)))), if_pos ⟨g2, g3⟩]
      decide
    · have : sumI (fun b => if l b ≠ -1 ∧ bet l b n = ((k' : Nat) : Int) then 1 else 0) n = sumI (fun _ => 0) n := sumI_congr n (fun b hb => if_neg (fun q => g ⟨b, hb, q⟩))
      rw [this, sumI_zero]
      decide
  have h3 : sumI (fun b => if l b ≠ -1 ∧ bet l b n = ((k : Nat) : Int) then 1 else 0) n = 0 := by
    have : sumI (fun b => if l b ≠ -1 ∧ bet l b n = ((k : Nat) : Int) then 1 else 0) n = sumI (fun _ => 0) n := sumI_congr n (fun b hb => if_neg (fun q => hno ⟨b, hb, q⟩))
    rw [this, sumI_zero]
  have e1 : sumI (fun x => if x = k then 1 else 0) d = 1 := by
    rw [sumI_one (f := fun x => if x = k then 1 else 0) (k := k) d hk (fun j _ hne => if_neg hne), if_pos rfl]
  have e2 := sumI_add (fun k' => sumI (fun b => if l b ≠ -1 ∧ bet l b n = ((k' : Nat) : Int) then 1 else 0) n) (fun x => if x = k then 1 else 0) d
  have e3 := sumI_le (f := fun k' => sumI (fun b => if l b ≠ -1 ∧ bet l b n = ((k' : Nat) : Int) then 1 else 0) n + (if k' = k then 1 else 0)) (g := fun _ => 1) d (fun j _ => by
    show sumI (fun b => if l b ≠ -1 ∧ bet l b n = ((j : Nat) : Int) then 1 else 0) n + (if j = k then 1 else 0) ≤ 1
    by_cases g : j = k
    · subst g
      rw [if_pos rfl, h3]
      decide
    · rw [if_neg g]
      have := h2 j
      omega)
  rw [sumI_const] at e3
  omega
/-- the first row of a rank -/
theorem sg_some (hl : ∀ o, -1 ≤ l o) {k d : Nat} (hd : due l 12 = (d : Int)) (hk : k < d) : sgF l (k : Int) 12 < 12 ∧ l (sgF l (k : Int) 12) ≠ -1 ∧ bet l (sgF l (k : Int) 12) 12 = (k : Int) := by
  unfold sgF
  rcases fnd_spec (f := fun b => if l b ≠ -1 ∧ bet l b 12 = (k : Int) then 1 else 0) (x := 1) (n := 12) with ⟨h1, h2, h3⟩ | ⟨h1, h2⟩
  · refine ⟨h1, ?_⟩
    by_cases g : l (fnd (fun b => if l b ≠ -1 ∧ bet l b 12 = (k : Int) then 1 else 0) 1 12) ≠ -1 ∧ bet l (fnd (fun b => if l b ≠ -1 ∧ bet l b 12 = (k : Int) then 1 else 0) 1 12) 12 = (k : Int)
    · exact g
    · rw [if_neg g] at h2
      exact absurd h2 (by decide)
  · exfalso
    obtain ⟨b, b1, b2⟩ := bet_ex hl hd hk
    exact h2 b b1 (if_pos b2)
theorem sg_none {x : Int} (h : ∀ b, b < 12 → l b ≠ -1 → bet l b 12 ≠ x) : sgF l x 12 = 12 := by
  unfold sgF
  refine fnd_none (fun b hb e => ?_)
  by_cases g : l b ≠ -1 ∧ bet l b 12 = x
  · exact h b hb g.1 g.2
  · rw [if_neg g] at e
    exact absurd e (by decide)
end ORDER
