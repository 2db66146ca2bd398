/-! the class's best sum: reached columns, sums -/
theorem nI_or (a b : Nat) : nI a ||| nI b = nI (a ||| b) := by
  apply Int32.toBitVec_inj.1
  show BitVec.ofNat 32 a ||| BitVec.ofNat 32 b = BitVec.ofNat 32 (a ||| b)
  apply BitVec.eq_of_getLsbD_eq
  intro i hi
  simp [hi]
theorem bOr_nat {a b : Nat} (ha : a < 2 ^ 31) (hb : b < 2 ^ 31) : bOr (a : Int) (b : Int) = ((a ||| b : Nat) : Int) := by
  show (nI a ||| nI b).toInt = _
  rw [nI_or, nI_toInt (Nat.or_lt_two_pow ha hb)]
theorem sh_amt : ∀ j : Nat, j < 13 → ((Int32.ofInt (j : Int) &&& 31).toBitVec.smod 32).toNat = j := by decide +kernel
theorem bShr_nat {m j : Nat} (hm : m < 2 ^ 31) (hj : j < 13) : bShr (m : Int) (j : Int) = ((m >>> j : Nat) : Int) := by
  show ((nI m).toBitVec.sshiftRight ((Int32.ofInt (j : Int) &&& 31).toBitVec.smod 32).toNat).toInt = _
  rw [sh_amt j hj, BitVec.toInt_sshiftRight]
  have e : (nI m).toBitVec.toInt = (m : Int) := nI_toInt hm
  rw [e]
  rfl
theorem ib_nat {m j : Nat} (hm : m < 2 ^ 31) (hj : j < 13) : ib (m : Int) (j : Int) = if m.testBit j then 1 else 0 := by
  unfold ib
  rw [bShr_nat hm hj, show (1 : Int) = ((1 : Nat) : Int) from rfl, bAnd_nat (by decide)]
  have : (m >>> j &&& 1) = if m.testBit j then 1 else 0 := by
    rw [Nat.and_comm]
    unfold Nat.testBit
    have h2 : 1 &&& m >>> j = (m >>> j) % 2 := Nat.one_and_eq_mod_two _
    rw [h2]
    rcases Nat.mod_two_eq_zero_or_one (m >>> j) with e | e <;> rw [e] <;> rfl
  rw [this]
  split <;> rfl
theorem bShl_pow : ∀ j : Nat, j < 13 → bShl 1 (j : Int) = ((2 ^ j : Nat) : Int) := by decide +kernel
/-- the mask with a column more -/
theorem mask_add {m j : Nat} (hm : m < 2 ^ 13) (hj : j < 13) : bOr (m : Int) (bShl 1 (j : Int)) = ((m ||| 2 ^ j : Nat) : Int) ∧ m ||| 2 ^ j < 2 ^ 13 ∧ ∀ k, (m ||| 2 ^ j).testBit k = (m.testBit k || decide (j = k)) := by
  have hp : 2 ^ j < 2 ^ 13 := Nat.pow_lt_pow_right (by decide) hj
  refine ⟨?_, Nat.or_lt_two_pow hm hp, fun k => ?_⟩
  · rw [bShl_pow j hj, bOr_nat (by omega) (by omega)]
  · rw [Nat.testBit_or, Nat.testBit_two_pow]
theorem sumI_add (f g : Nat → Int) : ∀ n, sumI (fun i => f i + g i) n = sumI f n + sumI g n := by
  intro n
  induction n with
  | zero => rfl
  | succ n ih =>
    show sumI (fun i => f i + g i) n + (f n + g n) = sumI f n + f n + (sumI g n + g n)
    rw [ih]; omega
theorem sumI_zero : ∀ n, sumI (fun _ => 0) n = 0 := by
  intro n
  induction n with
  | zero => rfl
  | succ n ih =>
    show sumI (fun _ => 0) n + 0 = 0
    rw [ih]; rfl
theorem sumI_swap (f : Nat → Nat → Int) : ∀ n m, sumI (fun i => sumI (f i) m) n = sumI (fun j => sumI (fun i => f i j) n) m := by
  intro n
  induction n with
  | zero => intro m; exact (sumI_zero m).symm
  | succ n ih =>
    intro m
    show sumI (fun i => sumI (f i) m) n + sumI (f n) m = sumI (fun j => sumI (fun i => f i j) n + f n j) m
    rw [ih m, sumI_add]
theorem sumI_one {f : Nat → Int} {k : Nat} : ∀ n, k < n → (∀ j, j < n → j ≠ k → f j = 0) → sumI f n = f k := by
  intro n
  induction n with
  | zero => intro h; omega
  | succ n ih =>
    intro hk hz
    show sumI f n + f n = f k
    by_cases e : k = n
    · subst e
      have : sumI f k = 0 := by
        rw [← sumI_zero k]
        exact sumI_congr k (fun j hj => hz j (by omega) (by omega))
      rw [this, Int.zero_add]
    · rw [ih (by omega) (fun j hj hn => hz j (by omega) hn), hz n (by omega) (by omega), Int.add_zero]
theorem sumI_le {f g : Nat → Int} : ∀ n, (∀ j, j < n → f j ≤ g j) → sumI f n ≤ sumI g n := by
  intro n
  induction n with
  | zero => intro _; exact Int.le_refl _
  | succ n ih =>
    intro h
    have h1 := ih (fun j hj => h j (by omega))
    have h2 := h n (by omega)
    show sumI f n + f n ≤ sumI g n + g n
    omega
/-- a sum over owned columns is a sum over their owners -/
theorem sumI_own {w : Nat → Nat} {f : Nat → Int} {n m : Nat} (hw : ∀ b, b < n → w b < m) (h0 : f 0 = 0) (hj : ∀ b b', b < n → b' < n → w b = w b' → w b ≠ 0 → b = b') (pl : Nat → Prop) (hd : ∀ c, pl c ↔ ∃ b, b < n ∧ w b = c ∧ c ≠ 0) (dp : ∀ c, Decidable (pl c)) : sumI (fun b => f (w b)) n = sumI (fun c => @ite _ (pl c) (dp c) (f c) 0) m := by
  have e1 : sumI (fun b => f (w b)) n = sumI (fun b => sumI (fun c => if w b = c then f c else 0) m) n := sumI_congr n (fun b hb => by
    rw [sumI_one (k := w b) m (hw b hb) (fun j _ hne => if_neg (fun q => hne q.symm)), if_pos rfl])
  rw [e1, sumI_swap]
  refine sumI_congr m (fun c hc => ?_)
  by_cases hp : pl c
  · obtain ⟨b, b1, b2, b3⟩ := (hd c).mp hp
    rw [if_pos hp, sumI_one (k := b) n b1 (fun j h1 hne => if_neg (fun q => hne (hj j b h1 b1 (q.trans b2.symm) (by omega)))), if_pos b2]
  · rw [if_neg hp]
    have e0 : sumI (fun b => if w b = c then f c else 0) n = sumI (fun _ => 0) n := sumI_congr n (fun b hb => by
      by_cases e : w b = c
      · rw [if_pos e]
        by_cases ec : c = 0
        · rw [ec]; exact h0
        · exact absurd ((hd c).mpr ⟨b, hb, e, ec⟩) hp
      · rw [if_neg e])
    rw [e0, sumI_zero]
