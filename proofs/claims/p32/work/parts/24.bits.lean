/-! bits, digits, and the class's parts of a score -/
theorem nI_and (a b : Nat) : nI a &&& nI b = nI (a &&& b) := by
  apply Int32.toBitVec_inj.1
  show BitVec.ofNat 32 a &&& BitVec.ofNat 32 b = BitVec.ofNat 32 (a &&& b)
  apply BitVec.eq_of_getLsbD_eq
  intro i hi
  simp [hi]
theorem nI_xor (a b : Nat) : nI a ^^^ nI b = nI (a ^^^ b) := by
  apply Int32.toBitVec_inj.1
  show BitVec.ofNat 32 a ^^^ BitVec.ofNat 32 b = BitVec.ofNat 32 (a ^^^ b)
  apply BitVec.eq_of_getLsbD_eq
  intro i hi
  simp [hi]
theorem bAnd_nat {a b : Nat} (hb : b < 2 ^ 31) : bAnd (a : Int) (b : Int) = ((a &&& b : Nat) : Int) := by
  show (nI a &&& nI b).toInt = _
  rw [nI_and, nI_toInt (Nat.and_lt_two_pow _ hb)]
theorem bXor_nat {a b : Nat} (ha : a < 2 ^ 31) (hb : b < 2 ^ 31) : bXor (a : Int) (b : Int) = ((a ^^^ b : Nat) : Int) := by
  show (nI a ^^^ nI b).toInt = _
  rw [nI_xor, nI_toInt (Nat.xor_lt_two_pow ha hb)]
/-- a bit -/
def ib (x k : Int) : Int := bAnd (bShr x k) 1
theorem bAnd_1 (x : Int) : bAnd x 1 = 0 ∨ bAnd x 1 = 1 := by
  unfold bAnd
  rw [show Int32.ofInt 1 = (1 : Int32) from rfl, pk_and (Int32.ofInt x) (m := 1) 1 (by decide)]
  have h : (Int32.ofInt x).toBitVec.toNat % 2 ^ 1 < 2 := Nat.mod_lt _ (by decide)
  rw [nI_toInt (by omega)]
  omega
theorem ib_01 (x k : Int) : ib x k = 0 ∨ ib x k = 1 := bAnd_1 _
def dv (t : Int) : Nat → Int
  | 0 => t
  | n + 1 => dv t n / 10
theorem dv_rn {t : Int} (h : 0 ≤ t) : ∀ n, 0 ≤ dv t n ∧ dv t n ≤ t := by
  intro n
  induction n with
  | zero => exact ⟨h, Int.le_refl _⟩
  | succ n ih =>
    show 0 ≤ dv t n / 10 ∧ dv t n / 10 ≤ t
    omega
def digN (t : Int) (k : Nat) : Int := dv t (5 - k) % 10
/-- sums over places: from the last, from the first -/
def qs (e : Nat → Bool) : Nat → Nat
  | 0 => 0
  | n + 1 => qs e n + if e (5 - n) then 2 ^ (5 - n) else 0
def ms (e : Nat → Bool) : Nat → Nat
  | 0 => 0
  | n + 1 => ms e n + if e n then 2 ^ n else 0
/-- the places at which both tags have the same digit, legible with the bag -/
def smk (t u ill : Int) : Nat := ms (fun k => decide (digN t k = digN u k) && decide (ib ill k = 0)) 6
def pcN (n : Nat) : Nat := n % 2 + n / 2 % 2 + n / 4 % 2 + n / 8 % 2 + n / 16 % 2 + n / 32 % 2 + n / 64 % 2 + n / 128 % 2
def lq (t ill : Int) : Nat → Int
  | 0 => 0
  | n + 1 => lq t ill n + (if ib ill ((5 - n : Nat) : Int) = 0 then digN t (5 - n) else 0) * 10 ^ n
/-- a tag without its illegible digits -/
def leg (t ill : Int) : Int := lq t ill 6
theorem qs_lt (e : Nat → Bool) : ∀ n, n ≤ 6 → qs e n < 64 ∧ qs e n % 2 ^ (6 - n) = 0 := by
  intro n hn
  have key : ∀ (b0 b1 b2 b3 b4 b5 : Bool), ∀ n, n ≤ 6 → qs (fun k => match k with | 0 => b0 | 1 => b1 | 2 => b2 | 3 => b3 | 4 => b4 | _ => b5) n < 64 ∧ qs (fun k => match k with | 0 => b0 | 1 => b1 | 2 => b2 | 3 => b3 | 4 => b4 | _ => b5) n % 2 ^ (6 - n) = 0 := by decide +kernel
  have e1 : ∀ n, n ≤ 6 → qs e n = qs (fun k => match k with | 0 => e 0 | 1 => e 1 | 2 => e 2 | 3 => e 3 | 4 => e 4 | _ => e 5) n := by
    intro n
    induction n with
    | zero => intro _; rfl
    | succ n ih =>
      intro h
      unfold qs
      rw [ih (by omega)]
      rcases (show n = 0 ∨ n = 1 ∨ n = 2 ∨ n = 3 ∨ n = 4 ∨ n = 5 by omega) with e | e | e | e | e | e <;> subst e <;> rfl
  rw [e1 n hn]
  exact key (e 0) (e 1) (e 2) (e 3) (e 4) (e 5) n hn
theorem bOr_q : ∀ n : Nat, n < 6 → ∀ q : Nat, q < 64 → q % 2 ^ (6 - n) = 0 → bOr (q : Int) (bShl 1 ((5 - n : Nat) : Int)) = ((q + 2 ^ (5 - n) : Nat) : Int) := by decide +kernel
theorem qm_key : ∀ (b0 b1 b2 b3 b4 b5 : Bool), ∀ i : Nat, i < 64 → bAnd ((qs (fun k => match k with | 0 => b0 | 1 => b1 | 2 => b2 | 3 => b3 | 4 => b4 | _ => b5) 6 : Nat) : Int) (bXor (i : Int) (-1)) = ((ms (fun k => (match k with | 0 => b0 | 1 => b1 | 2 => b2 | 3 => b3 | 4 => b4 | _ => b5) && decide (ib (i : Int) (k : Int) = 0)) 6 : Nat) : Int) := by decide +kernel
theorem qm (e : Nat → Bool) (i : Nat) (hi : i < 64) : bAnd ((qs e 6 : Nat) : Int) (bXor (i : Int) (-1)) = ((ms (fun k => e k && decide (ib (i : Int) (k : Int) = 0)) 6 : Nat) : Int) := qm_key (e 0) (e 1) (e 2) (e 3) (e 4) (e 5) i hi
theorem un_key : ∀ (b0 b1 b2 b3 b4 b5 : Bool), ∀ i : Nat, i < 64 → ∃ u : Nat, u < 64 ∧ bAnd (bAnd 63 (bXor (i : Int) (-1))) (bXor ((ms (fun k => (match k with | 0 => b0 | 1 => b1 | 2 => b2 | 3 => b3 | 4 => b4 | _ => b5) && decide (ib (i : Int) (k : Int) = 0)) 6 : Nat) : Int) (-1)) = (u : Int) ∧ (pcN u : Int) = 6 - pcN i - pcN (ms (fun k => (match k with | 0 => b0 | 1 => b1 | 2 => b2 | 3 => b3 | 4 => b4 | _ => b5) && decide (ib (i : Int) (k : Int) = 0)) 6) := by
  have key : ∀ (b0 b1 b2 b3 b4 b5 : Bool), ∀ i : Nat, i < 64 → 0 ≤ bAnd (bAnd 63 (bXor (i : Int) (-1))) (bXor ((ms (fun k => (match k with | 0 => b0 | 1 => b1 | 2 => b2 | 3 => b3 | 4 => b4 | _ => b5) && decide (ib (i : Int) (k : Int) = 0)) 6 : Nat) : Int) (-1)) ∧ bAnd (bAnd 63 (bXor (i : Int) (-1))) (bXor ((ms (fun k => (match k with | 0 => b0 | 1 => b1 | 2 => b2 | 3 => b3 | 4 => b4 | _ => b5) && decide (ib (i : Int) (k : Int) = 0)) 6 : Nat) : Int) (-1)) < 64 ∧ (pcN (bAnd (bAnd 63 (bXor (i : Int) (-1))) (bXor ((ms (fun k => (match k with | 0 => b0 | 1 => b1 | 2 => b2 | 3 => b3 | 4 => b4 | _ => b5) && decide (ib (i : Int) (k : Int) = 0)) 6 : Nat) : Int) (-1))).toNat : Int) = 6 - pcN i - pcN (ms (fun k => (match k with | 0 => b0 | 1 => b1 | 2 => b2 | 3 => b3 | 4 => b4 | _ => b5) && decide (ib (i : Int) (k : Int) = 0)) 6) := by decide +kernel
  intro b0 b1 b2 b3 b4 b5 i hi
  obtain ⟨h1, h2, h3⟩ := key b0 b1 b2 b3 b4 b5 i hi
  exact ⟨_, by omega, (Int.toNat_of_nonneg h1).symm, h3⟩
theorem un (e : Nat → Bool) (i : Nat) (hi : i < 64) : ∃ u : Nat, u < 64 ∧ bAnd (bAnd 63 (bXor (i : Int) (-1))) (bXor ((ms (fun k => e k && decide (ib (i : Int) (k : Int) = 0)) 6 : Nat) : Int) (-1)) = (u : Int) ∧ (pcN u : Int) = 6 - pcN i - pcN (ms (fun k => e k && decide (ib (i : Int) (k : Int) = 0)) 6) := un_key (e 0) (e 1) (e 2) (e 3) (e 4) (e 5) i hi
theorem ms_lt (e : Nat → Bool) : ∀ n, ms e n < 2 ^ n := by
  intro n
  induction n with
  | zero => show 0 < 2 ^ 0; decide
  | succ n ih =>
    unfold ms
    rw [Nat.pow_succ]
    split <;> omega
theorem pcN_le (n : Nat) : pcN n ≤ 8 := by unfold pcN; omega
theorem m_bitCount (n : Nat) (hn : n < 256) (M : Me) (h : Ml) : Wp zS0 tJ6_bitCount_0f7a4 none 0 [zi n] [] M h (Ri (pcN n) M h) := by
  refine Wp.g1 rfl ?_
  refine Wp.rei rfl ?_ rfl rfl
  revert hn
  revert n
  decide +kernel
theorem m_common (t u : Int) (i : Nat) (ht : 0 ≤ t ∧ t ≤ 999999) (hu : 0 ≤ u ∧ u ≤ 999999) (hi : i < 64) (M : Me) (h : Ml) : Wp zS0 tX7_common none 0 [zi t, zi u, zi i, zn, zn, zn, zn] [] M h (Ri (smk t u i) M h) := by
  have loop : ∀ d n : Nat, n + d = 6 → Wp zS0 tX7_common none 11 [zi t, zi u, zi i, zi (qs (fun k => decide (digN t k = digN u k)) n), zi (dv t n), zi (dv u n), zi (5 - (n : Int))] [] M h (Ri (smk t u i) M h) := by
    intro d
    induction d with
    | zero =>
      intro n hn
      have e : n = 6 := by omega
      subst e
      refine Wp.g1 rfl ?_
      refine Wp.brt rfl (by decide) ?_
      refine Wp.g1 rfl ?_
      exact Wp.rei rfl (qm _ i hi) rfl rfl
    | succ d ih =>
      intro n hn
      have h1 := dv_rn ht.1 n
      have h2 := dv_rn hu.1 n
      have h3 := qs_lt (fun k => decide (digN t k = digN u k)) n (by omega)
      have e1 : w32 (5 - (n : Int) + -1) = 5 - ((n + 1 : Nat) : Int) := by simp only [w32_def]; omega
      have e2 : (5 - (n : Int)) = ((5 - n : Nat) : Int) := by omega
      have e3 : digN t (5 - n) = dv t n % 10 := by unfold digN; rw [show 5 - (5 - n) = n by omega]
      have e4 : digN u (5 - n) = dv u n % 10 := by unfold digN; rw [show 5 - (5 - n) = n by omega]
      have ih' := ih (n + 1) (by omega)
      refine Wp.g1 rfl ?_
      refine Wp.brf rfl (by omega) ?_
      refine Wp.g1 rfl ?_
      refine Wp.rem rfl h1.1 (by decide) ?_
      refine Wp.g1 rfl ?_
      refine Wp.rem rfl h2.1 (by decide) ?_
      refine Wp.br rfl (fun c => ?_) (fun c => ?_)
      · refine Wp.g1 rfl ?_
        refine Wp.div rfl h1.1 (by decide) ?_
        refine Wp.g1 rfl ?_
        refine Wp.div rfl h2.1 (by decide) ?_
        refine Wp.gt 11 rfl ?_
        rw [e1]
        have e5 : qs (fun k => decide (digN t k = digN u k)) (n + 1) = qs (fun k => decide (digN t k = digN u k)) n := by
          show qs _ n + (if decide (digN t (5 - n) = digN u (5 - n)) = true then _ else 0) = _
          rw [if_neg (by rw [e3, e4]; simpa using c)]; rfl
        rw [e5] at ih'
        exact ih'
      · have c : dv t n % 10 = dv u n % 10 := Decidable.not_not.mp c
        refine Wp.g1 rfl ?_
        refine Wp.div rfl h1.1 (by decide) ?_
        refine Wp.g1 rfl ?_
        refine Wp.div rfl h2.1 (by decide) ?_
        refine Wp.gt 11 rfl ?_
        rw [e1, e2, bOr_q n (by omega) _ h3.1 h3.2]
        have e5 : qs (fun k => decide (digN t k = digN u k)) (n + 1) = qs (fun k => decide (digN t k = digN u k)) n + 2 ^ (5 - n) := by
          show qs _ n + (if decide (digN t (5 - n) = digN u (5 - n)) = true then _ else 0) = _
          rw [if_pos (by rw [e3, e4]; simpa using c)]
        rw [e5] at ih'
        exact ih'
  refine Wp.gt 11 rfl ?_
  exact loop 6 0 (by omega)
theorem lq_rn {t ill : Int} (ht : 0 ≤ t) : ∀ n, n ≤ 6 → 0 ≤ lq t ill n ∧ lq t ill n < 10 ^ n := by
  intro n
  induction n with
  | zero => intro _; show (0 : Int) ≤ 0 ∧ (0 : Int) < 10 ^ 0; decide
  | succ n ih =>
    intro hn
    have h1 := ih (by omega)
    have h2 := (dv_rn ht (5 - (5 - n))).1
    have hd : 0 ≤ digN t (5 - n) ∧ digN t (5 - n) ≤ 9 := by unfold digN; omega
    unfold lq
    rcases (show n = 0 ∨ n = 1 ∨ n = 2 ∨ n = 3 ∨ n = 4 ∨ n = 5 by omega) with e | e | e | e | e | e <;> subst e <;> (split <;> omega)
theorem ten_pow : ∀ n : Nat, n < 6 → (10 : Int) ^ n ≤ 100000 ∧ 1 ≤ (10 : Int) ^ n := by decide +kernel
theorem m_legible (t ill : Int) (ht : 0 ≤ t ∧ t ≤ 999999) (M : Me) (h : Ml) : Wp zS0 tX7_legible none 0 [zi t, zi ill, zn, zn, zn, zn] [] M h (Ri (leg t ill) M h) := by
  have loop : ∀ d n : Nat, n + d = 6 → Wp zS0 tX7_legible none 10 [zi t, zi ill, zi (lq t ill n), zi (10 ^ n), zi (dv t n), zi (5 - (n : Int))] [] M h (Ri (leg t ill) M h) := by
    intro d
    induction d with
    | zero =>
      intro n hn
      have e : n = 6 := by omega
      subst e
      refine Wp.g1 rfl ?_
      refine Wp.brt rfl (by decide) ?_
      refine Wp.g1 rfl ?_
      exact Wp.rei rfl rfl rfl rfl
    | succ d ih =>
      intro n hn
      have h1 := dv_rn ht.1 n
      have h3 := lq_rn (ill := ill) ht.1 n (by omega)
      have h4 := ten_pow n (by omega)
      have e1 : w32 (5 - (n : Int) + -1) = 5 - ((n + 1 : Nat) : Int) := by simp only [w32_def]; omega
      have e2 : (5 - (n : Int)) = ((5 - n : Nat) : Int) := by omega
      have e3 : digN t (5 - n) = dv t n % 10 := by unfold digN; rw [show 5 - (5 - n) = n by omega]
      have e6 : w32 (10 ^ n * 10) = 10 ^ (n + 1) := by
        rw [Int.pow_succ]
        exact w32_id ⟨by omega, by omega⟩
      have ih' := ih (n + 1) (by omega)
      have e5 : lq t ill (n + 1) = lq t ill n + (if ib ill ((5 - n : Nat) : Int) = 0 then digN t (5 - n) else 0) * 10 ^ n := rfl
      rw [e5] at ih'
      refine Wp.g1 rfl ?_
      refine Wp.brf rfl (by omega) ?_
      refine Wp.g1 rfl ?_
      rw [e2]
      refine Wp.br rfl (fun c => ?_) (fun c => ?_)
      · refine Wp.g1 rfl ?_
        refine Wp.div rfl h1.1 (by decide) ?_
        refine Wp.gt 10 rfl ?_
        rw [e6, ← e2, e1]
        have c : ¬ ib ill ((5 - n : Nat) : Int) = 0 := c
        rw [if_neg c, Int.zero_mul, Int.add_zero] at ih'
        exact ih'
      · have c : ib ill ((5 - n : Nat) : Int) = 0 := Decidable.not_not.mp c
        refine Wp.g1 rfl ?_
        refine Wp.rem rfl h1.1 (by decide) ?_
        refine Wp.g1 rfl ?_
        refine Wp.div rfl h1.1 (by decide) ?_
        refine Wp.gt 10 rfl ?_
        have g : 0 ≤ dv t n % 10 * 10 ^ n ∧ dv t n % 10 * 10 ^ n ≤ 9 * 100000 := by
          have g1 : 0 ≤ dv t n % 10 ∧ dv t n % 10 ≤ 9 := by omega
          exact ⟨Int.mul_nonneg g1.1 (by omega), Int.mul_le_mul g1.2 h4.1 (by omega) (by omega)⟩
        have g2 : lq t ill n < 10 ^ n := h3.2
        rw [e6, ← e2, e1, w32_id (x := dv t n % 10 * 10 ^ n) ⟨by omega, by omega⟩, w32_id (x := lq t ill n + dv t n % 10 * 10 ^ n) ⟨by omega, by omega⟩]
        rw [if_pos c, e3] at ih'
        exact ih'
  refine Wp.gt 10 rfl ?_
  exact loop 6 0 (by omega)
/-- the parts of a score -/
def sc1 (w t u ill : Int) : Int := pcN (smk t u ill) * w - (6 - pcN ill.toNat - pcN (smk t u ill)) * (3 * w / 2)
def sc2 (w x y : Int) : Int := if x = y then w else if x - y = 1 ∨ y - x = 1 ∨ x - y = 7 ∨ y - x = 7 then w / 3 else 0
def sc3 (w x y : Int) : Int := if x = y then w else if x / 4 = y / 4 then w / 3 else 0
def sc4 (w x y : Int) : Int := pcN (x.toNat &&& y.toNat) * w - pcN (x.toNat ^^^ y.toNat) * (w / 2)
def sc5 (w x y : Int) : Int := if ib x y = 1 then w else -w
def sc6 (w d : Int) : Int := -(w * min d 10)
theorem mulbd {a b : Int} {A B : Int} (ha : 0 ≤ a ∧ a ≤ A) (hb : 0 ≤ b ∧ b ≤ B) : 0 ≤ a * b ∧ a * b ≤ A * B := ⟨Int.mul_nonneg ha.1 hb.1, Int.mul_le_mul ha.2 hb.2 hb.1 (Int.le_trans ha.1 ha.2)⟩
theorem m_ofDigits (w : Int) (a b : Nat) (hw : 0 ≤ w ∧ w ≤ 50) (ha : a < 256) (hb : b < 256) (M : Me) (h : Ml) : Wp zS0 tX5_ofDigits none 0 [zi w, zi a, zi b] [] M h (Ri (pcN a * w - pcN b * (3 * w / 2)) M h) := by
  have p1 := pcN_le a
  have p2 := pcN_le b
  have g1 := mulbd (a := (pcN a : Int)) (b := w) (A := 8) (B := 50) (by omega) hw
  have g2 := mulbd (a := (pcN b : Int)) (b := 3 * w / 2) (A := 8) (B := 75) (by omega) (by omega)
  refine Wp.g1 rfl ?_
  refine Wp.calli rfl (m_bitCount a ha M h) ?_
  refine Wp.g1 rfl ?_
  refine Wp.calli rfl (m_bitCount b hb M h) ?_
  refine Wp.g1 rfl ?_
  rw [w32_id (x := 3 * w) ⟨by omega, by omega⟩]
  refine Wp.div rfl (by omega) (by decide) ?_
  refine Wp.g1 rfl ?_
  rw [w32_id (x := (pcN a : Int) * w) ⟨by omega, by omega⟩, w32_id (x := (pcN b : Int) * (3 * w / 2)) ⟨by omega, by omega⟩, w32_id ⟨by omega, by omega⟩]
  exact Wp.rei rfl rfl rfl rfl
theorem m_ofColours (w x y : Int) (hw : 0 ≤ w ∧ w ≤ 50) (hx : 0 ≤ x ∧ x ≤ 7) (hy : 0 ≤ y ∧ y ≤ 7) (M : Me) (h : Ml) : Wp zS0 tX5_ofColours none 0 [zi w, zi x, zi y, zn] [] M h (Ri (sc2 w x y) M h) := by
  have e1 : w32 (x - y) = x - y := w32_id ⟨by omega, by omega⟩
  have e2 : w32 ((x - y).natAbs : Int) = ((x - y).natAbs : Int) := w32_id ⟨by omega, by omega⟩
  refine Wp.g1 rfl ?_
  rw [e1, e2]
  refine Wp.br rfl (fun c => ?_) (fun c => ?_)
  · refine Wp.g1 rfl ?_
    refine Wp.br rfl (fun c2 => ?_) (fun c2 => ?_)
    · refine Wp.g1 rfl ?_
      refine Wp.div rfl hw.1 (by decide) ?_
      refine Wp.g1 rfl ?_
      refine Wp.rei rfl ?_ rfl rfl
      unfold sc2
      rw [if_neg (by omega), if_pos (by omega)]
    · refine Wp.g1 rfl ?_
      refine Wp.br rfl (fun c3 => ?_) (fun c3 => ?_)
      · refine Wp.g1 rfl ?_
        refine Wp.rei rfl ?_ rfl rfl
        unfold sc2
        rw [if_neg (by omega), if_neg (by omega)]
      · refine Wp.g1 rfl ?_
        refine Wp.div rfl hw.1 (by decide) ?_
        refine Wp.g1 rfl ?_
        refine Wp.rei rfl ?_ rfl rfl
        unfold sc2
        rw [if_neg (by omega), if_pos (by omega)]
  · refine Wp.g1 rfl ?_
    refine Wp.rei rfl ?_ rfl rfl
    unfold sc2
    rw [if_pos (by omega)]
theorem m_ofKinds (w x y : Int) (hw : 0 ≤ w ∧ w ≤ 50) (hx : 0 ≤ x ∧ x ≤ 11) (hy : 0 ≤ y ∧ y ≤ 11) (M : Me) (h : Ml) : Wp zS0 tX5_ofKinds none 0 [zi w, zi x, zi y] [] M h (Ri (sc3 w x y) M h) := by
  refine Wp.g1 rfl ?_
  refine Wp.br rfl (fun c => ?_) (fun c => ?_)
  · refine Wp.g1 rfl ?_
    refine Wp.div rfl hx.1 (by decide) ?_
    refine Wp.g1 rfl ?_
    refine Wp.div rfl hy.1 (by decide) ?_
    refine Wp.br rfl (fun c2 => ?_) (fun c2 => ?_)
    · refine Wp.g1 rfl ?_
      refine Wp.rei rfl ?_ rfl rfl
      unfold sc3
      rw [if_neg (by omega), if_neg (by omega)]
    · refine Wp.g1 rfl ?_
      refine Wp.div rfl hw.1 (by decide) ?_
      refine Wp.g1 rfl ?_
      refine Wp.rei rfl ?_ rfl rfl
      unfold sc3
      rw [if_neg (by omega), if_pos (by omega)]
  · refine Wp.g1 rfl ?_
    refine Wp.rei rfl ?_ rfl rfl
    unfold sc3
    rw [if_pos (by omega)]
theorem m_ofMarks (w x y : Int) (hw : 0 ≤ w ∧ w ≤ 50) (hx : 0 ≤ x ∧ x ≤ 255) (hy : 0 ≤ y ∧ y ≤ 255) (M : Me) (h : Ml) : Wp zS0 tX5_ofMarks none 0 [zi w, zi x, zi y] [] M h (Ri (sc4 w x y) M h) := by
  obtain ⟨a, rfl⟩ := Int.eq_ofNat_of_zero_le hx.1
  obtain ⟨c, rfl⟩ := Int.eq_ofNat_of_zero_le hy.1
  have l1 : a &&& c < 2 ^ 8 := Nat.and_lt_two_pow _ (by omega)
  have l2 : a ^^^ c < 2 ^ 8 := Nat.xor_lt_two_pow (by omega) (by omega)
  have p1 := pcN_le (a &&& c)
  have p2 := pcN_le (a ^^^ c)
  have g1 := mulbd (a := (pcN (a &&& c) : Int)) (b := w) (A := 8) (B := 50) (by omega) hw
  have g2 := mulbd (a := (pcN (a ^^^ c) : Int)) (b := w / 2) (A := 8) (B := 25) (by omega) (by omega)
  refine Wp.g1 rfl ?_
  rw [bAnd_nat (by omega)]
  refine Wp.calli rfl (m_bitCount _ l1 M h) ?_
  refine Wp.g1 rfl ?_
  rw [bXor_nat (by omega) (by omega)]
  refine Wp.calli rfl (m_bitCount _ l2 M h) ?_
  refine Wp.g1 rfl ?_
  refine Wp.div rfl hw.1 (by decide) ?_
  refine Wp.g1 rfl ?_
  rw [w32_id (x := (pcN (a &&& c) : Int) * w) ⟨by omega, by omega⟩, w32_id (x := (pcN (a ^^^ c) : Int) * (w / 2)) ⟨by omega, by omega⟩, w32_id ⟨by omega, by omega⟩]
  exact Wp.rei rfl rfl rfl rfl
theorem m_ofAirport (w x y : Int) (hw : 0 ≤ w ∧ w ≤ 50) (M : Me) (h : Ml) : Wp zS0 tX5_ofAirport none 0 [zi w, zi x, zi y] [] M h (Ri (sc5 w x y) M h) := by
  refine Wp.g1 rfl ?_
  refine Wp.br rfl (fun c => ?_) (fun c => ?_)
  · refine Wp.g1 rfl ?_
    rw [w32_id ⟨by omega, by omega⟩]
    refine Wp.rei rfl ?_ rfl rfl
    have c : ¬ ib x y = 1 := c
    unfold sc5
    rw [if_neg c]
  · refine Wp.g1 rfl ?_
    refine Wp.rei rfl ?_ rfl rfl
    have c : ib x y = 1 := Decidable.not_not.mp c
    unfold sc5
    rw [if_pos c]
