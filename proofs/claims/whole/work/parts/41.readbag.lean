/-! the text: one bag is read -/
def tgF (tx : Nat → Int) (s : Nat) : Nat → Int
  | 0 => 0
  | n + 1 => tgF tx s n * 10 + (if tx (s + 2 + n) = 63 then 0 else tx (s + 2 + n) - 48)
def ilF (tx : Nat → Int) (s : Nat) : Nat → Int
  | 0 => 0
  | n + 1 => bOr (ilF tx s n) (if tx (s + 2 + n) = 63 then bShl 1 (n : Int) else 0)
def mkF (tx : Nat → Int) (s : Nat) : Nat → Int
  | 0 => 0
  | n + 1 => bOr (mkF tx s n) (bShl 1 (tx (s + 11 + n) - 115))
/-- how many signs stand behind the kind -/
def nm (tx : Nat → Int) (len s : Nat) : Nat := fnd (fun j => if tx (s + 11 + j) = 59 then 1 else 0) 1 (len - (s + 11))
theorem tgF_bd {tx : Nat → Int} {s : Nat} (hd : ∀ k, k < 6 → tx (s + 2 + k) = 63 ∨ (48 ≤ tx (s + 2 + k) ∧ tx (s + 2 + k) ≤ 57)) : ∀ n, n ≤ 6 → 0 ≤ tgF tx s n ∧ tgF tx s n < 10 ^ n := by
  intro n
  induction n with
  | zero => intro _; exact ⟨Int.le_refl _, show (0 : Int) < 10 ^ 0 by decide⟩
  | succ n ih =>
    intro hn
    have h1 := ih (by omega)
    have h2 := hd n (by omega)
    have e : tgF tx s (n + 1) = tgF tx s n * 10 + (if tx (s + 2 + n) = 63 then 0 else tx (s + 2 + n) - 48) := rfl
    have e2 : (10 : Int) ^ (n + 1) = 10 ^ n * 10 := Int.pow_succ _ _
    rw [e, e2]
    split <;> omega
theorem bOr_rn6 : ∀ k : Nat, k < 6 → ∀ q : Nat, q < 64 → 0 ≤ bOr (q : Int) (bShl 1 (k : Int)) ∧ bOr (q : Int) (bShl 1 (k : Int)) ≤ 63 := by decide +kernel
theorem bOr_rn8 : ∀ k : Nat, k < 8 → ∀ q : Nat, q < 256 → 0 ≤ bOr (q : Int) (bShl 1 (k : Int)) ∧ bOr (q : Int) (bShl 1 (k : Int)) ≤ 255 := by decide +kernel
theorem bOr_0 : ∀ q : Nat, q < 256 → bOr (q : Int) 0 = (q : Int) := by decide +kernel
theorem ilF_bd (tx : Nat → Int) (s : Nat) : ∀ n, n ≤ 6 → 0 ≤ ilF tx s n ∧ ilF tx s n ≤ 63 := by
  intro n
  induction n with
  | zero => intro _; exact ⟨Int.le_refl _, show (0 : Int) ≤ 63 by decide⟩
  | succ n ih =>
    intro hn
    have h1 := ih (by omega)
    obtain ⟨q, hq⟩ := Int.eq_ofNat_of_zero_le h1.1
    have e : ilF tx s (n + 1) = bOr (ilF tx s n) (if tx (s + 2 + n) = 63 then bShl 1 (n : Int) else 0) := rfl
    rw [e, hq]
    rw [hq] at h1
    split
    · exact bOr_rn6 n (by omega) q (by omega)
    · rw [bOr_0 q (by omega)]; exact h1
theorem mkF_bd {tx : Nat → Int} {s : Nat} : ∀ n, (∀ j, j < n → 115 ≤ tx (s + 11 + j) ∧ tx (s + 11 + j) ≤ 122) → 0 ≤ mkF tx s n ∧ mkF tx s n ≤ 255 := by
  intro n
  induction n with
  | zero => intro _; exact ⟨Int.le_refl _, show (0 : Int) ≤ 255 by decide⟩
  | succ n ih =>
    intro hn
    have h1 := ih (fun j hj => hn j (by omega))
    have h2 := hn n (by omega)
    obtain ⟨q, hq⟩ := Int.eq_ofNat_of_zero_le h1.1
    obtain ⟨k, hk⟩ := Int.eq_ofNat_of_zero_le (show 0 ≤ tx (s + 11 + n) - 115 by omega)
    have e : mkF tx s (n + 1) = bOr (mkF tx s n) (bShl 1 (tx (s + 11 + n) - 115)) := rfl
    rw [e, hq, hk]
    exact bOr_rn8 k (by omega) q (by omega)
theorem m_readBag (tx : Nat → Int) (n s : Nat) (M : Me) (h : Ml) (hn : M 59 1 = (n : Int)) (hl : n ≤ 80) (ht : ∀ i, i < n → M 60 i = tx i) (hr : ∀ i, i < n → 33 ≤ tx i ∧ tx i ≤ 126) (hs : s + 11 ≤ n) (hd : ∀ k, k < 6 → tx (s + 2 + k) = 63 ∨ (48 ≤ tx (s + 2 + k) ∧ tx (s + 2 + k) ≤ 57)) :
    Wp zS0 tX1_readBag none 0 [zr 59, zi s, zr 72, zn, zn, zn, zn] [] M h (fun v M' h' => v = some (zi ((s + 11 + nm tx n s : Nat) : Int)) ∧ h' = h ∧ (∀ k, k ≠ 72 → M' k = M k) ∧ M' 72 0 = tx s - 48 ∧ M' 72 1 = tgF tx s 6 ∧ M' 72 2 = ilF tx s 6 ∧ M' 72 3 = tx (s + 9) - 48 ∧ M' 72 4 = tx (s + 10) - 97 ∧ M' 72 5 = mkF tx s (nm tx n s)) := by
  have kc : ∀ (M' : Me) (i : Nat), (∀ k, k ≠ 72 → M' k = M k) → i < n → Wp zS0 tX1_codeAt none 0 [zr 59, zi i] [] M' h (Ri (tx i) M' h) := fun M' i hk hi => by
    rw [← ht i hi, ← hk 60 (by decide)]
    exact m_codeAt i n M' h (by rw [hk 59 (by decide)]; exact hn) hl hi
  have w1 : ∀ i, i < n → ∀ c : Int, 0 ≤ c → c ≤ 200 → w32 (tx i - c) = tx i - c := fun i hi c h1 h2 => by
    have := hr i hi
    exact w32_id ⟨by omega, by omega⟩
  have loop2 : ∀ d j : Nat, j + d = n - (s + 11) → ∀ (M' : Me) (x y : Int) (z : ZV), (∀ k, k ≠ 72 → M' k = M k) → (∀ i, i < j → tx (s + 11 + i) ≠ 59) → M' 72 0 = tx s - 48 ∧ M' 72 1 = tgF tx s 6 ∧ M' 72 2 = ilF tx s 6 ∧ M' 72 3 = tx (s + 9) - 48 ∧ M' 72 4 = tx (s + 10) - 97 ∧ M' 72 5 = mkF tx s j →
      ∀ q : Nat, q = s + 11 + j → Wp zS0 tX1_readBag none 144 [zr 59, zi s, zr 72, zi x, zi y, zi q, z] [] M' h (fun v M' h' => v = some (zi ((s + 11 + nm tx n s : Nat) : Int)) ∧ h' = h ∧ (∀ k, k ≠ 72 → M' k = M k) ∧ M' 72 0 = tx s - 48 ∧ M' 72 1 = tgF tx s 6 ∧ M' 72 2 = ilF tx s 6 ∧ M' 72 3 = tx (s + 9) - 48 ∧ M' 72 4 = tx (s + 10) - 97 ∧ M' 72 5 = mkF tx s (nm tx n s)) := by
    intro d
    induction d with
    | zero =>
      intro j hj M' x y z hk hno hv q hq
      have e : nm tx n s = j := by
        have : n - (s + 11) = j := by omega
        unfold nm
        rw [this]
        exact fnd_none (fun i hi => by rw [if_neg (hno i hi)]; decide)
      refine Wp.g1 rfl ?_
      rw [hk 59 (by decide), hn]
      refine Wp.brt rfl (by omega) ?_
      refine Wp.g1 rfl ?_
      rw [e, ← hq]
      exact Wp.re rfl ⟨rfl, rfl, hk, hv⟩
    | succ d ih =>
      intro j hj M' x y z hk hno hv q hq
      refine Wp.g1 rfl ?_
      rw [hk 59 (by decide), hn]
      refine Wp.brf rfl (by omega) ?_
      refine Wp.g1 rfl ?_
      refine Wp.calli rfl (kc M' q hk (by omega)) ?_
      refine Wp.g1 rfl ?_
      refine Wp.br rfl (fun c0 => ?_) (fun c0 => ?_)
      · have e : nm tx n s = j := fnd_some (by omega) (by show (if tx (s + 11 + j) = 59 then (1 : Int) else 0) = 1; rw [← hq, if_pos c0]) (fun i hi => by show (if tx (s + 11 + i) = 59 then (1 : Int) else 0) ≠ 1; rw [if_neg (hno i hi)]; decide)
        refine Wp.g1 rfl ?_
        rw [e, ← hq]
        exact Wp.re rfl ⟨rfl, rfl, hk, hv⟩
      · obtain ⟨v0, v1, v2, v3, v4, v5⟩ := hv
        refine Wp.g1 rfl ?_
        refine Wp.ld rfl rfl 5 rfl (by decide) ?_
        refine Wp.g1 rfl ?_
        refine Wp.calli rfl (kc M' q hk (by omega)) ?_
        refine Wp.g1 rfl ?_
        rw [w1 _ (by omega) 115 (by decide) (by decide), v5]
        refine Wp.sto rfl rfl 5 rfl (by decide) ?_
        refine Wp.gt 144 rfl ?_
        rw [w32_s (n := q) (by omega)]
        refine ih (j + 1) (by omega) _ _ _ _ (fun k g => by rw [upd2_ne g]; exact hk k g) (fun i hi => ?_) ⟨?_, ?_, ?_, ?_, ?_, ?_⟩ (q + 1) ?_
        · by_cases e : i = j
          · rw [e, ← hq]; exact c0
          · exact hno i (by omega)
        · rw [upd2_off (by decide)]; exact v0
        · rw [upd2_off (by decide)]; exact v1
        · rw [upd2_off (by decide)]; exact v2
        · rw [upd2_off (by decide)]; exact v3
        · rw [upd2_off (by decide)]; exact v4
        · rw [upd2_at, hq]; rfl
        · omega
  have loop1 : ∀ d j : Nat, j + d = 6 → ∀ (M' : Me) (z : ZV), (∀ k, k ≠ 72 → M' k = M k) → M' 72 0 = tx s - 48 →
      Wp zS0 tX1_readBag none 28 [zr 59, zi s, zr 72, zi (tgF tx s j), zi (ilF tx s j), zi j, z] [] M' h (fun v M' h' => v = some (zi ((s + 11 + nm tx n s : Nat) : Int)) ∧ h' = h ∧ (∀ k, k ≠ 72 → M' k = M k) ∧ M' 72 0 = tx s - 48 ∧ M' 72 1 = tgF tx s 6 ∧ M' 72 2 = ilF tx s 6 ∧ M' 72 3 = tx (s + 9) - 48 ∧ M' 72 4 = tx (s + 10) - 97 ∧ M' 72 5 = mkF tx s (nm tx n s)) := by
    intro d
    induction d with
    | zero =>
      intro j hj M' z hk hv
      have e : j = 6 := by omega
      subst e
      refine Wp.g1 rfl ?_
      refine Wp.brt rfl (by decide) ?_
      refine Wp.g1 rfl ?_
      refine Wp.sto rfl rfl 1 rfl (by decide) ?_
      refine Wp.g1 rfl ?_
      refine Wp.sto rfl rfl 2 rfl (by decide) ?_
      refine Wp.g1 rfl ?_
      rw [show w32 ((s : Int) + 9) = ((s + 9 : Nat) : Int) by rw [w32_id ⟨by omega, by omega⟩]; omega]
      refine Wp.calli rfl (kc _ (s + 9) (fun k g => by rw [upd2_ne g, upd2_ne g]; exact hk k g) (by omega)) ?_
      refine Wp.g1 rfl ?_
      rw [w1 _ (by omega) 48 (by decide) (by decide)]
      refine Wp.sto rfl rfl 3 rfl (by decide) ?_
      refine Wp.g1 rfl ?_
      rw [show w32 ((s : Int) + 10) = ((s + 10 : Nat) : Int) by rw [w32_id ⟨by omega, by omega⟩]; omega]
      refine Wp.calli rfl (kc _ (s + 10) (fun k g => by rw [upd2_ne g, upd2_ne g, upd2_ne g]; exact hk k g) (by omega)) ?_
      refine Wp.g1 rfl ?_
      rw [w1 _ (by omega) 97 (by decide) (by decide)]
      refine Wp.sto rfl rfl 4 rfl (by decide) ?_
      refine Wp.g1 rfl ?_
      refine Wp.sto rfl rfl 5 rfl (by decide) ?_
      refine Wp.gt 144 rfl ?_
      rw [show w32 ((s : Int) + 10) = ((s + 10 : Nat) : Int) by rw [w32_id ⟨by omega, by omega⟩]; omega, w32_s (n := s + 10) (by omega)]
      refine loop2 (n - (s + 11)) 0 (by omega) _ _ _ _ (fun k g => by rw [upd2_ne g, upd2_ne g, upd2_ne g, upd2_ne g, upd2_ne g]; exact hk k g) (fun i hi => by omega) ⟨?_, ?_, ?_, ?_, ?_, ?_⟩ _ (by omega)
      all_goals (repeat rw [upd2_off (by decide)])
      · exact hv
      · exact upd2_at
      · exact upd2_at
      · exact upd2_at
      · exact upd2_at
      · exact upd2_at
    | succ d ih =>
      intro j hj M' z hk hv
      have hb := tgF_bd hd j (by omega)
      have hp : (10 : Int) ^ j ≤ 100000 := (ten_pow j (by omega)).1
      have hdj := hd j (by omega)
      refine Wp.g1 rfl ?_
      refine Wp.brf rfl (by omega) ?_
      refine Wp.g1 rfl ?_
      rw [show w32 (w32 ((s : Int) + 2) + (j : Int)) = ((s + 2 + j : Nat) : Int) by rw [w32_id (x := (s : Int) + 2) ⟨by omega, by omega⟩, w32_id ⟨by omega, by omega⟩]; omega]
      refine Wp.calli rfl (kc M' (s + 2 + j) hk (by omega)) ?_
      refine Wp.g1 rfl ?_
      have t1 : tgF tx s (j + 1) = tgF tx s j * 10 + (if tx (s + 2 + j) = 63 then 0 else tx (s + 2 + j) - 48) := rfl
      have i1 : ilF tx s (j + 1) = bOr (ilF tx s j) (if tx (s + 2 + j) = 63 then bShl 1 (j : Int) else 0) := rfl
      have e1 : w32 (tgF tx s j * 10) = tgF tx s j * 10 := w32_id ⟨by omega, by omega⟩
      have ih' := ih (j + 1) (by omega) M' (zi (tx (s + 2 + j))) hk hv
      rw [t1, i1] at ih'
      rw [e1]
      by_cases c0 : tx (s + 2 + j) = 63
      · rw [if_pos c0, if_pos c0] at ih'
        refine Wp.brf rfl (fun q => q c0) ?_
        refine Wp.g1 rfl ?_
        refine Wp.brf rfl (fun q => q c0) ?_
        refine Wp.gt 28 rfl ?_
        rw [w32_s (n := j) (by omega), w32_id (x := tgF tx s j * 10 + 0) ⟨by omega, by omega⟩]
        exact ih'
      · rw [if_neg c0, if_neg c0] at ih'
        refine Wp.brt rfl c0 ?_
        refine Wp.g1 rfl ?_
        rw [w1 _ (by omega) 48 (by decide) (by decide), w32_id (x := tgF tx s j * 10 + (tx (s + 2 + j) - 48)) ⟨by omega, by omega⟩]
        refine Wp.brt rfl c0 ?_
        refine Wp.gt 28 rfl ?_
        rw [w32_s (n := j) (by omega)]
        exact ih'
  refine Wp.g1 rfl ?_
  refine Wp.brt rfl (by decide) ?_
  refine Wp.g1 rfl ?_
  refine Wp.calli rfl (kc M s (fun k _ => rfl) (by omega)) ?_
  refine Wp.g1 rfl ?_
  rw [w1 _ (by omega) 48 (by decide) (by decide)]
  refine Wp.sto rfl rfl 0 rfl (by decide) ?_
  refine Wp.gt 28 rfl ?_
  exact loop1 6 0 (by omega) _ _ (fun k g => by rw [upd2_ne g]) upd2_at
