/-! whole numbers and the machine's own -/
def zrn (x : Int) : Prop := -2147483648 ≤ x ∧ x < 2147483648
def zrv (v : ZV) : Prop := match v with
  | .inl x => zrn x
  | _ => True
theorem w32_def (x : Int) : w32 x = (x + 2147483648) % 4294967296 - 2147483648 := by
  unfold w32
  rw [Int.bmod_def]
  split <;> omega
theorem w32_rn (x : Int) : zrn (w32 x) := by
  rw [w32_def]
  unfold zrn
  omega
theorem w32_id {x : Int} (h : zrn x) : w32 x = x := by
  rw [w32_def]
  unfold zrn at h
  omega
theorem zI_toInt (x : Int) : (Int32.ofInt x).toInt = w32 x := by
  unfold w32
  rw [Int32.toInt_ofInt]
theorem zI_in {x : Int} (h : zrn x) : (Int32.ofInt x).toInt = x := by rw [zI_toInt, w32_id h]
theorem zI_of (x : Int32) : Int32.ofInt x.toInt = x := Int32.ofInt_toInt x
theorem zI_rn (x : Int32) : zrn x.toInt := ⟨by have := x.le_toInt; omega, by have := x.toInt_lt; omega⟩
theorem zI_w (x : Int) : Int32.ofInt (w32 x) = Int32.ofInt x := by
  rw [← Int32.toInt_inj, zI_toInt, zI_toInt, w32_id (w32_rn x)]
theorem zI_add (x y : Int) : Int32.ofInt (w32 (x + y)) = Int32.ofInt x + Int32.ofInt y := by rw [zI_w, Int32.ofInt_add]
theorem zI_sub (x y : Int) : Int32.ofInt (w32 (x - y)) = Int32.ofInt x - Int32.ofInt y := by rw [zI_w, Int32.ofInt_sub]
theorem zI_mul (x y : Int) : Int32.ofInt (w32 (x * y)) = Int32.ofInt x * Int32.ofInt y := by rw [zI_w, Int32.ofInt_mul]
theorem zI_neg (x : Int) : Int32.ofInt (w32 (-x)) = -Int32.ofInt x := by rw [zI_w, Int32.ofInt_neg]
theorem zI_inj {x y : Int} (hx : zrn x) (hy : zrn y) : Int32.ofInt x = Int32.ofInt y ↔ x = y := by
  rw [← Int32.toInt_inj, zI_in hx, zI_in hy]
theorem zI_lt {x y : Int} (hx : zrn x) (hy : zrn y) : Int32.ofInt x < Int32.ofInt y ↔ x < y := by
  rw [Int32.lt_iff_toInt_lt, zI_in hx, zI_in hy]
theorem zI_le {x y : Int} (hx : zrn x) (hy : zrn y) : Int32.ofInt x ≤ Int32.ofInt y ↔ x ≤ y := by
  rw [Int32.le_iff_toInt_le, zI_in hx, zI_in hy]
theorem zrn0 : zrn 0 := ⟨by decide, by decide⟩
theorem zI0 : Int32.ofInt 0 = 0 := by decide
theorem zI_lt0 {x : Int} (hx : zrn x) : Int32.ofInt x < 0 ↔ x < 0 := by rw [← zI0]; exact zI_lt hx zrn0
theorem zI_le0 {x : Int} (hx : zrn x) : Int32.ofInt x ≤ 0 ↔ x ≤ 0 := by rw [← zI0]; exact zI_le hx zrn0
theorem zI_gt0 {x : Int} (hx : zrn x) : 0 < Int32.ofInt x ↔ 0 < x := by rw [← zI0]; exact zI_lt zrn0 hx
theorem zI_ge0 {x : Int} (hx : zrn x) : 0 ≤ Int32.ofInt x ↔ 0 ≤ x := by rw [← zI0]; exact zI_le zrn0 hx
theorem zI_eq0 {x : Int} (hx : zrn x) : Int32.ofInt x = 0 ↔ x = 0 := by rw [← zI0]; exact zI_inj hx zrn0
theorem zI_cl {x : Int} (h : zrn x) : (Int32.ofInt x).toNatClampNeg = x.toNat := by
  show (Int32.ofInt x).toInt.toNat = x.toNat
  rw [zI_in h]
theorem zI_vp {x : Int} {n : Nat} (h : zrn x) (h0 : 0 ≤ x) (h1 : x < (n : Int)) : vp_in (Int32.ofInt x) n := by
  unfold vp_in
  rw [zI_lt0 h, zI_cl h]
  omega
theorem zI_div {x y : Int} (hx : zrn x) (hy : zrn y) (h0 : 0 ≤ x) (h1 : 0 < y) : Int32.ofInt (x / y) = Int32.ofInt x / Int32.ofInt y ∧ zrn (x / y) := by
  have h2 : 0 ≤ x / y := Int.ediv_nonneg h0 (Int.le_of_lt h1)
  have h3 : x / y ≤ x := Int.ediv_le_self y h0
  have h4 : zrn (x / y) := by unfold zrn at hx ⊢; omega
  refine ⟨?_, h4⟩
  rw [← Int32.toInt_inj, zI_in h4, Int32.toInt_div, zI_in hx, zI_in hy, Int.tdiv_eq_ediv_of_nonneg h0]
  exact (w32_id h4).symm
theorem zI_rem {x y : Int} (hx : zrn x) (hy : zrn y) (h0 : 0 ≤ x) (h1 : 0 < y) : Int32.ofInt (x % y) = Int32.ofInt x - Int32.ofInt x / Int32.ofInt y * Int32.ofInt y ∧ zrn (x % y) := by
  have h2 : 0 ≤ x % y := Int.emod_nonneg x (Int.ne_of_gt h1)
  have h3 : x % y < y := Int.emod_lt_of_pos x h1
  have h4 : zrn (x % y) := by unfold zrn at hy ⊢; omega
  refine ⟨?_, h4⟩
  rw [← (zI_div hx hy h0 h1).1, ← zI_mul, ← zI_sub, zI_w]
  congr 1
  rw [Int.emod_def, Int.mul_comm y (x / y)]
  have h5 : zrn (x / y * y) := by
    have := Int.ediv_mul_le x (Int.ne_of_gt h1)
    have h6 : 0 ≤ x / y * y := Int.mul_nonneg (Int.ediv_nonneg h0 (Int.le_of_lt h1)) (Int.le_of_lt h1)
    unfold zrn at hx ⊢; omega
  rw [w32_id h5]
theorem zI_and (x y : Int) : Int32.ofInt (bAnd x y) = Int32.ofInt x &&& Int32.ofInt y ∧ zrn (bAnd x y) := ⟨zI_of _, zI_rn _⟩
theorem zI_or (x y : Int) : Int32.ofInt (bOr x y) = Int32.ofInt x ||| Int32.ofInt y ∧ zrn (bOr x y) := ⟨zI_of _, zI_rn _⟩
theorem zI_xor (x y : Int) : Int32.ofInt (bXor x y) = Int32.ofInt x ^^^ Int32.ofInt y ∧ zrn (bXor x y) := ⟨zI_of _, zI_rn _⟩
theorem zI_shl (x y : Int) : Int32.ofInt (bShl x y) = Int32.ofInt x <<< (Int32.ofInt y &&& 31) ∧ zrn (bShl x y) := ⟨zI_of _, zI_rn _⟩
theorem zI_shr (x y : Int) : Int32.ofInt (bShr x y) = Int32.ofInt x >>> (Int32.ofInt y &&& 31) ∧ zrn (bShr x y) := ⟨zI_of _, zI_rn _⟩
theorem zI_ush (x y : Int) : Int32.ofInt (bUsh x y) = ((Int32.ofInt x).toUInt32 >>> ((Int32.ofInt y).toUInt32 &&& Int32.toUInt32 31)).toInt32 ∧ zrn (bUsh x y) := ⟨zI_of _, zI_rn _⟩
theorem zI_lcmp (x y : Int64) : Int32.ofInt (zlc x y) = lg_cmp x y ∧ zrn (zlc x y) := by
  unfold zlc lg_cmp
  by_cases h1 : y < x
  · rw [if_pos h1, if_pos h1]; exact ⟨by decide, by decide, by decide⟩
  · rw [if_neg h1, if_neg h1]
    by_cases h2 : x = y
    · rw [if_pos h2, if_pos h2]; exact ⟨by decide, by decide, by decide⟩
    · rw [if_neg h2, if_neg h2]; exact ⟨by decide, by decide, by decide⟩
theorem zI_i2l {x : Int} (h : zrn x) : (Int32.ofInt x).toInt64 = Int64.ofInt x := by
  rw [← Int64.toInt_inj, Int32.toInt_toInt64, zI_in h, Int64.toInt_ofInt]
  rw [Int.bmod_def, show (Int64.size : Int) = 18446744073709551616 from rfl]
  unfold zrn at h
  split <;> omega
theorem zrn_nat {n : Nat} (h : n ≤ 100000) : zrn (n : Int) := by unfold zrn; omega
theorem zI_nat {n : Nat} : Int32.ofInt (n : Int) = Int32.ofNat n := rfl
theorem zrgb_rn {c : Int} (h : zrgb c = true) : zrn c := by
  unfold zrgb at h
  rw [Bool.and_eq_true] at h
  exact ⟨of_decide_eq_true h.1, of_decide_eq_true h.2⟩
/-! the lists -/
theorem zgt_eq {α : Type} : ∀ (l : List α) (k : Nat), zgt l k = l[k]? := by
  intro l
  induction l with
  | nil => intro k; simp [zgt]
  | cons a l ih =>
    intro k
    cases k with
    | zero => simp [zgt]
    | succ k => simp [zgt, ih]
theorem zput_some {β : Type} : ∀ {L : List ZV} {i : Nat} {v : ZV} {k : List ZV → Option β} {r : β}, zput L i v k = some r → i < L.length ∧ k (L.set i v) = some r := by
  intro L
  induction L with
  | nil => intro i v k r h; cases h
  | cons a l ih =>
    intro i v k r h
    cases i with
    | zero => exact ⟨Nat.zero_lt_succ _, h⟩
    | succ i =>
      obtain ⟨h1, h2⟩ := ih (i := i) (v := v) (k := fun l' => k (a :: l')) h
      exact ⟨Nat.succ_lt_succ h1, h2⟩
