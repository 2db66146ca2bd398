/-! what an office is: a row of 214 whole numbers, as the reference keeps it; and how the class keeps it -/
/-- the first place below n where f is x; n, if there is none -/
def fnd (f : Nat → Int) (x : Int) : Nat → Nat
  | 0 => 0
  | n + 1 => if fnd f x n < n then fnd f x n else if f n = x then n else n + 1
theorem fnd_le (f : Nat → Int) (x : Int) : ∀ n, fnd f x n ≤ n := by
  intro n
  induction n with
  | zero => exact Nat.le_refl _
  | succ n ih =>
    unfold fnd
    split
    · omega
    · split <;> omega
theorem fnd_none {f : Nat → Int} {x : Int} : ∀ {n : Nat}, (∀ j, j < n → f j ≠ x) → fnd f x n = n := by
  intro n
  induction n with
  | zero => intro _; rfl
  | succ n ih =>
    intro h
    have h1 := ih (fun j hj => h j (by omega))
    unfold fnd
    rw [if_neg (by omega), if_neg (h n (by omega))]
theorem fnd_some {f : Nat → Int} {x : Int} : ∀ {n k : Nat}, k < n → f k = x → (∀ j, j < k → f j ≠ x) → fnd f x n = k := by
  intro n
  induction n with
  | zero => intro k h; omega
  | succ n ih =>
    intro k hk hx hj
    by_cases hkn : k < n
    · have h1 := ih hkn hx hj
      unfold fnd
      rw [if_pos (by omega), h1]
    · have hkn : k = n := by omega
      subst hkn
      have h1 := fnd_none hj
      unfold fnd
      rw [if_neg (by omega), if_pos hx]
theorem fnd_spec {f : Nat → Int} {x : Int} {n : Nat} : (fnd f x n < n ∧ f (fnd f x n) = x ∧ ∀ j, j < fnd f x n → f j ≠ x) ∨ (fnd f x n = n ∧ ∀ j, j < n → f j ≠ x) := by
  induction n with
  | zero => exact Or.inr ⟨rfl, fun j h => by omega⟩
  | succ n ih =>
    rcases ih with ⟨h1, h2, h3⟩ | ⟨h1, h2⟩
    · have e : fnd f x (n + 1) = fnd f x n := by
        conv => lhs; unfold fnd
        rw [if_pos h1]
      rw [e]
      exact Or.inl ⟨by omega, h2, h3⟩
    · by_cases hx : f n = x
      · have e := fnd_some (n := n + 1) (k := n) (by omega) hx h2
        rw [e]
        exact Or.inl ⟨by omega, hx, h2⟩
      · refine Or.inr ⟨fnd_none fun j hj => ?_, fun j hj => ?_⟩
        · by_cases e : j = n
          · subst e; exact hx
          · exact h2 j (by omega)
        · by_cases e : j = n
          · subst e; exact hx
          · exact h2 j (by omega)
theorem fnd_congr {f g : Nat → Int} {x : Int} {n : Nat} (h : ∀ j, j < n → f j = g j) : fnd f x n = fnd g x n := by
  rcases fnd_spec (f := f) (x := x) (n := n) with ⟨h1, h2, h3⟩ | ⟨h1, h2⟩
  · exact (fnd_some h1 (by rw [← h _ h1]; exact h2) (fun j hj => by rw [← h j (by omega)]; exact h3 j hj)).symm
  · rw [h1]
    exact (fnd_none fun j hj => by rw [← h j hj]; exact h2 j hj).symm
/-- the claim with which the bag in row r is matched -/
def cw (V : Nat → Int) (nc r : Nat) : Int := if fnd (fun c => V (114 + 10 * c + 9)) (V (18 + 8 * r)) nc < nc then V (114 + 10 * fnd (fun c => V (114 + 10 * c + 9)) (V (18 + 8 * r)) nc) else -10006
/-- the bag with which the claim in row r is matched -/
def pt (V : Nat → Int) (r : Nat) : Int := if V (114 + 10 * r + 9) = 0 then -10006 else V (114 + 10 * r + 9)
/-- the rows of bags and claims -/
def rkB (V : Nat → Int) (nb : Nat) (x : Int) : Nat := fnd (fun r => V (18 + 8 * r)) x nb
def rkC (V : Nat → Int) (nc : Nat) (x : Int) : Nat := fnd (fun r => V (114 + 10 * r)) x nc
/-- an office of the class, at the cell o, holds V -/
def OfRel (M : Me) (o : Nat) (V : Nat → Int) (nb nc : Nat) : Prop :=
  (M o 3 = V 0 ∧ M o 4 = V 1 ∧ M o 5 = V 2 ∧ M o 6 = V 3 ∧ M o 7 = V 14 ∧ M o 8 = V 15 ∧ M o 9 = V 16 ∧ M o 10 = V 17) ∧ (∀ i, i < 6 → M (o + 7) i = V (4 + i)) ∧
  (M (o + 1) 3 = (nb : Int) ∧ M (o + 1) 4 = V 11 ∧ M (o + 4) 3 = (nc : Int) ∧ M (o + 4) 4 = V 13) ∧
  (∀ r, r < nb → M (o + 2) r = V (18 + 8 * r) ∧ (∀ c, c < 7 → M (o + 3) (8 * r + c) = V (18 + 8 * r + 1 + c)) ∧ M (o + 3) (8 * r + 7) = cw V nc r) ∧
  (∀ r, r < nc → M (o + 5) r = V (114 + 10 * r) ∧ (∀ c, c < 8 → M (o + 6) (9 * r + c) = V (114 + 10 * r + 1 + c)) ∧ M (o + 6) (9 * r + 8) = pt V r)
def BOK (V : Nat → Int) (r : Nat) : Prop := 1 ≤ V (18 + 8 * r) ∧ V (18 + 8 * r) ≤ V 11 ∧ (0 ≤ V (18 + 8 * r + 1) ∧ V (18 + 8 * r + 1) ≤ 7) ∧ (0 ≤ V (18 + 8 * r + 2) ∧ V (18 + 8 * r + 2) ≤ 999999) ∧ (0 ≤ V (18 + 8 * r + 3) ∧ V (18 + 8 * r + 3) ≤ 63) ∧ (0 ≤ V (18 + 8 * r + 4) ∧ V (18 + 8 * r + 4) ≤ 7) ∧ (0 ≤ V (18 + 8 * r + 5) ∧ V (18 + 8 * r + 5) ≤ 11) ∧ (0 ≤ V (18 + 8 * r + 6) ∧ V (18 + 8 * r + 6) ≤ 255) ∧ 0 ≤ V (18 + 8 * r + 7) ∧ V (18 + 8 * r + 7) ≤ 9999
def COK (V : Nat → Int) (r : Nat) : Prop := 1 ≤ V (114 + 10 * r) ∧ V (114 + 10 * r) ≤ V 13 ∧ (0 ≤ V (114 + 10 * r + 1) ∧ V (114 + 10 * r + 1) ≤ 999999) ∧ (0 ≤ V (114 + 10 * r + 2) ∧ V (114 + 10 * r + 2) ≤ 7) ∧ (0 ≤ V (114 + 10 * r + 3) ∧ V (114 + 10 * r + 3) ≤ 11) ∧ (0 ≤ V (114 + 10 * r + 4) ∧ V (114 + 10 * r + 4) ≤ 255) ∧ (1 ≤ V (114 + 10 * r + 5) ∧ V (114 + 10 * r + 5) ≤ 255) ∧ (1 ≤ V (114 + 10 * r + 6) ∧ V (114 + 10 * r + 6) ≤ 99999) ∧ (0 ≤ V (114 + 10 * r + 7) ∧ V (114 + 10 * r + 7) ≤ 20) ∧ (-30 ≤ V (114 + 10 * r + 8) ∧ V (114 + 10 * r + 8) ≤ 9999) ∧ 0 ≤ V (114 + 10 * r + 9) ∧ V (114 + 10 * r + 9) ≤ V 11
def WF (V : Nat → Int) (nb nc t : Nat) : Prop :=
  (V 10 = (nb : Int) ∧ V 12 = (nc : Int) ∧ nb ≤ 12 ∧ nc ≤ 10) ∧
  ((0 ≤ V 0 ∧ V 0 ≤ 9999) ∧ (0 ≤ V 1 ∧ V 1 ≤ 200) ∧ (0 ≤ V 2 ∧ V 2 ≤ 500) ∧ (0 ≤ V 3 ∧ V 3 ≤ 9999) ∧ (∀ i, i < 6 → 0 ≤ V (4 + i) ∧ V (4 + i) ≤ 50) ∧ (0 ≤ V 11 ∧ V 11 ≤ 12 * t) ∧ (0 ≤ V 13 ∧ V 13 ≤ 12 * t)) ∧
  (∀ r, r < nb → BOK V r) ∧ (∀ r, r < nc → COK V r) ∧
  (∀ r q, r < nb → q < nb → V (18 + 8 * r) = V (18 + 8 * q) → r = q) ∧
  (∀ r, r < nc → V (114 + 10 * r + 9) ≠ 0 → ∃ b, b < nb ∧ V (18 + 8 * b) = V (114 + 10 * r + 9)) ∧
  (∀ r q, r < nc → q < nc → V (114 + 10 * r + 9) = V (114 + 10 * q + 9) → V (114 + 10 * r + 9) ≠ 0 → r = q)
/-- the saved states of the class, the oldest first -/
def HiRel (M : Me) (kn : Nat) (P : Nat → Nat → Int) : Prop := ∃ nx : Nat, nx < 6 ∧ M 9 1 = (nx : Int) ∧ M 9 2 = (kn : Int) ∧ kn ≤ 6 ∧ ∀ c, c < kn → ∃ nb nc : Nat, P c 10 = (nb : Int) ∧ P c 12 = (nc : Int) ∧ OfRel M (11 + 8 * ((nx + 6 - kn + c) % 6)) (P c) nb nc
/-- the class's object holds the state -/
def CRel (M : Me) (V : Nat → Int) (nb nc kn : Nat) (P : Nat → Nat → Int) (len : Nat) (tx : Nat → Int) (p0 p1 p2 : Int) : Prop :=
  OfRel M 1 V nb nc ∧ (M 2 0 = 8 ∧ M 5 0 = 9) ∧ HiRel M kn P ∧ (M 59 1 = (len : Int) ∧ ∀ i, i < len → M 60 i = tx i) ∧ (M 71 0 = p0 ∧ M 71 1 = p1 ∧ M 71 2 = p2)
/-- the reference holds it -/
def MRel (M : Me) (V : Nat → Int) (kn : Nat) (P : Nat → Nat → Int) (len : Nat) (tx : Nat → Int) (p0 p1 p2 : Int) : Prop :=
  (∀ j, j < 214 → M 75 j = V j) ∧ (M 74 2 = (kn : Int) ∧ ∀ c j, c < kn → j < 214 → M 76 (214 * c + j) = P c j) ∧ (M 74 4 = (len : Int) ∧ ∀ i, i < len → M 77 i = tx i) ∧ (M 74 5 = p0 ∧ M 74 6 = p1 ∧ M 74 7 = p2)
/-- the state is in order after t calls -/
def SOK (V : Nat → Int) (nb nc kn : Nat) (P : Nat → Nat → Int) (len : Nat) (tx : Nat → Int) (t : Nat) : Prop :=
  WF V nb nc t ∧ kn ≤ 6 ∧ (∀ c, c < kn → ∃ nb' nc' : Nat, WF (P c) nb' nc' t) ∧ len ≤ 80 ∧ ∀ i, i < len → 33 ≤ tx i ∧ tx i ≤ 126
def svK (kn : Nat) : Nat := if kn = 6 then 6 else kn + 1
def svP (kn : Nat) (V : Nat → Int) (P : Nat → Nat → Int) : Nat → Nat → Int := fun c => if kn = 6 then (if c < 5 then P (c + 1) else V) else (if c < kn then P c else V)
theorem OfRel.kept {M M' : Me} {o : Nat} {V : Nat → Int} {nb nc : Nat} (h : OfRel M o V nb nc) (hk : ∀ k, o ≤ k → k < o + 8 → M' k = M k) : OfRel M' o V nb nc := by
  unfold OfRel at h ⊢
  rw [hk o (by omega) (by omega), hk (o + 1) (by omega) (by omega), hk (o + 2) (by omega) (by omega), hk (o + 3) (by omega) (by omega), hk (o + 4) (by omega) (by omega), hk (o + 5) (by omega) (by omega), hk (o + 6) (by omega) (by omega), hk (o + 7) (by omega) (by omega)]
  exact h
theorem HiRel.kept {M M' : Me} {kn : Nat} {P : Nat → Nat → Int} (h : HiRel M kn P) (hk : ∀ k, 9 ≤ k → k < 59 → M' k = M k) : HiRel M' kn P := by
  obtain ⟨nx, h1, h2, h3, h4, h5⟩ := h
  refine ⟨nx, h1, by rw [hk 9 (by omega) (by omega)]; exact h2, by rw [hk 9 (by omega) (by omega)]; exact h3, h4, fun c hc => ?_⟩
  obtain ⟨nb, nc, e1, e2, e3⟩ := h5 c hc
  exact ⟨nb, nc, e1, e2, e3.kept (fun k g1 g2 => hk k (by omega) (by omega))⟩
theorem CRel.kept {M M' : Me} {V : Nat → Int} {nb nc kn : Nat} {P : Nat → Nat → Int} {len : Nat} {tx : Nat → Int} {p0 p1 p2 : Int} (h : CRel M V nb nc kn P len tx p0 p1 p2) (hk : ∀ k, k < 61 ∨ k = 71 → M' k = M k) : CRel M' V nb nc kn P len tx p0 p1 p2 := by
  obtain ⟨h1, h2, h3, h4, h5⟩ := h
  refine ⟨h1.kept (fun k _ g => hk k (by omega)), ?_, h3.kept (fun k _ g => hk k (by omega)), ?_, ?_⟩
  · rw [hk 2 (by omega), hk 5 (by omega)]; exact h2
  · rw [hk 59 (by omega), hk 60 (by omega)]; exact h4
  · rw [hk 71 (by omega)]; exact h5
theorem MRel.kept {M M' : Me} {V : Nat → Int} {kn : Nat} {P : Nat → Nat → Int} {len : Nat} {tx : Nat → Int} {p0 p1 p2 : Int} (h : MRel M V kn P len tx p0 p1 p2) (hk : ∀ k, 74 ≤ k → k < 78 → M' k = M k) : MRel M' V kn P len tx p0 p1 p2 := by
  unfold MRel at h ⊢
  rw [hk 74 (by omega) (by omega), hk 75 (by omega) (by omega), hk 76 (by omega) (by omega), hk 77 (by omega) (by omega)]
  exact h
