def sumI (f : Nat → Int) : Nat → Int
  | 0 => 0
  | n + 1 => sumI f n + f n
theorem sumI_bd {f : Nat → Int} : ∀ n : Nat, (∀ j, j < n → 0 ≤ f j ∧ f j ≤ 1) → 0 ≤ sumI f n ∧ sumI f n ≤ n := by
  intro n
  induction n with
  | zero => intro _; exact ⟨Int.le_refl _, Int.le_refl _⟩
  | succ n ih =>
    intro h
    have h1 := ih (fun j hj => h j (by omega))
    have h2 := h n (by omega)
    show 0 ≤ sumI f n + f n ∧ sumI f n + f n ≤ ((n + 1 : Nat) : Int)
    omega
theorem sumI_congr {f g : Nat → Int} : ∀ n : Nat, (∀ j, j < n → f j = g j) → sumI f n = sumI g n := by
  intro n
  induction n with
  | zero => intro _; rfl
  | succ n ih =>
    intro h
    show sumI f n + f n = sumI g n + g n
    rw [ih (fun j hj => h j (by omega)), h n (by omega)]
/-- a hash over numbers -/
def hfold (f : Nat → Int) (s : Int64) : Nat → Int64
  | 0 => s
  | k + 1 => 31 * hfold f s k + Int64.ofInt (f k)
theorem hfold_congr {f g : Nat → Int} {s : Int64} : ∀ n : Nat, (∀ j, j < n → f j = g j) → hfold f s n = hfold g s n := by
  intro n
  induction n with
  | zero => intro _; rfl
  | succ n ih =>
    intro h
    show 31 * hfold f s n + Int64.ofInt (f n) = 31 * hfold g s n + Int64.ofInt (g n)
    rw [ih (fun j hj => h j (by omega)), h n (by omega)]
theorem m_outside (v l g : Int) (M : Me) (h : Ml) : Wp zS0 tX8_outside none 0 [zi v, zi l, zi g] [] M h (Ri (if v < l ∨ g < v then 1 else 0) M h) := by
  repeat' first | refine Wp.g1 rfl ?_ | refine Wp.br rfl (fun _ => ?_) (fun _ => ?_)
  all_goals refine Wp.rei rfl ?_ rfl rfl
  all_goals (split <;> omega)
theorem m2_rows (M : Me) (h : Ml) : Wp zS0 tX6_rows none 0 [zr 2] [] M h (Ri (M 2 3) M h) := by
  refine Wp.g1 rfl ?_
  exact Wp.rei rfl rfl rfl rfl
theorem m2_isFull (n : Nat) (M : Me) (h : Ml) (hn : M 2 3 = (n : Int)) : Wp zS0 tX6_isFull none 0 [zr 2] [] M h (Ri (if 12 ≤ n then 1 else 0) M h) := by
  repeat' first | refine Wp.g1 rfl ?_ | refine Wp.br rfl (fun _ => ?_) (fun _ => ?_)
  all_goals refine Wp.rei rfl ?_ rfl rfl
  all_goals (split <;> omega)
theorem m2_hasRow (row : Int) (n : Nat) (M : Me) (h : Ml) (hn : M 2 3 = (n : Int)) (hR : n ≤ 12) : Wp zS0 tX6_hasRow none 0 [zr 2, zi row] [] M h (Ri (if 0 ≤ row ∧ row < (n : Int) then 1 else 0) M h) := by
  repeat' first | refine Wp.g1 rfl ?_ | refine Wp.br rfl (fun _ => ?_) (fun _ => ?_)
  all_goals refine Wp.rei rfl ?_ rfl rfl
  all_goals (split <;> omega)
theorem m2_rowOf (x : Int) (n : Nat) (M : Me) (h : Ml) (hn : M 2 3 = (n : Int)) (hR : n ≤ 12) : Wp zS0 tX6_rowOf none 0 [zr 2, zi x, zn] [] M h (Ri (if fnd (M 3) x n < n then (fnd (M 3) x n : Int) else -1) M h) := by
  have loop : ∀ d r : Nat, r + d = n → (∀ j, j < r → M 3 j ≠ x) → Wp zS0 tX6_rowOf none 2 [zr 2, zi x, zi r] [] M h (Ri (if fnd (M 3) x n < n then (fnd (M 3) x n : Int) else -1) M h) := by
    intro d
    induction d with
    | zero =>
      intro r hr hj
      have e := fnd_none (n := n) (f := M 3) (x := x) (fun j h1 => hj j (by omega))
      refine Wp.g1 rfl ?_
      refine Wp.brt rfl (by omega) ?_
      refine Wp.g1 rfl ?_
      exact Wp.rei rfl (by rw [if_neg (by omega)]) rfl rfl
    | succ d ih =>
      intro r hr hj
      refine Wp.g1 rfl ?_
      refine Wp.brf rfl (by omega) ?_
      refine Wp.g1 rfl ?_
      refine Wp.brf rfl (by omega) ?_
      refine Wp.g1 rfl ?_
      refine Wp.ld rfl rfl r rfl (by omega) ?_
      refine Wp.g1 rfl ?_
      refine Wp.br rfl (fun c => ?_) (fun c => ?_)
      · refine Wp.gt 2 rfl ?_
        rw [show w32 ((r : Int) + 1) = ((r + 1 : Nat) : Int) by simp only [w32_def]; omega]
        exact ih (r + 1) (by omega) (fun j h1 => by
          by_cases e : j = r
          · subst e; exact c
          · exact hj j (by omega))
      · have c : M 3 r = x := Decidable.not_not.mp c
        have e := fnd_some (n := n) (f := M 3) (x := x) (k := r) (by omega) c hj
        refine Wp.g1 rfl ?_
        exact Wp.rei rfl (by rw [e, if_pos (by omega)]) rfl rfl
  refine Wp.gt 2 rfl ?_
  exact loop n 0 (by omega) (fun j h1 => by omega)
theorem m2_numberOf (r n : Nat) (M : Me) (h : Ml) (hn : M 2 3 = (n : Int)) (hR : n ≤ 12) (hr : r < n) : Wp zS0 tX6_numberOf none 0 [zr 2, zi r] [] M h (Ri (M 3 r) M h) := by
  refine Wp.g1 rfl ?_
  refine Wp.calli rfl (m2_hasRow _ n M h hn hR) ?_
  refine Wp.brf rfl (by split <;> omega) ?_
  refine Wp.g1 rfl ?_
  refine Wp.ld rfl rfl r rfl (by omega) ?_
  refine Wp.g1 rfl ?_
  exact Wp.rei rfl rfl rfl rfl
theorem m2_get (r c n : Nat) (M : Me) (h : Ml) (hw : M 2 0 = 8) (hn : M 2 3 = (n : Int)) (hR : n ≤ 12) (hr : r < n) (hc : c < 8) : Wp zS0 tX6_get none 0 [zr 2, zi r, zi c] [] M h (Ri (M 4 (8 * r + c)) M h) := by
  refine Wp.g1 rfl ?_
  refine Wp.calli rfl (m2_hasRow _ n M h hn hR) ?_
  refine Wp.brf rfl (by split <;> omega) ?_
  refine Wp.g1 rfl ?_
  refine Wp.calli rfl (m_outside _ _ _ M h) ?_
  refine Wp.brt rfl (by simp only [w32_def]; split <;> omega) ?_
  refine Wp.g1 rfl ?_
  refine Wp.ld rfl rfl (8 * r + c) (by simp only [w32_def]; rw [hw]; omega) (by omega) ?_
  exact Wp.rei rfl rfl rfl rfl
theorem m2_put (r c n : Nat) (v : Int) (M : Me) (h : Ml) (hw : M 2 0 = 8) (hn : M 2 3 = (n : Int)) (hR : n ≤ 12) (hr : r < n) (hc : c < 8) : Wp zS0 tX6_put none 0 [zr 2, zi r, zi c, zi v] [] M h (Rv (upd2 M 4 (8 * r + c) v) h) := by
  refine Wp.g1 rfl ?_
  refine Wp.calli rfl (m2_hasRow _ n M h hn hR) ?_
  refine Wp.brf rfl (by split <;> omega) ?_
  refine Wp.g1 rfl ?_
  refine Wp.calli rfl (m_outside _ _ _ M h) ?_
  refine Wp.brf rfl (by simp only [w32_def]; split <;> omega) ?_
  refine Wp.g1 rfl ?_
  refine Wp.sto rfl rfl (8 * r + c) (by simp only [w32_def]; rw [hw]; omega) (by omega) ?_
  exact Wp.rev rfl rfl rfl
theorem m2_partner (r n : Nat) (M : Me) (h : Ml) (hw : M 2 0 = 8) (hn : M 2 3 = (n : Int)) (hR : n ≤ 12) (hr : r < n) : Wp zS0 tX6_partner none 0 [zr 2, zi r] [] M h (Ri (M 4 (8 * r + 7)) M h) := by
  refine Wp.g1 rfl ?_
  rw [show w32 (M 2 0 - 1) = ((7 : Nat) : Int) by simp only [w32_def]; rw [hw]; rfl]
  refine Wp.calli rfl (m2_get r 7 n M h hw hn hR hr (by omega)) ?_
  exact Wp.rei rfl rfl rfl rfl
theorem m2_setPartner (r n : Nat) (v : Int) (M : Me) (h : Ml) (hw : M 2 0 = 8) (hn : M 2 3 = (n : Int)) (hR : n ≤ 12) (hr : r < n) : Wp zS0 tX6_setPartner none 0 [zr 2, zi r, zi v] [] M h (Rv (upd2 M 4 (8 * r + 7) v) h) := by
  refine Wp.g1 rfl ?_
  rw [show w32 (M 2 0 - 1) = ((7 : Nat) : Int) by simp only [w32_def]; rw [hw]; rfl]
  refine Wp.callv rfl (m2_put r 7 n v M h hw hn hR hr (by omega)) ?_
  exact Wp.rev rfl rfl rfl
theorem m2_isFree (r n : Nat) (M : Me) (h : Ml) (hw : M 2 0 = 8) (hn : M 2 3 = (n : Int)) (hR : n ≤ 12) : Wp zS0 tX6_isFree none 0 [zr 2, zi r] [] M h (Ri (if r < n ∧ M 4 (8 * r + 7) = -10006 then 1 else 0) M h) := by
  refine Wp.g1 rfl ?_
  refine Wp.calli rfl (m2_hasRow _ n M h hn hR) ?_
  by_cases hr : r < n
  · refine Wp.brf rfl (by split <;> omega) ?_
    refine Wp.g1 rfl ?_
    refine Wp.ld rfl rfl (8 * r + 7) (by simp only [w32_def]; rw [hw]; omega) (by omega) ?_
    refine Wp.g1 rfl ?_
    refine Wp.br rfl (fun c => ?_) (fun c => ?_)
    · refine Wp.g1 rfl ?_
      exact Wp.rei rfl (by rw [if_neg (fun q => c q.2)]) rfl rfl
    · refine Wp.g1 rfl ?_
      exact Wp.rei rfl (by rw [if_pos ⟨hr, Decidable.not_not.mp c⟩]) rfl rfl
  · refine Wp.brt rfl (by split <;> omega) ?_
    refine Wp.g1 rfl ?_
    exact Wp.rei rfl (by rw [if_neg (fun q => hr q.1)]) rfl rfl
theorem m2_matchedRows (n : Nat) (M : Me) (h : Ml) (hw : M 2 0 = 8) (hn : M 2 3 = (n : Int)) (hR : n ≤ 12) : Wp zS0 tX6_matchedRows none 0 [zr 2, zn, zn] [] M h (Ri (sumI (fun r => if M 4 (8 * r + 7) = -10006 then 0 else 1) n) M h) := by
  have loop : ∀ d r : Nat, r + d = n → Wp zS0 tX6_matchedRows none 4 [zr 2, zi (sumI (fun r => if M 4 (8 * r + 7) = -10006 then 0 else 1) r), zi r] [] M h (Ri (sumI (fun r => if M 4 (8 * r + 7) = -10006 then 0 else 1) n) M h) := by
    intro d
    induction d with
    | zero =>
      intro r hr
      refine Wp.g1 rfl ?_
      refine Wp.brt rfl (by omega) ?_
      refine Wp.g1 rfl ?_
      have e : r = n := by omega
      subst e
      exact Wp.rei rfl rfl rfl rfl
    | succ d ih =>
      intro r hr
      have hb := sumI_bd (f := fun r => if M 4 (8 * r + 7) = -10006 then 0 else 1) r (fun j _ => by split <;> omega)
      refine Wp.g1 rfl ?_
      refine Wp.brf rfl (by omega) ?_
      refine Wp.g1 rfl ?_
      refine Wp.calli rfl (m2_isFree r n M h hw hn hR) ?_
      have e1 : w32 ((r : Int) + 1) = ((r + 1 : Nat) : Int) := by simp only [w32_def]; omega
      have ih' := ih (r + 1) (by omega)
      have e3 : sumI (fun r => if M 4 (8 * r + 7) = -10006 then 0 else 1) (r + 1) = sumI (fun r => if M 4 (8 * r + 7) = -10006 then 0 else 1) r + (if M 4 (8 * r + 7) = -10006 then 0 else 1) := rfl
      rw [e3] at ih'
      by_cases hf : M 4 (8 * r + 7) = -10006
      · refine Wp.brt rfl (by rw [if_pos ⟨by omega, hf⟩]; decide) ?_
        refine Wp.gt 4 rfl ?_
        rw [e1]
        rw [if_pos hf, Int.add_zero] at ih'
        exact ih'
      · refine Wp.brf rfl (by rw [if_neg (fun q => hf q.2)]; decide) ?_
        refine Wp.gt 4 rfl ?_
        rw [e1, show w32 (sumI (fun r => if M 4 (8 * r + 7) = -10006 then 0 else 1) r + 1) = sumI (fun r => if M 4 (8 * r + 7) = -10006 then 0 else 1) r + 1 by simp only [w32_def]; omega]
        rw [if_neg hf] at ih'
        exact ih'
  refine Wp.gt 4 rfl ?_
  exact loop n 0 (by omega)
theorem m2_append (n : Nat) (M : Me) (h : Ml) (hw : M 2 0 = 8) (hn : M 2 3 = (n : Int)) (hR : n < 12) : Wp zS0 tX6_append none 0 [zr 2, zn] [] M h (Ri n (upd2 (upd2 (upd2 (upd2 M 2 3 ((n + 1 : Nat) : Int)) 2 4 (w32 (M 2 4 + 1))) 3 n (w32 (M 2 4 + 1))) 4 (8 * n + 7) (-10006)) h) := by
  refine Wp.g1 rfl ?_
  refine Wp.calli rfl (m2_isFull n M h hn) ?_
  refine Wp.brt rfl (by split <;> omega) ?_
  refine Wp.g1 rfl ?_
  rw [hn, show w32 ((n : Int) + 1) = ((n + 1 : Nat) : Int) by simp only [w32_def]; omega]
  refine Wp.sto rfl rfl n rfl (by omega) ?_
  refine Wp.g1 rfl ?_
  refine Wp.callv rfl (m2_setPartner n (n + 1) (-10006) _ h ?_ ?_ (by omega) (by omega)) ?_
  · simp [upd2, hw]
  · simp [upd2]
  refine Wp.g1 rfl ?_
  refine Wp.rei rfl rfl ?_ rfl
  simp [upd2]
theorem m2_remove (r n : Nat) (M : Me) (h : Ml) (hw : M 2 0 = 8) (hn : M 2 3 = (n : Int)) (hR : n ≤ 12) (hr : r < n) : Wp zS0 tX6_remove none 0 [zr 2, zi r, zn] [] M h (Rv (upd2 (cpy2 (cpy2 M 3 3 (r + 1) r (n - r - 1)) 4 4 (8 * (r + 1)) (8 * r) (8 * (n - r - 1))) 2 3 ((n - 1 : Nat) : Int)) h) := by
  have g1 : ∀ (a b c d e : Nat), cpy2 (cpy2 M 3 3 a b c) 4 4 d e 0 2 = M 2 := fun _ _ _ _ _ => by funext j; simp [cpy2]
  refine Wp.g1 rfl ?_
  refine Wp.calli rfl (m2_hasRow _ n M h hn hR) ?_
  refine Wp.brt rfl (by split <;> omega) ?_
  refine Wp.g1 rfl ?_
  refine Wp.acp rfl rfl rfl (r + 1) r (n - r - 1) (by simp only [w32_def]; omega) rfl (by simp only [w32_def]; rw [hn]; omega) (by omega) (by omega) ?_
  refine Wp.g1 rfl ?_
  have e0 : cpy2 M 3 3 (r + 1) r (n - r - 1) 2 = M 2 := by funext j; simp [cpy2]
  refine Wp.acp rfl rfl rfl (8 * (r + 1)) (8 * r) (8 * (n - r - 1)) (by rw [e0, hw]; simp only [w32_def]; omega) (by rw [e0, hw]; simp only [w32_def]; omega) (by rw [e0, hw, hn]; simp only [w32_def]; omega) (by omega) (by omega) ?_
  refine Wp.g1 rfl ?_
  refine Wp.rev rfl ?_ rfl
  have e1 : cpy2 (cpy2 M 3 3 (r + 1) r (n - r - 1)) 4 4 (8 * (r + 1)) (8 * r) (8 * (n - r - 1)) 2 = M 2 := by funext j; simp [cpy2]
  rw [e1, hn, show w32 ((n : Int) - 1) = ((n - 1 : Nat) : Int) by simp only [w32_def]; omega]
theorem m5_rows (M : Me) (h : Ml) : Wp zS0 tX6_rows none 0 [zr 5] [] M h (Ri (M 5 3) M h) := by
  refine Wp.g1 rfl ?_
  exact Wp.rei rfl rfl rfl rfl
theorem m5_isFull (n : Nat) (M : Me) (h : Ml) (hn : M 5 3 = (n : Int)) : Wp zS0 tX6_isFull none 0 [zr 5] [] M h (Ri (if 10 ≤ n then 1 else 0) M h) := by
  repeat' first | refine Wp.g1 rfl ?_ | refine Wp.br rfl (fun _ => ?_) (fun _ => ?_)
  all_goals refine Wp.rei rfl ?_ rfl rfl
  all_goals (split <;> omega)
theorem m5_hasRow (row : Int) (n : Nat) (M : Me) (h : Ml) (hn : M 5 3 = (n : Int)) (hR : n ≤ 10) : Wp zS0 tX6_hasRow none 0 [zr 5, zi row] [] M h (Ri (if 0 ≤ row ∧ row < (n : Int) then 1 else 0) M h) := by
  repeat' first | refine Wp.g1 rfl ?_ | refine Wp.br rfl (fun _ => ?_) (fun _ => ?_)
  all_goals refine Wp.rei rfl ?_ rfl rfl
  all_goals (split <;> omega)
theorem m5_rowOf (x : Int) (n : Nat) (M : Me) (h : Ml) (hn : M 5 3 = (n : Int)) (hR : n ≤ 10) : Wp zS0 tX6_rowOf none 0 [zr 5, zi x, zn] [] M h (Ri (if fnd (M 6) x n < n then (fnd (M 6) x n : Int) else -1) M h) := by
  have loop : ∀ d r : Nat, r + d = n → (∀ j, j < r → M 6 j ≠ x) → Wp zS0 tX6_rowOf none 2 [zr 5, zi x, zi r] [] M h (Ri (if fnd (M 6) x n < n then (fnd (M 6) x n : Int) else -1) M h) := by
    intro d
    induction d with
    | zero =>
      intro r hr hj
      have e := fnd_none (n := n) (f := M 6) (x := x) (fun j h1 => hj j (by omega))
      refine Wp.g1 rfl ?_
      refine Wp.brt rfl (by omega) ?_
      refine Wp.g1 rfl ?_
      exact Wp.rei rfl (by rw [if_neg (by omega)]) rfl rfl
    | succ d ih =>
      intro r hr hj
      refine Wp.g1 rfl ?_
      refine Wp.brf rfl (by omega) ?_
      refine Wp.g1 rfl ?_
      refine Wp.brf rfl (by omega) ?_
      refine Wp.g1 rfl ?_
      refine Wp.ld rfl rfl r rfl (by omega) ?_
      refine Wp.g1 rfl ?_
      refine Wp.br rfl (fun c => ?_) (fun c => ?_)
      · refine Wp.gt 2 rfl ?_
        rw [show w32 ((r : Int) + 1) = ((r + 1 : Nat) : Int) by simp only [w32_def]; omega]
        exact ih (r + 1) (by omega) (fun j h1 => by
          by_cases e : j = r
          · subst e; exact c
          · exact hj j (by omega))
      · have c : M 6 r = x := Decidable.not_not.mp c
        have e := fnd_some (n := n) (f := M 6) (x := x) (k := r) (by omega) c hj
        refine Wp.g1 rfl ?_
        exact Wp.rei rfl (by rw [e, if_pos (by omega)]) rfl rfl
  refine Wp.gt 2 rfl ?_
  exact loop n 0 (by omega) (fun j h1 => by omega)
theorem m5_numberOf (r n : Nat) (M : Me) (h : Ml) (hn : M 5 3 = (n : Int)) (hR : n ≤ 10) (hr : r < n) : Wp zS0 tX6_numberOf none 0 [zr 5, zi r] [] M h (Ri (M 6 r) M h) := by
  refine Wp.g1 rfl ?_
  refine Wp.calli rfl (m5_hasRow _ n M h hn hR) ?_
  refine Wp.brf rfl (by split <;> omega) ?_
  refine Wp.g1 rfl ?_
  refine Wp.ld rfl rfl r rfl (by omega) ?_
  refine Wp.g1 rfl ?_
  exact Wp.rei rfl rfl rfl rfl
theorem m5_get (r c n : Nat) (M : Me) (h : Ml) (hw : M 5 0 = 9) (hn : M 5 3 = (n : Int)) (hR : n ≤ 10) (hr : r < n) (hc : c < 9) : Wp zS0 tX6_get none 0 [zr 5, zi r, zi c] [] M h (Ri (M 7 (9 * r + c)) M h) := by
  refine Wp.g1 rfl ?_
  refine Wp.calli rfl (m5_hasRow _ n M h hn hR) ?_
  refine Wp.brf rfl (by split <;> omega) ?_
  refine Wp.g1 rfl ?_
  refine Wp.calli rfl (m_outside _ _ _ M h) ?_
  refine Wp.brt rfl (by simp only [w32_def]; split <;> omega) ?_
  refine Wp.g1 rfl ?_
  refine Wp.ld rfl rfl (9 * r + c) (by simp only [w32_def]; rw [hw]; omega) (by omega) ?_
  exact Wp.rei rfl rfl rfl rfl
theorem m5_put (r c n : Nat) (v : Int) (M : Me) (h : Ml) (hw : M 5 0 = 9) (hn : M 5 3 = (n : Int)) (hR : n ≤ 10) (hr : r < n) (hc : c < 9) : Wp zS0 tX6_put none 0 [zr 5, zi r, zi c, zi v] [] M h (Rv (upd2 M 7 (9 * r + c) v) h) := by
  refine Wp.g1 rfl ?_
  refine Wp.calli rfl (m5_hasRow _ n M h hn hR) ?_
  refine Wp.brf rfl (by split <;> omega) ?_
  refine Wp.g1 rfl ?_
  refine Wp.calli rfl (m_outside _ _ _ M h) ?_
  refine Wp.brf rfl (by simp only [w32_def]; split <;> omega) ?_
  refine Wp.g1 rfl ?_
  refine Wp.sto rfl rfl (9 * r + c) (by simp only [w32_def]; rw [hw]; omega) (by omega) ?_
  exact Wp.rev rfl rfl rfl
theorem m5_partner (r n : Nat) (M : Me) (h : Ml) (hw : M 5 0 = 9) (hn : M 5 3 = (n : Int)) (hR : n ≤ 10) (hr : r < n) : Wp zS0 tX6_partner none 0 [zr 5, zi r] [] M h (Ri (M 7 (9 * r + 8)) M h) := by
  refine Wp.g1 rfl ?_
  rw [show w32 (M 5 0 - 1) = ((8 : Nat) : Int) by simp only [w32_def]; rw [hw]; rfl]
  refine Wp.calli rfl (m5_get r 8 n M h hw hn hR hr (by omega)) ?_
  exact Wp.rei rfl rfl rfl rfl
theorem m5_setPartner (r n : Nat) (v : Int) (M : Me) (h : Ml) (hw : M 5 0 = 9) (hn : M 5 3 = (n : Int)) (hR : n ≤ 10) (hr : r < n) : Wp zS0 tX6_setPartner none 0 [zr 5, zi r, zi v] [] M h (Rv (upd2 M 7 (9 * r + 8) v) h) := by
  refine Wp.g1 rfl ?_
  rw [show w32 (M 5 0 - 1) = ((8 : Nat) : Int) by simp only [w32_def]; rw [hw]; rfl]
  refine Wp.callv rfl (m5_put r 8 n v M h hw hn hR hr (by omega)) ?_
  exact Wp.rev rfl rfl rfl
theorem m5_isFree (r n : Nat) (M : Me) (h : Ml) (hw : M 5 0 = 9) (hn : M 5 3 = (n : Int)) (hR : n ≤ 10) : Wp zS0 tX6_isFree none 0 [zr 5, zi r] [] M h (Ri (if r < n ∧ M 7 (9 * r + 8) = -10006 then 1 else 0) M h) := by
  refine Wp.g1 rfl ?_
  refine Wp.calli rfl (m5_hasRow _ n M h hn hR) ?_
  by_cases hr : r < n
  · refine Wp.brf rfl (by split <;> omega) ?_
    refine Wp.g1 rfl ?_
    refine Wp.ld rfl rfl (9 * r + 8) (by simp only [w32_def]; rw [hw]; omega) (by omega) ?_
    refine Wp.g1 rfl ?_
    refine Wp.br rfl (fun c => ?_) (fun c => ?_)
    · refine Wp.g1 rfl ?_
      exact Wp.rei rfl (by rw [if_neg (fun q => c q.2)]) rfl rfl
    · refine Wp.g1 rfl ?_
      exact Wp.rei rfl (by rw [if_pos ⟨hr, Decidable.not_not.mp c⟩]) rfl rfl
  · refine Wp.brt rfl (by split <;> omega) ?_
    refine Wp.g1 rfl ?_
    exact Wp.rei rfl (by rw [if_neg (fun q => hr q.1)]) rfl rfl
theorem m5_matchedRows (n : Nat) (M : Me) (h : Ml) (hw : M 5 0 = 9) (hn : M 5 3 = (n : Int)) (hR : n ≤ 10) : Wp zS0 tX6_matchedRows none 0 [zr 5, zn, zn] [] M h (Ri (sumI (fun r => if M 7 (9 * r + 8) = -10006 then 0 else 1) n) M h) := by
  have loop : ∀ d r : Nat, r + d = n → Wp zS0 tX6_matchedRows none 4 [zr 5, zi (sumI (fun r => if M 7 (9 * r + 8) = -10006 then 0 else 1) r), zi r] [] M h (Ri (sumI (fun r => if M 7 (9 * r + 8) = -10006 then 0 else 1) n) M h) := by
    intro d
    induction d with
    | zero =>
      intro r hr
      refine Wp.g1 rfl ?_
      refine Wp.brt rfl (by omega) ?_
      refine Wp.g1 rfl ?_
      have e : r = n := by omega
      subst e
      exact Wp.rei rfl rfl rfl rfl
    | succ d ih =>
      intro r hr
      have hb := sumI_bd (f := fun r => if M 7 (9 * r + 8) = -10006 then 0 else 1) r (fun j _ => by split <;> omega)
      refine Wp.g1 rfl ?_
      refine Wp.brf rfl (by omega) ?_
      refine Wp.g1 rfl ?_
      refine Wp.calli rfl (m5_isFree r n M h hw hn hR) ?_
      have e1 : w32 ((r : Int) + 1) = ((r + 1 : Nat) : Int) := by simp only [w32_def]; omega
      have ih' := ih (r + 1) (by omega)
      have e3 : sumI (fun r => if M 7 (9 * r + 8) = -10006 then 0 else 1) (r + 1) = sumI (fun r => if M 7 (9 * r + 8) = -10006 then 0 else 1) r + (if M 7 (9 * r + 8) = -10006 then 0 else 1) := rfl
      rw [e3] at ih'
      by_cases hf : M 7 (9 * r + 8) = -10006
      · refine Wp.brt rfl (by rw [if_pos ⟨by omega, hf⟩]; decide) ?_
        refine Wp.gt 4 rfl ?_
        rw [e1]
        rw [if_pos hf, Int.add_zero] at ih'
        exact ih'
      · refine Wp.brf rfl (by rw [if_neg (fun q => hf q.2)]; decide) ?_
        refine Wp.gt 4 rfl ?_
        rw [e1, show w32 (sumI (fun r => if M 7 (9 * r + 8) = -10006 then 0 else 1) r + 1) = sumI (fun r => if M 7 (9 * r + 8) = -10006 then 0 else 1) r + 1 by simp only [w32_def]; omega]
        rw [if_neg hf] at ih'
        exact ih'
  refine Wp.gt 4 rfl ?_
  exact loop n 0 (by omega)
theorem m5_append (n : Nat) (M : Me) (h : Ml) (hw : M 5 0 = 9) (hn : M 5 3 = (n : Int)) (hR : n < 10) : Wp zS0 tX6_append none 0 [zr 5, zn] [] M h (Ri n (upd2 (upd2 (upd2 (upd2 M 5 3 ((n + 1 : Nat) : Int)) 5 4 (w32 (M 5 4 + 1))) 6 n (w32 (M 5 4 + 1))) 7 (9 * n + 8) (-10006)) h) := by
  refine Wp.g1 rfl ?_
  refine Wp.calli rfl (m5_isFull n M h hn) ?_
  refine Wp.brt rfl (by split <;> omega) ?_
  refine Wp.g1 rfl ?_
  rw [hn, show w32 ((n : Int) + 1) = ((n + 1 : Nat) : Int) by simp only [w32_def]; omega]
  refine Wp.sto rfl rfl n rfl (by omega) ?_
  refine Wp.g1 rfl ?_
  refine Wp.callv rfl (m5_setPartner n (n + 1) (-10006) _ h ?_ ?_ (by omega) (by omega)) ?_
  · simp [upd2, hw]
  · simp [upd2]
  refine Wp.g1 rfl ?_
  refine Wp.rei rfl rfl ?_ rfl
  simp [upd2]
theorem m5_remove (r n : Nat) (M : Me) (h : Ml) (hw : M 5 0 = 9) (hn : M 5 3 = (n : Int)) (hR : n ≤ 10) (hr : r < n) : Wp zS0 tX6_remove none 0 [zr 5, zi r, zn] [] M h (Rv (upd2 (cpy2 (cpy2 M 6 6 (r + 1) r (n - r - 1)) 7 7 (9 * (r + 1)) (9 * r) (9 * (n - r - 1))) 5 3 ((n - 1 : Nat) : Int)) h) := by
  have g1 : ∀ (a b c d e : Nat), cpy2 (cpy2 M 6 6 a b c) 7 7 d e 0 5 = M 5 := fun _ _ _ _ _ => by funext j; simp [cpy2]
  refine Wp.g1 rfl ?_
  refine Wp.calli rfl (m5_hasRow _ n M h hn hR) ?_
  refine Wp.brt rfl (by split <;> omega) ?_
  refine Wp.g1 rfl ?_
  refine Wp.acp rfl rfl rfl (r + 1) r (n - r - 1) (by simp only [w32_def]; omega) rfl (by simp only [w32_def]; rw [hn]; omega) (by omega) (by omega) ?_
  refine Wp.g1 rfl ?_
  have e0 : cpy2 M 6 6 (r + 1) r (n - r - 1) 5 = M 5 := by funext j; simp [cpy2]
  refine Wp.acp rfl rfl rfl (9 * (r + 1)) (9 * r) (9 * (n - r - 1)) (by rw [e0, hw]; simp only [w32_def]; omega) (by rw [e0, hw]; simp only [w32_def]; omega) (by rw [e0, hw, hn]; simp only [w32_def]; omega) (by omega) (by omega) ?_
  refine Wp.g1 rfl ?_
  refine Wp.rev rfl ?_ rfl
  have e1 : cpy2 (cpy2 M 6 6 (r + 1) r (n - r - 1)) 7 7 (9 * (r + 1)) (9 * r) (9 * (n - r - 1)) 5 = M 5 := by funext j; simp [cpy2]
  rw [e1, hn, show w32 ((n : Int) - 1) = ((n - 1 : Nat) : Int) by simp only [w32_def]; omega]