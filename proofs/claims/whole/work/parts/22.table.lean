theorem m_outside (v l g : Int) (M : Me) (h : Ml) : Wp zS0 tX8_outside none 0 [zi v, zi l, zi g] [] M h (Ri (if v < l ∨ g < v then 1 else 0) M h) := by
  repeat' first | refine Wp.g1 rfl ?_ | refine Wp.br rfl (fun _ => ?_) (fun _ => ?_)
  all_goals refine Wp.rei rfl ?_ rfl rfl
  all_goals (split <;> omega)
theorem m2_hasRow (row : Int) (n : Nat) (M : Me) (h : Ml) (hn : M 2 3 = (n : Int)) (h12 : n ≤ 12) : Wp zS0 tX6_hasRow none 0 [zr 2, zi row] [] M h (Ri (if 0 ≤ row ∧ row < (n : Int) then 1 else 0) M h) := by
  repeat' first | refine Wp.g1 rfl ?_ | refine Wp.br rfl (fun _ => ?_) (fun _ => ?_)
  all_goals refine Wp.rei rfl ?_ rfl rfl
  all_goals (split <;> omega)
theorem m2_get (r c : Nat) (n : Nat) (M : Me) (h : Ml) (hw : M 2 0 = 8) (hn : M 2 3 = (n : Int)) (h12 : n ≤ 12) (hr : r < n) (hc : c < 8) : Wp zS0 tX6_get none 0 [zr 2, zi r, zi c] [] M h (Ri (M 4 (8 * r + c)) M h) := by
  refine Wp.g1 rfl ?_
  refine Wp.calli rfl (m2_hasRow _ n M h hn h12) ?_
  refine Wp.brf rfl (by split <;> omega) ?_
  refine Wp.g1 rfl ?_
  refine Wp.calli rfl (m_outside _ _ _ M h) ?_
  refine Wp.brt rfl (by simp only [w32_def]; split <;> omega) ?_
  refine Wp.g1 rfl ?_
  refine Wp.ld rfl rfl (8 * r + c) (by simp only [w32_def]; rw [hw]; omega) (by omega) ?_
  exact Wp.rei rfl rfl rfl rfl
