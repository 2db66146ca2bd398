/-! the one walk: from the beginning, over the steps, to the end -/
def v0 : Nat → Int := fun j => if j = 1 then 40 else if j = 2 then 30 else if j = 3 then 2000 else if j = 4 then 8 else if j = 5 then 10 else if j = 6 then 12 else if j = 7 then 5 else if j = 8 then 15 else if j = 9 then 1 else 0
def a0 : At := ((v0, 0, 0), (0, fun _ _ => 0), (0, fun _ => 0), (-10006, -10006, -10006))
theorem a0_ok : Iv a0 0 := by
  refine ⟨⟨⟨⟨rfl, rfl, Nat.zero_le _, Nat.zero_le _⟩, ⟨?_, ?_, ?_, ?_, fun i hi => ?_, ?_, ?_⟩, fun r hr => absurd hr (Nat.not_lt_zero _), fun r hr => absurd hr (Nat.not_lt_zero _), fun r q hr => absurd hr (Nat.not_lt_zero _), fun r hr => absurd hr (Nat.not_lt_zero _), fun r q hr => absurd hr (Nat.not_lt_zero _)⟩, Nat.zero_le _, fun c hc => absurd hc (Nat.not_lt_zero _), Nat.zero_le _, fun i hi => absurd hi (Nat.not_lt_zero _)⟩, fun r q _ hq => absurd hq (Nat.not_lt_zero _), fun r q _ hq => absurd hq (Nat.not_lt_zero _), ⟨by decide, by decide⟩, by decide⟩
  · show 0 ≤ v0 0 ∧ v0 0 ≤ 9999
    decide
  · show 0 ≤ v0 1 ∧ v0 1 ≤ 200
    decide
  · show 0 ≤ v0 2 ∧ v0 2 ≤ 500
    decide
  · show 0 ≤ v0 3 ∧ v0 3 ≤ 9999
    decide
  · show 0 ≤ v0 (4 + i) ∧ v0 (4 + i) ≤ 50
    rcases (show i = 0 ∨ i = 1 ∨ i = 2 ∨ i = 3 ∨ i = 4 ∨ i = 5 by omega) with e | e | e | e | e | e <;> subst e <;> decide
  · show 0 ≤ v0 11 ∧ v0 11 ≤ 12 * ((0 : Nat) : Int)
    decide
  · show 0 ≤ v0 13 ∧ v0 13 ≤ 12 * ((0 : Nat) : Int)
    decide
theorem zpure (L : Nat) (xs : Nat → Int) (hL : L ≤ 260) (hx : ∀ j, zrn (xs j)) : ∃ (n : Nat) (S' : Sh) (M' : Me) (h' : Ml), run n tL_law (some (L, xs)) 0 [zs, zn, zn, zn, zn, zn, zn, zn, zn] [] [] (fun _ _ => 0) (fun _ => 0) = some (some (zi 1), S', M', h') ∧ S'.length ≤ 600000 ∧ zsz S' ≤ 7302250 := by
  obtain ⟨M0, h0, hz, hgo⟩ := zinit (some (L, xs))
  have f : ∀ (k j : Nat) (x : Int), (k, j, x) ∈ zf1 → M0 k j = x := fun k j x g => hz (k, j, x) g
  have hC : CR M0 a0 := by
    refine ⟨⟨⟨?_, ?_, ?_, ?_, ?_, ?_, ?_, ?_⟩, fun i hi => ?_, ⟨?_, ?_, ?_, ?_⟩, fun r hr => absurd hr (Nat.not_lt_zero _), fun r hr => absurd hr (Nat.not_lt_zero _)⟩, ⟨?_, ?_⟩, ⟨0, by decide, ?_, ?_, Nat.zero_le _, fun c hc => absurd hc (Nat.not_lt_zero _)⟩, ⟨?_, fun i hi => absurd hi (Nat.not_lt_zero _)⟩, ?_, ?_, ?_⟩
    · exact f 1 3 0 (by decide +kernel)
    · exact f 1 4 40 (by decide +kernel)
    · exact f 1 5 30 (by decide +kernel)
    · exact f 1 6 2000 (by decide +kernel)
    · exact f 1 7 0 (by decide +kernel)
    · exact f 1 8 0 (by decide +kernel)
    · exact f 1 9 0 (by decide +kernel)
    · exact f 1 10 0 (by decide +kernel)
    · rcases (show i = 0 ∨ i = 1 ∨ i = 2 ∨ i = 3 ∨ i = 4 ∨ i = 5 by omega) with e | e | e | e | e | e <;> subst e
      · exact f 8 0 8 (by decide +kernel)
      · exact f 8 1 10 (by decide +kernel)
      · exact f 8 2 12 (by decide +kernel)
      · exact f 8 3 5 (by decide +kernel)
      · exact f 8 4 15 (by decide +kernel)
      · exact f 8 5 1 (by decide +kernel)
    · exact f 2 3 0 (by decide +kernel)
    · exact f 2 4 0 (by decide +kernel)
    · exact f 5 3 0 (by decide +kernel)
    · exact f 5 4 0 (by decide +kernel)
    · exact f 2 0 8 (by decide +kernel)
    · exact f 5 0 9 (by decide +kernel)
    · exact f 9 1 0 (by decide +kernel)
    · exact f 9 2 0 (by decide +kernel)
    · exact f 59 1 0 (by decide +kernel)
    · exact f 71 0 (-10006) (by decide +kernel)
    · exact f 71 1 (-10006) (by decide +kernel)
    · exact f 71 2 (-10006) (by decide +kernel)
  have hw : Wp zS0 tL_law (some (L, xs)) 22 [zs, zr 0, zr 74, zr 75, zn, zn, zn, zn, zn] [zr 76] M0 h0 Lw := by
    refine Wp.g1 rfl ?_
    refine Wp.sto rfl rfl 0 rfl (by decide) ?_
    refine Wp.g1 rfl ?_
    refine Wp.sto rfl rfl 1 rfl (by decide) ?_
    refine Wp.g1 rfl ?_
    refine Wp.sto rfl rfl 2 rfl (by decide) ?_
    refine Wp.g1 rfl ?_
    refine Wp.sto rfl rfl 3 rfl (by decide) ?_
    refine Wp.g1 rfl ?_
    refine Wp.sto rfl rfl 4 rfl (by decide) ?_
    refine Wp.g1 rfl ?_
    refine Wp.sto rfl rfl 5 rfl (by decide) ?_
    refine Wp.g1 rfl ?_
    refine Wp.sto rfl rfl 6 rfl (by decide) ?_
    refine Wp.gt 61 rfl ?_
    refine l_loop L xs 60 0 (by omega) _ h0 a0 _ _ _ (hC.kept (fun k g => ?_)) a0_ok ⟨?_, fun i hi => ?_⟩
    · repeat rw [upd2_ne (by omega)]
    · repeat rw [upd2_off (by omega)]
      rw [upd2_at]; rfl
    · rcases (show i = 0 ∨ i = 1 ∨ i = 2 ∨ i = 3 ∨ i = 4 ∨ i = 5 by omega) with e | e | e | e | e | e <;> subst e <;> rfl
  obtain ⟨n, v, M', h', hr, rfl⟩ := hw
  obtain ⟨m, hm⟩ := hgo n _ hr
  exact ⟨m, zS0, M', h', hm, by decide, by decide⟩
