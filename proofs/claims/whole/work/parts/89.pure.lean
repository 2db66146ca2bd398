/-! the one walk: from the beginning, over the calls, to the end -/
def a0 (M : Me) : At := ((M 75, 0, 0), (0, fun _ _ => 0), (0, fun _ => 0), (-10006, -10006, -10006))
theorem zpure (L : Nat) (xs : Nat → Int) (hL : L ≤ 4608) (hx : ∀ j, zrn (xs j)) : ∃ (n : Nat) (S' : Sh) (M' : Me) (h' : Ml), run n tL_law (some (L, xs)) 0 [zs, zn, zn, zn] [] [] (fun _ _ => 0) (fun _ => 0) = some (some (zi 1), S', M', h') ∧ S'.length ≤ 600000 ∧ zsz S' ≤ 7302250 := by
  obtain ⟨M0, h0, hz, hgo⟩ := zinit (some (L, xs))
  have f : ∀ (k j : Nat) (x : Int), (k, j, x) ∈ zf2 → M0 k j = x := fun k j x g => hz (k, j, x) g
  have v0 := f 75 0 0 (by decide +kernel)
  have v1 := f 75 1 40 (by decide +kernel)
  have v2 := f 75 2 30 (by decide +kernel)
  have v3 := f 75 3 2000 (by decide +kernel)
  have v4 := f 75 4 8 (by decide +kernel)
  have v5 := f 75 5 10 (by decide +kernel)
  have v6 := f 75 6 12 (by decide +kernel)
  have v7 := f 75 7 5 (by decide +kernel)
  have v8 := f 75 8 15 (by decide +kernel)
  have v9 := f 75 9 1 (by decide +kernel)
  have v10 := f 75 10 0 (by decide +kernel)
  have v11 := f 75 11 0 (by decide +kernel)
  have v12 := f 75 12 0 (by decide +kernel)
  have v13 := f 75 13 0 (by decide +kernel)
  have v14 := f 75 14 0 (by decide +kernel)
  have v15 := f 75 15 0 (by decide +kernel)
  have v16 := f 75 16 0 (by decide +kernel)
  have v17 := f 75 17 0 (by decide +kernel)
  have w6 : ∀ i : Nat, i < 6 → M0 8 i = M0 75 (4 + i) := fun i hi => by
    rcases (show i = 0 ∨ i = 1 ∨ i = 2 ∨ i = 3 ∨ i = 4 ∨ i = 5 by omega) with e | e | e | e | e | e <;> subst e
    · exact (f 8 0 8 (by decide +kernel)).trans v4.symm
    · exact (f 8 1 10 (by decide +kernel)).trans v5.symm
    · exact (f 8 2 12 (by decide +kernel)).trans v6.symm
    · exact (f 8 3 5 (by decide +kernel)).trans v7.symm
    · exact (f 8 4 15 (by decide +kernel)).trans v8.symm
    · exact (f 8 5 1 (by decide +kernel)).trans v9.symm
  have hC : CR M0 (a0 M0) := by
    refine ⟨⟨⟨?_, ?_, ?_, ?_, ?_, ?_, ?_, ?_⟩, w6, ⟨?_, ?_, ?_, ?_⟩, fun r hr => absurd hr (Nat.not_lt_zero _), fun r hr => absurd hr (Nat.not_lt_zero _)⟩, ⟨?_, ?_⟩, ⟨0, by decide, ?_, ?_, Nat.zero_le _, fun c hc => absurd hc (Nat.not_lt_zero _)⟩, ⟨?_, fun i hi => absurd hi (Nat.not_lt_zero _)⟩, ?_, ?_, ?_⟩
    · exact (f 1 3 0 (by decide +kernel)).trans v0.symm
    · exact (f 1 4 40 (by decide +kernel)).trans v1.symm
    · exact (f 1 5 30 (by decide +kernel)).trans v2.symm
    · exact (f 1 6 2000 (by decide +kernel)).trans v3.symm
    · exact (f 1 7 0 (by decide +kernel)).trans v14.symm
    · exact (f 1 8 0 (by decide +kernel)).trans v15.symm
    · exact (f 1 9 0 (by decide +kernel)).trans v16.symm
    · exact (f 1 10 0 (by decide +kernel)).trans v17.symm
    · exact f 2 3 0 (by decide +kernel)
    · exact (f 2 4 0 (by decide +kernel)).trans v11.symm
    · exact f 5 3 0 (by decide +kernel)
    · exact (f 5 4 0 (by decide +kernel)).trans v13.symm
    · exact f 2 0 8 (by decide +kernel)
    · exact f 5 0 9 (by decide +kernel)
    · exact f 9 1 0 (by decide +kernel)
    · exact f 9 2 0 (by decide +kernel)
    · exact f 59 1 0 (by decide +kernel)
    · exact f 71 0 (-10006) (by decide +kernel)
    · exact f 71 1 (-10006) (by decide +kernel)
    · exact f 71 2 (-10006) (by decide +kernel)
  have hM : MR M0 (a0 M0) := ⟨fun j hj => rfl, ⟨f 74 2 0 (by decide +kernel), fun c j hc => absurd hc (Nat.not_lt_zero _)⟩, ⟨f 74 4 0 (by decide +kernel), fun i hi => absurd hi (Nat.not_lt_zero _)⟩, f 74 5 (-10006) (by decide +kernel), f 74 6 (-10006) (by decide +kernel), f 74 7 (-10006) (by decide +kernel)⟩
  have hS : SO (a0 M0) 0 := by
    refine ⟨⟨⟨v10, v12, Nat.zero_le _, Nat.zero_le _⟩, ⟨?_, ?_, ?_, ?_, fun i hi => ?_, ?_, ?_⟩, fun r hr => absurd hr (Nat.not_lt_zero _), fun r hr => absurd hr (Nat.not_lt_zero _), fun r q hr => absurd hr (Nat.not_lt_zero _), fun r hr => absurd hr (Nat.not_lt_zero _), fun r q hr => absurd hr (Nat.not_lt_zero _)⟩, Nat.zero_le _, fun c hc => absurd hc (Nat.not_lt_zero _), Nat.zero_le _, fun i hi => absurd hi (Nat.not_lt_zero _)⟩
    · show 0 ≤ M0 75 0 ∧ M0 75 0 ≤ 9999
      rw [v0]; decide
    · show 0 ≤ M0 75 1 ∧ M0 75 1 ≤ 200
      rw [v1]; decide
    · show 0 ≤ M0 75 2 ∧ M0 75 2 ≤ 500
      rw [v2]; decide
    · show 0 ≤ M0 75 3 ∧ M0 75 3 ≤ 9999
      rw [v3]; decide
    · show 0 ≤ M0 75 (4 + i) ∧ M0 75 (4 + i) ≤ 50
      rcases (show i = 0 ∨ i = 1 ∨ i = 2 ∨ i = 3 ∨ i = 4 ∨ i = 5 by omega) with e | e | e | e | e | e <;> subst e
      · rw [v4]; decide
      · rw [v5]; decide
      · rw [v6]; decide
      · rw [v7]; decide
      · rw [v8]; decide
      · rw [v9]; decide
    · show 0 ≤ M0 75 11 ∧ M0 75 11 ≤ 12 * ((0 : Nat) : Int)
      rw [v11]; decide
    · show 0 ≤ M0 75 13 ∧ M0 75 13 ≤ 12 * ((0 : Nat) : Int)
      rw [v13]; decide
  obtain ⟨n, v, M', h', hr, rfl⟩ := lw_loop (xs := xs) hL 513 0 (by omega) M0 h0 (a0 M0) hC hM hS
  obtain ⟨m, hm⟩ := hgo n _ hr
  exact ⟨m, zS0, M', h', hm, by decide, by decide⟩
