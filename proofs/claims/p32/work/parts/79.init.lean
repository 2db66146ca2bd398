def zf1 : List (Nat × Nat × Int) := [(1, 3, 0), (1, 4, 40), (1, 5, 30), (1, 6, 2000), (1, 7, 0), (1, 8, 0), (1, 9, 0), (1, 10, 0), (2, 0, 8), (2, 3, 0), (2, 4, 0), (5, 0, 9), (5, 3, 0), (5, 4, 0), (8, 0, 8), (8, 1, 10), (8, 2, 12), (8, 3, 5), (8, 4, 15), (8, 5, 1), (9, 1, 0), (9, 2, 0), (59, 1, 0), (71, 0, -10006), (71, 1, -10006), (71, 2, -10006)]
def zfc (l : List (Nat × Nat × Int)) (M : Me) : Bool := l.all fun q => decide (M q.1 q.2.1 = q.2.2)
def zR1 : Option Zr := run 4000 tX8_init none 0 [zr 0] [] [(7, 0, List.replicate 9 none)] (fun _ _ => 0) (fun _ => 0)
set_option maxRecDepth 100000 in
theorem zR1a : zR1.map (fun r => (r.1.isNone, r.2.1)) = some (true, zS1) := by decide +kernel
set_option maxRecDepth 100000 in
theorem zR1b : zR1.map (fun r => zfc zf1 r.2.2.1) = some true := by decide +kernel
/-- the law's beginning, up to its third row -/
theorem zinit (sc : Sc) : ∃ (M0 : Me) (h0 : Ml), (∀ q ∈ zf1, M0 q.1 q.2.1 = q.2.2) ∧ ∀ (n : Nat) (z : Zr), run n tL_law sc 22 [zs, zr 0, zr 74, zr 75, zn, zn, zn, zn, zn] [zr 76] zS0 M0 h0 = some z → ∃ m, run m tL_law sc 0 [zs, zn, zn, zn, zn, zn, zn, zn, zn] [] [] (fun _ _ => 0) (fun _ => 0) = some z := by
  have h1 := zR1a
  have h2 := zR1b
  cases hr1 : zR1 with
  | none => rw [hr1] at h1; cases h1
  | some r1 =>
    obtain ⟨v1, S1, M1, l1⟩ := r1
    rw [hr1] at h1 h2
    cases v1 with
    | some v1 => cases h1
    | none =>
    cases h1
    have h4 : zfc zf1 M1 = true := Option.some.inj h2
    refine ⟨M1, l1, fun q hq => of_decide_eq_true (List.all_eq_true.mp h4 q hq), fun n z hn => ?_⟩
    obtain ⟨k1, g1⟩ := zgo_run (n := 2) (T := tL_law) (sc := sc) (pc := 0) (L := [zs, zn, zn, zn, zn, zn, zn, zn, zn]) (st := []) (S := []) (M := fun _ _ => 0) (h := fun _ => 0) rfl
    obtain ⟨k2, g2⟩ := zgo_run (n := 2) (T := tL_law) (sc := sc) (pc := 7) (L := [zs, zn, zn, zn, zn, zn, zn, zn, zn]) (st := [zr 0]) (S := zS1) (M := M1) (h := l1) rfl
    obtain ⟨k3, g3⟩ := zgo_run (n := 2) (T := tL_law) (sc := sc) (pc := 12) (L := [zs, zr 0, zn, zn, zn, zn, zn, zn, zn]) (st := [zr 74]) (S := zS1 ++ [(100, 7, [])]) (M := M1) (h := l1) rfl
    obtain ⟨k4, g4⟩ := zgo_run (n := 2) (T := tL_law) (sc := sc) (pc := 17) (L := [zs, zr 0, zr 74, zn, zn, zn, zn, zn, zn]) (st := [zr 75]) (S := zS1 ++ [(100, 7, [])] ++ [(100, 12, [])]) (M := M1) (h := l1) rfl
    have e5 : run (n + 1) tL_law sc 20 [zs, zr 0, zr 74, zr 75, zn, zn, zn, zn, zn] [zi 10] (zS1 ++ [(100, 7, [])] ++ [(100, 12, [])]) M1 l1 = some z := by
      rw [run_br (pc' := 22) (L' := [zs, zr 0, zr 74, zr 75, zn, zn, zn, zn, zn]) (st' := [zr 76]) (S' := zS0) (M' := M1) (h' := l1) rfl rfl rfl]; exact hn
    have e4 : run (n + 1 + k4) tL_law sc 17 [zs, zr 0, zr 74, zn, zn, zn, zn, zn, zn] [zr 75] (zS1 ++ [(100, 7, [])] ++ [(100, 12, [])]) M1 l1 = some z := by rw [g4]; exact e5
    have e3 : run (n + 1 + k4 + 1) tL_law sc 15 [zs, zr 0, zr 74, zn, zn, zn, zn, zn, zn] [zi 12] (zS1 ++ [(100, 7, [])]) M1 l1 = some z := by
      rw [run_br (pc' := 17) (L' := [zs, zr 0, zr 74, zn, zn, zn, zn, zn, zn]) (st' := [zr 75]) (S' := zS1 ++ [(100, 7, [])] ++ [(100, 12, [])]) (M' := M1) (h' := l1) rfl rfl rfl]; exact e4
    have e2 : run (n + 1 + k4 + 1 + k3) tL_law sc 12 [zs, zr 0, zn, zn, zn, zn, zn, zn, zn] [zr 74] (zS1 ++ [(100, 7, [])]) M1 l1 = some z := by rw [g3]; exact e3
    have e1 : run (n + 1 + k4 + 1 + k3 + 1) tL_law sc 10 [zs, zr 0, zn, zn, zn, zn, zn, zn, zn] [zi 7] zS1 M1 l1 = some z := by
      rw [run_br (pc' := 12) (L' := [zs, zr 0, zn, zn, zn, zn, zn, zn, zn]) (st' := [zr 74]) (S' := zS1 ++ [(100, 7, [])]) (M' := M1) (h' := l1) rfl rfl rfl]; exact e2
    have e0 : run (n + 1 + k4 + 1 + k3 + 1 + k2) tL_law sc 7 [zs, zn, zn, zn, zn, zn, zn, zn, zn] [zr 0] zS1 M1 l1 = some z := by rw [g2]; exact e1
    have ec : run (n + 1 + k4 + 1 + k3 + 1 + k2 + 4000 + 1) tL_law sc 4 [zs, zn, zn, zn, zn, zn, zn, zn, zn] [zr 0, zr 0] [(7, 0, List.replicate 9 none)] (fun _ _ => 0) (fun _ => 0) = some z := by
      rw [run_ca (T' := tX8_init) (L0 := [zr 0]) (r := [zr 0]) (nx := 7) rfl rfl rfl rfl (show run (n + 1 + k4 + 1 + k3 + 1 + k2 + 4000) tX8_init sc 0 [zr 0] [] [(7, 0, List.replicate 9 none)] (fun _ _ => 0) (fun _ => 0) = some (none, zS1, M1, l1) from by rw [Nat.add_comm _ 4000]; exact run_up (run_sc hr1))]
      exact run_up e0
    exact ⟨n + 1 + k4 + 1 + k3 + 1 + k2 + 4000 + 1 + k1, by rw [g1]; exact ec⟩
