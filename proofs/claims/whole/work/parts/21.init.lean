def zS1 : Sh := [(7, 0, [some 1, some 9, some 59, some 61, some 63, some 65, some 71, some 72, some 73]),
  (3, 0, [some 2, some 5, some 8, none, none, none, none, none, none, none, none]),
  (6, 0, [none, some 4, some 3, none, none]),
  (100, 12, []),
  (100, 96, []),
  (6, 0, [none, some 7, some 6, none, none]),
  (100, 10, []),
  (100, 90, []),
  (100, 6, []),
  (2, 0, [some 10, none, none]),
  (101, 6, [some 11, some 19, some 27, some 35, some 43, some 51]),
  (3, 0, [some 12, some 15, some 18, none, none, none, none, none, none, none, none]),
  (6, 0, [none, some 14, some 13, none, none]),
  (100, 12, []),
  (100, 96, []),
  (6, 0, [none, some 17, some 16, none, none]),
  (100, 10, []),
  (100, 90, []),
  (100, 6, []),
  (3, 0, [some 20, some 23, some 26, none, none, none, none, none, none, none, none]),
  (6, 0, [none, some 22, some 21, none, none]),
  (100, 12, []),
  (100, 96, []),
  (6, 0, [none, some 25, some 24, none, none]),
  (100, 10, []),
  (100, 90, []),
  (100, 6, []),
  (3, 0, [some 28, some 31, some 34, none, none, none, none, none, none, none, none]),
  (6, 0, [none, some 30, some 29, none, none]),
  (100, 12, []),
  (100, 96, []),
  (6, 0, [none, some 33, some 32, none, none]),
  (100, 10, []),
  (100, 90, []),
  (100, 6, []),
  (3, 0, [some 36, some 39, some 42, none, none, none, none, none, none, none, none]),
  (6, 0, [none, some 38, some 37, none, none]),
  (100, 12, []),
  (100, 96, []),
  (6, 0, [none, some 41, some 40, none, none]),
  (100, 10, []),
  (100, 90, []),
  (100, 6, []),
  (3, 0, [some 44, some 47, some 50, none, none, none, none, none, none, none, none]),
  (6, 0, [none, some 46, some 45, none, none]),
  (100, 12, []),
  (100, 96, []),
  (6, 0, [none, some 49, some 48, none, none]),
  (100, 10, []),
  (100, 90, []),
  (100, 6, []),
  (3, 0, [some 52, some 55, some 58, none, none, none, none, none, none, none, none]),
  (6, 0, [none, some 54, some 53, none, none]),
  (100, 12, []),
  (100, 96, []),
  (6, 0, [none, some 57, some 56, none, none]),
  (100, 10, []),
  (100, 90, []),
  (100, 6, []),
  (1, 0, [some 60, none, none, none]),
  (100, 80, []),
  (5, 0, [some 62]),
  (100, 7, []),
  (4, 0, [some 64, none, none]),
  (100, 120, []),
  (0, 0, [some 66, some 67, some 68, some 69, some 70, none]),
  (100, 11, []),
  (100, 13, []),
  (100, 13, []),
  (100, 13, []),
  (100, 13, []),
  (100, 3, []),
  (100, 8, []),
  (100, 12, [])]
def zS0 : Sh := [(7, 0, [some 1, some 9, some 59, some 61, some 63, some 65, some 71, some 72, some 73]),
  (3, 0, [some 2, some 5, some 8, none, none, none, none, none, none, none, none]),
  (6, 0, [none, some 4, some 3, none, none]),
  (100, 12, []),
  (100, 96, []),
  (6, 0, [none, some 7, some 6, none, none]),
  (100, 10, []),
  (100, 90, []),
  (100, 6, []),
  (2, 0, [some 10, none, none]),
  (101, 6, [some 11, some 19, some 27, some 35, some 43, some 51]),
  (3, 0, [some 12, some 15, some 18, none, none, none, none, none, none, none, none]),
  (6, 0, [none, some 14, some 13, none, none]),
  (100, 12, []),
  (100, 96, []),
  (6, 0, [none, some 17, some 16, none, none]),
  (100, 10, []),
  (100, 90, []),
  (100, 6, []),
  (3, 0, [some 20, some 23, some 26, none, none, none, none, none, none, none, none]),
  (6, 0, [none, some 22, some 21, none, none]),
  (100, 12, []),
  (100, 96, []),
  (6, 0, [none, some 25, some 24, none, none]),
  (100, 10, []),
  (100, 90, []),
  (100, 6, []),
  (3, 0, [some 28, some 31, some 34, none, none, none, none, none, none, none, none]),
  (6, 0, [none, some 30, some 29, none, none]),
  (100, 12, []),
  (100, 96, []),
  (6, 0, [none, some 33, some 32, none, none]),
  (100, 10, []),
  (100, 90, []),
  (100, 6, []),
  (3, 0, [some 36, some 39, some 42, none, none, none, none, none, none, none, none]),
  (6, 0, [none, some 38, some 37, none, none]),
  (100, 12, []),
  (100, 96, []),
  (6, 0, [none, some 41, some 40, none, none]),
  (100, 10, []),
  (100, 90, []),
  (100, 6, []),
  (3, 0, [some 44, some 47, some 50, none, none, none, none, none, none, none, none]),
  (6, 0, [none, some 46, some 45, none, none]),
  (100, 12, []),
  (100, 96, []),
  (6, 0, [none, some 49, some 48, none, none]),
  (100, 10, []),
  (100, 90, []),
  (100, 6, []),
  (3, 0, [some 52, some 55, some 58, none, none, none, none, none, none, none, none]),
  (6, 0, [none, some 54, some 53, none, none]),
  (100, 12, []),
  (100, 96, []),
  (6, 0, [none, some 57, some 56, none, none]),
  (100, 10, []),
  (100, 90, []),
  (100, 6, []),
  (1, 0, [some 60, none, none, none]),
  (100, 80, []),
  (5, 0, [some 62]),
  (100, 7, []),
  (4, 0, [some 64, none, none]),
  (100, 120, []),
  (0, 0, [some 66, some 67, some 68, some 69, some 70, none]),
  (100, 11, []),
  (100, 13, []),
  (100, 13, []),
  (100, 13, []),
  (100, 13, []),
  (100, 3, []),
  (100, 8, []),
  (100, 12, []),
  (8, 0, [some 75, some 76, none, some 77, none, none, none, none, some 78, none]),
  (100, 428, []),
  (100, 1284, []),
  (100, 80, []),
  (100, 4096, [])]
def zf1 : List (Nat × Nat × Int) := [(1, 3, 0), (1, 4, 40), (1, 5, 30), (1, 6, 2000), (1, 7, 0), (1, 8, 0), (1, 9, 0), (1, 10, 0), (2, 0, 8), (2, 3, 0), (2, 4, 0), (5, 0, 9), (5, 3, 0), (5, 4, 0), (8, 0, 8), (8, 1, 10), (8, 2, 12), (8, 3, 5), (8, 4, 15), (8, 5, 1), (9, 1, 0), (9, 2, 0), (59, 1, 0), (71, 0, -10006), (71, 1, -10006), (71, 2, -10006)]
def zf2 : List (Nat × Nat × Int) := [(1, 3, 0), (1, 4, 40), (1, 5, 30), (1, 6, 2000), (1, 7, 0), (1, 8, 0), (1, 9, 0), (1, 10, 0), (2, 0, 8), (2, 3, 0), (2, 4, 0), (5, 0, 9), (5, 3, 0), (5, 4, 0), (8, 0, 8), (8, 1, 10), (8, 2, 12), (8, 3, 5), (8, 4, 15), (8, 5, 1), (9, 1, 0), (9, 2, 0), (59, 1, 0), (71, 0, -10006), (71, 1, -10006), (71, 2, -10006), (74, 2, 0), (74, 4, 0), (74, 5, -10006), (74, 6, -10006), (74, 7, -10006), (75, 0, 0), (75, 1, 40), (75, 2, 30), (75, 3, 2000), (75, 4, 8), (75, 5, 10), (75, 6, 12), (75, 7, 5), (75, 8, 15), (75, 9, 1), (75, 10, 0), (75, 11, 0), (75, 12, 0), (75, 13, 0), (75, 14, 0), (75, 15, 0), (75, 16, 0), (75, 17, 0), (75, 18, 0), (75, 19, 0), (75, 20, 0), (75, 21, 0), (75, 22, 0), (75, 23, 0), (75, 24, 0), (75, 25, 0), (75, 26, 0), (75, 27, 0), (75, 28, 0), (75, 29, 0), (75, 30, 0), (75, 31, 0), (75, 32, 0), (75, 33, 0), (75, 34, 0), (75, 35, 0), (75, 36, 0), (75, 37, 0), (75, 38, 0), (75, 39, 0), (75, 40, 0), (75, 41, 0), (75, 42, 0), (75, 43, 0), (75, 44, 0), (75, 45, 0), (75, 46, 0), (75, 47, 0), (75, 48, 0), (75, 49, 0), (75, 50, 0), (75, 51, 0), (75, 52, 0), (75, 53, 0), (75, 54, 0), (75, 55, 0), (75, 56, 0), (75, 57, 0), (75, 58, 0), (75, 59, 0), (75, 60, 0), (75, 61, 0), (75, 62, 0), (75, 63, 0), (75, 64, 0), (75, 65, 0), (75, 66, 0), (75, 67, 0), (75, 68, 0), (75, 69, 0), (75, 70, 0), (75, 71, 0), (75, 72, 0), (75, 73, 0), (75, 74, 0), (75, 75, 0), (75, 76, 0), (75, 77, 0), (75, 78, 0), (75, 79, 0), (75, 80, 0), (75, 81, 0), (75, 82, 0), (75, 83, 0), (75, 84, 0), (75, 85, 0), (75, 86, 0), (75, 87, 0), (75, 88, 0), (75, 89, 0), (75, 90, 0), (75, 91, 0), (75, 92, 0), (75, 93, 0), (75, 94, 0), (75, 95, 0), (75, 96, 0), (75, 97, 0), (75, 98, 0), (75, 99, 0), (75, 100, 0), (75, 101, 0), (75, 102, 0), (75, 103, 0), (75, 104, 0), (75, 105, 0), (75, 106, 0), (75, 107, 0), (75, 108, 0), (75, 109, 0), (75, 110, 0), (75, 111, 0), (75, 112, 0), (75, 113, 0), (75, 114, 0), (75, 115, 0), (75, 116, 0), (75, 117, 0), (75, 118, 0), (75, 119, 0), (75, 120, 0), (75, 121, 0), (75, 122, 0), (75, 123, 0), (75, 124, 0), (75, 125, 0), (75, 126, 0), (75, 127, 0), (75, 128, 0), (75, 129, 0), (75, 130, 0), (75, 131, 0), (75, 132, 0), (75, 133, 0), (75, 134, 0), (75, 135, 0), (75, 136, 0), (75, 137, 0), (75, 138, 0), (75, 139, 0), (75, 140, 0), (75, 141, 0), (75, 142, 0), (75, 143, 0), (75, 144, 0), (75, 145, 0), (75, 146, 0), (75, 147, 0), (75, 148, 0), (75, 149, 0), (75, 150, 0), (75, 151, 0), (75, 152, 0), (75, 153, 0), (75, 154, 0), (75, 155, 0), (75, 156, 0), (75, 157, 0), (75, 158, 0), (75, 159, 0), (75, 160, 0), (75, 161, 0), (75, 162, 0), (75, 163, 0), (75, 164, 0), (75, 165, 0), (75, 166, 0), (75, 167, 0), (75, 168, 0), (75, 169, 0), (75, 170, 0), (75, 171, 0), (75, 172, 0), (75, 173, 0), (75, 174, 0), (75, 175, 0), (75, 176, 0), (75, 177, 0), (75, 178, 0), (75, 179, 0), (75, 180, 0), (75, 181, 0), (75, 182, 0), (75, 183, 0), (75, 184, 0), (75, 185, 0), (75, 186, 0), (75, 187, 0), (75, 188, 0), (75, 189, 0), (75, 190, 0), (75, 191, 0), (75, 192, 0), (75, 193, 0), (75, 194, 0), (75, 195, 0), (75, 196, 0), (75, 197, 0), (75, 198, 0), (75, 199, 0), (75, 200, 0), (75, 201, 0), (75, 202, 0), (75, 203, 0), (75, 204, 0), (75, 205, 0), (75, 206, 0), (75, 207, 0), (75, 208, 0), (75, 209, 0), (75, 210, 0), (75, 211, 0), (75, 212, 0), (75, 213, 0)]
def zfc (l : List (Nat × Nat × Int)) (M : Me) : Bool := l.all fun q => decide (M q.1 q.2.1 = q.2.2)
def zR1 : Option Zr := run 4000 tX8_init none 0 [zr 0] [] [(7, 0, List.replicate 9 none)] (fun _ _ => 0) (fun _ => 0)
set_option maxRecDepth 100000 in
theorem zR1a : zR1.map (fun r => (r.1.isNone, r.2.1)) = some (true, zS1) := by decide +kernel
set_option maxRecDepth 100000 in
theorem zR1b : zR1.map (fun r => zfc zf1 r.2.2.1) = some true := by decide +kernel
def zR2 : Option Zr := zR1.bind fun r => run 4000 tX9_init none 0 [zr 74] [] (r.2.1 ++ [(8, 0, List.replicate 10 none)]) r.2.2.1 r.2.2.2
set_option maxRecDepth 100000 in
theorem zR2a : zR2.map (fun r => (r.1.isNone, r.2.1)) = some (true, zS0) := by decide +kernel
set_option maxRecDepth 100000 in
theorem zR2b : zR2.map (fun r => zfc zf2 r.2.2.1) = some true := by decide +kernel
theorem zinit (sc : Sc) : ∃ (M0 : Me) (h0 : Ml), (∀ q ∈ zf2, M0 q.1 q.2.1 = q.2.2) ∧ ∀ (n : Nat) (z : Zr), run n tL_law sc 18 [zs, zr 0, zr 74, zi 0] [] zS0 M0 h0 = some z → ∃ m, run m tL_law sc 0 [zs, zn, zn, zn] [] [] (fun _ _ => 0) (fun _ => 0) = some z := by
  have h1 := zR1a
  have h2 := zR2a
  have h3 := zR2b
  cases hr1 : zR1 with
  | none => rw [hr1] at h1; cases h1
  | some r1 =>
    obtain ⟨v1, S1, M1, l1⟩ := r1
    rw [hr1] at h1
    cases v1 with
    | some v1 => cases h1
    | none =>
    cases h1
    cases hr2 : zR2 with
    | none => rw [hr2] at h2; cases h2
    | some r2 =>
      obtain ⟨v2, S2, M2, l2⟩ := r2
      rw [hr2] at h2 h3
      cases v2 with
      | some v2 => cases h2
      | none =>
      cases h2
      have h4 : zfc zf2 M2 = true := Option.some.inj h3
      refine ⟨M2, l2, fun q hq => of_decide_eq_true (List.all_eq_true.mp h4 q hq), fun n z hn => ?_⟩
      obtain ⟨k1, g1⟩ := zgo_run (n := 2) (T := tL_law) (sc := sc) (pc := 0) (L := [zs, zn, zn, zn]) (st := []) (S := []) (M := fun _ _ => 0) (h := fun _ => 0) rfl
      obtain ⟨k2, g2⟩ := zgo_run (n := 3) (T := tL_law) (sc := sc) (pc := 7) (L := [zs, zn, zn, zn]) (st := [zr 0]) (S := zS1) (M := M1) (h := l1) rfl
      obtain ⟨k3, g3⟩ := zgo_run (n := 3) (T := tL_law) (sc := sc) (pc := 15) (L := [zs, zr 0, zn, zn]) (st := [zr 74]) (S := zS0) (M := M2) (h := l2) rfl
      unfold zR2 at hr2
      rw [hr1] at hr2
      have e3 : run (n + k3) tL_law sc 15 [zs, zr 0, zn, zn] [zr 74] zS0 M2 l2 = some z := by rw [g3]; exact hn
      have e4 : run (n + k3 + 4000 + 1) tL_law sc 12 [zs, zr 0, zn, zn] [zr 74, zr 74] (zS1 ++ [(8, 0, List.replicate 10 none)]) M1 l1 = some z := by
        rw [run_ca (T' := tX9_init) (L0 := [zr 74]) (r := [zr 74]) (nx := 15) rfl rfl rfl rfl (show run (n + k3 + 4000) tX9_init none 0 [zr 74] [] (zS1 ++ [(8, 0, List.replicate 10 none)]) M1 l1 = some (none, zS0, M2, l2) from by rw [Nat.add_comm (n + k3) 4000]; exact run_up hr2)]
        exact run_up e3
      have e2 : run (n + k3 + 4000 + 1 + k2) tL_law sc 7 [zs, zn, zn, zn] [zr 0] zS1 M1 l1 = some z := by rw [g2]; exact e4
      have e1 : run (n + k3 + 4000 + 1 + k2 + 4000 + 1) tL_law sc 4 [zs, zn, zn, zn] [zr 0, zr 0] [(7, 0, List.replicate 9 none)] (fun _ _ => 0) (fun _ => 0) = some z := by
        rw [run_ca (T' := tX8_init) (L0 := [zr 0]) (r := [zr 0]) (nx := 7) rfl rfl rfl rfl (show run (n + k3 + 4000 + 1 + k2 + 4000) tX8_init none 0 [zr 0] [] [(7, 0, List.replicate 9 none)] (fun _ _ => 0) (fun _ => 0) = some (none, zS1, M1, l1) from by rw [Nat.add_comm _ 4000]; exact run_up hr1)]
        exact run_up e2
      exact ⟨n + k3 + 4000 + 1 + k2 + 4000 + 1 + k1, by rw [g1]; exact e1⟩
