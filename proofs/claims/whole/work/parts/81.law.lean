/-! the law: each call answers as the reference does -/
theorem m9_bestMs {M : Me} {h : Ml} {a : At} {t : Nat} (hM : MR M a) (hS : SO a t) : Wp zS0 tX9_bestTotal none 0 [zr 74, zn] [] M h (Ms (rBest a.V a.nb a.nc, a) M h) := (m9_bestTotal (hM.ms hS)).imp (fun _ _ _ q => ⟨q.1, q.2.1, fun k g => q.2.2 k (by omega), hM.kp (fun k _ g2 => q.2.2 k (by omega))⟩)
theorem zlc_self (x : Int64) : zlc x x = 0 := by
  unfold zlc
  rw [if_neg (Int64.lt_irrefl), if_pos rfl]
theorem bAnd_31 (x : Int) : ∃ k : Nat, k < 32 ∧ bAnd x 31 = (k : Int) := by
  unfold bAnd
  rw [show Int32.ofInt 31 = (31 : Int32) from rfl, pk_and (Int32.ofInt x) (m := 31) 5 (by decide)]
  have h : (Int32.ofInt x).toBitVec.toNat % 2 ^ 5 < 32 := Nat.mod_lt _ (by decide)
  exact ⟨_, h, nI_toInt (by omega)⟩
abbrev Lw (v : Option ZV) (_ : Me) (_ : Ml) : Prop := v = some (zi 1)
section LAW
variable {M : Me} {h : Ml} {a : At} {t L : Nat} {xs : Nat → Int}
abbrev Nx (L : Nat) (xs : Nat → Int) (t : Nat) : Prop := ∀ (M' : Me) (h' : Ml) (a' : At), CR M' a' → MR M' a' → SO a' (t + 1) → Wp zS0 tL_law (some (L, xs)) 1000 [zs, zr 0, zr 74, zi ((9 * t : Nat) : Int)] [] M' h' Lw
theorem lw_0 (hC : CR M a) (hM : MR M a) (hS : SO a t) (ht : t < 512) (hL : 9 * t + 9 ≤ L) (hN : Nx L xs t) : Wp zS0 tL_law (some (L, xs)) 164 [zs, zr 0, zr 74, zi ((9 * t : Nat) : Int)] [] M h Lw := by
  refine Wp.g1 rfl ?_
  rw [w32_n (x := ((9 * t : Nat) : Int) + 1) (n := 9 * t + 1) (by omega) (by omega)]
  refine Wp.lds rfl rfl (9 * t + 1) rfl (by omega) ?_
  refine Wp.g1 rfl ?_
  rw [w32_n (x := ((9 * t : Nat) : Int) + 2) (n := 9 * t + 2) (by omega) (by omega)]
  refine Wp.lds rfl rfl (9 * t + 2) rfl (by omega) ?_
  refine Wp.call rfl (c_setWeight hC hS _ _) (fun v M1 h1 q => ?_)
  obtain ⟨rfl, rfl, q1, q2⟩ := q
  have hM1 : MR M1 a := hM.kp (fun k g _ => q1 k g)
  refine Wp.g1 rfl ?_
  rw [w32_n (x := ((9 * t : Nat) : Int) + 1) (n := 9 * t + 1) (by omega) (by omega)]
  refine Wp.lds rfl rfl (9 * t + 1) rfl (by omega) ?_
  refine Wp.g1 rfl ?_
  rw [w32_n (x := ((9 * t : Nat) : Int) + 2) (n := 9 * t + 2) (by omega) (by omega)]
  refine Wp.lds rfl rfl (9 * t + 2) rfl (by omega) ?_
  refine Wp.call rfl (m9_setWeight hM1 hS _ _) (fun v M2 h2 q => ?_)
  obtain ⟨rfl, rfl, q3, q4⟩ := q
  refine Wp.brt rfl rfl ?_
  exact hN _ _ _ (q2.kept (fun k g => q3 k (by omega))) q4 (s_weight hS (by omega) _ _)
theorem lw_1 (hC : CR M a) (hM : MR M a) (hS : SO a t) (ht : t < 512) (hL : 9 * t + 9 ≤ L) (hN : Nx L xs t) : Wp zS0 tL_law (some (L, xs)) 197 [zs, zr 0, zr 74, zi ((9 * t : Nat) : Int)] [] M h Lw := by
  refine Wp.g1 rfl ?_
  rw [w32_n (x := ((9 * t : Nat) : Int) + 1) (n := 9 * t + 1) (by omega) (by omega)]
  refine Wp.lds rfl rfl (9 * t + 1) rfl (by omega) ?_
  refine Wp.call rfl (c_setThreshold hC hS _) (fun v M1 h1 q => ?_)
  obtain ⟨rfl, rfl, q1, q2⟩ := q
  have hM1 : MR M1 a := hM.kp (fun k g _ => q1 k g)
  refine Wp.g1 rfl ?_
  rw [w32_n (x := ((9 * t : Nat) : Int) + 1) (n := 9 * t + 1) (by omega) (by omega)]
  refine Wp.lds rfl rfl (9 * t + 1) rfl (by omega) ?_
  refine Wp.call rfl (m9_setThreshold hM1 hS _) (fun v M2 h2 q => ?_)
  obtain ⟨rfl, rfl, q3, q4⟩ := q
  refine Wp.brt rfl rfl ?_
  exact hN _ _ _ (q2.kept (fun k g => q3 k (by omega))) q4 (s_threshold hS (by omega) _)
theorem lw_2 (hC : CR M a) (hM : MR M a) (hS : SO a t) (ht : t < 512) (hL : 9 * t + 9 ≤ L) (hN : Nx L xs t) : Wp zS0 tL_law (some (L, xs)) 220 [zs, zr 0, zr 74, zi ((9 * t : Nat) : Int)] [] M h Lw := by
  refine Wp.g1 rfl ?_
  rw [w32_n (x := ((9 * t : Nat) : Int) + 1) (n := 9 * t + 1) (by omega) (by omega)]
  refine Wp.lds rfl rfl (9 * t + 1) rfl (by omega) ?_
  refine Wp.g1 rfl ?_
  rw [w32_n (x := ((9 * t : Nat) : Int) + 2) (n := 9 * t + 2) (by omega) (by omega)]
  refine Wp.lds rfl rfl (9 * t + 2) rfl (by omega) ?_
  refine Wp.call rfl (c_setMoney hC hS _ _) (fun v M1 h1 q => ?_)
  obtain ⟨rfl, rfl, q1, q2⟩ := q
  have hM1 : MR M1 a := hM.kp (fun k g _ => q1 k g)
  refine Wp.g1 rfl ?_
  rw [w32_n (x := ((9 * t : Nat) : Int) + 1) (n := 9 * t + 1) (by omega) (by omega)]
  refine Wp.lds rfl rfl (9 * t + 1) rfl (by omega) ?_
  refine Wp.g1 rfl ?_
  rw [w32_n (x := ((9 * t : Nat) : Int) + 2) (n := 9 * t + 2) (by omega) (by omega)]
  refine Wp.lds rfl rfl (9 * t + 2) rfl (by omega) ?_
  refine Wp.call rfl (m9_setMoney hM1 hS _ _) (fun v M2 h2 q => ?_)
  obtain ⟨rfl, rfl, q3, q4⟩ := q
  refine Wp.brt rfl rfl ?_
  exact hN _ _ _ (q2.kept (fun k g => q3 k (by omega))) q4 (s_money hS (by omega) _ _)
theorem lw_3 (hC : CR M a) (hM : MR M a) (hS : SO a t) (ht : t < 512) (hL : 9 * t + 9 ≤ L) (hN : Nx L xs t) : Wp zS0 tL_law (some (L, xs)) 253 [zs, zr 0, zr 74, zi ((9 * t : Nat) : Int)] [] M h Lw := by
  refine Wp.g1 rfl ?_
  rw [w32_n (x := ((9 * t : Nat) : Int) + 1) (n := 9 * t + 1) (by omega) (by omega)]
  refine Wp.lds rfl rfl (9 * t + 1) rfl (by omega) ?_
  refine Wp.g1 rfl ?_
  rw [w32_n (x := ((9 * t : Nat) : Int) + 2) (n := 9 * t + 2) (by omega) (by omega)]
  refine Wp.lds rfl rfl (9 * t + 2) rfl (by omega) ?_
  refine Wp.g1 rfl ?_
  rw [w32_n (x := ((9 * t : Nat) : Int) + 3) (n := 9 * t + 3) (by omega) (by omega)]
  refine Wp.lds rfl rfl (9 * t + 3) rfl (by omega) ?_
  refine Wp.g1 rfl ?_
  rw [w32_n (x := ((9 * t : Nat) : Int) + 4) (n := 9 * t + 4) (by omega) (by omega)]
  refine Wp.lds rfl rfl (9 * t + 4) rfl (by omega) ?_
  refine Wp.g1 rfl ?_
  rw [w32_n (x := ((9 * t : Nat) : Int) + 5) (n := 9 * t + 5) (by omega) (by omega)]
  refine Wp.lds rfl rfl (9 * t + 5) rfl (by omega) ?_
  refine Wp.g1 rfl ?_
  rw [w32_n (x := ((9 * t : Nat) : Int) + 6) (n := 9 * t + 6) (by omega) (by omega)]
  refine Wp.lds rfl rfl (9 * t + 6) rfl (by omega) ?_
  refine Wp.call rfl (c_found hC hS (by omega) _ _ _ _ _ _) (fun v M1 h1 q => ?_)
  obtain ⟨rfl, rfl, q1, q2⟩ := q
  have hM1 : MR M1 a := hM.kp (fun k g _ => q1 k g)
  refine Wp.g1 rfl ?_
  rw [w32_n (x := ((9 * t : Nat) : Int) + 1) (n := 9 * t + 1) (by omega) (by omega)]
  refine Wp.lds rfl rfl (9 * t + 1) rfl (by omega) ?_
  refine Wp.g1 rfl ?_
  rw [w32_n (x := ((9 * t : Nat) : Int) + 2) (n := 9 * t + 2) (by omega) (by omega)]
  refine Wp.lds rfl rfl (9 * t + 2) rfl (by omega) ?_
  refine Wp.g1 rfl ?_
  rw [w32_n (x := ((9 * t : Nat) : Int) + 3) (n := 9 * t + 3) (by omega) (by omega)]
  refine Wp.lds rfl rfl (9 * t + 3) rfl (by omega) ?_
  refine Wp.g1 rfl ?_
  rw [w32_n (x := ((9 * t : Nat) : Int) + 4) (n := 9 * t + 4) (by omega) (by omega)]
  refine Wp.lds rfl rfl (9 * t + 4) rfl (by omega) ?_
  refine Wp.g1 rfl ?_
  rw [w32_n (x := ((9 * t : Nat) : Int) + 5) (n := 9 * t + 5) (by omega) (by omega)]
  refine Wp.lds rfl rfl (9 * t + 5) rfl (by omega) ?_
  refine Wp.g1 rfl ?_
  rw [w32_n (x := ((9 * t : Nat) : Int) + 6) (n := 9 * t + 6) (by omega) (by omega)]
  refine Wp.lds rfl rfl (9 * t + 6) rfl (by omega) ?_
  refine Wp.call rfl (m9_found hM1 hS (by omega) _ _ _ _ _ _) (fun v M2 h2 q => ?_)
  obtain ⟨rfl, rfl, q3, q4⟩ := q
  refine Wp.brt rfl rfl ?_
  exact hN _ _ _ (q2.kept (fun k g => q3 k (by omega))) q4 (s_found hS (by omega) _ _ _ _ _ _)
theorem lw_4 (hC : CR M a) (hM : MR M a) (hS : SO a t) (ht : t < 512) (hL : 9 * t + 9 ≤ L) (hN : Nx L xs t) : Wp zS0 tL_law (some (L, xs)) 328 [zs, zr 0, zr 74, zi ((9 * t : Nat) : Int)] [] M h Lw := by
  refine Wp.g1 rfl ?_
  rw [w32_n (x := ((9 * t : Nat) : Int) + 1) (n := 9 * t + 1) (by omega) (by omega)]
  refine Wp.lds rfl rfl (9 * t + 1) rfl (by omega) ?_
  refine Wp.g1 rfl ?_
  rw [w32_n (x := ((9 * t : Nat) : Int) + 2) (n := 9 * t + 2) (by omega) (by omega)]
  refine Wp.lds rfl rfl (9 * t + 2) rfl (by omega) ?_
  refine Wp.g1 rfl ?_
  rw [w32_n (x := ((9 * t : Nat) : Int) + 3) (n := 9 * t + 3) (by omega) (by omega)]
  refine Wp.lds rfl rfl (9 * t + 3) rfl (by omega) ?_
  refine Wp.g1 rfl ?_
  rw [w32_n (x := ((9 * t : Nat) : Int) + 4) (n := 9 * t + 4) (by omega) (by omega)]
  refine Wp.lds rfl rfl (9 * t + 4) rfl (by omega) ?_
  refine Wp.g1 rfl ?_
  rw [w32_n (x := ((9 * t : Nat) : Int) + 5) (n := 9 * t + 5) (by omega) (by omega)]
  refine Wp.lds rfl rfl (9 * t + 5) rfl (by omega) ?_
  refine Wp.g1 rfl ?_
  rw [w32_n (x := ((9 * t : Nat) : Int) + 6) (n := 9 * t + 6) (by omega) (by omega)]
  refine Wp.lds rfl rfl (9 * t + 6) rfl (by omega) ?_
  refine Wp.g1 rfl ?_
  rw [w32_n (x := ((9 * t : Nat) : Int) + 7) (n := 9 * t + 7) (by omega) (by omega)]
  refine Wp.lds rfl rfl (9 * t + 7) rfl (by omega) ?_
  refine Wp.g1 rfl ?_
  rw [w32_n (x := ((9 * t : Nat) : Int) + 8) (n := 9 * t + 8) (by omega) (by omega)]
  refine Wp.lds rfl rfl (9 * t + 8) rfl (by omega) ?_
  refine Wp.call rfl (c_claim hC hS (by omega) _ _ _ _ _ _ _ _) (fun v M1 h1 q => ?_)
  obtain ⟨rfl, rfl, q1, q2⟩ := q
  have hM1 : MR M1 a := hM.kp (fun k g _ => q1 k g)
  refine Wp.g1 rfl ?_
  rw [w32_n (x := ((9 * t : Nat) : Int) + 1) (n := 9 * t + 1) (by omega) (by omega)]
  refine Wp.lds rfl rfl (9 * t + 1) rfl (by omega) ?_
  refine Wp.g1 rfl ?_
  rw [w32_n (x := ((9 * t : Nat) : Int) + 2) (n := 9 * t + 2) (by omega) (by omega)]
  refine Wp.lds rfl rfl (9 * t + 2) rfl (by omega) ?_
  refine Wp.g1 rfl ?_
  rw [w32_n (x := ((9 * t : Nat) : Int) + 3) (n := 9 * t + 3) (by omega) (by omega)]
  refine Wp.lds rfl rfl (9 * t + 3) rfl (by omega) ?_
  refine Wp.g1 rfl ?_
  rw [w32_n (x := ((9 * t : Nat) : Int) + 4) (n := 9 * t + 4) (by omega) (by omega)]
  refine Wp.lds rfl rfl (9 * t + 4) rfl (by omega) ?_
  refine Wp.g1 rfl ?_
  rw [w32_n (x := ((9 * t : Nat) : Int) + 5) (n := 9 * t + 5) (by omega) (by omega)]
  refine Wp.lds rfl rfl (9 * t + 5) rfl (by omega) ?_
  refine Wp.g1 rfl ?_
  rw [w32_n (x := ((9 * t : Nat) : Int) + 6) (n := 9 * t + 6) (by omega) (by omega)]
  refine Wp.lds rfl rfl (9 * t + 6) rfl (by omega) ?_
  refine Wp.g1 rfl ?_
  rw [w32_n (x := ((9 * t : Nat) : Int) + 7) (n := 9 * t + 7) (by omega) (by omega)]
  refine Wp.lds rfl rfl (9 * t + 7) rfl (by omega) ?_
  refine Wp.g1 rfl ?_
  rw [w32_n (x := ((9 * t : Nat) : Int) + 8) (n := 9 * t + 8) (by omega) (by omega)]
  refine Wp.lds rfl rfl (9 * t + 8) rfl (by omega) ?_
  refine Wp.call rfl (m9_claim hM1 hS (by omega) _ _ _ _ _ _ _ _) (fun v M2 h2 q => ?_)
  obtain ⟨rfl, rfl, q3, q4⟩ := q
  refine Wp.brt rfl rfl ?_
  exact hN _ _ _ (q2.kept (fun k g => q3 k (by omega))) q4 (s_claim hS (by omega) _ _ _ _ _ _ _ _)
theorem lw_5 (hC : CR M a) (hM : MR M a) (hS : SO a t) (ht : t < 512) (hL : 9 * t + 9 ≤ L) (hN : Nx L xs t) : Wp zS0 tL_law (some (L, xs)) 427 [zs, zr 0, zr 74, zi ((9 * t : Nat) : Int)] [] M h Lw := by
  refine Wp.g1 rfl ?_
  rw [w32_n (x := ((9 * t : Nat) : Int) + 1) (n := 9 * t + 1) (by omega) (by omega)]
  refine Wp.lds rfl rfl (9 * t + 1) rfl (by omega) ?_
  refine Wp.g1 rfl ?_
  rw [w32_n (x := ((9 * t : Nat) : Int) + 2) (n := 9 * t + 2) (by omega) (by omega)]
  refine Wp.lds rfl rfl (9 * t + 2) rfl (by omega) ?_
  refine Wp.call rfl (c_match hC hS _ _) (fun v M1 h1 q => ?_)
  obtain ⟨rfl, rfl, q1, q2⟩ := q
  have hM1 : MR M1 a := hM.kp (fun k g _ => q1 k g)
  refine Wp.g1 rfl ?_
  rw [w32_n (x := ((9 * t : Nat) : Int) + 1) (n := 9 * t + 1) (by omega) (by omega)]
  refine Wp.lds rfl rfl (9 * t + 1) rfl (by omega) ?_
  refine Wp.g1 rfl ?_
  rw [w32_n (x := ((9 * t : Nat) : Int) + 2) (n := 9 * t + 2) (by omega) (by omega)]
  refine Wp.lds rfl rfl (9 * t + 2) rfl (by omega) ?_
  refine Wp.call rfl (m9_match hM1 hS _ _) (fun v M2 h2 q => ?_)
  obtain ⟨rfl, rfl, q3, q4⟩ := q
  refine Wp.brt rfl rfl ?_
  exact hN _ _ _ (q2.kept (fun k g => q3 k (by omega))) q4 (s_match hS (by omega) _ _)
theorem lw_6 (hC : CR M a) (hM : MR M a) (hS : SO a t) (ht : t < 512) (hL : 9 * t + 9 ≤ L) (hN : Nx L xs t) : Wp zS0 tL_law (some (L, xs)) 460 [zs, zr 0, zr 74, zi ((9 * t : Nat) : Int)] [] M h Lw := by
  refine Wp.g1 rfl ?_
  rw [w32_n (x := ((9 * t : Nat) : Int) + 1) (n := 9 * t + 1) (by omega) (by omega)]
  refine Wp.lds rfl rfl (9 * t + 1) rfl (by omega) ?_
  refine Wp.call rfl (c_unmatch hC hS _) (fun v M1 h1 q => ?_)
  obtain ⟨rfl, rfl, q1, q2⟩ := q
  have hM1 : MR M1 a := hM.kp (fun k g _ => q1 k g)
  refine Wp.g1 rfl ?_
  rw [w32_n (x := ((9 * t : Nat) : Int) + 1) (n := 9 * t + 1) (by omega) (by omega)]
  refine Wp.lds rfl rfl (9 * t + 1) rfl (by omega) ?_
  refine Wp.call rfl (m9_unmatch hM1 hS _) (fun v M2 h2 q => ?_)
  obtain ⟨rfl, rfl, q3, q4⟩ := q
  refine Wp.brt rfl rfl ?_
  exact hN _ _ _ (q2.kept (fun k g => q3 k (by omega))) q4 (s_unmatch hS (by omega) _)
theorem lw_7 (hC : CR M a) (hM : MR M a) (hS : SO a t) (ht : t < 512) (hL : 9 * t + 9 ≤ L) (hN : Nx L xs t) : Wp zS0 tL_law (some (L, xs)) 483 [zs, zr 0, zr 74, zi ((9 * t : Nat) : Int)] [] M h Lw := by
  refine Wp.g1 rfl ?_
  refine Wp.call rfl (c_matchAll hC hS) (fun v M1 h1 q => ?_)
  obtain ⟨rfl, rfl, q1, q2⟩ := q
  have hM1 : MR M1 a := hM.kp (fun k g _ => q1 k g)
  refine Wp.g1 rfl ?_
  refine Wp.call rfl (m9_matchAll hM1 hS) (fun v M2 h2 q => ?_)
  obtain ⟨rfl, rfl, q3, q4⟩ := q
  refine Wp.brt rfl rfl ?_
  exact hN _ _ _ (q2.kept (fun k g => q3 k (by omega))) q4 (s_matchAll hS (by omega))
theorem lw_8 (hC : CR M a) (hM : MR M a) (hS : SO a t) (ht : t < 512) (hL : 9 * t + 9 ≤ L) (hN : Nx L xs t) : Wp zS0 tL_law (some (L, xs)) 496 [zs, zr 0, zr 74, zi ((9 * t : Nat) : Int)] [] M h Lw := by
  refine Wp.g1 rfl ?_
  rw [w32_n (x := ((9 * t : Nat) : Int) + 1) (n := 9 * t + 1) (by omega) (by omega)]
  refine Wp.lds rfl rfl (9 * t + 1) rfl (by omega) ?_
  refine Wp.call rfl (c_deliver hC hS _) (fun v M1 h1 q => ?_)
  obtain ⟨rfl, rfl, q1, q2⟩ := q
  have hM1 : MR M1 a := hM.kp (fun k g _ => q1 k g)
  refine Wp.g1 rfl ?_
  rw [w32_n (x := ((9 * t : Nat) : Int) + 1) (n := 9 * t + 1) (by omega) (by omega)]
  refine Wp.lds rfl rfl (9 * t + 1) rfl (by omega) ?_
  refine Wp.call rfl (m9_deliver hM1 hS _) (fun v M2 h2 q => ?_)
  obtain ⟨rfl, rfl, q3, q4⟩ := q
  refine Wp.brt rfl rfl ?_
  exact hN _ _ _ (q2.kept (fun k g => q3 k (by omega))) q4 (s_deliver hS (by omega) _)
theorem lw_9 (hC : CR M a) (hM : MR M a) (hS : SO a t) (ht : t < 512) (hL : 9 * t + 9 ≤ L) (hN : Nx L xs t) : Wp zS0 tL_law (some (L, xs)) 519 [zs, zr 0, zr 74, zi ((9 * t : Nat) : Int)] [] M h Lw := by
  refine Wp.g1 rfl ?_
  rw [w32_n (x := ((9 * t : Nat) : Int) + 1) (n := 9 * t + 1) (by omega) (by omega)]
  refine Wp.lds rfl rfl (9 * t + 1) rfl (by omega) ?_
  refine Wp.call rfl (c_giveUp hC hS _) (fun v M1 h1 q => ?_)
  obtain ⟨rfl, rfl, q1, q2⟩ := q
  have hM1 : MR M1 a := hM.kp (fun k g _ => q1 k g)
  refine Wp.g1 rfl ?_
  rw [w32_n (x := ((9 * t : Nat) : Int) + 1) (n := 9 * t + 1) (by omega) (by omega)]
  refine Wp.lds rfl rfl (9 * t + 1) rfl (by omega) ?_
  refine Wp.call rfl (m9_giveUp hM1 hS _) (fun v M2 h2 q => ?_)
  obtain ⟨rfl, rfl, q3, q4⟩ := q
  refine Wp.brt rfl rfl ?_
  exact hN _ _ _ (q2.kept (fun k g => q3 k (by omega))) q4 (s_giveUp hS (by omega) _)
theorem lw_10 (hC : CR M a) (hM : MR M a) (hS : SO a t) (ht : t < 512) (hL : 9 * t + 9 ≤ L) (hN : Nx L xs t) : Wp zS0 tL_law (some (L, xs)) 542 [zs, zr 0, zr 74, zi ((9 * t : Nat) : Int)] [] M h Lw := by
  refine Wp.g1 rfl ?_
  rw [w32_n (x := ((9 * t : Nat) : Int) + 1) (n := 9 * t + 1) (by omega) (by omega)]
  refine Wp.lds rfl rfl (9 * t + 1) rfl (by omega) ?_
  refine Wp.call rfl (c_auction hC hS _) (fun v M1 h1 q => ?_)
  obtain ⟨rfl, rfl, q1, q2⟩ := q
  have hM1 : MR M1 a := hM.kp (fun k g _ => q1 k g)
  refine Wp.g1 rfl ?_
  rw [w32_n (x := ((9 * t : Nat) : Int) + 1) (n := 9 * t + 1) (by omega) (by omega)]
  refine Wp.lds rfl rfl (9 * t + 1) rfl (by omega) ?_
  refine Wp.call rfl (m9_auction hM1 hS _) (fun v M2 h2 q => ?_)
  obtain ⟨rfl, rfl, q3, q4⟩ := q
  refine Wp.brt rfl rfl ?_
  exact hN _ _ _ (q2.kept (fun k g => q3 k (by omega))) q4 (s_auction hS (by omega) _)
theorem lw_11 (hC : CR M a) (hM : MR M a) (hS : SO a t) (ht : t < 512) (hL : 9 * t + 9 ≤ L) (hN : Nx L xs t) : Wp zS0 tL_law (some (L, xs)) 565 [zs, zr 0, zr 74, zi ((9 * t : Nat) : Int)] [] M h Lw := by
  refine Wp.g1 rfl ?_
  rw [w32_n (x := ((9 * t : Nat) : Int) + 1) (n := 9 * t + 1) (by omega) (by omega)]
  refine Wp.lds rfl rfl (9 * t + 1) rfl (by omega) ?_
  refine Wp.call rfl (c_pass hC hS _) (fun v M1 h1 q => ?_)
  obtain ⟨rfl, rfl, q1, q2⟩ := q
  have hM1 : MR M1 a := hM.kp (fun k g _ => q1 k g)
  refine Wp.g1 rfl ?_
  rw [w32_n (x := ((9 * t : Nat) : Int) + 1) (n := 9 * t + 1) (by omega) (by omega)]
  refine Wp.lds rfl rfl (9 * t + 1) rfl (by omega) ?_
  refine Wp.call rfl (m9_pass hM1 hS _) (fun v M2 h2 q => ?_)
  obtain ⟨rfl, rfl, q3, q4⟩ := q
  refine Wp.brt rfl rfl ?_
  exact hN _ _ _ (q2.kept (fun k g => q3 k (by omega))) q4 (s_pass hS (by omega) _)
theorem lw_12 (hC : CR M a) (hM : MR M a) (hS : SO a t) (ht : t < 512) (hL : 9 * t + 9 ≤ L) (hN : Nx L xs t) : Wp zS0 tL_law (some (L, xs)) 588 [zs, zr 0, zr 74, zi ((9 * t : Nat) : Int)] [] M h Lw := by
  refine Wp.g1 rfl ?_
  rw [w32_n (x := ((9 * t : Nat) : Int) + 1) (n := 9 * t + 1) (by omega) (by omega)]
  refine Wp.lds rfl rfl (9 * t + 1) rfl (by omega) ?_
  refine Wp.call rfl (Cs.of hC (c_count (hC.cs hS) _)) (fun v M1 h1 q => ?_)
  obtain ⟨rfl, rfl, q1, q2⟩ := q
  have hM1 : MR M1 a := hM.kp (fun k g _ => q1 k g)
  refine Wp.g1 rfl ?_
  rw [w32_n (x := ((9 * t : Nat) : Int) + 1) (n := 9 * t + 1) (by omega) (by omega)]
  refine Wp.lds rfl rfl (9 * t + 1) rfl (by omega) ?_
  refine Wp.call rfl (Ms.no hM1 (m9_count (hM1.ms hS) _)) (fun v M2 h2 q => ?_)
  obtain ⟨rfl, rfl, q3, q4⟩ := q
  refine Wp.brt rfl rfl ?_
  exact hN _ _ _ (q2.kept (fun k g => q3 k (by omega))) q4 (hS.mono (by omega))
theorem lw_13 (hC : CR M a) (hM : MR M a) (hS : SO a t) (ht : t < 512) (hL : 9 * t + 9 ≤ L) (hN : Nx L xs t) : Wp zS0 tL_law (some (L, xs)) 611 [zs, zr 0, zr 74, zi ((9 * t : Nat) : Int)] [] M h Lw := by
  refine Wp.g1 rfl ?_
  rw [w32_n (x := ((9 * t : Nat) : Int) + 1) (n := 9 * t + 1) (by omega) (by omega)]
  refine Wp.lds rfl rfl (9 * t + 1) rfl (by omega) ?_
  refine Wp.g1 rfl ?_
  rw [w32_n (x := ((9 * t : Nat) : Int) + 2) (n := 9 * t + 2) (by omega) (by omega)]
  refine Wp.lds rfl rfl (9 * t + 2) rfl (by omega) ?_
  refine Wp.call rfl (Cs.of hC (c_bag (hC.cs hS) _ _)) (fun v M1 h1 q => ?_)
  obtain ⟨rfl, rfl, q1, q2⟩ := q
  have hM1 : MR M1 a := hM.kp (fun k g _ => q1 k g)
  refine Wp.g1 rfl ?_
  rw [w32_n (x := ((9 * t : Nat) : Int) + 1) (n := 9 * t + 1) (by omega) (by omega)]
  refine Wp.lds rfl rfl (9 * t + 1) rfl (by omega) ?_
  refine Wp.g1 rfl ?_
  rw [w32_n (x := ((9 * t : Nat) : Int) + 2) (n := 9 * t + 2) (by omega) (by omega)]
  refine Wp.lds rfl rfl (9 * t + 2) rfl (by omega) ?_
  refine Wp.call rfl (Ms.no hM1 (m9_bag (hM1.ms hS) _ _)) (fun v M2 h2 q => ?_)
  obtain ⟨rfl, rfl, q3, q4⟩ := q
  refine Wp.brt rfl rfl ?_
  exact hN _ _ _ (q2.kept (fun k g => q3 k (by omega))) q4 (hS.mono (by omega))
theorem lw_14 (hC : CR M a) (hM : MR M a) (hS : SO a t) (ht : t < 512) (hL : 9 * t + 9 ≤ L) (hN : Nx L xs t) : Wp zS0 tL_law (some (L, xs)) 644 [zs, zr 0, zr 74, zi ((9 * t : Nat) : Int)] [] M h Lw := by
  refine Wp.g1 rfl ?_
  rw [w32_n (x := ((9 * t : Nat) : Int) + 1) (n := 9 * t + 1) (by omega) (by omega)]
  refine Wp.lds rfl rfl (9 * t + 1) rfl (by omega) ?_
  refine Wp.g1 rfl ?_
  rw [w32_n (x := ((9 * t : Nat) : Int) + 2) (n := 9 * t + 2) (by omega) (by omega)]
  refine Wp.lds rfl rfl (9 * t + 2) rfl (by omega) ?_
  refine Wp.call rfl (Cs.of hC (c_claimOf (hC.cs hS) _ _)) (fun v M1 h1 q => ?_)
  obtain ⟨rfl, rfl, q1, q2⟩ := q
  have hM1 : MR M1 a := hM.kp (fun k g _ => q1 k g)
  refine Wp.g1 rfl ?_
  rw [w32_n (x := ((9 * t : Nat) : Int) + 1) (n := 9 * t + 1) (by omega) (by omega)]
  refine Wp.lds rfl rfl (9 * t + 1) rfl (by omega) ?_
  refine Wp.g1 rfl ?_
  rw [w32_n (x := ((9 * t : Nat) : Int) + 2) (n := 9 * t + 2) (by omega) (by omega)]
  refine Wp.lds rfl rfl (9 * t + 2) rfl (by omega) ?_
  refine Wp.call rfl (Ms.no hM1 (m9_claimOf (hM1.ms hS) _ _)) (fun v M2 h2 q => ?_)
  obtain ⟨rfl, rfl, q3, q4⟩ := q
  refine Wp.brt rfl rfl ?_
  exact hN _ _ _ (q2.kept (fun k g => q3 k (by omega))) q4 (hS.mono (by omega))
theorem lw_15 (hC : CR M a) (hM : MR M a) (hS : SO a t) (ht : t < 512) (hL : 9 * t + 9 ≤ L) (hN : Nx L xs t) : Wp zS0 tL_law (some (L, xs)) 677 [zs, zr 0, zr 74, zi ((9 * t : Nat) : Int)] [] M h Lw := by
  refine Wp.g1 rfl ?_
  rw [w32_n (x := ((9 * t : Nat) : Int) + 1) (n := 9 * t + 1) (by omega) (by omega)]
  refine Wp.lds rfl rfl (9 * t + 1) rfl (by omega) ?_
  refine Wp.g1 rfl ?_
  rw [w32_n (x := ((9 * t : Nat) : Int) + 2) (n := 9 * t + 2) (by omega) (by omega)]
  refine Wp.lds rfl rfl (9 * t + 2) rfl (by omega) ?_
  refine Wp.g1 rfl ?_
  rw [w32_n (x := ((9 * t : Nat) : Int) + 3) (n := 9 * t + 3) (by omega) (by omega)]
  refine Wp.lds rfl rfl (9 * t + 3) rfl (by omega) ?_
  refine Wp.call rfl (Cs.of hC (c_score (hC.cs hS) _ _ _)) (fun v M1 h1 q => ?_)
  obtain ⟨rfl, rfl, q1, q2⟩ := q
  have hM1 : MR M1 a := hM.kp (fun k g _ => q1 k g)
  refine Wp.g1 rfl ?_
  rw [w32_n (x := ((9 * t : Nat) : Int) + 1) (n := 9 * t + 1) (by omega) (by omega)]
  refine Wp.lds rfl rfl (9 * t + 1) rfl (by omega) ?_
  refine Wp.g1 rfl ?_
  rw [w32_n (x := ((9 * t : Nat) : Int) + 2) (n := 9 * t + 2) (by omega) (by omega)]
  refine Wp.lds rfl rfl (9 * t + 2) rfl (by omega) ?_
  refine Wp.g1 rfl ?_
  rw [w32_n (x := ((9 * t : Nat) : Int) + 3) (n := 9 * t + 3) (by omega) (by omega)]
  refine Wp.lds rfl rfl (9 * t + 3) rfl (by omega) ?_
  refine Wp.call rfl (Ms.no hM1 (m9_score (hM1.ms hS) _ _ _)) (fun v M2 h2 q => ?_)
  obtain ⟨rfl, rfl, q3, q4⟩ := q
  refine Wp.brt rfl rfl ?_
  exact hN _ _ _ (q2.kept (fun k g => q3 k (by omega))) q4 (hS.mono (by omega))
theorem lw_16 (hC : CR M a) (hM : MR M a) (hS : SO a t) (ht : t < 512) (hL : 9 * t + 9 ≤ L) (hN : Nx L xs t) : Wp zS0 tL_law (some (L, xs)) 720 [zs, zr 0, zr 74, zi ((9 * t : Nat) : Int)] [] M h Lw := by
  refine Wp.g1 rfl ?_
  rw [w32_n (x := ((9 * t : Nat) : Int) + 1) (n := 9 * t + 1) (by omega) (by omega)]
  refine Wp.lds rfl rfl (9 * t + 1) rfl (by omega) ?_
  refine Wp.g1 rfl ?_
  rw [w32_n (x := ((9 * t : Nat) : Int) + 2) (n := 9 * t + 2) (by omega) (by omega)]
  refine Wp.lds rfl rfl (9 * t + 2) rfl (by omega) ?_
  refine Wp.call rfl (Cs.of hC (c_suggest (hC.cs hS) _ _)) (fun v M1 h1 q => ?_)
  obtain ⟨rfl, rfl, q1, q2⟩ := q
  have hM1 : MR M1 a := hM.kp (fun k g _ => q1 k g)
  refine Wp.g1 rfl ?_
  rw [w32_n (x := ((9 * t : Nat) : Int) + 1) (n := 9 * t + 1) (by omega) (by omega)]
  refine Wp.lds rfl rfl (9 * t + 1) rfl (by omega) ?_
  refine Wp.g1 rfl ?_
  rw [w32_n (x := ((9 * t : Nat) : Int) + 2) (n := 9 * t + 2) (by omega) (by omega)]
  refine Wp.lds rfl rfl (9 * t + 2) rfl (by omega) ?_
  refine Wp.call rfl (Ms.no hM1 (m9_suggest (hM1.ms hS) _ _)) (fun v M2 h2 q => ?_)
  obtain ⟨rfl, rfl, q3, q4⟩ := q
  refine Wp.brt rfl rfl ?_
  exact hN _ _ _ (q2.kept (fun k g => q3 k (by omega))) q4 (hS.mono (by omega))
theorem lw_17 (hC : CR M a) (hM : MR M a) (hS : SO a t) (ht : t < 512) (hL : 9 * t + 9 ≤ L) (hN : Nx L xs t) : Wp zS0 tL_law (some (L, xs)) 753 [zs, zr 0, zr 74, zi ((9 * t : Nat) : Int)] [] M h Lw := by
  refine Wp.g1 rfl ?_
  rw [w32_n (x := ((9 * t : Nat) : Int) + 1) (n := 9 * t + 1) (by omega) (by omega)]
  refine Wp.lds rfl rfl (9 * t + 1) rfl (by omega) ?_
  refine Wp.g1 rfl ?_
  rw [w32_n (x := ((9 * t : Nat) : Int) + 2) (n := 9 * t + 2) (by omega) (by omega)]
  refine Wp.lds rfl rfl (9 * t + 2) rfl (by omega) ?_
  refine Wp.call rfl (Cs.of hC (c_same (hC.cs hS) _ _)) (fun v M1 h1 q => ?_)
  obtain ⟨rfl, rfl, q1, q2⟩ := q
  have hM1 : MR M1 a := hM.kp (fun k g _ => q1 k g)
  refine Wp.g1 rfl ?_
  rw [w32_n (x := ((9 * t : Nat) : Int) + 1) (n := 9 * t + 1) (by omega) (by omega)]
  refine Wp.lds rfl rfl (9 * t + 1) rfl (by omega) ?_
  refine Wp.g1 rfl ?_
  rw [w32_n (x := ((9 * t : Nat) : Int) + 2) (n := 9 * t + 2) (by omega) (by omega)]
  refine Wp.lds rfl rfl (9 * t + 2) rfl (by omega) ?_
  refine Wp.call rfl (Ms.no hM1 (m9_sameDigits (hM1.ms hS) _ _)) (fun v M2 h2 q => ?_)
  obtain ⟨rfl, rfl, q3, q4⟩ := q
  refine Wp.brt rfl rfl ?_
  exact hN _ _ _ (q2.kept (fun k g => q3 k (by omega))) q4 (hS.mono (by omega))
theorem lw_18 (hC : CR M a) (hM : MR M a) (hS : SO a t) (ht : t < 512) (hL : 9 * t + 9 ≤ L) (hN : Nx L xs t) : Wp zS0 tL_law (some (L, xs)) 786 [zs, zr 0, zr 74, zi ((9 * t : Nat) : Int)] [] M h Lw := by
  refine Wp.g1 rfl ?_
  refine Wp.call rfl (Cs.of hC (c_bestTotal (hC.cs hS))) (fun v M1 h1 q => ?_)
  obtain ⟨rfl, rfl, q1, q2⟩ := q
  have hM1 : MR M1 a := hM.kp (fun k g _ => q1 k g)
  refine Wp.g1 rfl ?_
  refine Wp.call rfl (m9_bestMs hM1 hS) (fun v M2 h2 q => ?_)
  obtain ⟨rfl, rfl, q3, q4⟩ := q
  refine Wp.brt rfl rfl ?_
  exact hN _ _ _ (q2.kept (fun k g => q3 k (by omega))) q4 (hS.mono (by omega))
theorem lw_19 (hC : CR M a) (hM : MR M a) (hS : SO a t) (ht : t < 512) (hL : 9 * t + 9 ≤ L) (hN : Nx L xs t) : Wp zS0 tL_law (some (L, xs)) 799 [zs, zr 0, zr 74, zi ((9 * t : Nat) : Int)] [] M h Lw := by
  refine Wp.g1 rfl ?_
  refine Wp.call rfl (Cs.of hC (c_totalOfAll (hC.cs hS))) (fun v M1 h1 q => ?_)
  obtain ⟨rfl, rfl, q1, q2⟩ := q
  have hM1 : MR M1 a := hM.kp (fun k g _ => q1 k g)
  refine Wp.g1 rfl ?_
  refine Wp.call rfl (Ms.of hM1 (m9_totalOfAll (hM1.ms hS))) (fun v M2 h2 q => ?_)
  obtain ⟨rfl, rfl, q3, q4⟩ := q
  refine Wp.brt rfl rfl ?_
  exact hN _ _ _ (q2.kept (fun k g => q3 k (by omega))) q4 (hS.mono (by omega))
theorem lw_20 (hC : CR M a) (hM : MR M a) (hS : SO a t) (ht : t < 512) (hL : 9 * t + 9 ≤ L) (hN : Nx L xs t) : Wp zS0 tL_law (some (L, xs)) 812 [zs, zr 0, zr 74, zi ((9 * t : Nat) : Int)] [] M h Lw := by
  refine Wp.g1 rfl ?_
  rw [w32_n (x := ((9 * t : Nat) : Int) + 1) (n := 9 * t + 1) (by omega) (by omega)]
  refine Wp.lds rfl rfl (9 * t + 1) rfl (by omega) ?_
  refine Wp.g1 rfl ?_
  rw [w32_n (x := ((9 * t : Nat) : Int) + 2) (n := 9 * t + 2) (by omega) (by omega)]
  refine Wp.lds rfl rfl (9 * t + 2) rfl (by omega) ?_
  refine Wp.call rfl (Cs.of hC (c_thresholdFor (hC.cs hS) _ _)) (fun v M1 h1 q => ?_)
  obtain ⟨rfl, rfl, q1, q2⟩ := q
  have hM1 : MR M1 a := hM.kp (fun k g _ => q1 k g)
  refine Wp.g1 rfl ?_
  rw [w32_n (x := ((9 * t : Nat) : Int) + 1) (n := 9 * t + 1) (by omega) (by omega)]
  refine Wp.lds rfl rfl (9 * t + 1) rfl (by omega) ?_
  refine Wp.g1 rfl ?_
  rw [w32_n (x := ((9 * t : Nat) : Int) + 2) (n := 9 * t + 2) (by omega) (by omega)]
  refine Wp.lds rfl rfl (9 * t + 2) rfl (by omega) ?_
  refine Wp.call rfl (Ms.no hM1 (m9_thresholdFor (hM1.ms hS) _ _)) (fun v M2 h2 q => ?_)
  obtain ⟨rfl, rfl, q3, q4⟩ := q
  refine Wp.brt rfl rfl ?_
  exact hN _ _ _ (q2.kept (fun k g => q3 k (by omega))) q4 (hS.mono (by omega))
theorem lw_21 (hC : CR M a) (hM : MR M a) (hS : SO a t) (ht : t < 512) (hL : 9 * t + 9 ≤ L) (hN : Nx L xs t) : Wp zS0 tL_law (some (L, xs)) 845 [zs, zr 0, zr 74, zi ((9 * t : Nat) : Int)] [] M h Lw := by
  refine Wp.g1 rfl ?_
  rw [w32_n (x := ((9 * t : Nat) : Int) + 1) (n := 9 * t + 1) (by omega) (by omega)]
  refine Wp.lds rfl rfl (9 * t + 1) rfl (by omega) ?_
  refine Wp.g1 rfl ?_
  rw [w32_n (x := ((9 * t : Nat) : Int) + 2) (n := 9 * t + 2) (by omega) (by omega)]
  refine Wp.lds rfl rfl (9 * t + 2) rfl (by omega) ?_
  refine Wp.g1 rfl ?_
  rw [w32_n (x := ((9 * t : Nat) : Int) + 3) (n := 9 * t + 3) (by omega) (by omega)]
  refine Wp.lds rfl rfl (9 * t + 3) rfl (by omega) ?_
  refine Wp.call rfl (Cs.of hC (c_ifEnded (hC.cs hS) _ _ _)) (fun v M1 h1 q => ?_)
  obtain ⟨rfl, rfl, q1, q2⟩ := q
  have hM1 : MR M1 a := hM.kp (fun k g _ => q1 k g)
  refine Wp.g1 rfl ?_
  rw [w32_n (x := ((9 * t : Nat) : Int) + 1) (n := 9 * t + 1) (by omega) (by omega)]
  refine Wp.lds rfl rfl (9 * t + 1) rfl (by omega) ?_
  refine Wp.g1 rfl ?_
  rw [w32_n (x := ((9 * t : Nat) : Int) + 2) (n := 9 * t + 2) (by omega) (by omega)]
  refine Wp.lds rfl rfl (9 * t + 2) rfl (by omega) ?_
  refine Wp.g1 rfl ?_
  rw [w32_n (x := ((9 * t : Nat) : Int) + 3) (n := 9 * t + 3) (by omega) (by omega)]
  refine Wp.lds rfl rfl (9 * t + 3) rfl (by omega) ?_
  refine Wp.call rfl (Ms.no hM1 (m9_ifEnded (hM1.ms hS) _ _ _)) (fun v M2 h2 q => ?_)
  obtain ⟨rfl, rfl, q3, q4⟩ := q
  refine Wp.brt rfl rfl ?_
  exact hN _ _ _ (q2.kept (fun k g => q3 k (by omega))) q4 (hS.mono (by omega))
theorem lw_22 (hC : CR M a) (hM : MR M a) (hS : SO a t) (ht : t < 512) (hL : 9 * t + 9 ≤ L) (hN : Nx L xs t) : Wp zS0 tL_law (some (L, xs)) 888 [zs, zr 0, zr 74, zi ((9 * t : Nat) : Int)] [] M h Lw := by
  refine Wp.g1 rfl ?_
  rw [w32_n (x := ((9 * t : Nat) : Int) + 1) (n := 9 * t + 1) (by omega) (by omega)]
  refine Wp.lds rfl rfl (9 * t + 1) rfl (by omega) ?_
  refine Wp.call rfl (c_type hC hS _) (fun v M1 h1 q => ?_)
  obtain ⟨rfl, rfl, q1, q2⟩ := q
  have hM1 : MR M1 a := hM.kp (fun k g _ => q1 k g)
  refine Wp.g1 rfl ?_
  rw [w32_n (x := ((9 * t : Nat) : Int) + 1) (n := 9 * t + 1) (by omega) (by omega)]
  refine Wp.lds rfl rfl (9 * t + 1) rfl (by omega) ?_
  refine Wp.call rfl (m9_type hM1 hS _) (fun v M2 h2 q => ?_)
  obtain ⟨rfl, rfl, q3, q4⟩ := q
  refine Wp.brt rfl rfl ?_
  exact hN _ _ _ (q2.kept (fun k g => q3 k (by omega))) q4 (s_type hS (by omega) _)
theorem lw_23 (hC : CR M a) (hM : MR M a) (hS : SO a t) (ht : t < 512) (hL : 9 * t + 9 ≤ L) (hN : Nx L xs t) : Wp zS0 tL_law (some (L, xs)) 911 [zs, zr 0, zr 74, zi ((9 * t : Nat) : Int)] [] M h Lw := by
  refine Wp.g1 rfl ?_
  refine Wp.call rfl (c_clearText hC) (fun v M1 h1 q => ?_)
  obtain ⟨rfl, rfl, q1, q2⟩ := q
  have hM1 : MR M1 a := hM.kp (fun k g _ => q1 k g)
  refine Wp.g1 rfl ?_
  refine Wp.call rfl (m9_clearText hM1) (fun v M2 h2 q => ?_)
  obtain ⟨rfl, rfl, q3, q4⟩ := q
  refine Wp.brt rfl rfl ?_
  exact hN _ _ _ (q2.kept (fun k g => q3 k (by omega))) q4 (s_clear hS (by omega))
theorem lw_24 (hC : CR M a) (hM : MR M a) (hS : SO a t) (ht : t < 512) (hL : 9 * t + 9 ≤ L) (hN : Nx L xs t) : Wp zS0 tL_law (some (L, xs)) 924 [zs, zr 0, zr 74, zi ((9 * t : Nat) : Int)] [] M h Lw := by
  refine Wp.g1 rfl ?_
  refine Wp.call rfl (c_syntaxError hC hS) (fun v M1 h1 q => ?_)
  obtain ⟨rfl, rfl, q1, q2⟩ := q
  have hM1 : MR M1 a := hM.kp (fun k g _ => q1 k g)
  refine Wp.g1 rfl ?_
  refine Wp.call rfl (Ms.no hM1 (m9_syntaxError (hM1.tx hS.2.2.2.1 hS.2.2.2.2))) (fun v M2 h2 q => ?_)
  obtain ⟨rfl, rfl, q3, q4⟩ := q
  refine Wp.brt rfl rfl ?_
  exact hN _ _ _ (q2.kept (fun k g => q3 k (by omega))) q4 (hS.mono (by omega))
theorem lw_25 (hC : CR M a) (hM : MR M a) (hS : SO a t) (ht : t < 512) (hL : 9 * t + 9 ≤ L) (hN : Nx L xs t) : Wp zS0 tL_law (some (L, xs)) 937 [zs, zr 0, zr 74, zi ((9 * t : Nat) : Int)] [] M h Lw := by
  refine Wp.g1 rfl ?_
  refine Wp.call rfl (c_readBags hC hS (by omega)) (fun v M1 h1 q => ?_)
  obtain ⟨rfl, rfl, q1, q2⟩ := q
  have hM1 : MR M1 a := hM.kp (fun k g _ => q1 k g)
  refine Wp.g1 rfl ?_
  refine Wp.call rfl (m9_readBags hM1 hS (by omega)) (fun v M2 h2 q => ?_)
  obtain ⟨rfl, rfl, q3, q4⟩ := q
  refine Wp.brt rfl rfl ?_
  exact hN _ _ _ (q2.kept (fun k g => q3 k (by omega))) q4 (s_readBags hS (by omega))
theorem lw_26 (hC : CR M a) (hM : MR M a) (hS : SO a t) (ht : t < 512) (hL : 9 * t + 9 ≤ L) (hN : Nx L xs t) : Wp zS0 tL_law (some (L, xs)) 950 [zs, zr 0, zr 74, zi ((9 * t : Nat) : Int)] [] M h Lw := by
  refine Wp.g1 rfl ?_
  rw [w32_n (x := ((9 * t : Nat) : Int) + 1) (n := 9 * t + 1) (by omega) (by omega)]
  refine Wp.lds rfl rfl (9 * t + 1) rfl (by omega) ?_
  refine Wp.call rfl (c_problem hC _) (fun v M1 h1 q => ?_)
  obtain ⟨rfl, rfl, q1, q2⟩ := q
  have hM1 : MR M1 a := hM.kp (fun k g _ => q1 k g)
  refine Wp.g1 rfl ?_
  rw [w32_n (x := ((9 * t : Nat) : Int) + 1) (n := 9 * t + 1) (by omega) (by omega)]
  refine Wp.lds rfl rfl (9 * t + 1) rfl (by omega) ?_
  refine Wp.call rfl (m9_problem hM1 _) (fun v M2 h2 q => ?_)
  obtain ⟨rfl, rfl, q3, q4⟩ := q
  refine Wp.brt rfl rfl ?_
  exact hN _ _ _ (q2.kept (fun k g => q3 k (by omega))) q4 (hS.mono (by omega))
theorem lw_27 (hC : CR M a) (hM : MR M a) (hS : SO a t) (ht : t < 512) (hL : 9 * t + 9 ≤ L) (hN : Nx L xs t) : Wp zS0 tL_law (some (L, xs)) 973 [zs, zr 0, zr 74, zi ((9 * t : Nat) : Int)] [] M h Lw := by
  refine Wp.g1 rfl ?_
  refine Wp.call rfl (c_undo hC hS) (fun v M1 h1 q => ?_)
  obtain ⟨rfl, rfl, q1, q2⟩ := q
  have hM1 : MR M1 a := hM.kp (fun k g _ => q1 k g)
  refine Wp.g1 rfl ?_
  refine Wp.call rfl (m9_undo hM1 hS) (fun v M2 h2 q => ?_)
  obtain ⟨rfl, rfl, q3, q4⟩ := q
  refine Wp.brt rfl rfl ?_
  exact hN _ _ _ (q2.kept (fun k g => q3 k (by omega))) q4 (s_undo hS (by omega))
theorem lw_28 (hC : CR M a) (hM : MR M a) (hS : SO a t) (ht : t < 512) (hL : 9 * t + 9 ≤ L) (hN : Nx L xs t) : Wp zS0 tL_law (some (L, xs)) 986 [zs, zr 0, zr 74, zi ((9 * t : Nat) : Int)] [] M h Lw := by
  refine Wp.g1 rfl ?_
  refine Wp.call rfl (c_digest (hC.cs hS)) (fun v M1 h1 q => ?_)
  obtain ⟨rfl, rfl, q1⟩ := q
  have hC1 : CR M1 a := hC.kept (fun k g => q1 k (by omega))
  have hM1 : MR M1 a := hM.kp (fun k g _ => q1 k (by omega))
  refine Wp.g1 rfl ?_
  refine Wp.call rfl (m9_digest (hM1.ms hS)) (fun v M2 h2 q => ?_)
  obtain ⟨rfl, q3, q4⟩ := q
  have hC2 : CR M2 a := hC1.kept (fun k g => q3 k (by omega) (by omega))
  have hM2 : MR M2 a := by
    obtain ⟨g1, g2, g3, g4⟩ := hM1
    refine ⟨fun j hj => (q4 j hj).trans (g1 j hj), ?_, ?_, ?_⟩
    · rw [q3 74 (by decide) (by decide), q3 76 (by decide) (by decide)]; exact g2
    · rw [q3 74 (by decide) (by decide), q3 77 (by decide) (by decide)]; exact g3
    · rw [q3 74 (by decide) (by decide)]; exact g4
  refine Wp.g1 rfl ?_
  refine Wp.brt rfl (zlc_self _) ?_
  exact hN _ _ _ hC2 hM2 (hS.mono (by omega))
theorem lw_loop (hL : L ≤ 4608) : ∀ d t : Nat, t + d = 513 → ∀ (M : Me) (h : Ml) (a : At), CR M a → MR M a → SO a t → Wp zS0 tL_law (some (L, xs)) 18 [zs, zr 0, zr 74, zi ((9 * t : Nat) : Int)] [] M h Lw := by
  have out : ∀ (t : Nat) (M : Me) (h : Ml), t ≤ 513 → ¬ 9 * t + 9 ≤ L → Wp zS0 tL_law (some (L, xs)) 18 [zs, zr 0, zr 74, zi ((9 * t : Nat) : Int)] [] M h Lw := by
    intro t M h ht hg
    refine Wp.g1 rfl ?_
    rw [w32_id (x := (L : Int) - 9) ⟨by omega, by omega⟩]
    refine Wp.brt rfl (by omega) ?_
    refine Wp.g1 rfl ?_
    exact Wp.re rfl rfl
  intro d
  induction d with
  | zero => intro t ht M h a _ _ _; exact out t M h (by omega) (by omega)
  | succ d ih =>
    intro t ht M h a hC hM hS
    by_cases hg : 9 * t + 9 ≤ L
    · have ht5 : t < 512 := by omega
      have hN : Nx L xs t := by
        intro M' h' a' c1 c2 c3
        refine Wp.gt 18 rfl ?_
        rw [w32_n (x := ((9 * t : Nat) : Int) + 9) (n := 9 * (t + 1)) (by omega) (by omega)]
        exact ih (t + 1) (by omega) M' h' a' c1 c2 c3
      refine Wp.g1 rfl ?_
      rw [w32_id (x := (L : Int) - 9) ⟨by omega, by omega⟩]
      refine Wp.brf rfl (by omega) ?_
      refine Wp.g1 rfl ?_
      refine Wp.lds rfl rfl (9 * t) rfl (by omega) ?_
      refine Wp.g1 rfl ?_
      obtain ⟨k, hk, e⟩ := bAnd_31 (xs (9 * t))
      rw [e]
      by_cases e0 : k = 0
      · subst e0
        refine Wp.sw rfl ?_
        exact lw_0 hC hM hS ht5 hg hN
      by_cases e1 : k = 1
      · subst e1
        refine Wp.sw rfl ?_
        exact lw_1 hC hM hS ht5 hg hN
      by_cases e2 : k = 2
      · subst e2
        refine Wp.sw rfl ?_
        exact lw_2 hC hM hS ht5 hg hN
      by_cases e3 : k = 3
      · subst e3
        refine Wp.sw rfl ?_
        exact lw_3 hC hM hS ht5 hg hN
      by_cases e4 : k = 4
      · subst e4
        refine Wp.sw rfl ?_
        exact lw_4 hC hM hS ht5 hg hN
      by_cases e5 : k = 5
      · subst e5
        refine Wp.sw rfl ?_
        exact lw_5 hC hM hS ht5 hg hN
      by_cases e6 : k = 6
      · subst e6
        refine Wp.sw rfl ?_
        exact lw_6 hC hM hS ht5 hg hN
      by_cases e7 : k = 7
      · subst e7
        refine Wp.sw rfl ?_
        exact lw_7 hC hM hS ht5 hg hN
      by_cases e8 : k = 8
      · subst e8
        refine Wp.sw rfl ?_
        exact lw_8 hC hM hS ht5 hg hN
      by_cases e9 : k = 9
      · subst e9
        refine Wp.sw rfl ?_
        exact lw_9 hC hM hS ht5 hg hN
      by_cases e10 : k = 10
      · subst e10
        refine Wp.sw rfl ?_
        exact lw_10 hC hM hS ht5 hg hN
      by_cases e11 : k = 11
      · subst e11
        refine Wp.sw rfl ?_
        exact lw_11 hC hM hS ht5 hg hN
      by_cases e12 : k = 12
      · subst e12
        refine Wp.sw rfl ?_
        exact lw_12 hC hM hS ht5 hg hN
      by_cases e13 : k = 13
      · subst e13
        refine Wp.sw rfl ?_
        exact lw_13 hC hM hS ht5 hg hN
      by_cases e14 : k = 14
      · subst e14
        refine Wp.sw rfl ?_
        exact lw_14 hC hM hS ht5 hg hN
      by_cases e15 : k = 15
      · subst e15
        refine Wp.sw rfl ?_
        exact lw_15 hC hM hS ht5 hg hN
      by_cases e16 : k = 16
      · subst e16
        refine Wp.sw rfl ?_
        exact lw_16 hC hM hS ht5 hg hN
      by_cases e17 : k = 17
      · subst e17
        refine Wp.sw rfl ?_
        exact lw_17 hC hM hS ht5 hg hN
      by_cases e18 : k = 18
      · subst e18
        refine Wp.sw rfl ?_
        exact lw_18 hC hM hS ht5 hg hN
      by_cases e19 : k = 19
      · subst e19
        refine Wp.sw rfl ?_
        exact lw_19 hC hM hS ht5 hg hN
      by_cases e20 : k = 20
      · subst e20
        refine Wp.sw rfl ?_
        exact lw_20 hC hM hS ht5 hg hN
      by_cases e21 : k = 21
      · subst e21
        refine Wp.sw rfl ?_
        exact lw_21 hC hM hS ht5 hg hN
      by_cases e22 : k = 22
      · subst e22
        refine Wp.sw rfl ?_
        exact lw_22 hC hM hS ht5 hg hN
      by_cases e23 : k = 23
      · subst e23
        refine Wp.sw rfl ?_
        exact lw_23 hC hM hS ht5 hg hN
      by_cases e24 : k = 24
      · subst e24
        refine Wp.sw rfl ?_
        exact lw_24 hC hM hS ht5 hg hN
      by_cases e25 : k = 25
      · subst e25
        refine Wp.sw rfl ?_
        exact lw_25 hC hM hS ht5 hg hN
      by_cases e26 : k = 26
      · subst e26
        refine Wp.sw rfl ?_
        exact lw_26 hC hM hS ht5 hg hN
      by_cases e27 : k = 27
      · subst e27
        refine Wp.sw rfl ?_
        exact lw_27 hC hM hS ht5 hg hN
      by_cases e28 : k = 28
      · subst e28
        refine Wp.sw rfl ?_
        exact lw_28 hC hM hS ht5 hg hN
      refine Wp.swo rfl (by omega) ?_
      exact hN M h a hC hM (hS.mono (by omega))
    · exact out t M h (by omega) hg
end LAW
