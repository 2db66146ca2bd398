/-! the reference: the parts of the score -/
section PT9
variable {M : Me} {h : Ml} {p : Nat} {V : Nat → Int} {nb nc t : Nat}
theorem m9_part (hS : MS M p V nb nc t) {c b cl bg : Nat} (hc : c < nc) (hb : b < nb) (ec : cl = p + (114 + 10 * c)) (eb : bg = p + (18 + 8 * b)) (i : Nat) (hi : 1 ≤ i ∧ i ≤ 6) : Wp zS0 tX9_part none 0 [zr 74, zi cl, zi bg, zi i, zn, zn, zn, zn] [] M h (Ri (scP V c b i) M h) := by
  have hp := hS.1
  have hV := hS.2.2.1
  have hW := hS.2.2.2
  have hnb := hW.1.2.2.1
  have hnc := hW.1.2.2.2
  obtain ⟨-, -, b1, b2, b3, b4, b5, b6, b7⟩ := hW.2.2.1 _ hb
  obtain ⟨-, -, c1, c2, c3, c4, c5, c6, c7, c8, c9⟩ := hW.2.2.2.1 _ hc
  have wb := hW.2.1.2.2.2.2.1
  have lc : ∀ k, k < 10 → M 75 (cl + k) = V (114 + 10 * c + k) := fun k hk => by rw [ec, Nat.add_assoc]; exact hV _ (by omega)
  have lb : ∀ k, k < 8 → M 75 (bg + k) = V (18 + 8 * b + k) := fun k hk => by rw [eb, Nat.add_assoc]; exact hV _ (by omega)
  have wc : ∀ (k : Nat) (x : Int), x = (k : Int) → k < 10 → w32 ((cl : Int) + x) = ((cl + k : Nat) : Int) := fun k x hx hk => w32_n (by omega) (by omega)
  have wg : ∀ (k : Nat) (x : Int), x = (k : Int) → k < 8 → w32 ((bg : Int) + x) = ((bg + k : Nat) : Int) := fun k x hx hk => w32_n (by omega) (by omega)
  have kw : ∀ k, k < 6 → Wp zS0 tX9_weight none 0 [zr 74, zi (k : Nat)] [] M h (Ri (V (4 + k)) M h) := fun k hk => m9_weight hS k hk
  rcases (show i = 1 ∨ i = 2 ∨ i = 3 ∨ i = 4 ∨ i = 5 ∨ i = 6 by omega) with e | e | e | e | e | e <;> subst e
  · obtain ⟨ill, hill⟩ := Int.eq_ofNat_of_zero_le b3.1
    have w0 := wb 0 (by omega)
    show Wp _ _ _ _ _ _ _ _ (Ri (sc1 (V 4) (V (114 + 10 * c + 1)) (V (18 + 8 * b + 2)) (V (18 + 8 * b + 3))) M h)
    unfold sc1
    generalize hsm : smk (V (114 + 10 * c + 1)) (V (18 + 8 * b + 2)) (V (18 + 8 * b + 3)) = sm
    have hsm64 : sm < 64 := by rw [← hsm]; exact ms_lt _ 6
    have p1 := pcN_le sm
    have p2 := pcN_le ill
    refine Wp.g1 rfl ?_
    refine Wp.sw rfl ?_
    refine Wp.g1 rfl ?_
    have ks := m9_same (h := h) hS hc hb ec eb
    rw [hsm] at ks
    refine Wp.calli rfl ks ?_
    refine Wp.calli rfl (m9_ones sm (by omega) M h) ?_
    refine Wp.g1 rfl ?_
    refine Wp.calli rfl (kw 0 (by omega)) ?_
    refine Wp.g1 rfl ?_
    rw [wg 3 3 rfl (by omega)]
    refine Wp.ld rfl rfl (bg + 3) rfl (by omega) ?_
    rw [lb 3 (by omega), hill]
    refine Wp.calli rfl (m9_ones ill (by omega) M h) ?_
    refine Wp.g1 rfl ?_
    refine Wp.calli rfl (kw 0 (by omega)) ?_
    refine Wp.g1 rfl ?_
    have w0' : 0 ≤ V 4 ∧ V 4 ≤ 50 := w0
    have m1 := mulbd (a := (pcN sm : Int)) (b := V 4) (A := 8) (B := 50) (by omega) w0'
    have x3 : w32 (3 * V (4 + 0)) = 3 * V 4 := w32_id ⟨by show _ ≤ 3 * V 4; omega, by show 3 * V 4 < _; omega⟩
    rw [x3]
    refine Wp.div rfl (by omega) (by decide) ?_
    refine Wp.g1 rfl ?_
    have m2 := mulbd (a := (pcN sm : Int)) (b := 3 * V 4 / 2) (A := 8) (B := 75) (by omega) (by omega)
    have m3 := mulbd (a := (pcN ill : Int)) (b := 3 * V 4 / 2) (A := 8) (B := 75) (by omega) (by omega)
    have ex : (6 - (pcN ill : Int) - (pcN sm : Int)) * (3 * V 4 / 2) = 6 * (3 * V 4 / 2) - (pcN ill : Int) * (3 * V 4 / 2) - (pcN sm : Int) * (3 * V 4 / 2) := by rw [Int.sub_mul, Int.sub_mul]
    refine Wp.rei rfl ?_ rfl rfl
    rw [Int.toNat_natCast, w32_id (x := 6 - (pcN ill : Int)) ⟨by omega, by omega⟩, w32_id (x := 6 - (pcN ill : Int) - (pcN sm : Int)) ⟨by omega, by omega⟩, show V (4 + 0) = V 4 from rfl, w32_id (x := (pcN sm : Int) * V 4) ⟨by omega, by omega⟩, w32_id (x := (6 - (pcN ill : Int) - (pcN sm : Int)) * (3 * V 4 / 2)) ⟨by omega, by omega⟩, w32_id ⟨by omega, by omega⟩]
  · have w0 : 0 ≤ V 5 ∧ V 5 ≤ 50 := wb 1 (by omega)
    show Wp _ _ _ _ _ _ _ _ (Ri (sc2 (V 5) (V (114 + 10 * c + 2)) (V (18 + 8 * b + 4))) M h)
    unfold sc2
    refine Wp.g1 rfl ?_
    refine Wp.sw rfl ?_
    refine Wp.g1 rfl ?_
    rw [wc 2 2 rfl (by omega)]
    refine Wp.ld rfl rfl (cl + 2) rfl (by omega) ?_
    rw [lc 2 (by omega)]
    refine Wp.g1 rfl ?_
    rw [wg 4 4 rfl (by omega)]
    refine Wp.ld rfl rfl (bg + 4) rfl (by omega) ?_
    rw [lb 4 (by omega)]
    refine Wp.g1 rfl ?_
    rw [w32_id (x := V (114 + 10 * c + 2) - V (18 + 8 * b + 4)) ⟨by omega, by omega⟩]
    refine Wp.calli rfl (m9_size _ ⟨by omega, by omega⟩ M h) ?_
    refine Wp.g1 rfl ?_
    by_cases g0 : V (114 + 10 * c + 2) = V (18 + 8 * b + 4)
    · rw [if_pos g0]
      refine Wp.brf rfl (by omega) ?_
      refine Wp.g1 rfl ?_
      refine Wp.calli rfl (kw 1 (by omega)) ?_
      refine Wp.g1 rfl ?_
      exact Wp.rei rfl rfl rfl rfl
    · rw [if_neg g0]
      refine Wp.brt rfl (by omega) ?_
      refine Wp.g1 rfl ?_
      have third : Wp zS0 tX9_part none 132 [zr 74, zi cl, zi bg, zi ((2 : Nat) : Int), zn, zi ((V (114 + 10 * c + 2) - V (18 + 8 * b + 4)).natAbs : Int), zn, zn] [] M h (Ri (V 5 / 3) M h) := by
        refine Wp.g1 rfl ?_
        refine Wp.calli rfl (kw 1 (by omega)) ?_
        refine Wp.g1 rfl ?_
        refine Wp.div rfl w0.1 (by decide) ?_
        refine Wp.g1 rfl ?_
        exact Wp.rei rfl rfl rfl rfl
      by_cases g1 : V (114 + 10 * c + 2) - V (18 + 8 * b + 4) = 1 ∨ V (18 + 8 * b + 4) - V (114 + 10 * c + 2) = 1
      · rw [if_pos (by omega)]
        refine Wp.brt rfl (by omega) ?_
        exact third
      · refine Wp.brf rfl (by omega) ?_
        refine Wp.g1 rfl ?_
        by_cases g2 : V (114 + 10 * c + 2) - V (18 + 8 * b + 4) = 7 ∨ V (18 + 8 * b + 4) - V (114 + 10 * c + 2) = 7
        · rw [if_pos (by omega)]
          refine Wp.brf rfl (by omega) ?_
          exact third
        · rw [if_neg (by omega)]
          refine Wp.brt rfl (by omega) ?_
          refine Wp.g1 rfl ?_
          exact Wp.rei rfl rfl rfl rfl
  · have w0 : 0 ≤ V 6 ∧ V 6 ≤ 50 := wb 2 (by omega)
    show Wp _ _ _ _ _ _ _ _ (Ri (sc3 (V 6) (V (114 + 10 * c + 3)) (V (18 + 8 * b + 5))) M h)
    unfold sc3
    refine Wp.g1 rfl ?_
    refine Wp.sw rfl ?_
    refine Wp.g1 rfl ?_
    rw [wg 5 5 rfl (by omega)]
    refine Wp.ld rfl rfl (bg + 5) rfl (by omega) ?_
    rw [lb 5 (by omega)]
    refine Wp.g1 rfl ?_
    rw [wc 3 3 rfl (by omega)]
    refine Wp.ld rfl rfl (cl + 3) rfl (by omega) ?_
    rw [lc 3 (by omega)]
    refine Wp.g1 rfl ?_
    by_cases g0 : V (114 + 10 * c + 3) = V (18 + 8 * b + 5)
    · rw [if_pos g0]
      refine Wp.brf rfl (fun q => q g0) ?_
      refine Wp.g1 rfl ?_
      refine Wp.calli rfl (kw 2 (by omega)) ?_
      refine Wp.g1 rfl ?_
      exact Wp.rei rfl rfl rfl rfl
    · rw [if_neg g0]
      refine Wp.brt rfl g0 ?_
      refine Wp.g1 rfl ?_
      rw [wc 3 3 rfl (by omega)]
      refine Wp.ld rfl rfl (cl + 3) rfl (by omega) ?_
      rw [lc 3 (by omega)]
      refine Wp.g1 rfl ?_
      refine Wp.div rfl c3.1 (by decide) ?_
      refine Wp.g1 rfl ?_
      refine Wp.div rfl b5.1 (by decide) ?_
      by_cases g1 : V (114 + 10 * c + 3) / 4 = V (18 + 8 * b + 5) / 4
      · rw [if_pos g1]
        refine Wp.brf rfl (fun q => q g1) ?_
        refine Wp.g1 rfl ?_
        refine Wp.calli rfl (kw 2 (by omega)) ?_
        refine Wp.g1 rfl ?_
        refine Wp.div rfl w0.1 (by decide) ?_
        refine Wp.g1 rfl ?_
        exact Wp.rei rfl rfl rfl rfl
      · rw [if_neg g1]
        refine Wp.brt rfl g1 ?_
        refine Wp.g1 rfl ?_
        exact Wp.rei rfl rfl rfl rfl
  · have w0 : 0 ≤ V 7 ∧ V 7 ≤ 50 := wb 3 (by omega)
    show Wp _ _ _ _ _ _ _ _ (Ri (sc4 (V 7) (V (114 + 10 * c + 4)) (V (18 + 8 * b + 6))) M h)
    unfold sc4
    obtain ⟨x, hx⟩ := Int.eq_ofNat_of_zero_le c4.1
    obtain ⟨y, hy⟩ := Int.eq_ofNat_of_zero_le b6.1
    have hax : x &&& y < 2 ^ 8 := Nat.and_lt_two_pow _ (by omega)
    have hox : x ^^^ y < 2 ^ 8 := Nat.xor_lt_two_pow (by omega) (by omega)
    have p1 := pcN_le (x &&& y)
    have p2 := pcN_le (x ^^^ y)
    refine Wp.g1 rfl ?_
    refine Wp.sw rfl ?_
    refine Wp.g1 rfl ?_
    rw [wc 4 4 rfl (by omega)]
    refine Wp.ld rfl rfl (cl + 4) rfl (by omega) ?_
    rw [lc 4 (by omega)]
    refine Wp.g1 rfl ?_
    rw [wg 6 6 rfl (by omega)]
    refine Wp.ld rfl rfl (bg + 6) rfl (by omega) ?_
    rw [lb 6 (by omega), hx, hy]
    refine Wp.g1 rfl ?_
    rw [bAnd_nat (by omega)]
    refine Wp.calli rfl (m9_ones (x &&& y) (by omega) M h) ?_
    refine Wp.g1 rfl ?_
    refine Wp.calli rfl (kw 3 (by omega)) ?_
    refine Wp.g1 rfl ?_
    rw [wc 4 4 rfl (by omega)]
    refine Wp.ld rfl rfl (cl + 4) rfl (by omega) ?_
    rw [lc 4 (by omega)]
    refine Wp.g1 rfl ?_
    rw [wg 6 6 rfl (by omega)]
    refine Wp.ld rfl rfl (bg + 6) rfl (by omega) ?_
    rw [lb 6 (by omega), hx, hy]
    refine Wp.g1 rfl ?_
    rw [bXor_nat (by omega) (by omega)]
    refine Wp.calli rfl (m9_ones (x ^^^ y) (by omega) M h) ?_
    refine Wp.g1 rfl ?_
    refine Wp.calli rfl (kw 3 (by omega)) ?_
    refine Wp.g1 rfl ?_
    refine Wp.div rfl w0.1 (by decide) ?_
    refine Wp.g1 rfl ?_
    have m1 := mulbd (a := (pcN (x &&& y) : Int)) (b := V 7) (A := 8) (B := 50) (by omega) w0
    have m2 := mulbd (a := (pcN (x ^^^ y) : Int)) (b := V 7 / 2) (A := 8) (B := 25) (by omega) (by omega)
    refine Wp.rei rfl ?_ rfl rfl
    rw [Int.toNat_natCast, Int.toNat_natCast, show V (4 + 3) = V 7 from rfl, w32_id (x := (pcN (x &&& y) : Int) * V 7) ⟨by omega, by omega⟩, w32_id (x := (pcN (x ^^^ y) : Int) * (V 7 / 2)) ⟨by omega, by omega⟩, w32_id ⟨by omega, by omega⟩]
  · have w0 : 0 ≤ V 8 ∧ V 8 ≤ 50 := wb 4 (by omega)
    show Wp _ _ _ _ _ _ _ _ (Ri (sc5 (V 8) (V (114 + 10 * c + 5)) (V (18 + 8 * b + 1))) M h)
    unfold sc5
    refine Wp.g1 rfl ?_
    refine Wp.sw rfl ?_
    refine Wp.g1 rfl ?_
    rw [wc 5 5 rfl (by omega)]
    refine Wp.ld rfl rfl (cl + 5) rfl (by omega) ?_
    rw [lc 5 (by omega)]
    refine Wp.g1 rfl ?_
    rw [wg 1 1 rfl (by omega)]
    refine Wp.ld rfl rfl (bg + 1) rfl (by omega) ?_
    rw [lb 1 (by omega)]
    refine Wp.g1 rfl ?_
    by_cases g0 : ib (V (114 + 10 * c + 5)) (V (18 + 8 * b + 1)) = 1
    · rw [if_pos g0]
      refine Wp.brf rfl (fun q => q g0) ?_
      refine Wp.g1 rfl ?_
      refine Wp.calli rfl (kw 4 (by omega)) ?_
      refine Wp.g1 rfl ?_
      exact Wp.rei rfl rfl rfl rfl
    · rw [if_neg g0]
      refine Wp.brt rfl g0 ?_
      refine Wp.g1 rfl ?_
      refine Wp.calli rfl (kw 4 (by omega)) ?_
      refine Wp.g1 rfl ?_
      exact Wp.rei rfl (w32_id ⟨by show _ ≤ -V 8; omega, by show -V 8 < _; omega⟩) rfl rfl
  · have w0 : 0 ≤ V 9 ∧ V 9 ≤ 50 := wb 5 (by omega)
    show Wp _ _ _ _ _ _ _ _ (Ri (sc6 (V 9) (V (18 + 8 * b + 7) - V (114 + 10 * c + 8))) M h)
    unfold sc6
    refine Wp.g1 rfl ?_
    refine Wp.swo rfl (by decide) ?_
    refine Wp.g1 rfl ?_
    rw [wg 7 7 rfl (by omega)]
    refine Wp.ld rfl rfl (bg + 7) rfl (by omega) ?_
    rw [lb 7 (by omega)]
    refine Wp.g1 rfl ?_
    rw [wc 8 8 rfl (by omega)]
    refine Wp.ld rfl rfl (cl + 8) rfl (by omega) ?_
    rw [lc 8 (by omega)]
    refine Wp.g1 rfl ?_
    rw [w32_id (x := V (18 + 8 * b + 7) - V (114 + 10 * c + 8)) ⟨by omega, by omega⟩]
    refine Wp.calli rfl (m9_less _ _ M h) ?_
    refine Wp.g1 rfl ?_
    refine Wp.calli rfl (kw 5 (by omega)) ?_
    refine Wp.g1 rfl ?_
    refine Wp.rei rfl ?_ rfl rfl
    generalize hz : min (V (18 + 8 * b + 7) - V (114 + 10 * c + 8)) 10 = z
    have hz2 : -10000 ≤ z ∧ z ≤ 10 := by omega
    have m1 := mulbd (a := z + 10000) (b := V 9) (A := 10010) (B := 50) (by omega) w0
    rw [Int.add_mul] at m1
    rw [w32_id (x := -z) ⟨by omega, by omega⟩, show V (4 + 5) = V 9 from rfl, Int.neg_mul, Int.mul_comm z (V 9)]
    rw [Int.mul_comm z (V 9)] at m1
    exact w32_id ⟨by omega, by omega⟩
end PT9
