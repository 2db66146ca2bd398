/-! the class's best sum -/
theorem bit1 : ∀ j : Nat, j < 13 → 1 ≤ j → (1 : Nat).testBit j = false := by decide
theorem HB.start {M M1 M' : Me} {w : Nat → Nat} {c0 : Nat} (hI : HI M w) (hU : HU M w 0) (h0 : 1 ≤ c0 ∧ c0 ≤ 10) (hu : ∀ b, 1 ≤ b → b ≤ 12 → w b ≠ c0) (e1 : ∀ k, k = 64 ∨ k = 66 ∨ k = 67 → M1 k = M k) (e65 : M1 65 5 = 1) (e68 : ∀ j, j ≤ 12 → M1 68 j = (wz c0 w j : Int)) (e70 : ∀ b, 1 ≤ b → b ≤ 12 → M1 70 b = 1000000000)
    (k1 : ∀ k, k ≠ 69 → k ≠ 70 → M' k = M1 k) (hx : ∀ b, 1 ≤ b → b ≤ 12 → ((1 : Nat).testBit b = false ∧ cst M1 c0 b < M1 70 b ∧ M' 70 b = cst M1 c0 b ∧ M' 69 b = ((0 : Nat) : Int)) ∨ (¬ ((1 : Nat).testBit b = false ∧ cst M1 c0 b < M1 70 b) ∧ M' 70 b = M1 70 b ∧ M' 69 b = M1 69 b)) :
    HB M' w c0 0 1 (fun _ => 0) (fun _ => 0) := by
  have kk : ∀ k, k = 64 ∨ k = 66 ∨ k = 67 → M' k = M k := fun k hk => by rw [k1 k (by omega) (by omega)]; exact e1 k hk
  have k2 : ∀ k, k = 64 ∨ k = 66 ∨ k = 67 → M' k = M1 k := fun k hk => k1 k (by omega) (by omega)
  obtain ⟨bd1, bd2⟩ := hI.bd
  have p0 : M 66 c0 = 0 := hU.2 c0 h0.1 h0.2 (by omega) hu
  refine ⟨hI.kept kk, ⟨?_, fun c c1 c2 _ c4 => ?_⟩, ?_, ⟨by decide, by decide, ?_, by decide⟩, ⟨fun _ j j1 j2 => bit1 j (by omega) j1, fun g => by omega⟩, fun j hj => ?_, fun j j1 j2 j3 => ?_, fun _ _ _ => Nat.le_refl _, fun b b1 b2 b3 => ?_⟩
  · rw [kk 66 (by omega)]; exact hU.1
  · rw [kk 66 (by omega)]; exact hU.2 c c1 c2 (by omega) c4
  · rw [kk 66 (by omega), p0]; omega
  · rw [k1 65 (by decide) (by decide)]; exact e65
  · rw [k1 68 (by decide) (by decide)]; exact e68 j hj
  · rw [bit1 j (by omega) j1] at j3; cases j3
  · have hc : cst M1 c0 b < M1 70 b := by
      rw [e70 b b1 b2]
      have g1 := hI.2.2.2.2.2 c0 b h0.1 h0.2 b1 b2
      have g2 := bd1 b b1 b2
      have g3 : cst M1 c0 b = cst M c0 b := cst_kept e1 c0 b
      rw [g3]
      unfold cst
      omega
    rcases hx b b1 b2 with ⟨g1, g2, g3, g4⟩ | ⟨g1, -, -⟩
    · refine ⟨Nat.zero_le _, (show (1 : Nat).testBit 0 = true by decide), g4, ?_, fun j j1 j2 => ?_⟩
      · rw [cst_kept k2, g3]; rfl
      · have : j = 0 := by
          by_cases e : j = 0
          · exact e
          · rw [bit1 j (by omega) (by omega)] at j2; cases j2
        rw [cst_kept k2, g3, this]
        exact Int.le_refl _
    · exact absurd ⟨bit1 b (by omega) b1, hc⟩ g1
def Plc (M : Me) (h : Ml) (w : Nat → Nat) (c0 : Nat) : Option ZV → Me → Ml → Prop := fun v M' h' => v = none ∧ h' = h ∧ (∀ k, k < 65 ∨ 71 ≤ k → M' k = M k) ∧ ∃ w' : Nat → Nat, (∀ j, 1 ≤ j → j ≤ 12 → M' 68 j = (w' j : Int)) ∧ HI M' w' ∧ HU M' w' 0 ∧ ∀ c, 1 ≤ c → ((∃ b, 1 ≤ b ∧ b ≤ 12 ∧ w' b = c) ↔ ((∃ b, 1 ≤ b ∧ b ≤ 12 ∧ w b = c) ∨ c = c0))
theorem m_place {M : Me} {h : Ml} {w : Nat → Nat} {c0 : Nat} (hI : HI M w) (hU : HU M w 0) (h0 : 1 ≤ c0 ∧ c0 ≤ 10) (hu : ∀ b, 1 ≤ b → b ≤ 12 → w b ≠ c0) (hw : ∀ j, 1 ≤ j → j ≤ 12 → M 68 j = (w j : Int)) :
    Wp zS0 tX0_place none 0 [zr 65, zr 63, zi c0, zn, zn] [] M h (Plc M h w c0) := by
  obtain ⟨f, ff1, ff2, ff3⟩ := own_free hI.1 hI.2.1
  have loop : ∀ d r : Nat, r + d = 12 → ∀ (m : Nat) (bf tm : Nat → Nat) (col : Nat) (M' : Me), HB M' w c0 r m bf tm → (∀ k, k < 65 ∨ 71 ≤ k → M' k = M k) → Wp zS0 tX0_place none 51 [zr 65, zr 63, zi c0, zi col, zi r] [] M' h (Plc M h w c0) := by
    intro d
    induction d with
    | zero =>
      intro r hr m bf tm col M' hB hk
      exfalso
      obtain ⟨hI', hU', hP, hM, hR, hO, hX, hT, hS⟩ := hB
      have hff : m.testBit f = false := by
        cases hr : m.testBit f
        · rfl
        · exact absurd ff3 (hX f ff1 ff2 hr).1
      have := cntm_le ⟨ff1, ff2⟩ hff
      rw [hM.2.2.2] at this
      omega
    | succ d ih =>
      intro r hr m bf tm col M' hB hkk
      obtain ⟨f1, f2, f3, f4⟩ := hB.facts h0 hu
      obtain ⟨hI', hU', hP, hM, hR, hO, hX, hT, hS⟩ := id hB
      obtain ⟨bd1, bd2⟩ := hI'.bd
      have hff : m.testBit f = false := by
        cases hr : m.testBit f
        · rfl
        · exact absurd ff3 (hX f ff1 ff2 hr).1
      have hcnt := cntm_le ⟨ff1, ff2⟩ hff
      rw [hM.2.2.2] at hcnt
      refine Wp.g1 rfl ?_
      refine Wp.call rfl (m_nearest m M' h hM.2.2.1 hM.1 ⟨f, ff1, ff2, hff⟩) (fun v M1 h1 q => ?_)
      obtain ⟨rfl, rfl, k, rfl, k1, k2, k3, k4⟩ := q
      have hkS := hS k k1 k2 k3
      have hb := f4 (bf k) k hkS.1 hkS.2.1 k1 k2
      rw [← hkS.2.2.2.1] at hb
      refine Wp.g1 rfl ?_
      refine Wp.brf rfl (by omega) ?_
      refine Wp.g1 rfl ?_
      refine Wp.brt rfl (by omega) ?_
      refine Wp.g1 rfl ?_
      refine Wp.ld rfl rfl k rfl (by omega) ?_
      refine Wp.call rfl (m_shift m (M1 70 k) (wz c0 w) M1 h1 hM.2.2.1 hM.1 (fun j hj => ⟨hO j hj, ?_⟩) f2 (by omega) (fun b b1 b2 b3 => ?_) (fun c hc => by have := f3 c hc; omega) (fun b b1 b2 => by have := bd1 b b1 b2; omega) hM.2.1) (fun v M2 h2 q => ?_)
      · unfold wz
        split
        · exact h0.2
        · exact hI'.1 j (by omega) hj
      · obtain ⟨x1, x2, x3, x4, x5⟩ := hS b b1 b2 b3
        have := f4 _ b x1 x2 b1 b2
        rw [← x4] at this
        omega
      · obtain ⟨rfl, rfl, q1, q2, q3, q4, q5⟩ := q
        obtain ⟨hB2, hF0, ht0⟩ := hB.shift h0 hu ⟨k1, k2, k3⟩ k4 q1 q2 q3 q4 q5
        have hO2 := hB2.2.2.2.2.2.1
        have hfr : ∀ i, i < 65 ∨ 71 ≤ i → M2 i = M i := fun i hi => by rw [q1 i (by omega) (by omega) (by omega)]; exact hkk i hi
        have e68 : M2 68 k = (w k : Int) := by
          rw [hO2 k k2]
          unfold wz
          rw [if_neg (by omega)]
        refine Wp.g1 rfl ?_
        refine Wp.ld rfl rfl k rfl (by omega) ?_
        rw [e68]
        by_cases hwk : w k = 0
        · refine Wp.brf rfl (by omega) ?_
          refine Wp.g1 rfl ?_
          refine Wp.call rfl (hB2.hand h0 hu ⟨k1, k2, k3⟩ hwk (by omega) hF0 ht0) (fun v M3 h3 q => ?_)
          obtain ⟨rfl, rfl, q6, w', q7, q8, q9, q10⟩ := q
          exact Wp.re rfl ⟨rfl, rfl, fun i hi => by rw [q6 i (by omega)]; exact hfr i hi, w', q7, q8.kept (fun i hi => q6 i (by omega)), by unfold HU; rw [q6 66 (by decide)]; exact q9, q10⟩
        · refine Wp.brt rfl (by omega) ?_
          obtain ⟨m1, m2, m3⟩ := mask_add (m := m) (j := k) hM.1 (by omega)
          have hM2 := hB2.2.2.2.1
          obtain ⟨g1, g2, g3, g4⟩ := hB2.facts h0 hu
          have bd2' := hB2.1.bd
          have hG2 := hB2.1.2.2.2.2.2
          have hwk10 := hI'.1 k k1 k2
          refine Wp.g1 rfl ?_
          rw [w32_s (n := r) (by omega)]
          have hcnt2 : (r : Int) + 1 ≤ 11 := by
            have := cntm_add (m' := m ||| 2 ^ k) ⟨k1, k2⟩ k3 m3
            have hff2 : (m ||| 2 ^ k).testBit f = false := by
              rw [m3, hff, show decide (k = f) = false from decide_eq_false (fun e => hwk (e ▸ ff3))]
              rfl
            have h3 := cntm_le ⟨ff1, ff2⟩ hff2
            rw [this, hM.2.2.2] at h3
            exact h3
          refine Wp.brf rfl (by omega) ?_
          refine Wp.g1 rfl ?_
          rw [hM2.2.2.1, m1]
          have uk : ∀ i, i ≠ 65 → upd2 M2 65 5 ((m ||| 2 ^ k : Nat) : Int) i = M2 i := fun i hi => upd2_ne hi
          have hgk : ∀ c b, gn (upd2 M2 65 5 ((m ||| 2 ^ k : Nat) : Int)) c b = gn M2 c b := fun c b => by unfold gn; rw [uk 64 (by decide)]
          refine Wp.call rfl (m_relax (m ||| 2 ^ k) k (w k) _ _ upd2_at m2 k2 (by rw [uk 68 (by decide)]; exact e68) ⟨by omega, hwk10⟩ (fun b b1 b2 => by rw [hgk]; have := hG2 (w k) b (by omega) hwk10 b1 b2; omega) (by rw [uk 66 (by decide)]; have := g3 (w k) hwk10; omega) (fun b b1 b2 => by rw [uk 67 (by decide)]; have := bd2'.1 b b1 b2; omega)) (fun v M3 h3 q => ?_)
          obtain ⟨rfl, rfl, q6, q7⟩ := q
          have hck : ∀ c b, cst (upd2 M2 65 5 ((m ||| 2 ^ k : Nat) : Int)) c b = cst M2 c b := cst_kept (fun i hi => uk i (by omega))
          obtain ⟨bf', tm', hB3⟩ := hB2.next (M' := M3) hF0 ⟨k1, k2, k3⟩ hwk ht0 m2 m3 (by rw [q6 65 (by decide) (by decide), upd2_at]) (fun i i1 i2 i3 => by rw [q6 i i2 i3]; exact uk i i1) (fun b b1 b2 => by
            have := q7 b b1 b2
            rw [hck, uk 70 (by decide), uk 69 (by decide)] at this
            exact this)
          exact ih (r + 1) (by omega) _ bf' tm' k M3 hB3 (fun i hi => by rw [q6 i (by omega) (by omega), uk i (by omega)]; exact hfr i hi)
  refine Wp.g1 rfl ?_
  refine Wp.call rfl (m_fillA_70 1000000000 M h) (fun v M1 h1 q => ?_)
  obtain ⟨rfl, rfl, q1, q2⟩ := q
  refine Wp.g1 rfl ?_
  refine Wp.sto rfl rfl 0 rfl (by decide) ?_
  refine Wp.g1 rfl ?_
  refine Wp.brf rfl (by decide) ?_
  refine Wp.g1 rfl ?_
  rw [upd2_at, show bOr 0 (bShl 1 0) = ((1 : Nat) : Int) by decide]
  have uk : ∀ i, i ≠ 65 → i ≠ 68 → i ≠ 70 → upd2 (upd2 (upd2 M1 68 0 (c0 : Int)) 65 5 0) 65 5 ((1 : Nat) : Int) i = M i := fun i i1 i2 i3 => by rw [upd2_ne i1, upd2_ne i1, upd2_ne i2]; exact q1 i i3
  have e70 : ∀ b, b ≤ 12 → upd2 (upd2 (upd2 M1 68 0 (c0 : Int)) 65 5 0) 65 5 ((1 : Nat) : Int) 70 b = 1000000000 := fun b hb => by rw [upd2_ne (by decide), upd2_ne (by decide), upd2_ne (by decide)]; exact q2 b (by omega)
  have e65 : upd2 (upd2 (upd2 M1 68 0 (c0 : Int)) 65 5 0) 65 5 ((1 : Nat) : Int) 65 5 = 1 := upd2_at
  have e68 : ∀ j, j ≤ 12 → upd2 (upd2 (upd2 M1 68 0 (c0 : Int)) 65 5 0) 65 5 ((1 : Nat) : Int) 68 j = (wz c0 w j : Int) := fun j hj => by
    rw [upd2_ne (by decide), upd2_ne (by decide)]
    unfold wz
    by_cases e : j = 0
    · rw [if_pos e, e, upd2_at]
    · rw [if_neg e, upd2_off e, q1 68 (by decide)]; exact hw j (by omega) hj
  generalize upd2 (upd2 (upd2 M1 68 0 (c0 : Int)) 65 5 0) 65 5 ((1 : Nat) : Int) = N at *
  obtain ⟨bd1, bd2⟩ := hI.bd
  have hG := hI.2.2.2.2.2
  have hgk : ∀ c b, gn N c b = gn M c b := fun c b => by unfold gn; rw [uk 64 (by decide) (by decide) (by decide)]
  have p0 : M 66 c0 = 0 := hU.2 c0 h0.1 h0.2 (by omega) hu
  refine Wp.call rfl (m_relax 1 0 c0 N _ e65 (by decide) (by decide) (e68 0 (by decide)) h0 (fun b b1 b2 => by rw [hgk]; have := hG c0 b h0.1 h0.2 b1 b2; omega) (by rw [uk 66 (by decide) (by decide) (by decide), p0]; decide) (fun b b1 b2 => by rw [uk 67 (by decide) (by decide) (by decide)]; have := bd1 b b1 b2; omega)) (fun v M3 h3 q => ?_)
  obtain ⟨rfl, rfl, q6, q7⟩ := q
  exact loop 12 0 (by omega) 1 _ _ 0 M3 (HB.start hI hU h0 hu (fun i hi => uk i (by omega) (by omega) (by omega)) e65 e68 (fun b _ b2 => e70 b b2) q6 q7) (fun i hi => by rw [q6 i (by omega) (by omega), uk i (by omega) (by omega) (by omega)])
