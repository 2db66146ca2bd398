/-- the six parts of the score of the claim in row c and the bag in row b; their sum is part 0 -/
def scP (V : Nat → Int) (c b : Nat) : Nat → Int
  | 1 => sc1 (V 4) (V (114 + 10 * c + 1)) (V (18 + 8 * b + 2)) (V (18 + 8 * b + 3))
  | 2 => sc2 (V 5) (V (114 + 10 * c + 2)) (V (18 + 8 * b + 4))
  | 3 => sc3 (V 6) (V (114 + 10 * c + 3)) (V (18 + 8 * b + 5))
  | 4 => sc4 (V 7) (V (114 + 10 * c + 4)) (V (18 + 8 * b + 6))
  | 5 => sc5 (V 8) (V (114 + 10 * c + 5)) (V (18 + 8 * b + 1))
  | _ => sc6 (V 9) (V (18 + 8 * b + 7) - V (114 + 10 * c + 8))
def scS (f : Nat → Int) : Nat → Int
  | 0 => 0
  | n + 1 => scS f n + (if n = 0 then 0 else f n)
def scI (V : Nat → Int) (c b i : Nat) : Int := if i = 0 then scS (scP V c b) 7 else scP V c b i
/-- with what calls answer where there is no score -/
def scN (V : Nat → Int) (c b i : Nat) : Int := if V (18 + 8 * b + 7) < V (114 + 10 * c + 8) then -10006 else scI V c b i
theorem scP_bd {V : Nat → Int} {nb nc t c b : Nat} (hW : WF V nb nc t) (hc : c < nc) (hb : b < nb) (hl : V (114 + 10 * c + 8) ≤ V (18 + 8 * b + 7)) : ∀ i, -1600 ≤ scP V c b i ∧ scP V c b i ≤ 1600 := by
  obtain ⟨-, ⟨-, -, -, -, hwt, -⟩, hB, hC, -⟩ := hW
  have w4 : 0 ≤ V 4 ∧ V 4 ≤ 50 := hwt 0 (by omega)
  have w5 : 0 ≤ V 5 ∧ V 5 ≤ 50 := hwt 1 (by omega)
  have w6 : 0 ≤ V 6 ∧ V 6 ≤ 50 := hwt 2 (by omega)
  have w7 : 0 ≤ V 7 ∧ V 7 ≤ 50 := hwt 3 (by omega)
  have w8 : 0 ≤ V 8 ∧ V 8 ≤ 50 := hwt 4 (by omega)
  have w9 : 0 ≤ V 9 ∧ V 9 ≤ 50 := hwt 5 (by omega)
  intro i
  unfold scP
  split
  · unfold sc1
    have p1 := pcN_le (smk (V (114 + 10 * c + 1)) (V (18 + 8 * b + 2)) (V (18 + 8 * b + 3)))
    have p2 := pcN_le (V (18 + 8 * b + 3)).toNat
    have g1 := mulbd (a := (pcN (smk (V (114 + 10 * c + 1)) (V (18 + 8 * b + 2)) (V (18 + 8 * b + 3))) : Int)) (b := V 4) (A := 8) (B := 50) (by omega) w4
    have g2 := mulbd (a := (pcN (smk (V (114 + 10 * c + 1)) (V (18 + 8 * b + 2)) (V (18 + 8 * b + 3))) : Int)) (b := 3 * V 4 / 2) (A := 8) (B := 75) (by omega) (by omega)
    have g3 := mulbd (a := (pcN (V (18 + 8 * b + 3)).toNat : Int)) (b := 3 * V 4 / 2) (A := 8) (B := 75) (by omega) (by omega)
    rw [Int.sub_mul, Int.sub_mul]
    omega
  · unfold sc2
    have w5 : 0 ≤ V 5 ∧ V 5 ≤ 50 := w5
    repeat' split
    all_goals omega
  · unfold sc3
    have w6 : 0 ≤ V 6 ∧ V 6 ≤ 50 := w6
    repeat' split
    all_goals omega
  · unfold sc4
    have p1 := pcN_le ((V (114 + 10 * c + 4)).toNat &&& (V (18 + 8 * b + 6)).toNat)
    have p2 := pcN_le ((V (114 + 10 * c + 4)).toNat ^^^ (V (18 + 8 * b + 6)).toNat)
    have g1 := mulbd (a := (pcN ((V (114 + 10 * c + 4)).toNat &&& (V (18 + 8 * b + 6)).toNat) : Int)) (b := V 7) (A := 8) (B := 50) (by omega) w7
    have g2 := mulbd (a := (pcN ((V (114 + 10 * c + 4)).toNat ^^^ (V (18 + 8 * b + 6)).toNat) : Int)) (b := V 7 / 2) (A := 8) (B := 25) (by omega) (by omega)
    omega
  · unfold sc5
    have w8 : 0 ≤ V 8 ∧ V 8 ≤ 50 := w8
    split <;> omega
  · unfold sc6
    have g1 := mulbd (a := V 9) (b := min (V (18 + 8 * b + 7) - V (114 + 10 * c + 8)) 10) (A := 50) (B := 10) w9 (by omega)
    omega
theorem scS_bd {f : Nat → Int} (h : ∀ i, -1600 ≤ f i ∧ f i ≤ 1600) : ∀ n : Nat, -1600 * (n : Int) ≤ scS f n ∧ scS f n ≤ 1600 * (n : Int) := by
  intro n
  induction n with
  | zero => show -1600 * ((0 : Nat) : Int) ≤ 0 ∧ (0 : Int) ≤ 1600 * ((0 : Nat) : Int); decide
  | succ n ih =>
    have h1 := h n
    show -1600 * ((n + 1 : Nat) : Int) ≤ scS f n + (if n = 0 then 0 else f n) ∧ scS f n + (if n = 0 then 0 else f n) ≤ 1600 * ((n + 1 : Nat) : Int)
    split <;> omega
theorem scI_bd {V : Nat → Int} {nb nc t c b : Nat} (hW : WF V nb nc t) (hc : c < nc) (hb : b < nb) (hl : V (114 + 10 * c + 8) ≤ V (18 + 8 * b + 7)) (i : Nat) : -9600 ≤ scI V c b i ∧ scI V c b i ≤ 9600 := by
  have h1 := scP_bd hW hc hb hl
  have h2 : scS (scP V c b) 7 = 0 + 0 + scP V c b 1 + scP V c b 2 + scP V c b 3 + scP V c b 4 + scP V c b 5 + scP V c b 6 := rfl
  have h3 := h1 i
  have a1 := h1 1
  have a2 := h1 2
  have a3 := h1 3
  have a4 := h1 4
  have a5 := h1 5
  have a6 := h1 6
  unfold scI
  split <;> omega
set_option maxHeartbeats 1000000 in
theorem m_compare {V : Nat → Int} {nb nc t c b : Nat} {M : Me} {h : Ml} (hR : OfRel M 1 V nb nc) (hw2 : M 2 0 = 8) (hw5 : M 5 0 = 9) (hW : WF V nb nc t) (hc : c < nc) (hb : b < nb) :
    Wp zS0 tX5_compare none 0 [zr 61, zr 1, zi c, zi b, zn, zn, zn, zn, zn, zn, zn] [] M h (fun v M' h' => h' = h ∧ (∀ k, k ≠ 62 → M' k = M k) ∧ ((V (18 + 8 * b + 7) < V (114 + 10 * c + 8) ∧ v = some (zi 0)) ∨ (V (114 + 10 * c + 8) ≤ V (18 + 8 * b + 7) ∧ v = some (zi 1) ∧ ∀ i, i < 7 → M' 62 i = scI V c b i))) := by
  obtain ⟨-, hwt, ⟨hn2, -, hn5, -⟩, hBr, hCr⟩ := hR
  have hWF := hW
  obtain ⟨⟨-, -, hnb, hnc⟩, ⟨-, -, -, -, hws, -⟩, hB, hC, -⟩ := hW
  obtain ⟨-, -, b1, b2, b3, b4, b5, b6, b7⟩ := hB b hb
  obtain ⟨-, -, c1, c2, c3, c4, c5, c6, c7, c8, c9⟩ := hC c hc
  have gb : ∀ (M' : Me), (∀ k, k ≠ 62 → M' k = M k) → ∀ j : Nat, j < 7 → Wp zS0 tX6_get none 0 [zr 2, zi b, zi j] [] M' h (Ri (V (18 + 8 * b + 1 + j)) M' h) := by
    intro M' hk j hj
    have := m2_get b j nb M' h (by rw [hk 2 (by omega)]; exact hw2) (by rw [hk 2 (by omega)]; exact hn2) hnb hb (by omega)
    rw [hk 4 (by omega), (hBr b hb).2.1 j hj] at this
    exact this
  have gc : ∀ (M' : Me), (∀ k, k ≠ 62 → M' k = M k) → ∀ j : Nat, j < 8 → Wp zS0 tX6_get none 0 [zr 5, zi c, zi j] [] M' h (Ri (V (114 + 10 * c + 1 + j)) M' h) := by
    intro M' hk j hj
    have := m5_get c j nc M' h (by rw [hk 5 (by omega)]; exact hw5) (by rw [hk 5 (by omega)]; exact hn5) hnc hc (by omega)
    rw [hk 7 (by omega), (hCr c hc).2.1 j hj] at this
    exact this
  have k0 : ∀ k, k ≠ 62 → M k = M k := fun _ _ => rfl
  have q6 : V (18 + 8 * b + 1 + 6) = V (18 + 8 * b + 7) := rfl
  have q7 : V (114 + 10 * c + 1 + 7) = V (114 + 10 * c + 8) := rfl
  refine Wp.g1 rfl ?_
  refine Wp.calli rfl (gb M k0 6 (by omega)) ?_
  refine Wp.g1 rfl ?_
  refine Wp.calli rfl (gc M k0 7 (by omega)) ?_
  refine Wp.g1 rfl ?_
  rw [w32_id (x := V (18 + 8 * b + 1 + 6) - V (114 + 10 * c + 1 + 7)) ⟨by omega, by omega⟩]
  refine Wp.br rfl (fun c0 => ?_) (fun c0 => ?_)
  rotate_left
  · refine Wp.g1 rfl ?_
    exact Wp.re rfl ⟨rfl, k0, Or.inl ⟨by omega, rfl⟩⟩
  have hl : V (114 + 10 * c + 8) ≤ V (18 + 8 * b + 7) := by omega
  have bdP := scP_bd hWF hc hb hl
  obtain ⟨ill, hill⟩ := Int.eq_ofNat_of_zero_le b3.1
  refine Wp.g1 rfl ?_
  refine Wp.calli rfl (gb M k0 2 (by omega)) ?_
  refine Wp.g1 rfl ?_
  refine Wp.calli rfl (gc M k0 0 (by omega)) ?_
  refine Wp.g1 rfl ?_
  refine Wp.calli rfl (gb M k0 1 (by omega)) ?_
  refine Wp.g1 rfl ?_
  rw [show V (18 + 8 * b + 1 + 2) = (ill : Int) from hill]
  refine Wp.calli rfl (m_common _ _ ill c1 b2 (by omega) M h) ?_
  refine Wp.g1 rfl ?_
  refine Wp.ld rfl rfl 0 rfl (by omega) ?_
  refine Wp.g1 rfl ?_
  obtain ⟨u, hu1, hu2, hu3⟩ := un (fun k => decide (digN (V (114 + 10 * c + 1)) k = digN (V (18 + 8 * b + 2)) k)) ill (by omega)
  have hsm : smk (V (114 + 10 * c + 1)) (V (18 + 8 * b + 2)) ill < 2 ^ 6 := ms_lt _ 6
  rw [show M 8 0 = V 4 from hwt 0 (by omega)]
  have e1 : bAnd (bAnd 63 (bXor (ill : Int) (-1))) (bXor ((smk (V (114 + 10 * c + 1 + 0)) (V (18 + 8 * b + 1 + 1)) ill : Nat) : Int) (-1)) = (u : Int) := hu2
  rw [e1]
  refine Wp.calli rfl (m_ofDigits (V 4) _ u (hws 0 (by omega)) (by omega) (by omega) M h) ?_
  refine Wp.sto rfl rfl 1 rfl (by omega) ?_
  have e2 : (pcN (smk (V (114 + 10 * c + 1 + 0)) (V (18 + 8 * b + 1 + 1)) ill) : Int) * V 4 - pcN u * (3 * V 4 / 2) = scP V c b 1 := by
    show _ = sc1 (V 4) (V (114 + 10 * c + 1)) (V (18 + 8 * b + 2)) (V (18 + 8 * b + 3))
    unfold sc1
    rw [hill, hu3]
    rfl
  rw [e2]
  have k1 : ∀ k, k ≠ 62 → upd2 M 62 1 (scP V c b 1) k = M k := fun k hk => upd2_ne hk
  have v1 : upd2 M 62 1 (scP V c b 1) 62 1 = scP V c b 1 := upd2_at
  generalize upd2 M 62 1 (scP V c b 1) = M1 at k1 v1 ⊢
  refine Wp.g1 rfl ?_
  refine Wp.ld rfl rfl 1 rfl (by omega) ?_
  refine Wp.g1 rfl ?_
  refine Wp.calli rfl (gc M1 k1 1 (by omega)) ?_
  refine Wp.g1 rfl ?_
  refine Wp.calli rfl (gb M1 k1 3 (by omega)) ?_
  rw [k1 8 (by omega), show M 8 1 = V 5 from hwt 1 (by omega)]
  refine Wp.calli rfl (m_ofColours (V 5) _ _ (hws 1 (by omega)) c2 b4 M1 h) ?_
  refine Wp.sto rfl rfl 2 rfl (by omega) ?_
  have k2 : ∀ k, k ≠ 62 → upd2 M1 62 2 (scP V c b 2) k = M k := fun k hk => (upd2_ne hk).trans (k1 k hk)
  have v2 : ∀ i, 1 ≤ i → i < 3 → upd2 M1 62 2 (scP V c b 2) 62 i = scP V c b i := fun i h1 h2 => by
    rcases (show i = 1 ∨ i = 2 by omega) with e | e <;> subst e
    · rw [upd2_off (by omega)]; exact v1
    · exact upd2_at
  have e3 : upd2 M1 62 2 (sc2 (V 5) (V (114 + 10 * c + 1 + 1)) (V (18 + 8 * b + 1 + 3))) = upd2 M1 62 2 (scP V c b 2) := rfl
  rw [e3]
  generalize upd2 M1 62 2 (scP V c b 2) = M2 at k2 v2 ⊢
  refine Wp.g1 rfl ?_
  refine Wp.ld rfl rfl 2 rfl (by omega) ?_
  refine Wp.g1 rfl ?_
  refine Wp.calli rfl (gc M2 k2 2 (by omega)) ?_
  refine Wp.g1 rfl ?_
  refine Wp.calli rfl (gb M2 k2 4 (by omega)) ?_
  rw [k2 8 (by omega), show M 8 2 = V 6 from hwt 2 (by omega)]
  refine Wp.calli rfl (m_ofKinds (V 6) _ _ (hws 2 (by omega)) c3 b5 M2 h) ?_
  refine Wp.sto rfl rfl 3 rfl (by omega) ?_
  have k3 : ∀ k, k ≠ 62 → upd2 M2 62 3 (scP V c b 3) k = M k := fun k hk => (upd2_ne hk).trans (k2 k hk)
  have v3 : ∀ i, 1 ≤ i → i < 4 → upd2 M2 62 3 (scP V c b 3) 62 i = scP V c b i := fun i h1 h2 => by
    by_cases e : i = 3
    · subst e; exact upd2_at
    · rw [upd2_off e]; exact v2 i h1 (by omega)
  have e3 : upd2 M2 62 3 (sc3 (V 6) (V (114 + 10 * c + 1 + 2)) (V (18 + 8 * b + 1 + 4))) = upd2 M2 62 3 (scP V c b 3) := rfl
  rw [e3]
  generalize upd2 M2 62 3 (scP V c b 3) = M3 at k3 v3 ⊢
  refine Wp.g1 rfl ?_
  refine Wp.ld rfl rfl 3 rfl (by omega) ?_
  refine Wp.g1 rfl ?_
  refine Wp.calli rfl (gc M3 k3 3 (by omega)) ?_
  refine Wp.g1 rfl ?_
  refine Wp.calli rfl (gb M3 k3 5 (by omega)) ?_
  rw [k3 8 (by omega), show M 8 3 = V 7 from hwt 3 (by omega)]
  refine Wp.calli rfl (m_ofMarks (V 7) _ _ (hws 3 (by omega)) c4 b6 M3 h) ?_
  refine Wp.sto rfl rfl 4 rfl (by omega) ?_
  have k4 : ∀ k, k ≠ 62 → upd2 M3 62 4 (scP V c b 4) k = M k := fun k hk => (upd2_ne hk).trans (k3 k hk)
  have v4 : ∀ i, 1 ≤ i → i < 5 → upd2 M3 62 4 (scP V c b 4) 62 i = scP V c b i := fun i h1 h2 => by
    by_cases e : i = 4
    · subst e; exact upd2_at
    · rw [upd2_off e]; exact v3 i h1 (by omega)
  have e3 : upd2 M3 62 4 (sc4 (V 7) (V (114 + 10 * c + 1 + 3)) (V (18 + 8 * b + 1 + 5))) = upd2 M3 62 4 (scP V c b 4) := rfl
  rw [e3]
  generalize upd2 M3 62 4 (scP V c b 4) = M4 at k4 v4 ⊢
  refine Wp.g1 rfl ?_
  refine Wp.ld rfl rfl 4 rfl (by omega) ?_
  refine Wp.g1 rfl ?_
  refine Wp.calli rfl (gc M4 k4 4 (by omega)) ?_
  refine Wp.g1 rfl ?_
  refine Wp.calli rfl (gb M4 k4 0 (by omega)) ?_
  rw [k4 8 (by omega), show M 8 4 = V 8 from hwt 4 (by omega)]
  refine Wp.calli rfl (m_ofAirport (V 8) _ _ (hws 4 (by omega)) M4 h) ?_
  refine Wp.sto rfl rfl 5 rfl (by omega) ?_
  have k5 : ∀ k, k ≠ 62 → upd2 M4 62 5 (scP V c b 5) k = M k := fun k hk => (upd2_ne hk).trans (k4 k hk)
  have v5 : ∀ i, 1 ≤ i → i < 6 → upd2 M4 62 5 (scP V c b 5) 62 i = scP V c b i := fun i h1 h2 => by
    by_cases e : i = 5
    · subst e; exact upd2_at
    · rw [upd2_off e]; exact v4 i h1 (by omega)
  have e3 : upd2 M4 62 5 (sc5 (V 8) (V (114 + 10 * c + 1 + 4)) (V (18 + 8 * b + 1 + 0))) = upd2 M4 62 5 (scP V c b 5) := rfl
  rw [e3]
  generalize upd2 M4 62 5 (scP V c b 5) = M5 at k5 v5 ⊢
  refine Wp.g1 rfl ?_
  refine Wp.ld rfl rfl 5 rfl (by omega) ?_
  refine Wp.g1 rfl ?_
  rw [k5 8 (by omega), show M 8 5 = V 9 from hwt 5 (by omega)]
  have w9 : 0 ≤ V 9 ∧ V 9 ≤ 50 := hws 5 (by omega)
  have g6 := mulbd (a := V 9) (b := min (V (18 + 8 * b + 7) - V (114 + 10 * c + 8)) 10) (A := 50) (B := 10) w9 (by omega)
  have e6 : w32 (w32 (-V 9) * min (V (18 + 8 * b + 1 + 6) - V (114 + 10 * c + 1 + 7)) 10) = scP V c b 6 := by
    rw [w32_id (x := -V 9) ⟨by omega, by omega⟩]
    show w32 (-V 9 * min (V (18 + 8 * b + 7) - V (114 + 10 * c + 8)) 10) = -(V 9 * min (V (18 + 8 * b + 7) - V (114 + 10 * c + 8)) 10)
    rw [Int.neg_mul, w32_id ⟨by omega, by omega⟩]
  rw [e6]
  refine Wp.sto rfl rfl 6 rfl (by omega) ?_
  have k6 : ∀ k, k ≠ 62 → upd2 M5 62 6 (scP V c b 6) k = M k := fun k hk => (upd2_ne hk).trans (k5 k hk)
  have v6 : ∀ i, 1 ≤ i → i < 7 → upd2 M5 62 6 (scP V c b 6) 62 i = scP V c b i := fun i h1 h2 => by
    by_cases e : i = 6
    · subst e; exact upd2_at
    · rw [upd2_off e]; exact v5 i h1 (by omega)
  generalize upd2 M5 62 6 (scP V c b 6) = M6 at k6 v6 ⊢
  refine Wp.g1 rfl ?_
  refine Wp.sto rfl rfl 0 rfl (by omega) ?_
  refine Wp.gt 239 rfl ?_
  have loop : ∀ d n : Nat, n + d = 7 → 1 ≤ n → ∀ M' : Me, (∀ k, k ≠ 62 → M' k = M k) → (∀ i, 1 ≤ i → i < 7 → M' 62 i = scP V c b i) → M' 62 0 = scS (scP V c b) n → Wp zS0 tX5_compare none 239 [zr 61, zr 1, zi c, zi b, zr 5, zr 2, zr 8, zi (V (18 + 8 * b + 1 + 6) - V (114 + 10 * c + 1 + 7)), zi ill, zi (smk (V (114 + 10 * c + 1 + 0)) (V (18 + 8 * b + 1 + 1)) ill), zi n] [] M' h (fun v M' h' => h' = h ∧ (∀ k, k ≠ 62 → M' k = M k) ∧ ((V (18 + 8 * b + 7) < V (114 + 10 * c + 8) ∧ v = some (zi 0)) ∨ (V (114 + 10 * c + 8) ≤ V (18 + 8 * b + 7) ∧ v = some (zi 1) ∧ ∀ i, i < 7 → M' 62 i = scI V c b i))) := by
    intro d
    induction d with
    | zero =>
      intro n hn h1 M' hk hv h0
      have e : n = 7 := by omega
      subst e
      refine Wp.g1 rfl ?_
      refine Wp.brt rfl (by decide) ?_
      refine Wp.g1 rfl ?_
      refine Wp.re rfl ⟨rfl, hk, Or.inr ⟨hl, rfl, fun i hi => ?_⟩⟩
      unfold scI
      by_cases e : i = 0
      · subst e; rw [if_pos rfl]; exact h0
      · rw [if_neg e]; exact hv i (by omega) hi
    | succ d ih =>
      intro n hn h1 M' hk hv h0
      have bS := scS_bd bdP n
      have bP := bdP n
      refine Wp.g1 rfl ?_
      refine Wp.brf rfl (by omega) ?_
      refine Wp.g1 rfl ?_
      refine Wp.ld rfl rfl 0 rfl (by omega) ?_
      refine Wp.g1 rfl ?_
      refine Wp.ld rfl rfl n rfl (by omega) ?_
      refine Wp.g1 rfl ?_
      refine Wp.sto rfl rfl 0 rfl (by omega) ?_
      refine Wp.gt 239 rfl ?_
      rw [show w32 ((n : Int) + 1) = ((n + 1 : Nat) : Int) by simp only [w32_def]; omega, h0, hv n h1 (by omega), w32_id (x := scS (scP V c b) n + scP V c b n) ⟨by omega, by omega⟩]
      refine ih (n + 1) (by omega) (by omega) _ (fun k hk' => (upd2_ne hk').trans (hk k hk')) (fun i hi hi2 => by rw [upd2_off (by omega)]; exact hv i hi hi2) ?_
      rw [upd2_at]
      show _ = scS (scP V c b) n + (if n = 0 then 0 else scP V c b n)
      rw [if_neg (by omega)]
  exact loop 6 1 (by omega) (by omega) _ (fun k hk' => (upd2_ne hk').trans (k6 k hk')) (fun i hi hi2 => by rw [upd2_off (by omega)]; exact v6 i hi hi2) (by rw [upd2_at]; rfl)
