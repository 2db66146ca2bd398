/-! the class's questions -/
def CS (M : Me) (V : Nat → Int) (nb nc t : Nat) : Prop := OfRel M 1 V nb nc ∧ M 2 0 = 8 ∧ M 5 0 = 9 ∧ WF V nb nc t
theorem CS.kept {M M' : Me} {V : Nat → Int} {nb nc t : Nat} (h : CS M V nb nc t) (hk : ∀ k, k < 61 → M' k = M k) : CS M' V nb nc t := ⟨h.1.kept (fun k _ g => hk k (by omega)), by rw [hk 2 (by omega)]; exact h.2.1, by rw [hk 5 (by omega)]; exact h.2.2.1, h.2.2.2⟩
abbrev Qr (r : Int) (M : Me) (h : Ml) : Option ZV → Me → Ml → Prop := fun v M' h' => v = some (zi r) ∧ h' = h ∧ ∀ k, k < 61 ∨ k = 71 ∨ 74 ≤ k → M' k = M k
theorem Qr.of {T : CT} {sc : Sc} {pc : Nat} {L st : List ZV} {M : Me} {h : Ml} {r : Int} (k : Wp zS0 T sc pc L st M h (Ri r M h)) : Wp zS0 T sc pc L st M h (Qr r M h) := k.imp (fun _ _ _ q => ⟨q.1, q.2.2, fun k _ => by rw [q.2.1]⟩)
theorem Qr.trans {T : CT} {sc : Sc} {pc : Nat} {L st : List ZV} {M M1 : Me} {h : Ml} {r : Int} (hk : ∀ k, k < 61 ∨ k = 71 ∨ 74 ≤ k → M1 k = M k) (k : Wp zS0 T sc pc L st M1 h (Qr r M1 h)) : Wp zS0 T sc pc L st M1 h (Qr r M h) := k.imp (fun _ _ _ q => ⟨q.1, q.2.1, fun k g => (q.2.2 k g).trans (hk k g)⟩)
def zswx (T : CT) (pc : Nat) (st : List ZV) : Option (Int × Int × Int × Nat × List ZV) := match look2 T pc with
  | some (i, _, _, _, _, c, _) => (match i with
    | .tableswitch df lo hi _ => (match st with
      | .inl x :: r => some (x, lo, hi, (c + df).toNat, r)
      | _ => none)
    | _ => none)
  | none => none
theorem Wp.swo {S : Sh} {T : CT} {sc : Sc} {pc : Nat} {L st : List ZV} {M : Me} {h : Ml} {Φ : Option ZV → Me → Ml → Prop} {x lo hi : Int} {t : Nat} {r : List ZV} (ha : zswx T pc st = some (x, lo, hi, t, r)) (hx : x < lo ∨ hi < x) (kk : Wp S T sc t L r M h Φ) : Wp S T sc pc L st M h Φ := by
  unfold zswx at ha
  split at ha
  · next ii nx0 a0 b d c w he =>
    split at ha
    · split at ha
      · cases ha
        exact Wp.one he rfl (by simp only [zbr]; rw [if_pos hx]) kk
      · cases ha
    · cases ha
  · cases ha
section ASK
variable {M : Me} {h : Ml} {V : Nat → Int} {nb nc t : Nat}
theorem c_rowB (hS : CS M V nb nc t) (x : Int) : Wp zS0 tX6_rowOf none 0 [zr 2, zi x, zn] [] M h (Ri (if rkB V nb x < nb then (rkB V nb x : Int) else -1) M h) := by
  obtain ⟨hR, -, -, hW⟩ := hS
  have e : fnd (M 3) x nb = rkB V nb x := fnd_congr (fun r hr => (hR.2.2.2.1 r hr).1)
  rw [← e]
  exact m2_rowOf x nb M h hR.2.2.1.1 hW.1.2.2.1
theorem c_rowC (hS : CS M V nb nc t) (x : Int) : Wp zS0 tX6_rowOf none 0 [zr 5, zi x, zn] [] M h (Ri (if rkC V nc x < nc then (rkC V nc x : Int) else -1) M h) := by
  obtain ⟨hR, -, -, hW⟩ := hS
  have e : fnd (M 6) x nc = rkC V nc x := fnd_congr (fun r hr => (hR.2.2.2.2 r hr).1)
  rw [← e]
  exact m5_rowOf x nc M h hR.2.2.1.2.2.1 hW.1.2.2.2
/-- how many are matched -/
def rMatched (V : Nat → Int) (nc : Nat) : Int := sumI (fun r => if V (114 + 10 * r + 9) = 0 then 0 else 1) nc
def rCount (V : Nat → Int) (nb nc : Nat) (x : Int) : Int := if x = 0 then V 0 else if x = 1 then nb else if x = 2 then nc else if x = 3 then rMatched V nc else if x = 4 then V 14 else if x = 5 then V 15 else if x = 6 then V 16 else if x = 7 then V 17 else -10002
theorem c_matched (hS : CS M V nb nc t) : Wp zS0 tX6_matchedRows none 0 [zr 5, zn, zn] [] M h (Ri (rMatched V nc) M h) := by
  obtain ⟨hR, -, hw5, hW⟩ := hS
  have e : rMatched V nc = sumI (fun r => if M 7 (9 * r + 8) = -10006 then 0 else 1) nc := sumI_congr nc (fun r hr => by
    rw [(hR.2.2.2.2 r hr).2.2]
    have := pt_free hW hr
    by_cases hz : V (114 + 10 * r + 9) = 0
    · rw [if_pos hz, if_pos (this.mpr hz)]
    · rw [if_neg hz, if_neg (fun q => hz (this.mp q))])
  rw [e]
  exact m5_matchedRows nc M h hw5 hR.2.2.1.2.2.1 hW.1.2.2.2
theorem c_count (hS : CS M V nb nc t) (x : Int) : Wp zS0 tX8_count none 0 [zr 0, zi x] [] M h (Qr (rCount V nb nc x) M h) := by
  have hR := hS.1
  by_cases hx : 0 ≤ x ∧ x ≤ 7
  · refine Wp.g1 rfl ?_
    rcases (show x = 0 ∨ x = 1 ∨ x = 2 ∨ x = 3 ∨ x = 4 ∨ x = 5 ∨ x = 6 ∨ x = 7 by omega) with e | e | e | e | e | e | e | e <;> subst e <;> refine Wp.sw rfl ?_ <;> refine Wp.g1 rfl ?_
    · exact Qr.of (Wp.rei rfl hR.1.1 rfl rfl)
    · refine Wp.calli rfl (m2_rows M h) ?_
      exact Qr.of (Wp.rei rfl hR.2.2.1.1 rfl rfl)
    · refine Wp.calli rfl (m5_rows M h) ?_
      exact Qr.of (Wp.rei rfl hR.2.2.1.2.2.1 rfl rfl)
    · refine Wp.calli rfl (c_matched hS) ?_
      exact Qr.of (Wp.rei rfl rfl rfl rfl)
    · exact Qr.of (Wp.rei rfl hR.1.2.2.2.2.1 rfl rfl)
    · exact Qr.of (Wp.rei rfl hR.1.2.2.2.2.2.1 rfl rfl)
    · exact Qr.of (Wp.rei rfl hR.1.2.2.2.2.2.2.1 rfl rfl)
    · exact Qr.of (Wp.rei rfl hR.1.2.2.2.2.2.2.2 rfl rfl)
  · refine Wp.g1 rfl ?_
    refine Wp.swo rfl (by omega) ?_
    refine Wp.g1 rfl ?_
    refine Qr.of (Wp.rei rfl ?_ rfl rfl)
    unfold rCount
    repeat rw [if_neg (by omega)]
def rBag (V : Nat → Int) (nb nc : Nat) (x y : Int) : Int := if rkB V nb x < nb then (if y < 0 ∨ 7 < y then -10002 else if y = 7 then cw V nc (rkB V nb x) else V (18 + 8 * rkB V nb x + 1 + y.toNat)) else -10001
def rClaimOf (V : Nat → Int) (nc : Nat) (x y : Int) : Int := if rkC V nc x < nc then (if y < 0 ∨ 8 < y then -10002 else if y = 8 then pt V (rkC V nc x) else V (114 + 10 * rkC V nc x + 1 + y.toNat)) else -10001
theorem c_bag (hS : CS M V nb nc t) (x y : Int) : Wp zS0 tX8_bag none 0 [zr 0, zi x, zi y] [] M h (Qr (rBag V nb nc x y) M h) := by
  have hR := hS.1
  have hW := hS.2.2.2
  have hw := hS.2.1
  unfold rBag
  refine Wp.g1 rfl ?_
  refine Wp.call rfl (Ψ := Ri (if rkB V nb x < nb then (if y < 0 ∨ 7 < y then -10002 else if y = 7 then cw V nc (rkB V nb x) else V (18 + 8 * rkB V nb x + 1 + y.toNat)) else -10001) M h) ?_ (fun v M1 h1 q => by obtain ⟨rfl, rfl, rfl⟩ := q; exact Qr.of (Wp.rei rfl rfl rfl rfl))
  refine Wp.g1 rfl ?_
  refine Wp.calli rfl (c_rowB hS x) ?_
  refine Wp.g1 rfl ?_
  by_cases hk : rkB V nb x < nb
  · rw [if_pos hk, if_pos hk]
    refine Wp.brt rfl (by omega) ?_
    refine Wp.g1 rfl ?_
    refine Wp.calli rfl (m_outside _ _ _ M h) ?_
    rw [hw, show w32 (8 - 1) = 7 from by decide]
    by_cases hy : y < 0 ∨ 7 < y
    · rw [if_pos hy, if_pos hy]
      refine Wp.brf rfl (by decide) ?_
      refine Wp.g1 rfl ?_
      exact Wp.rei rfl rfl rfl rfl
    · rw [if_neg hy, if_neg hy]
      obtain ⟨j, rfl⟩ := Int.eq_ofNat_of_zero_le (show 0 ≤ y by omega)
      refine Wp.brt rfl (by decide) ?_
      refine Wp.g1 rfl ?_
      refine Wp.calli rfl (m2_get (rkB V nb x) j nb M h hw hR.2.2.1.1 hW.1.2.2.1 hk (by omega)) ?_
      refine Wp.rei rfl ?_ rfl rfl
      by_cases h7 : (j : Int) = 7
      · rw [if_pos h7]
        have : j = 7 := by omega
        subst this
        exact (hR.2.2.2.1 _ hk).2.2
      · rw [if_neg h7, Int.toNat_natCast]
        exact (hR.2.2.2.1 _ hk).2.1 j (by omega)
  · rw [if_neg hk, if_neg hk]
    refine Wp.brf rfl (by decide) ?_
    refine Wp.g1 rfl ?_
    exact Wp.rei rfl rfl rfl rfl
theorem c_claimOf (hS : CS M V nb nc t) (x y : Int) : Wp zS0 tX8_claimOf none 0 [zr 0, zi x, zi y] [] M h (Qr (rClaimOf V nc x y) M h) := by
  have hR := hS.1
  have hW := hS.2.2.2
  have hw := hS.2.2.1
  unfold rClaimOf
  refine Wp.g1 rfl ?_
  refine Wp.call rfl (Ψ := Ri (if rkC V nc x < nc then (if y < 0 ∨ 8 < y then -10002 else if y = 8 then pt V (rkC V nc x) else V (114 + 10 * rkC V nc x + 1 + y.toNat)) else -10001) M h) ?_ (fun v M1 h1 q => by obtain ⟨rfl, rfl, rfl⟩ := q; exact Qr.of (Wp.rei rfl rfl rfl rfl))
  refine Wp.g1 rfl ?_
  refine Wp.calli rfl (c_rowC hS x) ?_
  refine Wp.g1 rfl ?_
  by_cases hk : rkC V nc x < nc
  · rw [if_pos hk, if_pos hk]
    refine Wp.brt rfl (by omega) ?_
    refine Wp.g1 rfl ?_
    refine Wp.calli rfl (m_outside _ _ _ M h) ?_
    rw [hw, show w32 (9 - 1) = 8 from by decide]
    by_cases hy : y < 0 ∨ 8 < y
    · rw [if_pos hy, if_pos hy]
      refine Wp.brf rfl (by decide) ?_
      refine Wp.g1 rfl ?_
      exact Wp.rei rfl rfl rfl rfl
    · rw [if_neg hy, if_neg hy]
      obtain ⟨j, rfl⟩ := Int.eq_ofNat_of_zero_le (show 0 ≤ y by omega)
      refine Wp.brt rfl (by decide) ?_
      refine Wp.g1 rfl ?_
      refine Wp.calli rfl (m5_get (rkC V nc x) j nc M h hw hR.2.2.1.2.2.1 hW.1.2.2.2 hk (by omega)) ?_
      refine Wp.rei rfl ?_ rfl rfl
      by_cases h7 : (j : Int) = 8
      · rw [if_pos h7]
        have : j = 8 := by omega
        subst this
        exact (hR.2.2.2.2 _ hk).2.2
      · rw [if_neg h7, Int.toNat_natCast]
        exact (hR.2.2.2.2 _ hk).2.1 j (by omega)
  · rw [if_neg hk, if_neg hk]
    refine Wp.brf rfl (by decide) ?_
    refine Wp.g1 rfl ?_
    exact Wp.rei rfl rfl rfl rfl
def rScore (V : Nat → Int) (nb nc : Nat) (x y z : Int) : Int := if rkC V nc x < nc ∧ rkB V nb y < nb then (if z < 0 ∨ 6 < z then -10002 else scN V (rkC V nc x) (rkB V nb y) z.toNat) else -10001
theorem c_score (hS : CS M V nb nc t) (x y z : Int) : Wp zS0 tX8_score none 0 [zr 0, zi x, zi y, zi z, zn, zn] [] M h (Qr (rScore V nb nc x y z) M h) := by
  unfold rScore
  refine Wp.g1 rfl ?_
  refine Wp.calli rfl (c_rowC hS x) ?_
  refine Wp.g1 rfl ?_
  refine Wp.calli rfl (c_rowB hS y) ?_
  refine Wp.g1 rfl ?_
  by_cases hk : rkC V nc x < nc
  · rw [if_pos hk]
    refine Wp.brf rfl (by omega) ?_
    refine Wp.g1 rfl ?_
    by_cases hk2 : rkB V nb y < nb
    · rw [if_pos hk2, if_pos ⟨hk, hk2⟩]
      refine Wp.brt rfl (by omega) ?_
      refine Wp.g1 rfl ?_
      refine Wp.calli rfl (m_outside _ _ _ M h) ?_
      by_cases hz : z < 0 ∨ 6 < z
      · rw [if_pos hz, if_pos hz]
        refine Wp.brf rfl (by decide) ?_
        refine Wp.g1 rfl ?_
        exact Qr.of (Wp.rei rfl rfl rfl rfl)
      · rw [if_neg hz, if_neg hz]
        obtain ⟨j, rfl⟩ := Int.eq_ofNat_of_zero_le (show 0 ≤ z by omega)
        refine Wp.brt rfl (by decide) ?_
        refine Wp.g1 rfl ?_
        refine Wp.call rfl (m_part hS.1 hS.2.1 hS.2.2.1 hS.2.2.2 hk hk2 j (by omega)) (fun v M1 h1 q => ?_)
        obtain ⟨rfl, rfl, hq⟩ := q
        exact Wp.re rfl ⟨rfl, rfl, fun k g => hq k (by omega)⟩
    · rw [if_neg hk2, if_neg (fun q => hk2 q.2)]
      refine Wp.brf rfl (by decide) ?_
      refine Wp.g1 rfl ?_
      exact Qr.of (Wp.rei rfl rfl rfl rfl)
  · rw [if_neg hk, if_neg (c := rkC V nc x < nc ∧ rkB V nb y < nb) (fun q => hk q.1)]
    refine Wp.brt rfl (by decide) ?_
    refine Wp.g1 rfl ?_
    exact Qr.of (Wp.rei rfl rfl rfl rfl)
def rSame (V : Nat → Int) (nb nc : Nat) (x y : Int) : Int := if rkC V nc x < nc ∧ rkB V nb y < nb then (smk (V (114 + 10 * rkC V nc x + 1)) (V (18 + 8 * rkB V nb y + 2)) (V (18 + 8 * rkB V nb y + 3)) : Int) else -10001
theorem c_same (hS : CS M V nb nc t) (x y : Int) : Wp zS0 tX8_sameDigits none 0 [zr 0, zi x, zi y, zn, zn] [] M h (Qr (rSame V nb nc x y) M h) := by
  have hR := hS.1
  have hW := hS.2.2.2
  unfold rSame
  refine Wp.g1 rfl ?_
  refine Wp.calli rfl (c_rowC hS x) ?_
  refine Wp.g1 rfl ?_
  refine Wp.calli rfl (c_rowB hS y) ?_
  refine Wp.g1 rfl ?_
  by_cases hk : rkC V nc x < nc
  · rw [if_pos hk]
    refine Wp.brf rfl (by omega) ?_
    refine Wp.g1 rfl ?_
    by_cases hk2 : rkB V nb y < nb
    · rw [if_pos hk2, if_pos ⟨hk, hk2⟩]
      obtain ⟨-, -, b1, b2, b3, -⟩ := hW.2.2.1 _ hk2
      obtain ⟨-, -, c1, -⟩ := hW.2.2.2.1 _ hk
      obtain ⟨ill, hill⟩ := Int.eq_ofNat_of_zero_le b3.1
      refine Wp.brt rfl (by omega) ?_
      refine Wp.g1 rfl ?_
      have g0 := m5_get (rkC V nc x) 0 nc M h hS.2.2.1 hR.2.2.1.2.2.1 hW.1.2.2.2 hk (by omega)
      rw [(hR.2.2.2.2 _ hk).2.1 0 (by omega)] at g0
      refine Wp.calli rfl g0 ?_
      refine Wp.g1 rfl ?_
      have g1 := m2_get (rkB V nb y) 1 nb M h hS.2.1 hR.2.2.1.1 hW.1.2.2.1 hk2 (by omega)
      rw [(hR.2.2.2.1 _ hk2).2.1 1 (by omega)] at g1
      refine Wp.calli rfl g1 ?_
      refine Wp.g1 rfl ?_
      have g2 := m2_get (rkB V nb y) 2 nb M h hS.2.1 hR.2.2.1.1 hW.1.2.2.1 hk2 (by omega)
      rw [(hR.2.2.2.1 _ hk2).2.1 2 (by omega), show V (18 + 8 * rkB V nb y + 1 + 2) = (ill : Int) from hill] at g2
      refine Wp.calli rfl g2 ?_
      refine Wp.calli rfl (m_common _ _ ill c1 b2 (by omega) M h) ?_
      rw [hill]
      exact Qr.of (Wp.rei rfl rfl rfl rfl)
    · rw [if_neg hk2, if_neg (fun q => hk2 q.2)]
      refine Wp.brf rfl (by decide) ?_
      refine Wp.g1 rfl ?_
      exact Qr.of (Wp.rei rfl rfl rfl rfl)
  · rw [if_neg hk, if_neg (c := rkC V nc x < nc ∧ rkB V nb y < nb) (fun q => hk q.1)]
    refine Wp.brt rfl (by decide) ?_
    refine Wp.g1 rfl ?_
    exact Qr.of (Wp.rei rfl rfl rfl rfl)
def rThreshold (V : Nat → Int) (nb nc : Nat) (x y : Int) : Int := if rkC V nc x < nc ∧ rkB V nb y < nb then (if scN V (rkC V nc x) (rkB V nb y) 0 < 0 then -10006 else min (scN V (rkC V nc x) (rkB V nb y) 0) 200) else -10001
theorem c_thresholdFor (hS : CS M V nb nc t) (x y : Int) : Wp zS0 tX8_thresholdFor none 0 [zr 0, zi x, zi y, zn, zn, zn] [] M h (Qr (rThreshold V nb nc x y) M h) := by
  unfold rThreshold
  refine Wp.g1 rfl ?_
  refine Wp.calli rfl (c_rowC hS x) ?_
  refine Wp.g1 rfl ?_
  refine Wp.calli rfl (c_rowB hS y) ?_
  refine Wp.g1 rfl ?_
  by_cases hk : rkC V nc x < nc
  · rw [if_pos hk]
    refine Wp.brf rfl (by omega) ?_
    refine Wp.g1 rfl ?_
    by_cases hk2 : rkB V nb y < nb
    · rw [if_pos hk2, if_pos ⟨hk, hk2⟩]
      refine Wp.brt rfl (by omega) ?_
      refine Wp.g1 rfl ?_
      refine Wp.call rfl (m_part hS.1 hS.2.1 hS.2.2.1 hS.2.2.2 hk hk2 0 (by omega)) (fun v M1 h1 q => ?_)
      obtain ⟨rfl, rfl, hq⟩ := q
      refine Wp.g1 rfl ?_
      refine Wp.br rfl (fun c0 => ?_) (fun c0 => ?_)
      · refine Wp.g1 rfl ?_
        exact Wp.re rfl ⟨by rw [if_neg (by omega)], rfl, fun k g => hq k (by omega)⟩
      · refine Wp.g1 rfl ?_
        exact Wp.re rfl ⟨by rw [if_pos (by omega)], rfl, fun k g => hq k (by omega)⟩
    · rw [if_neg hk2, if_neg (fun q => hk2 q.2)]
      refine Wp.brf rfl (by decide) ?_
      refine Wp.g1 rfl ?_
      exact Qr.of (Wp.rei rfl rfl rfl rfl)
  · rw [if_neg hk, if_neg (c := rkC V nc x < nc ∧ rkB V nb y < nb) (fun q => hk q.1)]
    refine Wp.brt rfl (by decide) ?_
    refine Wp.g1 rfl ?_
    exact Qr.of (Wp.rei rfl rfl rfl rfl)
/-- what a delivery pays on a day, what giving up pays -/
def pDel (V : Nat → Int) (c : Nat) (d : Int) : Int := min (V 2 * min (d - V (114 + 10 * c + 8)) 10) (V (114 + 10 * c + 6))
def pGiv (V : Nat → Int) (c : Nat) : Int := min (V (114 + 10 * c + 6) * max (10 - V (114 + 10 * c + 7)) 2 / 10) (V 3)
theorem c_payD (hS : CS M V nb nc t) (c : Nat) (d : Int) (hc : c < nc) (hd : 0 ≤ d ∧ d ≤ 10399) : Wp zS0 tX3_payForDelivery none 0 [zr 1, zi c, zi d, zn] [] M h (Ri (pDel V c d) M h) := by
  have hR := hS.1
  have hW := hS.2.2.2
  obtain ⟨-, -, c1, c2, c3, c4, c5, c6, c7, c8, c9⟩ := hW.2.2.2.1 _ hc
  obtain ⟨-, -, v2, v3, -⟩ := hW.2.1
  have g7 := m5_get c 7 nc M h hS.2.2.1 hR.2.2.1.2.2.1 hW.1.2.2.2 hc (by omega)
  rw [(hR.2.2.2.2 _ hc).2.1 7 (by omega), show V (114 + 10 * c + 1 + 7) = V (114 + 10 * c + 8) from rfl] at g7
  have g5 := m5_get c 5 nc M h hS.2.2.1 hR.2.2.1.2.2.1 hW.1.2.2.2 hc (by omega)
  rw [(hR.2.2.2.2 _ hc).2.1 5 (by omega), show V (114 + 10 * c + 1 + 5) = V (114 + 10 * c + 6) from rfl] at g5
  have e1 : w32 (d - V (114 + 10 * c + 8)) = d - V (114 + 10 * c + 8) := w32_id ⟨by omega, by omega⟩
  have hb : -5000000 ≤ V 2 * min (d - V (114 + 10 * c + 8)) 10 ∧ V 2 * min (d - V (114 + 10 * c + 8)) 10 ≤ 5000 := by
    have m1 : -9999 ≤ min (d - V (114 + 10 * c + 8)) 10 ∧ min (d - V (114 + 10 * c + 8)) 10 ≤ 10 := by omega
    generalize min (d - V (114 + 10 * c + 8)) 10 = m at m1
    have a1 := mulbd (a := V 2) (b := m + 9999) (A := 500) (B := 10009) v2 (by omega)
    rw [Int.mul_add] at a1
    have a2 := mulbd (a := V 2) (b := 10 - m) (A := 500) (B := 10009) v2 (by omega)
    rw [Int.mul_sub] at a2
    omega
  refine Wp.g1 rfl ?_
  refine Wp.calli rfl g7 ?_
  refine Wp.g1 rfl ?_
  refine Wp.calli rfl g5 ?_
  refine Wp.g1 rfl ?_
  rw [e1, hR.1.2.2.1, w32_id (x := V 2 * min (d - V (114 + 10 * c + 8)) 10) ⟨by omega, by omega⟩]
  exact Wp.rei rfl rfl rfl rfl
theorem c_payG (hS : CS M V nb nc t) (c : Nat) (hc : c < nc) : Wp zS0 tX3_payForGivingUp none 0 [zr 1, zi c, zn] [] M h (Ri (pGiv V c) M h) := by
  have hR := hS.1
  have hW := hS.2.2.2
  obtain ⟨-, -, c1, c2, c3, c4, c5, c6, c7, c8, c9⟩ := hW.2.2.2.1 _ hc
  have g6 := m5_get c 6 nc M h hS.2.2.1 hR.2.2.1.2.2.1 hW.1.2.2.2 hc (by omega)
  rw [(hR.2.2.2.2 _ hc).2.1 6 (by omega), show V (114 + 10 * c + 1 + 6) = V (114 + 10 * c + 7) from rfl] at g6
  have g5 := m5_get c 5 nc M h hS.2.2.1 hR.2.2.1.2.2.1 hW.1.2.2.2 hc (by omega)
  rw [(hR.2.2.2.2 _ hc).2.1 5 (by omega), show V (114 + 10 * c + 1 + 5) = V (114 + 10 * c + 6) from rfl] at g5
  have e1 : w32 (10 - V (114 + 10 * c + 7)) = 10 - V (114 + 10 * c + 7) := w32_id ⟨by omega, by omega⟩
  have hb := mulbd (a := V (114 + 10 * c + 6)) (b := max (10 - V (114 + 10 * c + 7)) 2) (A := 99999) (B := 10) (by omega) (by omega)
  refine Wp.g1 rfl ?_
  refine Wp.calli rfl g6 ?_
  refine Wp.g1 rfl ?_
  refine Wp.calli rfl g5 ?_
  refine Wp.g1 rfl ?_
  rw [e1, w32_id (x := V (114 + 10 * c + 6) * max (10 - V (114 + 10 * c + 7)) 2) ⟨by omega, by omega⟩]
  refine Wp.div rfl hb.1 (by decide) ?_
  refine Wp.g1 rfl ?_
  exact Wp.rei rfl (by rw [hR.1.2.2.2.1]; rfl) rfl rfl
def rIfEnded (V : Nat → Int) (nc : Nat) (x d w : Int) : Int := if rkC V nc x < nc then (if (d < 0 ∨ 400 < d) ∨ (w < 0 ∨ 1 < w) then -10002 else if w = 0 then pDel V (rkC V nc x) (V 0 + d) else pGiv V (rkC V nc x)) else -10001
theorem c_ifEnded (hS : CS M V nb nc t) (x d w : Int) : Wp zS0 tX8_ifEnded none 0 [zr 0, zi x, zi d, zi w, zn] [] M h (Qr (rIfEnded V nc x d w) M h) := by
  have hR := hS.1
  have hW := hS.2.2.2
  obtain ⟨v0, -⟩ := hW.2.1
  refine Qr.of ?_
  unfold rIfEnded
  refine Wp.g1 rfl ?_
  refine Wp.calli rfl (c_rowC hS x) ?_
  refine Wp.g1 rfl ?_
  by_cases hk : rkC V nc x < nc
  · rw [if_pos hk, if_pos hk]
    refine Wp.brt rfl (by omega) ?_
    refine Wp.g1 rfl ?_
    refine Wp.calli rfl (m_outside _ _ _ M h) ?_
    by_cases hd : d < 0 ∨ 400 < d
    · rw [if_pos hd, if_pos (Or.inl hd)]
      refine Wp.brt rfl (by decide) ?_
      refine Wp.g1 rfl ?_
      exact Wp.rei rfl rfl rfl rfl
    · rw [if_neg hd]
      refine Wp.brf rfl (by decide) ?_
      refine Wp.g1 rfl ?_
      refine Wp.calli rfl (m_outside _ _ _ M h) ?_
      by_cases hw : w < 0 ∨ 1 < w
      · rw [if_pos hw, if_pos (Or.inr hw)]
        refine Wp.brf rfl (by decide) ?_
        refine Wp.g1 rfl ?_
        exact Wp.rei rfl rfl rfl rfl
      · rw [if_neg hw, if_neg (fun q => q.elim hd hw)]
        refine Wp.brt rfl (by decide) ?_
        refine Wp.g1 rfl ?_
        by_cases hw0 : w = 0
        · rw [if_pos hw0]
          refine Wp.brf rfl (by omega) ?_
          refine Wp.g1 rfl ?_
          rw [hR.1.1, w32_id (x := V 0 + d) ⟨by omega, by omega⟩]
          refine Wp.calli rfl (c_payD hS _ _ hk (by omega)) ?_
          exact Wp.rei rfl rfl rfl rfl
        · rw [if_neg hw0]
          refine Wp.brt rfl (by omega) ?_
          refine Wp.g1 rfl ?_
          refine Wp.calli rfl (c_payG hS _ hk) ?_
          exact Wp.rei rfl rfl rfl rfl
  · rw [if_neg hk, if_neg hk]
    refine Wp.brf rfl (by decide) ?_
    refine Wp.g1 rfl ?_
    exact Wp.rei rfl rfl rfl rfl
end ASK
