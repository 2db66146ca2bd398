/-! the law: sixty steps, each with its checks -/
abbrev Lw (v : Option ZV) (_ : Me) (_ : Ml) : Prop := v = some (zi 1)
def Kp (M : Me) (a : At) (e : Nat) : Prop := CR M a ∧ Iv a e ∧ GR M a.V ∧ AM M a.V a.nb a.nc
section LAW
variable {M : Me} {h : Ml} {a : At} {e L : Nat} {xs : Nat → Int}
theorem Kp.kept {M' : Me} (k : Kp M a e) (hk : ∀ k, k < 61 ∨ k = 71 ∨ 74 ≤ k → M' k = M k) : Kp M' a e := ⟨k.1.kept (fun j g => hk j (by omega)), k.2.1, k.2.2.1.same (hk 74 (by omega)) rfl (fun _ _ => rfl), fun q hq => by rw [hk 75 (by omega)]; exact k.2.2.2.1 q hq, fun q hq => by rw [hk 76 (by omega)]; exact k.2.2.2.2 q hq⟩
theorem Iv.mt {W : Nat → Int} {r : (Nat × (Nat → Nat → Int)) × (Nat × (Nat → Int)) × (Int × Int × Int)} (hI : Iv a e) (hS : SO ((W, a.nb, a.nc), r) e) (hV : Same a.V W) : Iv ((W, a.nb, a.nc), r) e := ⟨hS, hV.SB hI.1.1.1.2.2.1 hI.2.1, hV.SC hI.2.2.1, ⟨by have := hV 11 (by omega); have := hI.2.2.2.1.1; show W 11 ≤ e; omega, by have := hV 13 (by omega); have := hI.2.2.2.1.2; show W 13 ≤ e; omega⟩, by have := hV 0 (by omega); have := hI.2.2.2.2; show W 0 ≤ 99 * e; omega⟩
abbrev Nx (L : Nat) (xs : Nat → Int) (e : Nat) : Prop := ∀ (M' : Me) (h' : Ml) (a' : At) (y6 y7 y8 : ZV), CR M' a' → Iv a' (e + 1) → GR M' a'.V → Wp zS0 tL_law (some (L, xs)) 61 [zs, zr 0, zr 74, zr 75, zr 76, zi ((e + 1 : Nat) : Int), y6, y7, y8] [] M' h' Lw
theorem l_203 (hK : Kp M a (e + 1)) (he : e < 60) (v : Int) (hN : Nx L xs e) : Wp zS0 tL_law (some (L, xs)) 203 [zs, zr 0, zr 74, zr 75, zr 76, zi e, zi v, zi a.nb, zi a.nc] [] M h Lw := by
  obtain ⟨hC, hI, hG, hA⟩ := hK
  refine Wp.g1 rfl ?_
  refine Wp.rem rfl (by omega) (by omega) ?_
  refine Wp.g1 rfl ?_
  refine Wp.br rfl (fun c0 => ?_) (fun c0 => ?_)
  · refine Wp.gt 61 rfl ?_
    rw [w32_s (n := e) (by omega)]
    exact hN _ _ _ _ _ _ hC hI hG
  · refine Wp.g1 rfl ?_
    refine Wp.ld rfl rfl 0 rfl (by decide) ?_
    rw [hG.1]
    refine Wp.call rfl (m_isMatched hC hI.1 hI.2.1 hI.2.2.1 hA) (fun v1 M1 h1 q => ?_)
    obtain ⟨rfl, rfl, q1, W, r, q2, q3, q4⟩ := q
    refine Wp.brt rfl (by decide) ?_
    refine Wp.gt 61 rfl ?_
    rw [w32_s (n := e) (by omega)]
    exact hN _ _ _ _ _ _ q2 (hI.mt q3 q4) (hG.same (q1 74 (by omega)) (q4 1 (by omega)) (fun i hi => q4 _ (by omega)))
theorem l_168 (hK : Kp M a (e + 1)) (he : e < 60) (v : Int) (hN : Nx L xs e) : Wp zS0 tL_law (some (L, xs)) 168 [zs, zr 0, zr 74, zr 75, zr 76, zi e, zi v, zi a.nb, zi a.nc] [] M h Lw := by
  obtain ⟨hC, hI, hG, hA⟩ := id hK
  have hW : WF a.V a.nb a.nc (e + 1) := hI.1.1
  have h11 := hI.2.2.2.1.1
  have hnc := hW.1.2.2.2
  refine Wp.g1 rfl ?_
  by_cases g : a.nc = 0
  · refine Wp.brt rfl (by omega) ?_
    exact l_203 hK he v hN
  · refine Wp.brf rfl (by omega) ?_
    refine Wp.g1 rfl ?_
    refine Wp.rem rfl (by omega) (by omega) ?_
    refine Wp.g1 rfl ?_
    refine Wp.br rfl (fun c0 => ?_) (fun c0 => ?_)
    · exact l_203 hK he v hN
    · refine Wp.g1 rfl ?_
      refine Wp.calli rfl (m_low (bShr v 4) a.nc (by omega) M h) ?_
      have l1 := lo_lt (bShr v 4) (n := a.nc) (by omega)
      generalize lo (bShr v 4) a.nc = c at l1
      refine Wp.ld rfl rfl c rfl (by omega) ?_
      rw [hA.2 c l1]
      refine Wp.g1 rfl ?_
      refine Wp.ld rfl rfl 0 rfl (by decide) ?_
      rw [hG.1]
      refine Wp.call rfl (m_areSuggested (hC.cs hI.1) hI.2.1 hI.2.2.1 (by omega) l1) (fun v1 M1 h1 q => ?_)
      obtain ⟨rfl, rfl, q1⟩ := q
      refine Wp.brf rfl (by decide) ?_
      exact l_203 (hK.kept q1) he v hN
theorem l_110 (hK : Kp M a (e + 1)) (he : e < 60) (v : Int) (y7 y8 : ZV) (hN : Nx L xs e) : Wp zS0 tL_law (some (L, xs)) 110 [zs, zr 0, zr 74, zr 75, zr 76, zi e, zi v, y7, y8] [] M h Lw := by
  obtain ⟨hC, hI, hG, hA⟩ := id hK
  have hW : WF a.V a.nb a.nc (e + 1) := hI.1.1
  have hnb := hW.1.2.2.1
  have hnc := hW.1.2.2.2
  refine Wp.g1 rfl ?_
  refine Wp.call rfl (c_count (hC.cs hI.1) _) (fun v1 M1 h1 q => ?_)
  obtain ⟨rfl, rfl, q1⟩ := q
  have hK1 := hK.kept q1
  refine Wp.g1 rfl ?_
  refine Wp.call rfl (c_count (hK1.1.cs hI.1) _) (fun v2 M2 h2 q => ?_)
  obtain ⟨rfl, rfl, q2⟩ := q
  have hK2 := hK1.kept q2
  have ec : rCount a.V a.nb a.nc 1 = (a.nb : Int) := rfl
  have ec2 : rCount a.V a.nb a.nc 2 = (a.nc : Int) := rfl
  rw [ec, ec2]
  refine Wp.g1 rfl ?_
  by_cases g1 : a.nb = 0
  · refine Wp.brt rfl (by omega) ?_
    exact l_168 hK2 he v hN
  · refine Wp.brf rfl (by omega) ?_
    refine Wp.g1 rfl ?_
    by_cases g2 : a.nc = 0
    · refine Wp.brt rfl (by omega) ?_
      exact l_168 hK2 he v hN
    · refine Wp.brf rfl (by omega) ?_
      obtain ⟨hC2, -, hG2, hA2⟩ := id hK2
      refine Wp.g1 rfl ?_
      refine Wp.calli rfl (m_low (bShr v 3) a.nc (by omega) M2 _) ?_
      have l1 := lo_lt (bShr v 3) (n := a.nc) (by omega)
      generalize lo (bShr v 3) a.nc = c at l1
      refine Wp.ld rfl rfl c rfl (by omega) ?_
      rw [hA2.2 c l1]
      refine Wp.g1 rfl ?_
      refine Wp.calli rfl (m_low (bShr v 6) a.nb (by omega) M2 _) ?_
      have l2 := lo_lt (bShr v 6) (n := a.nb) (by omega)
      generalize lo (bShr v 6) a.nb = b at l2
      refine Wp.ld rfl rfl b rfl (by omega) ?_
      rw [hA2.1 b l2]
      refine Wp.g1 rfl ?_
      refine Wp.ld rfl rfl 0 rfl (by decide) ?_
      rw [hG2.1]
      refine Wp.call rfl (m_isScore (hC2.cs hI.1) hI.2.2.1 l1 l2 (a.V 1) hW.2.1.2.1.1) (fun v3 M3 h3 q => ?_)
      obtain ⟨rfl, rfl, q3⟩ := q
      refine Wp.brf rfl (by decide) ?_
      exact l_168 (hK2.kept q3) he v hN
theorem l_loop (L : Nat) (xs : Nat → Int) : ∀ d e : Nat, e + d = 60 → ∀ (M : Me) (h : Ml) (a : At) (y6 y7 y8 : ZV), CR M a → Iv a e → GR M a.V → Wp zS0 tL_law (some (L, xs)) 61 [zs, zr 0, zr 74, zr 75, zr 76, zi e, y6, y7, y8] [] M h Lw := by
  intro d
  induction d with
  | zero =>
    intro e hd M h a y6 y7 y8 hC hI hG
    refine Wp.g1 rfl ?_
    refine Wp.brt rfl (by omega) ?_
    refine Wp.g1 rfl ?_
    exact Wp.re rfl rfl
  | succ d ih =>
    intro e hd M h a y6 y7 y8 hC hI hG
    have e2 : w32 (2 * (e : Int)) = ((2 * e : Nat) : Int) := by rw [w32_id ⟨by omega, by omega⟩]; omega
    have e3 : w32 (((2 * e : Nat) : Int) + 1) = ((2 * e + 1 : Nat) : Int) := w32_s (by omega)
    refine Wp.g1 rfl ?_
    refine Wp.brf rfl (by omega) ?_
    refine Wp.g1 rfl ?_
    rw [e2]
    refine Wp.callS rfl (m_cell L xs (2 * e) M h) (fun v1 M1 h1 q => ?_)
    obtain ⟨⟨v, rfl⟩, rfl, rfl⟩ := q
    refine Wp.g1 rfl ?_
    rw [e2, e3]
    refine Wp.callS rfl (m_cell L xs (2 * e + 1) _ _) (fun v2 M2 h2 q => ?_)
    obtain ⟨⟨w, rfl⟩, rfl, rfl⟩ := q
    refine Wp.call rfl (m_does hC hI hG (by omega) v w) (fun v3 M3 h3 q => ?_)
    obtain ⟨rfl, rfl, a', q1, q2, q3⟩ := q
    refine Wp.brf rfl (by decide) ?_
    refine Wp.g1 rfl ?_
    have h11 := q2.2.2.2.1.1
    have h13 := q2.2.2.2.1.2
    refine Wp.call rfl (m_areMatches (q1.cs q2.1) q2.2.1 q2.2.2.1 (by omega) (by omega)) (fun v4 M4 h4 q => ?_)
    obtain ⟨rfl, rfl, q4, q5⟩ := q
    refine Wp.brt rfl (by decide) ?_
    refine l_110 ⟨q1.kept (fun k g => q4 k (by omega)), q2, q3.same (q4 74 (by omega)) rfl (fun _ _ => rfl), q5⟩ (by omega) v _ _ ?_
    intro M' h' a'' z6 z7 z8 k1 k2 k3
    exact ih (e + 1) (by omega) M' h' a'' z6 z7 z8 k1 k2 k3
end LAW
