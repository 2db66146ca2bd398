/-! the law's own: a part of the script, a rest, the number of a rank -/
def lo (v : Int) (n : Nat) : Nat := (bAnd v 2147483647).toNat % n
theorem bAnd_31 (x : Int) : ∃ k : Nat, k < 2147483648 ∧ bAnd x 2147483647 = (k : Int) := by
  unfold bAnd
  rw [show Int32.ofInt 2147483647 = (2147483647 : Int32) from rfl, pk_and (Int32.ofInt x) (m := 2147483647) 31 (by decide)]
  have h : (Int32.ofInt x).toBitVec.toNat % 2 ^ 31 < 2147483648 := Nat.mod_lt _ (by decide)
  exact ⟨_, h, nI_toInt (by omega)⟩
theorem lo_lt (v : Int) {n : Nat} (hn : 0 < n) : lo v n < n := Nat.mod_lt _ hn
theorem m_low (v : Int) (n : Nat) (hn : 0 < n) (M : Me) (h : Ml) : Wp zS0 tL_low none 0 [zi v, zi n] [] M h (Ri (lo v n) M h) := by
  obtain ⟨k, h1, h2⟩ := bAnd_31 v
  refine Wp.g1 rfl ?_
  refine Wp.rem rfl (by rw [h2]; omega) (by omega) ?_
  refine Wp.rei rfl ?_ rfl rfl
  unfold lo
  rw [h2, Int.toNat_natCast]
  rfl
theorem m_cell (L : Nat) (xs : Nat → Int) (k : Nat) (M : Me) (h : Ml) : Wp zS0 tL_cell (some (L, xs)) 0 [zs, zi k] [] M h (fun v M' h' => (∃ x, v = some (zi x)) ∧ M' = M ∧ h' = h) := by
  refine Wp.g1 rfl ?_
  refine Wp.br rfl (fun c0 => ?_) (fun c0 => ?_)
  · refine Wp.g1 rfl ?_
    exact Wp.re rfl ⟨⟨_, rfl⟩, rfl, rfl⟩
  · refine Wp.g1 rfl ?_
    refine Wp.lds rfl rfl k rfl (by omega) ?_
    refine Wp.g1 rfl ?_
    exact Wp.re rfl ⟨⟨_, rfl⟩, rfl, rfl⟩
section NTH
variable {M : Me} {h : Ml} {V : Nat → Int} {nb nc t : Nat}
theorem n_bag (hS : CS M V nb nc t) (hB : SB V nb) (h11 : V 11 ≤ 129) (r : Nat) (hr : r ≤ 12) : Wp zS0 tL_nth none 0 [zr 0, zi 1, zi r, zn, zn] [] M h (Qr (if r < nb then V (18 + 8 * r) else 0) M h) := by
  have hW := hS.2.2.2
  have loop : ∀ d k i : Nat, k + d = 130 → 1 ≤ k → (∀ q, q < i → V (18 + 8 * q) < k) → (∀ q, i ≤ q → q < nb → (k : Int) ≤ V (18 + 8 * q)) → i ≤ r → ∀ M' : Me, (∀ k, k < 61 ∨ k = 71 ∨ 74 ≤ k → M' k = M k) →
      Wp zS0 tL_nth none 5 [zr 0, zi 1, zi r, zi ((r - i : Nat) : Int), zi k] [] M' h (Qr (if r < nb then V (18 + 8 * r) else 0) M h) := by
    intro d
    induction d with
    | zero =>
      intro k i hd hk1 h1 h2 hi M' hk
      refine Wp.g1 rfl ?_
      refine Wp.brt rfl (by omega) ?_
      refine Wp.g1 rfl ?_
      refine Wp.re rfl ⟨?_, rfl, hk⟩
      rw [if_neg]
      intro q
      have e1 := h2 r hi q
      have e2 := (hW.2.2.1 r q).2.1
      omega
    | succ d ih =>
      intro k i hd hk1 h1 h2 hi M' hk
      refine Wp.g1 rfl ?_
      refine Wp.brf rfl (by omega) ?_
      refine Wp.g1 rfl ?_
      refine Wp.brf rfl (by omega) ?_
      refine Wp.g1 rfl ?_
      refine Wp.brf rfl (by decide) ?_
      refine Wp.g1 rfl ?_
      refine Wp.call rfl (c_bag (hS.kept (fun k g => hk k (Or.inl g))) _ _) (fun v M1 h1' q => ?_)
      obtain ⟨rfl, rfl, q3⟩ := q
      have hk1' : ∀ k, k < 61 ∨ k = 71 ∨ 74 ≤ k → M1 k = M k := fun k g => (q3 k g).trans (hk k g)
      refine Wp.g1 rfl ?_
      by_cases hx : i < nb ∧ V (18 + 8 * i) = (k : Int)
      · obtain ⟨hx1, hx2⟩ := hx
        have e : rBag V nb nc (k : Int) 0 = V (18 + 8 * i + 1) := by
          rw [← hx2]
          exact bag_at hW hx1 (y := 0) (by decide)
        rw [e]
        have g0 := (hW.2.2.1 i hx1).2.2.1
        refine Wp.brf rfl (by omega) ?_
        refine Wp.g1 rfl ?_
        by_cases hir : i = r
        · subst hir
          refine Wp.brf rfl (by omega) ?_
          refine Wp.g1 rfl ?_
          refine Wp.re rfl ⟨?_, rfl, hk1'⟩
          rw [if_pos hx1, hx2]
        · refine Wp.brt rfl (by omega) ?_
          refine Wp.gt 5 rfl ?_
          rw [w32_id (x := ((r - i : Nat) : Int) + -1) ⟨by omega, by omega⟩, w32_s (n := k) (by omega), show ((r - i : Nat) : Int) + -1 = ((r - (i + 1) : Nat) : Int) by omega]
          refine ih (k + 1) (i + 1) (by omega) (by omega) (fun q hq => ?_) (fun q hq1 hq2 => ?_) (by omega) M1 hk1'
          · by_cases e : q = i
            · subst e; omega
            · have := h1 q (by omega); omega
          · have := hB i q (by omega) hq2
            omega
      · have e : rBag V nb nc (k : Int) 0 = -10001 := bag_no (fun q hq e2 => by
          by_cases g : q < i
          · have := h1 q g; omega
          · by_cases g2 : q = i
            · subst g2; exact hx ⟨hq, e2⟩
            · have a1 := hB i q (by omega) hq
              have a2 := h2 i (Nat.le_refl _) (by omega)
              omega)
        rw [e]
        refine Wp.brt rfl rfl ?_
        refine Wp.gt 5 rfl ?_
        rw [w32_s (n := k) (by omega)]
        refine ih (k + 1) i (by omega) (by omega) (fun q hq => ?_) (fun q hq1 hq2 => ?_) hi M1 hk1'
        · have := h1 q hq; omega
        · have a1 := h2 q hq1 hq2
          by_cases g2 : q = i
          · subst g2
            have : V (18 + 8 * q) ≠ (k : Int) := fun e => hx ⟨hq2, e⟩
            omega
          · have a2 := hB i q (by omega) hq2
            have a3 := h2 i (Nat.le_refl _) (by omega)
            omega
  refine Wp.gt 5 rfl ?_
  exact loop 129 1 0 (by omega) (by omega) (fun q hq => by omega) (fun q _ hq => (hW.2.2.1 q hq).1) (by omega) M (fun k _ => rfl)
theorem n_claim (hS : CS M V nb nc t) (hB : SC V nc) (h13 : V 13 ≤ 129) (r : Nat) (hr : r ≤ 12) : Wp zS0 tL_nth none 0 [zr 0, zi 0, zi r, zn, zn] [] M h (Qr (if r < nc then V (114 + 10 * r) else 0) M h) := by
  have hW := hS.2.2.2
  have loop : ∀ d k i : Nat, k + d = 130 → 1 ≤ k → (∀ q, q < i → V (114 + 10 * q) < k) → (∀ q, i ≤ q → q < nc → (k : Int) ≤ V (114 + 10 * q)) → i ≤ r → ∀ M' : Me, (∀ k, k < 61 ∨ k = 71 ∨ 74 ≤ k → M' k = M k) →
      Wp zS0 tL_nth none 5 [zr 0, zi 0, zi r, zi ((r - i : Nat) : Int), zi k] [] M' h (Qr (if r < nc then V (114 + 10 * r) else 0) M h) := by
    intro d
    induction d with
    | zero =>
      intro k i hd hk1 h1 h2 hi M' hk
      refine Wp.g1 rfl ?_
      refine Wp.brt rfl (by omega) ?_
      refine Wp.g1 rfl ?_
      refine Wp.re rfl ⟨?_, rfl, hk⟩
      rw [if_neg]
      intro q
      have e1 := h2 r hi q
      have e2 := (hW.2.2.2.1 r q).2.1
      omega
    | succ d ih =>
      intro k i hd hk1 h1 h2 hi M' hk
      refine Wp.g1 rfl ?_
      refine Wp.brf rfl (by omega) ?_
      refine Wp.g1 rfl ?_
      refine Wp.brf rfl (by omega) ?_
      refine Wp.g1 rfl ?_
      refine Wp.brt rfl rfl ?_
      refine Wp.g1 rfl ?_
      refine Wp.call rfl (c_claimOf (hS.kept (fun k g => hk k (Or.inl g))) _ _) (fun v M1 h1' q => ?_)
      obtain ⟨rfl, rfl, q3⟩ := q
      have hk1' : ∀ k, k < 61 ∨ k = 71 ∨ 74 ≤ k → M1 k = M k := fun k g => (q3 k g).trans (hk k g)
      refine Wp.g1 rfl ?_
      by_cases hx : i < nc ∧ V (114 + 10 * i) = (k : Int)
      · obtain ⟨hx1, hx2⟩ := hx
        have e : rClaimOf V nc (k : Int) 0 = V (114 + 10 * i + 1) := by
          rw [← hx2]
          exact claim_at hB hx1 (y := 0) (by decide)
        rw [e]
        have g0 := (hW.2.2.2.1 i hx1).2.2.1
        refine Wp.brf rfl (by omega) ?_
        refine Wp.g1 rfl ?_
        by_cases hir : i = r
        · subst hir
          refine Wp.brf rfl (by omega) ?_
          refine Wp.g1 rfl ?_
          refine Wp.re rfl ⟨?_, rfl, hk1'⟩
          rw [if_pos hx1, hx2]
        · refine Wp.brt rfl (by omega) ?_
          refine Wp.gt 5 rfl ?_
          rw [w32_id (x := ((r - i : Nat) : Int) + -1) ⟨by omega, by omega⟩, w32_s (n := k) (by omega), show ((r - i : Nat) : Int) + -1 = ((r - (i + 1) : Nat) : Int) by omega]
          refine ih (k + 1) (i + 1) (by omega) (by omega) (fun q hq => ?_) (fun q hq1 hq2 => ?_) (by omega) M1 hk1'
          · by_cases e : q = i
            · subst e; omega
            · have := h1 q (by omega); omega
          · have := hB i q (by omega) hq2
            omega
      · have e : rClaimOf V nc (k : Int) 0 = -10001 := claim_no (fun q hq e2 => by
          by_cases g : q < i
          · have := h1 q g; omega
          · by_cases g2 : q = i
            · subst g2; exact hx ⟨hq, e2⟩
            · have a1 := hB i q (by omega) hq
              have a2 := h2 i (Nat.le_refl _) (by omega)
              omega)
        rw [e]
        refine Wp.brt rfl rfl ?_
        refine Wp.gt 5 rfl ?_
        rw [w32_s (n := k) (by omega)]
        refine ih (k + 1) i (by omega) (by omega) (fun q hq => ?_) (fun q hq1 hq2 => ?_) hi M1 hk1'
        · have := h1 q hq; omega
        · have a1 := h2 q hq1 hq2
          by_cases g2 : q = i
          · subst g2
            have : V (114 + 10 * q) ≠ (k : Int) := fun e => hx ⟨hq2, e⟩
            omega
          · have a2 := hB i q (by omega) hq2
            have a3 := h2 i (Nat.le_refl _) (by omega)
            omega
  refine Wp.gt 5 rfl ?_
  exact loop 129 1 0 (by omega) (by omega) (fun q hq => by omega) (fun q _ hq => (hW.2.2.2.1 q hq).1) (by omega) M (fun k _ => rfl)
end NTH
