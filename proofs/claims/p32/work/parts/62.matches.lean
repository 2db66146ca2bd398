/-! both tell the same matches; the law's rows of numbers are filled -/
abbrev Fr1 (M M' : Me) : Prop := ∀ k, k < 61 ∨ k = 71 ∨ k = 74 → M' k = M k
def AM (M : Me) (V : Nat → Int) (nb nc : Nat) : Prop := (∀ q, q < nb → M 75 q = V (18 + 8 * q)) ∧ ∀ q, q < nc → M 76 q = V (114 + 10 * q)
section MATCHES
variable {M : Me} {h : Ml} {V : Nat → Int} {nb nc t : Nat}
theorem m_areMatches (hS : CS M V nb nc t) (hB : SB V nb) (hC : SC V nc) (h11 : V 11 ≤ 129) (h13 : V 13 ≤ 129) : Wp zS0 tL_areMatches none 0 [zr 0, zr 75, zr 76, zn, zn, zn, zn, zn] [] M h (fun v M' h' => v = some (zi 1) ∧ h' = h ∧ Fr1 M M' ∧ AM M' V nb nc) := by
  have hW := hS.2.2.2
  have hnb := hW.1.2.2.1
  have hnc := hW.1.2.2.2
  have fin : ∀ (M' : Me) (r : Int) (y : ZV), Fr1 M M' → AM M' V nb nc → Wp zS0 tL_areMatches none 189 [zr 0, zr 75, zr 76, zi nb, zi nc, zi (rMatched V nc), zi r, y] [] M' h (fun v M' h' => v = some (zi 1) ∧ h' = h ∧ Fr1 M M' ∧ AM M' V nb nc) := by
    intro M' r y hk hA
    refine Wp.g1 rfl ?_
    refine Wp.brf rfl (by omega) ?_
    refine Wp.g1 rfl ?_
    refine Wp.brf rfl (by omega) ?_
    refine Wp.g1 rfl ?_
    have hS1 : CS M' V nb nc t := hS.kept (fun k g => hk k (Or.inl g))
    refine Wp.call rfl (c_count hS1 _) (fun v M1 h1 q => ?_)
    obtain ⟨rfl, rfl, q3⟩ := q
    refine Wp.g1 rfl ?_
    refine Wp.brf rfl (fun q => q rfl) ?_
    refine Wp.g1 rfl ?_
    have hS2 : CS M1 V nb nc t := hS1.kept (fun k g => q3 k (Or.inl g))
    refine Wp.call rfl (n_bag hS2 hB h11 nb (by omega)) (fun v M2 h2 q => ?_)
    obtain ⟨rfl, rfl, q4⟩ := q
    rw [if_neg (Nat.lt_irrefl _)]
    refine Wp.brf rfl (fun q => q rfl) ?_
    refine Wp.g1 rfl ?_
    have hS3 : CS M2 V nb nc t := hS2.kept (fun k g => q4 k (Or.inl g))
    refine Wp.call rfl (n_claim hS3 hC h13 nc (by omega)) (fun v M3 h3 q => ?_)
    obtain ⟨rfl, rfl, q5⟩ := q
    rw [if_neg (Nat.lt_irrefl _)]
    refine Wp.brf rfl (fun q => q rfl) ?_
    refine Wp.g1 rfl ?_
    have hk3 : ∀ k, k < 61 ∨ k = 71 ∨ 74 ≤ k → M3 k = M' k := fun k g => (q5 k g).trans ((q4 k g).trans (q3 k g))
    refine Wp.re rfl ⟨rfl, rfl, fun k g => (hk3 k (by omega)).trans (hk k g), fun q hq => ?_, fun q hq => ?_⟩
    · rw [hk3 75 (by omega)]; exact hA.1 q hq
    · rw [hk3 76 (by omega)]; exact hA.2 q hq
  have loop2 : ∀ d r : Nat, r + d = nc → ∀ (M' : Me) (y : ZV), Fr1 M M' → (∀ q, q < nb → M' 75 q = V (18 + 8 * q)) → (∀ q, q < r → M' 76 q = V (114 + 10 * q)) → Wp zS0 tL_areMatches none 96 [zr 0, zr 75, zr 76, zi nb, zi nc, zi (rMatched V r), zi r, y] [] M' h (fun v M' h' => v = some (zi 1) ∧ h' = h ∧ Fr1 M M' ∧ AM M' V nb nc) := by
    intro d
    induction d with
    | zero =>
      intro r hd M' y hk hA1 hA2
      have hd : r = nc := hd
      subst hd
      refine Wp.g1 rfl ?_
      refine Wp.brt rfl (by omega) ?_
      exact fin M' _ y hk ⟨hA1, hA2⟩
    | succ d ih =>
      intro r hd M' y hk hA1 hA2
      have hr : r < nc := by omega
      refine Wp.g1 rfl ?_
      refine Wp.brf rfl (by omega) ?_
      refine Wp.g1 rfl ?_
      refine Wp.brf rfl (by omega) ?_
      refine Wp.g1 rfl ?_
      have hS1 : CS M' V nb nc t := hS.kept (fun k g => hk k (Or.inl g))
      refine Wp.call rfl (n_claim hS1 hC h13 r (by omega)) (fun v M1 h1 q => ?_)
      obtain ⟨rfl, rfl, q3⟩ := q
      rw [if_pos hr]
      refine Wp.sto rfl rfl r rfl (by omega) ?_
      have a75 : (upd2 M1 76 r (V (114 + 10 * r))) 75 = M' 75 := by rw [upd2_ne (by decide)]; exact q3 75 (by omega)
      have a76 : ∀ q, q < r + 1 → (upd2 M1 76 r (V (114 + 10 * r))) 76 q = V (114 + 10 * q) := fun q hq => by
        by_cases e : q = r
        · subst e; exact upd2_at
        · rw [upd2_off e, q3 76 (by omega)]; exact hA2 q (by omega)
      have ak : Fr1 M (upd2 M1 76 r (V (114 + 10 * r))) := fun k g => by rw [upd2_ne (by omega)]; exact (q3 k (by omega)).trans (hk k g)
      generalize upd2 M1 76 r (V (114 + 10 * r)) = M2 at a75 a76 ak
      have hS2 : CS M2 V nb nc t := hS.kept (fun k g => ak k (Or.inl g))
      refine Wp.g1 rfl ?_
      refine Wp.ld rfl rfl r rfl (by omega) ?_
      rw [a76 r (by omega)]
      refine Wp.g1 rfl ?_
      refine Wp.call rfl (c_claimOf hS2 _ _) (fun v M3 h3 q => ?_)
      obtain ⟨rfl, rfl, q4⟩ := q
      rw [claim_8 hC hr]
      have hp1 := (hW.2.2.2.1 r hr).1
      have es : rMatched V (r + 1) = rMatched V r + (if V (114 + 10 * r + 9) = 0 then 0 else 1) := rfl
      have hbd : 0 ≤ rMatched V r ∧ rMatched V r ≤ r := sumI_bd r (fun j _ => by by_cases g : V (114 + 10 * j + 9) = 0 <;> simp [g])
      refine Wp.g1 rfl ?_
      by_cases h0 : V (114 + 10 * r + 9) = 0
      · rw [(pt_free hW hr).mpr h0]
        rw [if_pos h0] at es
        refine Wp.brf rfl (fun q => q rfl) ?_
        refine Wp.g1 rfl ?_
        refine Wp.ld rfl rfl r rfl (by omega) ?_
        rw [q4 76 (by omega), a76 r (by omega)]
        refine Wp.brf rfl (by omega) ?_
        refine Wp.g1 rfl ?_
        refine Wp.brt rfl rfl ?_
        refine Wp.gt 96 rfl ?_
        rw [w32_id (x := rMatched V r + 0) ⟨by omega, by omega⟩, ← es, w32_s (n := r) (by omega)]
        exact ih (r + 1) (by omega) M3 _ (fun k g => (q4 k (by omega)).trans (ak k g)) (fun q hq => by rw [q4 75 (by omega), a75]; exact hA1 q hq) (fun q hq => by rw [q4 76 (by omega)]; exact a76 q hq)
      · have hne : pt V r ≠ -10006 := fun e => h0 ((pt_free hW hr).mp e)
        rw [if_neg h0] at es
        refine Wp.brt rfl hne ?_
        refine Wp.g1 rfl ?_
        refine Wp.ld rfl rfl r rfl (by omega) ?_
        rw [q4 76 (by omega), a76 r (by omega)]
        refine Wp.brf rfl (by omega) ?_
        refine Wp.g1 rfl ?_
        refine Wp.brf rfl hne ?_
        refine Wp.g1 rfl ?_
        have hS3 : CS M3 V nb nc t := hS2.kept (fun k g => q4 k (Or.inl g))
        refine Wp.call rfl (c_bag hS3 _ _) (fun v M4 h4 q => ?_)
        obtain ⟨rfl, rfl, q5⟩ := q
        obtain ⟨b, b1, b2, b3⟩ := pt_bag hW hr h0
        rw [pt_val h0, ← b2, bag_7 hW b1, b3]
        refine Wp.g1 rfl ?_
        refine Wp.ld rfl rfl r rfl (by omega) ?_
        rw [q5 76 (by omega), q4 76 (by omega), a76 r (by omega)]
        refine Wp.brt rfl rfl ?_
        refine Wp.gt 96 rfl ?_
        rw [w32_id (x := rMatched V r + 1) ⟨by omega, by omega⟩, ← es, w32_s (n := r) (by omega)]
        exact ih (r + 1) (by omega) M4 _ (fun k g => (q5 k (by omega)).trans ((q4 k (by omega)).trans (ak k g))) (fun q hq => by rw [q5 75 (by omega), q4 75 (by omega), a75]; exact hA1 q hq) (fun q hq => by rw [q5 76 (by omega), q4 76 (by omega)]; exact a76 q hq)
  have loop1 : ∀ d r : Nat, r + d = nb → ∀ (M' : Me) (y : ZV), Fr1 M M' → (∀ q, q < r → M' 75 q = V (18 + 8 * q)) → Wp zS0 tL_areMatches none 19 [zr 0, zr 75, zr 76, zi nb, zi nc, zi 0, zi r, y] [] M' h (fun v M' h' => v = some (zi 1) ∧ h' = h ∧ Fr1 M M' ∧ AM M' V nb nc) := by
    intro d
    induction d with
    | zero =>
      intro r hd M' y hk hA1
      have hd : r = nb := hd
      subst hd
      refine Wp.g1 rfl ?_
      refine Wp.brt rfl (by omega) ?_
      refine Wp.gt 96 rfl ?_
      exact loop2 nc 0 (by omega) M' y hk hA1 (fun q hq => by omega)
    | succ d ih =>
      intro r hd M' y hk hA1
      have hr : r < nb := by omega
      refine Wp.g1 rfl ?_
      refine Wp.brf rfl (by omega) ?_
      refine Wp.g1 rfl ?_
      refine Wp.brf rfl (by omega) ?_
      refine Wp.g1 rfl ?_
      have hS1 : CS M' V nb nc t := hS.kept (fun k g => hk k (Or.inl g))
      refine Wp.call rfl (n_bag hS1 hB h11 r (by omega)) (fun v M1 h1 q => ?_)
      obtain ⟨rfl, rfl, q3⟩ := q
      rw [if_pos hr]
      refine Wp.sto rfl rfl r rfl (by omega) ?_
      have a75 : ∀ q, q < r + 1 → (upd2 M1 75 r (V (18 + 8 * r))) 75 q = V (18 + 8 * q) := fun q hq => by
        by_cases e : q = r
        · subst e; exact upd2_at
        · rw [upd2_off e, q3 75 (by omega)]; exact hA1 q (by omega)
      have ak : Fr1 M (upd2 M1 75 r (V (18 + 8 * r))) := fun k g => by rw [upd2_ne (by omega)]; exact (q3 k (by omega)).trans (hk k g)
      generalize upd2 M1 75 r (V (18 + 8 * r)) = M2 at a75 ak
      have hS2 : CS M2 V nb nc t := hS.kept (fun k g => ak k (Or.inl g))
      refine Wp.g1 rfl ?_
      refine Wp.ld rfl rfl r rfl (by omega) ?_
      rw [a75 r (by omega)]
      refine Wp.g1 rfl ?_
      refine Wp.call rfl (c_bag hS2 _ _) (fun v M3 h3 q => ?_)
      obtain ⟨rfl, rfl, q4⟩ := q
      rw [bag_7 hW hr]
      have hp1 := (hW.2.2.1 r hr).1
      refine Wp.g1 rfl ?_
      refine Wp.ld rfl rfl r rfl (by omega) ?_
      rw [q4 75 (by omega), a75 r (by omega)]
      refine Wp.brf rfl (by omega) ?_
      refine Wp.g1 rfl ?_
      by_cases h0 : cw V nc r = -10006
      · refine Wp.brt rfl h0 ?_
        refine Wp.gt 19 rfl ?_
        rw [w32_s (n := r) (by omega)]
        exact ih (r + 1) (by omega) M3 _ (fun k g => (q4 k (by omega)).trans (ak k g)) (fun q hq => by rw [q4 75 (by omega)]; exact a75 q hq)
      · refine Wp.brf rfl h0 ?_
        obtain ⟨c, c1, c2, c3⟩ := cw_claim h0
        refine Wp.g1 rfl ?_
        have hS3 : CS M3 V nb nc t := hS2.kept (fun k g => q4 k (Or.inl g))
        refine Wp.call rfl (c_claimOf hS3 _ _) (fun v M4 h4 q => ?_)
        obtain ⟨rfl, rfl, q5⟩ := q
        have e8 : rClaimOf V nc (cw V nc r) 8 = V (18 + 8 * r) := by rw [c2, claim_8 hC c1, pt_val (by omega), c3]
        rw [e8]
        refine Wp.g1 rfl ?_
        refine Wp.ld rfl rfl r rfl (by omega) ?_
        rw [q5 75 (by omega), q4 75 (by omega), a75 r (by omega)]
        refine Wp.brt rfl rfl ?_
        refine Wp.gt 19 rfl ?_
        rw [w32_s (n := r) (by omega)]
        exact ih (r + 1) (by omega) M4 _ (fun k g => (q5 k (by omega)).trans ((q4 k (by omega)).trans (ak k g))) (fun q hq => by rw [q5 75 (by omega), q4 75 (by omega)]; exact a75 q hq)
  refine Wp.g1 rfl ?_
  refine Wp.call rfl (c_count hS _) (fun v M1 h1 q => ?_)
  obtain ⟨rfl, rfl, q3⟩ := q
  refine Wp.g1 rfl ?_
  have hS1 : CS M1 V nb nc t := hS.kept (fun k g => q3 k (Or.inl g))
  refine Wp.call rfl (c_count hS1 _) (fun v M2 h2 q => ?_)
  obtain ⟨rfl, rfl, q4⟩ := q
  refine Wp.gt 19 rfl ?_
  exact loop1 nb 0 (by omega) M2 zn (fun k g => (q4 k (by omega)).trans (q3 k (by omega))) (fun q hq => by omega)
end MATCHES
