/-! the reference: the greatest pair, and matching all -/
section MB9
variable {M : Me} {h : Ml} {p : Nat} {V : Nat → Int} {nb nc t : Nat}
theorem opn_ge (hW : WF V nb nc t) (c b : Nat) : (opn V nb nc c b = -10006 ∧ gF V nb nc c b = -1) ∨ (0 ≤ opn V nb nc c b ∧ opn V nb nc c b = gF V nb nc c b) := by
  unfold opn
  by_cases e : gF V nb nc c b = -1
  · rw [if_pos e]
    exact Or.inl ⟨rfl, e⟩
  · rw [if_neg e]
    exact Or.inr ⟨(gF_ge hW c b e).1, rfl⟩
/-- what the reference knows of the first k pairs -/
def bk (V : Nat → Int) (nb nc k : Nat) (x : Int) (c b : Nat) : Prop := (x = -10006 ∧ ∀ i, i < k → opn V nb nc (i / nb) (i % nb) = -10006) ∨ ∃ j, j < k ∧ c = j / nb ∧ b = j % nb ∧ x = opn V nb nc c b ∧ 0 ≤ x ∧ (∀ i, i < k → opn V nb nc (i / nb) (i % nb) ≤ x) ∧ ∀ i, i < j → opn V nb nc (i / nb) (i % nb) < x
theorem bk_end (hW : WF V nb nc t) {x : Int} {c b : Nat} (hk : bk V nb nc (nc * nb) x c b) : (x = -10006 ∧ bs V nb nc = -1) ∨ (x ≠ -10006 ∧ bs V nb nc ≠ -1 ∧ x = bs V nb nc ∧ c = bc V nb nc ∧ b = bb V nb nc) := by
  have hnb := hW.1.2.2.1
  have hnc := hW.1.2.2.2
  have pos : ∀ {i j : Nat}, i < nc → j < nb → i * nb + j < nc * nb ∧ (i * nb + j) / nb = i ∧ (i * nb + j) % nb = j := by
    intro i j hi hj
    have k1 : (i + 1) * nb ≤ nc * nb := Nat.mul_le_mul_right _ hi
    rw [Nat.add_mul, Nat.one_mul] at k1
    refine ⟨by omega, ?_, ?_⟩
    · rw [Nat.mul_comm, Nat.mul_add_div (by omega), Nat.div_eq_of_lt hj, Nat.add_zero]
    · rw [Nat.mul_comm, Nat.mul_add_mod, Nat.mod_eq_of_lt hj]
  by_cases hbs : bs V nb nc = -1
  · rcases hk with ⟨rfl, -⟩ | ⟨j, hj, rfl, rfl, hx, h0, -⟩
    · exact Or.inl ⟨rfl, hbs⟩
    · exfalso
      have hnb0 : 0 < nb := by
        rcases Nat.eq_zero_or_pos nb with e | e
        · rw [e, Nat.mul_zero] at hj; omega
        · exact e
      have hb : j % nb < nb := Nat.mod_lt _ hnb0
      have hc : j / nb < nc := Nat.div_lt_of_lt_mul (by rw [Nat.mul_comm]; exact hj)
      have k1 := bv_none _ 120 hbs (12 * (j / nb) + j % nb) (by omega)
      have k2 : gM V nb nc (12 * (j / nb) + j % nb) = gF V nb nc (j / nb) (j % nb) := by
        unfold gM
        rw [show (12 * (j / nb) + j % nb) / 12 = j / nb by omega, show (12 * (j / nb) + j % nb) % 12 = j % nb by omega]
      rcases opn_ge hW (j / nb) (j % nb) with ⟨e, -⟩ | ⟨-, e⟩
      · omega
      · omega
  · obtain ⟨q1, q2, q3, q4⟩ := bp_spec _ _ hbs
    obtain ⟨h1, h2, h3, h4, h5⟩ := bs_facts hbs
    obtain ⟨p1, p2, p3⟩ := pos h1 h3
    have ge := (gF_ge hW _ _ (show gF V nb nc (bc V nb nc) (bb V nb nc) ≠ -1 by rw [h5]; exact hbs)).1
    have eo : opn V nb nc (bc V nb nc) (bb V nb nc) = bs V nb nc := by
      unfold opn
      rw [h5, if_neg hbs]
    rcases hk with ⟨rfl, hn⟩ | ⟨j, hj, rfl, rfl, hx, h0, hle, hlt⟩
    · exfalso
      have := hn _ p1
      rw [p2, p3, eo] at this
      omega
    · have hb : j % nb < nb := Nat.mod_lt _ (by omega)
      have hc : j / nb < nc := Nat.div_lt_of_lt_mul (by rw [Nat.mul_comm]; exact hj)
      have k2 : gM V nb nc (12 * (j / nb) + j % nb) = gF V nb nc (j / nb) (j % nb) := by
        unfold gM
        rw [show (12 * (j / nb) + j % nb) / 12 = j / nb by omega, show (12 * (j / nb) + j % nb) % 12 = j % nb by omega]
      have eo2 : x = gF V nb nc (j / nb) (j % nb) := by
        rcases opn_ge hW (j / nb) (j % nb) with ⟨e, -⟩ | ⟨-, e⟩ <;> omega
      have l1 := q3 (12 * (j / nb) + j % nb) (by omega)
      have l2 := hle _ p1
      rw [p2, p3, eo] at l2
      rw [k2] at l1
      have exb : x = bs V nb nc := by
        have : gF V nb nc (j / nb) (j % nb) ≤ bs V nb nc := l1
        omega
      have m1 : ¬ bc V nb nc * nb + bb V nb nc < j := fun q => by
        have := hlt _ q
        rw [p2, p3, eo] at this
        omega
      have m2 : ¬ 12 * (j / nb) + j % nb < bp (gM V nb nc) 120 := fun q => by
        have := q4 _ q
        rw [k2] at this
        have e : bv (gM V nb nc) 120 = bs V nb nc := rfl
        omega
      have d1 : nb * (j / nb) + j % nb = j := Nat.div_add_mod j nb
      have d2 : bp (gM V nb nc) 120 = 12 * bc V nb nc + bb V nb nc := by unfold bc bb; omega
      have hcc : bc V nb nc ≤ j / nb := by omega
      have hcc2 : j / nb ≤ bc V nb nc := by
        refine Nat.le_of_not_lt (fun q => ?_)
        have k3 : (bc V nb nc + 1) * nb ≤ (j / nb) * nb := Nat.mul_le_mul_right _ q
        rw [Nat.add_mul, Nat.one_mul, Nat.mul_comm (j / nb)] at k3
        omega
      have ecc : j / nb = bc V nb nc := by omega
      refine Or.inr ⟨by omega, hbs, exb, ecc, ?_⟩
      rw [ecc, Nat.mul_comm] at d1
      rw [ecc] at m2
      omega
/-- the greatest pair is matched, if there is one -/
def Bq (M : Me) (h : Ml) (p : Nat) (V : Nat → Int) (nb nc : Nat) : Option ZV → Me → Ml → Prop := fun v M' h' => h' = h ∧ ((bs V nb nc = -1 ∧ v = some (zi (-10006)) ∧ M' = M) ∨ (bs V nb nc ≠ -1 ∧ v = some (zi (bs V nb nc)) ∧ M' = upd2 M 75 (p + (114 + 10 * bc V nb nc + 9)) (V (18 + 8 * bb V nb nc))))
theorem m9_matchesBest (hS : MS M p V nb nc t) : Wp zS0 tX9_matchesBest none 0 [zr 74, zi p, zn, zn, zn, zn, zn] [] M h (Bq M h p V nb nc) := by
  have hp := hS.1
  have hV := hS.2.2.1
  have hW := hS.2.2.2
  have hnb := hW.1.2.2.1
  have hnc := hW.1.2.2.2
  have hmul : nc * nb ≤ 10 * 12 := Nat.mul_le_mul hnc hnb
  have e12 : w32 ((p : Int) + 12) = ((p + 12 : Nat) : Int) := w32_n (by omega) (by omega)
  have e10 : w32 ((p : Int) + 10) = ((p + 10 : Nat) : Int) := w32_n (by omega) (by omega)
  have v12 : M 75 (p + 12) = (nc : Int) := (hV 12 (by omega)).trans hW.1.2.1
  have v10 : M 75 (p + 10) = (nb : Int) := (hV 10 (by omega)).trans hW.1.1
  have emul : w32 ((nc : Int) * (nb : Int)) = ((nc * nb : Nat) : Int) := w32_n (Int.natCast_mul nc nb).symm (by omega)
  have loop : ∀ d k : Nat, k + d = nc * nb → ∀ (x : Int) (c b : Nat) (y : ZV), bk V nb nc k x c b → Wp zS0 tX9_matchesBest none 12 [zr 74, zi p, zi x, zi c, zi b, zi k, y] [] M h (Bq M h p V nb nc) := by
    intro d
    induction d with
    | zero =>
      intro k hk x c b y hb
      have e : k = nc * nb := by omega
      subst e
      refine Wp.g1 rfl ?_
      rw [e12]
      refine Wp.ld rfl rfl (p + 12) rfl (by omega) ?_
      rw [v12]
      refine Wp.g1 rfl ?_
      rw [e10]
      refine Wp.ld rfl rfl (p + 10) rfl (by omega) ?_
      rw [v10]
      refine Wp.g1 rfl ?_
      rw [emul]
      refine Wp.brt rfl (Int.le_refl _) ?_
      refine Wp.g1 rfl ?_
      rcases bk_end hW hb with ⟨rfl, hn⟩ | ⟨hx, hn, rfl, rfl, rfl⟩
      · refine Wp.brt rfl rfl ?_
        refine Wp.g1 rfl ?_
        exact Wp.re rfl ⟨rfl, Or.inl ⟨hn, rfl, rfl⟩⟩
      · obtain ⟨f1, -, f3, -, -⟩ := bs_facts hn
        refine Wp.brf rfl (fun q => hx q) ?_
        refine Wp.g1 rfl ?_
        refine Wp.calli rfl (m9_claimAt p (bc V nb nc) (by omega) (by omega) M h) ?_
        refine Wp.g1 rfl ?_
        rw [w32_n (n := p + (114 + 10 * bc V nb nc + 9)) (by omega) (by omega)]
        refine Wp.calli rfl (m9_bagAt p (bb V nb nc) (by omega) (by omega) M h) ?_
        refine Wp.ld rfl rfl (p + (18 + 8 * bb V nb nc)) rfl (by omega) ?_
        rw [hV _ (by omega)]
        refine Wp.sto rfl rfl (p + (114 + 10 * bc V nb nc + 9)) rfl (by omega) ?_
        refine Wp.g1 rfl ?_
        exact Wp.re rfl ⟨rfl, Or.inr ⟨hn, rfl, rfl⟩⟩
    | succ d ih =>
      intro k hk x c b y hb
      have hnb0 : 0 < nb := by
        rcases Nat.eq_zero_or_pos nb with e | e
        · rw [e, Nat.mul_zero] at hk; omega
        · exact e
      have hb' : k % nb < nb := Nat.mod_lt _ hnb0
      have hc' : k / nb < nc := Nat.div_lt_of_lt_mul (by rw [Nat.mul_comm]; omega)
      have ed : (k : Int) / (nb : Int) = ((k / nb : Nat) : Int) := rfl
      have em : (k : Int) % (nb : Int) = ((k % nb : Nat) : Int) := rfl
      refine Wp.g1 rfl ?_
      rw [e12]
      refine Wp.ld rfl rfl (p + 12) rfl (by omega) ?_
      rw [v12]
      refine Wp.g1 rfl ?_
      rw [e10]
      refine Wp.ld rfl rfl (p + 10) rfl (by omega) ?_
      rw [v10]
      refine Wp.g1 rfl ?_
      rw [emul]
      refine Wp.brf rfl (by omega) ?_
      refine Wp.g1 rfl ?_
      rw [e10]
      refine Wp.ld rfl rfl (p + 10) rfl (by omega) ?_
      rw [v10]
      refine Wp.div rfl (by omega) (by omega) ?_
      rw [ed]
      refine Wp.g1 rfl ?_
      rw [e10]
      refine Wp.ld rfl rfl (p + 10) rfl (by omega) ?_
      rw [v10]
      refine Wp.rem rfl (by omega) (by omega) ?_
      rw [em]
      refine Wp.calli rfl (m9_open hS hc' hb') ?_
      refine Wp.g1 rfl ?_
      rcases hb with ⟨rfl, hn⟩ | ⟨j, hj, h1, h2, h3, h4, h5, h6⟩
      · rcases opn_ge hW (k / nb) (k % nb) with ⟨e, -⟩ | ⟨e, -⟩
        · refine Wp.brt rfl (by omega) ?_
          refine Wp.gt 12 rfl ?_
          rw [w32_s (n := k) (by omega)]
          refine ih (k + 1) (by omega) _ _ _ _ (Or.inl ⟨rfl, fun i hi => ?_⟩)
          by_cases ei : i = k
          · rw [ei]; exact e
          · exact hn i (by omega)
        · refine Wp.brf rfl (by omega) ?_
          refine Wp.g1 rfl ?_
          rw [e10]
          refine Wp.ld rfl rfl (p + 10) rfl (by omega) ?_
          rw [v10]
          refine Wp.div rfl (by omega) (by omega) ?_
          rw [ed]
          refine Wp.g1 rfl ?_
          rw [e10]
          refine Wp.ld rfl rfl (p + 10) rfl (by omega) ?_
          rw [v10]
          refine Wp.rem rfl (by omega) (by omega) ?_
          rw [em]
          refine Wp.gt 12 rfl ?_
          rw [w32_s (n := k) (by omega)]
          refine ih (k + 1) (by omega) _ _ _ _ (Or.inr ⟨k, by omega, rfl, rfl, rfl, e, fun i hi => ?_, fun i hi => ?_⟩)
          · by_cases ei : i = k
            · rw [ei]; exact Int.le_refl _
            · have := hn i (by omega); omega
          · have := hn i (by omega); omega
      · by_cases g : opn V nb nc (k / nb) (k % nb) ≤ x
        · refine Wp.brt rfl g ?_
          refine Wp.gt 12 rfl ?_
          rw [w32_s (n := k) (by omega)]
          refine ih (k + 1) (by omega) _ _ _ _ (Or.inr ⟨j, by omega, h1, h2, h3, h4, fun i hi => ?_, h6⟩)
          by_cases ei : i = k
          · rw [ei]; exact g
          · exact h5 i (by omega)
        · refine Wp.brf rfl g ?_
          refine Wp.g1 rfl ?_
          rw [e10]
          refine Wp.ld rfl rfl (p + 10) rfl (by omega) ?_
          rw [v10]
          refine Wp.div rfl (by omega) (by omega) ?_
          rw [ed]
          refine Wp.g1 rfl ?_
          rw [e10]
          refine Wp.ld rfl rfl (p + 10) rfl (by omega) ?_
          rw [v10]
          refine Wp.rem rfl (by omega) (by omega) ?_
          rw [em]
          refine Wp.gt 12 rfl ?_
          rw [w32_s (n := k) (by omega)]
          refine ih (k + 1) (by omega) _ _ _ _ (Or.inr ⟨k, by omega, rfl, rfl, rfl, by omega, fun i hi => ?_, fun i hi => ?_⟩)
          · by_cases ei : i = k
            · rw [ei]; exact Int.le_refl _
            · have := h5 i (by omega); omega
          · have := h5 i hi; omega
  refine Wp.gt 12 rfl ?_
  exact loop (nc * nb) 0 (by omega) _ _ _ _ (Or.inl ⟨rfl, fun i hi => by omega⟩)
end MB9
