/-! the reference: its state, and the calls that change a setting -/
abbrev Ms (x : Int × At) (M : Me) (h : Ml) : Option ZV → Me → Ml → Prop := fun v M' h' => v = some (zi x.1) ∧ h' = h ∧ (∀ k, k < 74 → M' k = M k) ∧ MR M' x.2
section ST9
variable {M : Me} {h : Ml} {a : At} {t : Nat}
theorem MR.ms (hM : MR M a) (hS : SO a t) : MS M 0 a.V a.nb a.nc t := ⟨by omega, fun j hj => hM.1 j (by omega), fun j hj => by rw [Nat.zero_add]; exact hM.1 j hj, hS.1⟩
theorem MR.put (hM : MR M a) {j : Nat} (x : Int) (nb' nc' : Nat) : MR (upd2 M 75 j x) ((up a.V j x, nb', nc'), a.2) := by
  obtain ⟨h1, h2, h3, h4⟩ := hM
  refine ⟨fun i hi => ?_, by rw [upd2_ne (by decide), upd2_ne (by decide)]; exact h2, by rw [upd2_ne (by decide), upd2_ne (by decide)]; exact h3, by rw [upd2_ne (by decide)]; exact h4⟩
  by_cases e : i = j
  · subst e; rw [upd2_at]; exact up_at.symm
  · rw [upd2_off e]
    exact (h1 i hi).trans (up_off e).symm
theorem MR.as (hM : MR M a) {V' : Nat → Int} (nb' nc' : Nat) (hV : ∀ j, j < 214 → V' j = a.V j) : MR M ((V', nb', nc'), a.2) := ⟨fun j hj => (hM.1 j hj).trans (hV j hj).symm, hM.2⟩
theorem MR.kp (hM : MR M a) {M' : Me} (hk : ∀ k, 74 ≤ k → k < 78 → M' k = M k) : MR M' a := MRel.kept hM hk
theorem Ms.no {T : CT} {sc : Sc} {pc : Nat} {L st : List ZV} {r : Int} (hM : MR M a) (k : Wp zS0 T sc pc L st M h (Ri r M h)) : Wp zS0 T sc pc L st M h (Ms (r, a) M h) := k.imp (fun v M' h' q => by
  obtain ⟨rfl, rfl, rfl⟩ := q
  exact ⟨rfl, rfl, fun _ _ => rfl, hM⟩)
theorem m9_saves (hM : MR M a) (hS : SO a t) : Wp zS0 tX9_saves none 0 [zr 74, zn] [] M h (fun v M' h' => v = none ∧ h' = h ∧ (∀ k, k ≠ 74 → k ≠ 76 → M' k = M k) ∧ MR M' (sv a)) := by
  obtain ⟨h1, ⟨h2, h3⟩, h4, h5⟩ := hM
  have hkn := hS.2.1
  have copy : ∀ (kk : Nat) (M0 : Me), kk < 6 → M0 74 2 = (kk : Int) → ∀ d k : Nat, k + d = 214 → ∀ M' : Me, (∀ r, r ≠ 76 → M' r = M0 r) → (∀ i, M' 76 i = if 214 * kk ≤ i ∧ i < 214 * kk + k then M0 75 (i - 214 * kk) else M0 76 i) →
      Wp zS0 tX9_saves none 52 [zr 74, zi k] [] M' h (fun v M' h' => v = none ∧ h' = h ∧ (∀ r, r ≠ 74 → r ≠ 76 → M' r = M0 r) ∧ M' 74 = (upd2 M0 74 2 ((kk + 1 : Nat) : Int)) 74 ∧ ∀ i, M' 76 i = if 214 * kk ≤ i ∧ i < 214 * kk + 214 then M0 75 (i - 214 * kk) else M0 76 i) := by
    intro kk M0 hkk hk0 d
    induction d with
    | zero =>
      intro k hk M' q1 q2
      have e : k = 214 := by omega
      subst e
      refine Wp.g1 rfl ?_
      refine Wp.brt rfl (by decide) ?_
      refine Wp.g1 rfl ?_
      rw [q1 74 (by decide), hk0, w32_s (n := kk) (by omega)]
      refine Wp.re rfl ⟨rfl, rfl, fun r g1 g2 => by rw [upd2_ne (by omega)]; exact q1 r g2, ?_, fun i => by rw [upd2_ne (by decide)]; exact q2 i⟩
      funext i
      by_cases e : i = 2
      · subst e; rw [upd2_at, upd2_at]
      · rw [upd2_off e, upd2_off e, q1 74 (by decide)]
    | succ d ih =>
      intro k hk M' q1 q2
      refine Wp.g1 rfl ?_
      refine Wp.brf rfl (by omega) ?_
      refine Wp.g1 rfl ?_
      rw [q1 74 (by decide), hk0, w32_n (x := 214 * (kk : Int)) (n := 214 * kk) (by omega) (by omega), w32_n (n := 214 * kk + k) (by omega) (by omega)]
      refine Wp.ld rfl rfl k rfl (by omega) ?_
      rw [q1 75 (by decide)]
      refine Wp.sto rfl rfl (214 * kk + k) rfl (by omega) ?_
      refine Wp.gt 52 rfl ?_
      rw [w32_s (n := k) (by omega)]
      refine ih (k + 1) (by omega) _ (fun r g => by rw [upd2_ne (by omega)]; exact q1 r g) (fun i => ?_)
      by_cases e : i = 214 * kk + k
      · subst e
        rw [upd2_at, if_pos ⟨by omega, by omega⟩, Nat.add_sub_cancel_left]
      · rw [upd2_off e, q2 i]
        by_cases g : 214 * kk ≤ i ∧ i < 214 * kk + k
        · rw [if_pos g, if_pos ⟨g.1, by omega⟩]
        · rw [if_neg g, if_neg (fun q => g ⟨q.1, by omega⟩)]
  have full : ∀ d k : Nat, k + d = 1070 → a.kn = 6 → ∀ M' : Me, (∀ r, r ≠ 76 → M' r = M r) → (∀ i, M' 76 i = if i < k then M 76 (214 + i) else M 76 i) →
      Wp zS0 tX9_saves none 11 [zr 74, zi k] [] M' h (fun v M' h' => v = none ∧ h' = h ∧ (∀ k, k ≠ 74 → k ≠ 76 → M' k = M k) ∧ MR M' (sv a)) := by
    intro d
    induction d with
    | zero =>
      intro k hk e6 M' q1 q2
      have e : k = 1070 := by omega
      subst e
      refine Wp.g1 rfl ?_
      refine Wp.brt rfl (by decide) ?_
      refine Wp.gt 52 rfl ?_
      have hk2 : M' 74 2 = 6 := by rw [q1 74 (by decide), h2, e6]; rfl
      rw [hk2, show w32 (6 - 1) = 5 from by decide]
      refine (copy 5 (upd2 M' 74 2 5) (by decide) (by rw [upd2_at]; rfl) 214 0 (by omega) _ (fun _ _ => rfl) (fun i => by rw [if_neg (by omega)])).imp (fun v M1 hh q => ?_)
      obtain ⟨rfl, rfl, q3, q4, q5⟩ := q
      refine ⟨rfl, rfl, fun r g1 g2 => by rw [q3 r g1 g2, upd2_ne (by omega)]; exact q1 r g2, fun j hj => ?_, ⟨?_, fun c j hc hj => ?_⟩, ⟨?_, fun i hi => ?_⟩, ?_⟩
      · rw [q3 75 (by decide) (by decide), upd2_ne (by decide), q1 75 (by decide)]; exact h1 j hj
      · rw [q4, upd2_at]
        show ((5 + 1 : Nat) : Int) = ((svK a.kn : Nat) : Int)
        unfold svK
        rw [if_pos e6]
      · show _ = svP a.kn a.V a.P c j
        have hc : c < svK a.kn := hc
        unfold svK at hc
        rw [if_pos e6] at hc
        unfold svP
        rw [q5, if_pos e6]
        by_cases g : c < 5
        · rw [if_neg (by omega), if_pos g, upd2_ne (by decide), q2, if_pos (by omega), show 214 + (214 * c + j) = 214 * (c + 1) + j by omega]
          exact h3 (c + 1) j (by omega) hj
        · have e : c = 5 := by omega
          subst e
          rw [if_pos ⟨by omega, by omega⟩, if_neg g, upd2_ne (by decide), q1 75 (by decide), Nat.add_sub_cancel_left]
          exact h1 j hj
      · rw [q4, upd2_off (by decide), upd2_off (by decide), q1 74 (by decide)]; exact h4.1
      · rw [q3 77 (by decide) (by decide), upd2_ne (by decide), q1 77 (by decide)]; exact h4.2 i hi
      · rw [q4]
        repeat rw [upd2_off (by decide), upd2_off (by decide)]
        rw [q1 74 (by decide)]; exact h5
    | succ d ih =>
      intro k hk e6 M' q1 q2
      refine Wp.g1 rfl ?_
      refine Wp.brf rfl (by omega) ?_
      refine Wp.g1 rfl ?_
      rw [w32_n (n := 214 + k) (by omega) (by omega)]
      refine Wp.ld rfl rfl (214 + k) rfl (by omega) ?_
      refine Wp.sto rfl rfl k rfl (by omega) ?_
      refine Wp.gt 11 rfl ?_
      rw [w32_s (n := k) (by omega)]
      refine ih (k + 1) (by omega) e6 _ (fun r g => by rw [upd2_ne (by omega)]; exact q1 r g) (fun i => ?_)
      by_cases e : i = k
      · subst e
        rw [upd2_at, if_pos (by omega), q2, if_neg (by omega)]
      · rw [upd2_off e, q2 i]
        by_cases g : i < k
        · rw [if_pos g, if_pos (by omega)]
        · rw [if_neg g, if_neg (by omega)]
  refine Wp.g1 rfl ?_
  rw [h2]
  by_cases e6 : a.kn = 6
  · refine Wp.brf rfl (by omega) ?_
    refine Wp.gt 11 rfl ?_
    exact full 1070 0 (by omega) e6 M (fun _ _ => rfl) (fun i => by rw [if_neg (by omega)])
  · refine Wp.brt rfl (by omega) ?_
    refine Wp.gt 52 rfl ?_
    refine (copy a.kn M (by omega) h2 214 0 (by omega) M (fun _ _ => rfl) (fun i => by rw [if_neg (by omega)])).imp (fun v M1 hh q => ?_)
    obtain ⟨rfl, rfl, q3, q4, q5⟩ := q
    refine ⟨rfl, rfl, q3, fun j hj => ?_, ⟨?_, fun c j hc hj => ?_⟩, ⟨?_, fun i hi => ?_⟩, ?_⟩
    · rw [q3 75 (by decide) (by decide)]; exact h1 j hj
    · rw [q4, upd2_at]
      show ((a.kn + 1 : Nat) : Int) = ((svK a.kn : Nat) : Int)
      unfold svK
      rw [if_neg e6]
    · show _ = svP a.kn a.V a.P c j
      have hc : c < svK a.kn := hc
      unfold svK at hc
      rw [if_neg e6] at hc
      unfold svP
      rw [q5, if_neg e6]
      by_cases g : c < a.kn
      · rw [if_neg (by omega), if_pos g]
        exact h3 c j g hj
      · have e : c = a.kn := by omega
        subst e
        rw [if_pos ⟨by omega, by omega⟩, if_neg g, Nat.add_sub_cancel_left]
        exact h1 j hj
    · rw [q4, upd2_off (by decide)]; exact h4.1
    · rw [q3 77 (by decide) (by decide)]; exact h4.2 i hi
    · rw [q4]
      repeat rw [upd2_off (by decide)]
      exact h5
theorem m9_setWeight (hM : MR M a) (hS : SO a t) (x y : Int) : Wp zS0 tX9_setWeight none 0 [zr 74, zi x, zi y, zn] [] M h (Ms (sWeight a x y) M h) := by
  unfold sWeight
  refine Wp.g1 rfl ?_
  refine Wp.calli rfl (m9_in x 0 5 M h) ?_
  by_cases hx : x < 0 ∨ 5 < x
  · rw [if_neg (c := 0 ≤ x ∧ x ≤ 5) (by omega), if_pos hx]
    refine Wp.brf rfl (by decide) ?_
    refine Wp.g1 rfl ?_
    exact Ms.no hM (Wp.rei rfl rfl rfl rfl)
  rw [if_pos (c := 0 ≤ x ∧ x ≤ 5) (by omega), if_neg hx]
  obtain ⟨i, rfl⟩ := Int.eq_ofNat_of_zero_le (show 0 ≤ x by omega)
  refine Wp.brt rfl (by decide) ?_
  refine Wp.g1 rfl ?_
  refine Wp.calli rfl (m9_in y 0 50 M h) ?_
  by_cases hy : y < 0 ∨ 50 < y
  · rw [if_neg (c := 0 ≤ y ∧ y ≤ 50) (by omega), if_pos hy]
    refine Wp.brf rfl (by decide) ?_
    refine Wp.g1 rfl ?_
    exact Ms.no hM (Wp.rei rfl rfl rfl rfl)
  rw [if_pos (c := 0 ≤ y ∧ y ≤ 50) (by omega), if_neg hy]
  refine Wp.brt rfl (by decide) ?_
  refine Wp.g1 rfl ?_
  refine Wp.call rfl (m9_saves hM hS) (fun v M1 h1 q => ?_)
  obtain ⟨rfl, rfl, q1, q2⟩ := q
  have e : w32 (4 + (i : Int)) = ((4 + i : Nat) : Int) := w32_n (by omega) (by omega)
  refine Wp.g1 rfl ?_
  rw [e]
  refine Wp.ld rfl rfl (4 + i) rfl (by omega) ?_
  refine Wp.g1 rfl ?_
  rw [e]
  refine Wp.sto rfl rfl (4 + i) rfl (by omega) ?_
  refine Wp.g1 rfl ?_
  refine Wp.re rfl ⟨?_, rfl, fun k g => by rw [upd2_ne (by omega)]; exact q1 k (by omega) (by omega), q2.put _ _ _⟩
  rw [q2.1 _ (by omega)]; rfl
theorem m9_setThreshold (hM : MR M a) (hS : SO a t) (x : Int) : Wp zS0 tX9_setThreshold none 0 [zr 74, zi x, zn] [] M h (Ms (sThreshold a x) M h) := by
  unfold sThreshold
  refine Wp.g1 rfl ?_
  refine Wp.calli rfl (m9_in x 0 200 M h) ?_
  by_cases hx : x < 0 ∨ 200 < x
  · rw [if_neg (c := 0 ≤ x ∧ x ≤ 200) (by omega), if_pos hx]
    refine Wp.brf rfl (by decide) ?_
    refine Wp.g1 rfl ?_
    exact Ms.no hM (Wp.rei rfl rfl rfl rfl)
  rw [if_pos (c := 0 ≤ x ∧ x ≤ 200) (by omega), if_neg hx]
  refine Wp.brt rfl (by decide) ?_
  refine Wp.g1 rfl ?_
  refine Wp.call rfl (m9_saves hM hS) (fun v M1 h1 q => ?_)
  obtain ⟨rfl, rfl, q1, q2⟩ := q
  refine Wp.g1 rfl ?_
  refine Wp.ld rfl rfl 1 rfl (by omega) ?_
  refine Wp.g1 rfl ?_
  refine Wp.sto rfl rfl 1 rfl (by omega) ?_
  refine Wp.g1 rfl ?_
  refine Wp.re rfl ⟨?_, rfl, fun k g => by rw [upd2_ne (by omega)]; exact q1 k (by omega) (by omega), q2.put _ _ _⟩
  rw [q2.1 _ (by omega)]; rfl
theorem m9_setMoney (hM : MR M a) (hS : SO a t) (x y : Int) : Wp zS0 tX9_setMoney none 0 [zr 74, zi x, zi y, zn] [] M h (Ms (sMoney a x y) M h) := by
  unfold sMoney
  refine Wp.g1 rfl ?_
  refine Wp.calli rfl (m9_in x 0 500 M h) ?_
  by_cases hx : x < 0 ∨ 500 < x
  · rw [if_neg (c := 0 ≤ x ∧ x ≤ 500) (by omega), if_pos (Or.inl hx)]
    refine Wp.brt rfl (by decide) ?_
    refine Wp.g1 rfl ?_
    exact Ms.no hM (Wp.rei rfl rfl rfl rfl)
  rw [if_pos (c := 0 ≤ x ∧ x ≤ 500) (by omega)]
  refine Wp.brf rfl (by decide) ?_
  refine Wp.g1 rfl ?_
  refine Wp.calli rfl (m9_in y 0 9999 M h) ?_
  by_cases hy : y < 0 ∨ 9999 < y
  · rw [if_neg (c := 0 ≤ y ∧ y ≤ 9999) (by omega), if_pos (Or.inr hy)]
    refine Wp.brf rfl (by decide) ?_
    refine Wp.g1 rfl ?_
    exact Ms.no hM (Wp.rei rfl rfl rfl rfl)
  rw [if_pos (c := 0 ≤ y ∧ y ≤ 9999) (by omega), if_neg (by omega)]
  refine Wp.brt rfl (by decide) ?_
  refine Wp.g1 rfl ?_
  refine Wp.call rfl (m9_saves hM hS) (fun v M1 h1 q => ?_)
  obtain ⟨rfl, rfl, q1, q2⟩ := q
  refine Wp.g1 rfl ?_
  refine Wp.ld rfl rfl 2 rfl (by omega) ?_
  refine Wp.g1 rfl ?_
  refine Wp.sto rfl rfl 2 rfl (by omega) ?_
  refine Wp.g1 rfl ?_
  refine Wp.sto rfl rfl 3 rfl (by omega) ?_
  refine Wp.g1 rfl ?_
  refine Wp.re rfl ⟨?_, rfl, fun k g => by rw [upd2_ne (by omega), upd2_ne (by omega)]; exact q1 k (by omega) (by omega), (q2.put _ a.nb a.nc).put _ _ _⟩
  rw [q2.1 _ (by omega)]; rfl
theorem m9_pass (hM : MR M a) (hS : SO a t) (x : Int) : Wp zS0 tX9_pass none 0 [zr 74, zi x] [] M h (Ms (sPass a x) M h) := by
  have h0 := hS.1.2.1.1
  have e0 : M 75 0 = a.V 0 := hM.1 0 (by omega)
  unfold sPass
  refine Wp.g1 rfl ?_
  refine Wp.calli rfl (m9_in x 1 400 M h) ?_
  by_cases hx : x < 1 ∨ 400 < x
  · rw [if_neg (c := 1 ≤ x ∧ x ≤ 400) (by omega), if_pos hx]
    refine Wp.brf rfl (by decide) ?_
    refine Wp.g1 rfl ?_
    exact Ms.no hM (Wp.rei rfl rfl rfl rfl)
  rw [if_pos (c := 1 ≤ x ∧ x ≤ 400) (by omega), if_neg hx]
  have ew : w32 (a.V 0 + x) = a.V 0 + x := w32_id ⟨by omega, by omega⟩
  refine Wp.brt rfl (by decide) ?_
  refine Wp.g1 rfl ?_
  refine Wp.ld rfl rfl 0 rfl (by omega) ?_
  rw [e0]
  refine Wp.g1 rfl ?_
  rw [ew]
  by_cases hy : 9999 < a.V 0 + x
  · rw [if_pos hy]
    refine Wp.brf rfl (by omega) ?_
    refine Wp.g1 rfl ?_
    exact Ms.no hM (Wp.rei rfl rfl rfl rfl)
  rw [if_neg hy]
  refine Wp.brt rfl (by omega) ?_
  refine Wp.g1 rfl ?_
  refine Wp.call rfl (m9_saves hM hS) (fun v M1 h1 q => ?_)
  obtain ⟨rfl, rfl, q1, q2⟩ := q
  refine Wp.g1 rfl ?_
  refine Wp.ld rfl rfl 0 rfl (by omega) ?_
  rw [show M1 75 0 = a.V 0 from q2.1 0 (by omega)]
  refine Wp.g1 rfl ?_
  rw [ew]
  refine Wp.sto rfl rfl 0 rfl (by omega) ?_
  refine Wp.g1 rfl ?_
  refine Wp.ld rfl rfl 0 rfl (by omega) ?_
  rw [upd2_at]
  exact Wp.re rfl ⟨rfl, rfl, fun k g => by rw [upd2_ne (by omega)]; exact q1 k (by omega) (by omega), q2.put _ _ _⟩
theorem m9_problem (hM : MR M a) (x : Int) : Wp zS0 tX9_problem none 0 [zr 74, zi x] [] M h (Ms (sProblem a x) M h) := by
  obtain ⟨p0, p1, p2⟩ := hM.2.2.2
  unfold sProblem
  refine Wp.g1 rfl ?_
  by_cases x0 : x = 0
  · rw [if_pos x0]
    refine Wp.brf rfl (fun q => q x0) ?_
    refine Wp.g1 rfl ?_
    exact Ms.no hM (Wp.rei rfl p0 rfl rfl)
  rw [if_neg x0]
  refine Wp.brt rfl x0 ?_
  refine Wp.g1 rfl ?_
  by_cases x1 : x = 1
  · rw [if_pos x1]
    refine Wp.brf rfl (fun q => q x1) ?_
    refine Wp.g1 rfl ?_
    exact Ms.no hM (Wp.rei rfl p1 rfl rfl)
  rw [if_neg x1]
  refine Wp.brt rfl x1 ?_
  refine Wp.g1 rfl ?_
  by_cases x2 : x = 2
  · rw [if_pos x2]
    refine Wp.brf rfl (fun q => q x2) ?_
    refine Wp.g1 rfl ?_
    exact Ms.no hM (Wp.rei rfl p2 rfl rfl)
  rw [if_neg x2]
  refine Wp.brt rfl x2 ?_
  refine Wp.g1 rfl ?_
  exact Ms.no hM (Wp.rei rfl rfl rfl rfl)
theorem m9_type (hM : MR M a) (hS : SO a t) (x : Int) : Wp zS0 tX9_type none 0 [zr 74, zi x] [] M h (Ms (sType a x) M h) := by
  obtain ⟨h1, ⟨h2, h3⟩, ⟨h4, h4'⟩, h5⟩ := id hM
  have hl : a.len ≤ 80 := hS.2.2.2.1
  unfold sType
  refine Wp.g1 rfl ?_
  refine Wp.calli rfl (m9_in x 33 126 M h) ?_
  by_cases hx : x < 33 ∨ 126 < x
  · rw [if_neg (c := 33 ≤ x ∧ x ≤ 126) (by omega), if_pos hx]
    refine Wp.brf rfl (by decide) ?_
    refine Wp.g1 rfl ?_
    exact Ms.no hM (Wp.rei rfl rfl rfl rfl)
  rw [if_pos (c := 33 ≤ x ∧ x ≤ 126) (by omega), if_neg hx]
  refine Wp.brt rfl (by decide) ?_
  refine Wp.g1 rfl ?_
  rw [h4]
  by_cases hy : a.len = 80
  · rw [if_pos hy]
    refine Wp.brf rfl (by omega) ?_
    refine Wp.g1 rfl ?_
    exact Ms.no hM (Wp.rei rfl rfl rfl rfl)
  rw [if_neg hy]
  refine Wp.brt rfl (by omega) ?_
  refine Wp.g1 rfl ?_
  rw [h4]
  refine Wp.sto rfl rfl a.len rfl (by omega) ?_
  refine Wp.g1 rfl ?_
  rw [upd2_at, upd2_ne (k := 77) (by decide), h4, w32_s (n := a.len) (by omega)]
  refine Wp.re rfl ⟨by simp, rfl, fun k g => by rw [upd2_ne (by omega), upd2_ne (by omega)], fun j hj => ?_, ⟨?_, fun c j hc hj => ?_⟩, ⟨?_, fun i hi => ?_⟩, ?_⟩
  · rw [upd2_ne (by decide), upd2_ne (by decide)]; exact h1 j hj
  · rw [upd2_off (by decide), upd2_ne (by decide)]; exact h2
  · rw [upd2_ne (by decide), upd2_ne (by decide)]; exact h3 c j hc hj
  · rw [upd2_at]
  · have hi : i < a.len + 1 := hi
    rw [upd2_ne (by decide)]
    show _ = up a.tx a.len x i
    by_cases e : i = a.len
    · rw [e, upd2_at, up_at]
    · rw [upd2_off e, up_off e]; exact h4' i (by omega)
  · repeat rw [upd2_off (by decide)]
    rw [upd2_ne (by decide)]; exact h5
theorem m9_clearText (hM : MR M a) : Wp zS0 tX9_clearText none 0 [zr 74, zn] [] M h (Ms (sClear a) M h) := by
  obtain ⟨h1, ⟨h2, h3⟩, ⟨h4, h4'⟩, h5⟩ := id hM
  refine Wp.g1 rfl ?_
  refine Wp.re rfl ⟨?_, rfl, fun k g => by rw [upd2_ne (by omega)], fun j hj => ?_, ⟨?_, fun c j hc hj => ?_⟩, ⟨?_, fun i hi => ?_⟩, ?_⟩
  · rw [h4]; rfl
  · rw [upd2_ne (by decide)]; exact h1 j hj
  · rw [upd2_off (by decide)]; exact h2
  · rw [upd2_ne (by decide)]; exact h3 c j hc hj
  · rw [upd2_at]; rfl
  · exact absurd hi (Nat.not_lt_zero _)
  · repeat rw [upd2_off (by decide)]
    exact h5
theorem m9_undo (hM : MR M a) (hS : SO a t) : Wp zS0 tX9_undo none 0 [zr 74, zn] [] M h (Ms (sUndo a) M h) := by
  obtain ⟨h1, ⟨h2, h3⟩, ⟨h4, h4'⟩, h5⟩ := id hM
  have hkn := hS.2.1
  unfold sUndo
  refine Wp.g1 rfl ?_
  rw [h2]
  by_cases e0 : a.kn = 0
  · rw [if_pos e0]
    refine Wp.brf rfl (by omega) ?_
    refine Wp.g1 rfl ?_
    exact Ms.no hM (Wp.rei rfl rfl rfl rfl)
  rw [if_neg e0]
  refine Wp.brt rfl (by omega) ?_
  have copy : ∀ d k : Nat, k + d = 214 → ∀ M' : Me, (∀ r, r ≠ 74 → r ≠ 75 → M' r = M r) → M' 74 = upd2 M 74 2 ((a.kn - 1 : Nat) : Int) 74 → (∀ i, M' 75 i = if i < k then M 76 (214 * (a.kn - 1) + i) else M 75 i) →
      Wp zS0 tX9_undo none 23 [zr 74, zi k] [] M' h (Ms (((a.kn - 1 : Nat) : Int), ((a.P (a.kn - 1), (a.P (a.kn - 1) 10).toNat, (a.P (a.kn - 1) 12).toNat), (a.kn - 1, a.P), a.2.2)) M h) := by
    intro d
    induction d with
    | zero =>
      intro k hk M' q1 q2 q3
      have e : k = 214 := by omega
      subst e
      refine Wp.g1 rfl ?_
      refine Wp.brt rfl (by decide) ?_
      refine Wp.g1 rfl ?_
      refine Wp.re rfl ⟨?_, rfl, fun r g => q1 r (by omega) (by omega), fun j hj => ?_, ⟨?_, fun c j hc hj => ?_⟩, ⟨?_, fun i hi => ?_⟩, ?_⟩
      · rw [q2, upd2_at]
      · rw [q3, if_pos hj]; exact h3 _ j (by omega) hj
      · rw [q2, upd2_at]
      · have hc : c < a.kn - 1 := hc
        rw [q1 76 (by decide) (by decide)]; exact h3 c j (by omega) hj
      · rw [q2, upd2_off (by decide)]; exact h4
      · rw [q1 77 (by decide) (by decide)]; exact h4' i hi
      · rw [q2]
        repeat rw [upd2_off (by decide)]
        exact h5
    | succ d ih =>
      intro k hk M' q1 q2 q3
      refine Wp.g1 rfl ?_
      refine Wp.brf rfl (by omega) ?_
      refine Wp.g1 rfl ?_
      rw [q2, upd2_at, w32_n (x := 214 * ((a.kn - 1 : Nat) : Int)) (n := 214 * (a.kn - 1)) (by omega) (by omega), w32_n (n := 214 * (a.kn - 1) + k) (by omega) (by omega)]
      refine Wp.ld rfl rfl (214 * (a.kn - 1) + k) rfl (by omega) ?_
      rw [q1 76 (by decide) (by decide)]
      refine Wp.sto rfl rfl k rfl (by omega) ?_
      refine Wp.gt 23 rfl ?_
      rw [w32_s (n := k) (by omega)]
      refine ih (k + 1) (by omega) _ (fun r g1 g2 => by rw [upd2_ne (by omega)]; exact q1 r g1 g2) (by rw [upd2_ne (by decide)]; exact q2) (fun i => ?_)
      by_cases e : i = k
      · subst e
        rw [upd2_at, if_pos (by omega)]
      · rw [upd2_off e, q3 i]
        by_cases g : i < k
        · rw [if_pos g, if_pos (by omega)]
        · rw [if_neg g, if_neg (by omega)]
  refine Wp.gt 23 rfl ?_
  rw [h2, w32_n (n := a.kn - 1) (by omega) (by omega)]
  exact copy 214 0 (by omega) _ (fun r g1 _ => upd2_ne g1) rfl (fun i => by rw [upd2_ne (by decide), if_neg (by omega)])
end ST9
