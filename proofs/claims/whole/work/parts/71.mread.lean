/-! the reference: the bags of the text are read -/
section RD9
variable {M : Me} {h : Ml} {a : At} {t : Nat}
theorem MR.tx (hM : MR M a) (hl : a.len ≤ 80) (hr : ∀ i, i < a.len → 33 ≤ a.tx i ∧ a.tx i ≤ 126) : TX M a.len a.tx := ⟨hM.2.2.1.1, hl, hM.2.2.1.2, hr⟩
theorem be_gd {tx : Nat → Int} {len s : Nat} {x : Int} (hg : gd tx len s) (hb : BE tx len s x) : x = ((s + 11 + nm tx len s : Nat) : Int) := by
  obtain ⟨g1, g2⟩ := hg
  rcases hb with ⟨k, -, -, -, q⟩ | ⟨e, rfl, h1, h2, h3, q⟩
  · omega
  · have en : s + 11 + nm tx len s = e := by
      rcases q with q | q | q
      · have : nm tx len s = len - (s + 11) := fnd_none (fun j hj => by rw [if_neg (h3 _ (by omega) (by omega))]; decide)
        omega
      · omega
      · have : nm tx len s = e - (s + 11) := fnd_some (by omega) (by rw [show s + 11 + (e - (s + 11)) = e by omega, if_pos q.2.1]) (fun j hj => by rw [if_neg (h3 _ (by omega) (by omega))]; decide)
        omega
    rw [en]
theorem m9_reads {s : Nat} (hM : MR M a) (hl : a.len ≤ 80) (hr : ∀ i, i < a.len → 33 ≤ a.tx i ∧ a.tx i ≤ 126) (hg : gd a.tx a.len s) (h10 : a.V 10 = (a.nb : Int)) (hn : a.nb < 12) (h11 : 0 ≤ a.V 11 ∧ a.V 11 ≤ 1000000) :
    Wp zS0 tX9_reads none 0 [zr 74, zi s, zn, zn, zn, zn] [] M h (fun v M' h' => v = none ∧ h' = h ∧ (∀ k, k ≠ 75 → M' k = M k) ∧ MR M' ((nBag a.V a.nb (a.tx s - 48) (leg (tgF a.tx s 6) (ilF a.tx s 6)) (ilF a.tx s 6) (a.tx (s + 9) - 48) (a.tx (s + 10) - 97) (mkF a.tx s (nm a.tx a.len s)), a.nb + 1, a.nc), a.2)) := by
  have hT := hM.tx hl hr
  obtain ⟨g1, g2, g3, g4, g5, g6, g7, g8⟩ := gd_facts hg
  have hnm : nm a.tx a.len s ≤ a.len - (s + 11) := fnd_le _ _ _
  have hb6 := tgF_bd g3 6 (by omega)
  have ks : ∀ i, i < a.len → Wp zS0 tX9_sign none 0 [zr 74, zi (i : Nat)] [] M h (Ri (a.tx i) M h) := fun i hi => by
    have := m9_sign (h := h) hT i
    unfold sg at this
    rw [if_pos hi] at this
    exact this
  have last : ∀ q : Nat, ∀ z : ZV, Wp zS0 tX9_reads none 127 [zr 74, zi s, zi (tgF a.tx s 6), zi (ilF a.tx s 6), zi (mkF a.tx s (nm a.tx a.len s)), zi q] [] M h (fun v M' h' => v = none ∧ h' = h ∧ (∀ k, k ≠ 75 → M' k = M k) ∧ MR M' ((nBag a.V a.nb (a.tx s - 48) (leg (tgF a.tx s 6) (ilF a.tx s 6)) (ilF a.tx s 6) (a.tx (s + 9) - 48) (a.tx (s + 10) - 97) (mkF a.tx s (nm a.tx a.len s)), a.nb + 1, a.nc), a.2)) := by
    intro q z
    refine Wp.g1 rfl ?_
    refine Wp.calli rfl (ks s (by omega)) ?_
    refine Wp.g1 rfl ?_
    rw [w32_id (x := a.tx s - 48) ⟨by omega, by omega⟩, w32_n (n := s + 9) (by omega) (by omega)]
    refine Wp.calli rfl (ks (s + 9) (by omega)) ?_
    refine Wp.g1 rfl ?_
    rw [w32_id (x := a.tx (s + 9) - 48) ⟨by omega, by omega⟩, w32_n (n := s + 10) (by omega) (by omega)]
    refine Wp.calli rfl (ks (s + 10) (by omega)) ?_
    refine Wp.g1 rfl ?_
    rw [w32_id (x := a.tx (s + 10) - 97) ⟨by omega, by omega⟩]
    refine Wp.call rfl (m9_registers hM h10 hn h11 _ _ _ _ _ _ hb6.1) (fun v M1 h1 q => ?_)
    obtain ⟨rfl, rfl, q1, q2⟩ := q
    refine Wp.g1 rfl ?_
    exact Wp.re rfl ⟨rfl, rfl, q1, q2⟩
  have loop2 : ∀ d j : Nat, j + d = nm a.tx a.len s → ∀ q : Nat, q = s + 11 + j → Wp zS0 tX9_reads none 95 [zr 74, zi s, zi (tgF a.tx s 6), zi (ilF a.tx s 6), zi (mkF a.tx s j), zi q] [] M h (fun v M' h' => v = none ∧ h' = h ∧ (∀ k, k ≠ 75 → M' k = M k) ∧ MR M' ((nBag a.V a.nb (a.tx s - 48) (leg (tgF a.tx s 6) (ilF a.tx s 6)) (ilF a.tx s 6) (a.tx (s + 9) - 48) (a.tx (s + 10) - 97) (mkF a.tx s (nm a.tx a.len s)), a.nb + 1, a.nc), a.2)) := by
    intro d
    induction d with
    | zero =>
      intro j hj q hq
      have e : j = nm a.tx a.len s := by omega
      subst e
      refine Wp.g1 rfl ?_
      refine Wp.call rfl (m9_bagEnd hT s (by omega)) (fun v M1 h1 qq => ?_)
      obtain ⟨⟨x, rfl, hb⟩, rfl, rfl⟩ := qq
      rw [be_gd hg hb]
      refine Wp.brt rfl (by omega) ?_
      exact last q zn
    | succ d ih =>
      intro j hj q hq
      have b6 := g6 j (by omega)
      refine Wp.g1 rfl ?_
      refine Wp.call rfl (m9_bagEnd hT s (by omega)) (fun v M1 h1 qq => ?_)
      obtain ⟨⟨x, rfl, hb⟩, rfl, rfl⟩ := qq
      rw [be_gd hg hb]
      refine Wp.brf rfl (by omega) ?_
      refine Wp.g1 rfl ?_
      refine Wp.calli rfl (ks q (by omega)) ?_
      refine Wp.gt 95 rfl ?_
      rw [w32_s (n := q) (by omega), hq, w32_id (x := a.tx (s + 11 + j) - 115) ⟨by omega, by omega⟩]
      exact ih (j + 1) (by omega) _ (by omega)
  have loop1 : ∀ d j : Nat, j + d = 6 → ∀ l5 : ZV, Wp zS0 tX9_reads none 7 [zr 74, zi s, zi (tgF a.tx s j), zi (ilF a.tx s j), zi j, l5] [] M h (fun v M' h' => v = none ∧ h' = h ∧ (∀ k, k ≠ 75 → M' k = M k) ∧ MR M' ((nBag a.V a.nb (a.tx s - 48) (leg (tgF a.tx s 6) (ilF a.tx s 6)) (ilF a.tx s 6) (a.tx (s + 9) - 48) (a.tx (s + 10) - 97) (mkF a.tx s (nm a.tx a.len s)), a.nb + 1, a.nc), a.2)) := by
    intro d
    induction d with
    | zero =>
      intro j hj l5
      have e : j = 6 := by omega
      subst e
      refine Wp.g1 rfl ?_
      refine Wp.brt rfl (by decide) ?_
      refine Wp.gt 95 rfl ?_
      rw [w32_n (n := s + 11) (by omega) (by omega)]
      exact loop2 (nm a.tx a.len s) 0 (by omega) _ (by omega)
    | succ d ih =>
      intro j hj l5
      have hlt : s + 2 + j < a.len := by omega
      have b0 := tgF_bd g3 j (by omega)
      have b1 := (ten_pow j (by omega)).1
      have b2 := g3 j (by omega)
      have hj6 : j < 6 := by omega
      have et : tgF a.tx s (j + 1) = tgF a.tx s j * 10 + (if a.tx (s + 2 + j) = 63 then 0 else a.tx (s + 2 + j) - 48) := rfl
      have ei : ilF a.tx s (j + 1) = bOr (ilF a.tx s j) (if a.tx (s + 2 + j) = 63 then bShl 1 (j : Int) else 0) := rfl
      have next := ih (j + 1) (by omega)
      rw [et, ei] at next
      have ea : w32 (w32 ((s : Int) + 2) + (j : Int)) = ((s + 2 + j : Nat) : Int) := by
        rw [w32_n (x := (s : Int) + 2) (n := s + 2) (by omega) (by omega)]
        exact w32_n (by omega) (by omega)
      have em : w32 (10 * tgF a.tx s j) = tgF a.tx s j * 10 := by
        rw [w32_id ⟨by omega, by omega⟩]
        omega
      refine Wp.g1 rfl ?_
      refine Wp.brf rfl (by omega) ?_
      refine Wp.g1 rfl ?_
      rw [ea]
      refine Wp.calli rfl (ks (s + 2 + j) hlt) ?_
      refine Wp.g1 rfl ?_
      by_cases g : a.tx (s + 2 + j) = 63
      · rw [if_pos g, if_pos g] at next
        refine Wp.brt rfl g ?_
        refine Wp.g1 rfl ?_
        refine Wp.brt rfl rfl ?_
        refine Wp.g1 rfl ?_
        refine Wp.brt rfl rfl ?_
        refine Wp.gt 7 rfl ?_
        rw [em, w32_s (n := j) (by omega), w32_id (x := tgF a.tx s j * 10 + 0) ⟨by omega, by omega⟩]
        exact next _
      · rw [if_neg g, if_neg g] at next
        refine Wp.brf rfl g ?_
        refine Wp.g1 rfl ?_
        refine Wp.brf rfl (by decide) ?_
        refine Wp.g1 rfl ?_
        rw [ea]
        refine Wp.calli rfl (ks (s + 2 + j) hlt) ?_
        refine Wp.g1 rfl ?_
        refine Wp.brf rfl (by decide) ?_
        refine Wp.gt 7 rfl ?_
        rw [em, w32_s (n := j) (by omega), w32_id (x := a.tx (s + 2 + j) - 48) ⟨by omega, by omega⟩, w32_id (x := tgF a.tx s j * 10 + (a.tx (s + 2 + j) - 48)) ⟨by omega, by omega⟩]
        exact next _
  refine Wp.gt 7 rfl ?_
  exact loop1 6 0 (by omega) _
theorem m9_fails (x y z : Int) (M : Me) (h : Ml) : Wp zS0 tX9_fails none 0 [zr 74, zi x, zi y, zi z] [] M h (Ri x (upd2 (upd2 (upd2 M 74 5 x) 74 6 y) 74 7 z) h) := by
  refine Wp.g1 rfl ?_
  exact Wp.rei rfl rfl rfl rfl
theorem MR.prob (hM : MR M a) (x y z : Int) : MR (upd2 (upd2 (upd2 M 74 5 x) 74 6 y) 74 7 z) (a.1, a.2.1, a.2.2.1, (x, y, z)) := by
  obtain ⟨h1, ⟨h2, h3⟩, ⟨h4, h4'⟩, h5⟩ := hM
  have k : ∀ k, k ≠ 74 → upd2 (upd2 (upd2 M 74 5 x) 74 6 y) 74 7 z k = M k := fun k g => by rw [upd2_ne g, upd2_ne g, upd2_ne g]
  refine ⟨fun j hj => by rw [k 75 (by decide)]; exact h1 j hj, ⟨?_, fun c j hc hj => by rw [k 76 (by decide)]; exact h3 c j hc hj⟩, ⟨?_, fun i hi => by rw [k 77 (by decide)]; exact h4' i hi⟩, ?_, ?_, ?_⟩
  · rw [upd2_off (by decide), upd2_off (by decide), upd2_off (by decide)]; exact h2
  · rw [upd2_off (by decide), upd2_off (by decide), upd2_off (by decide)]; exact h4
  · rw [upd2_off (by decide), upd2_off (by decide), upd2_at]
  · rw [upd2_off (by decide), upd2_at]
  · rw [upd2_at]
theorem MR.text0 (hM : MR M a) : MR (upd2 M 74 4 0) (a.1, a.2.1, (0, a.tx), a.2.2.2) := by
  obtain ⟨h1, ⟨h2, h3⟩, ⟨h4, h4'⟩, h5⟩ := hM
  refine ⟨fun j hj => by rw [upd2_ne (by decide)]; exact h1 j hj, ⟨?_, fun c j hc hj => by rw [upd2_ne (by decide)]; exact h3 c j hc hj⟩, ⟨?_, fun i hi => absurd hi (Nat.not_lt_zero _)⟩, ?_⟩
  · rw [upd2_off (by decide)]; exact h2
  · rw [upd2_at]; rfl
  · repeat rw [upd2_off (by decide)]
    exact h5
theorem m9_readBags (hM : MR M a) (hS : SO a t) (ht : t ≤ 600) : Wp zS0 tX9_readBags none 0 [zr 74, zn, zn, zn] [] M h (Ms (sRead a) M h) := by
  have hl : a.len ≤ 80 := hS.2.2.2.1
  have hr : ∀ i, i < a.len → 33 ≤ a.tx i ∧ a.tx i ≤ 126 := hS.2.2.2.2
  have hW := hS.1
  have hnb : a.nb ≤ 12 := hW.1.2.2.1
  have h11 := hW.2.1.2.2.2.2.2.1
  have hsb := sem_bd a.tx a.len
  have hT := hM.tx hl hr
  have e10 : M 75 10 = (a.nb : Int) := (hM.1 10 (by omega)).trans hW.1.1
  have loop : ∀ d : Nat, ∀ (s : Nat) (r : Nat) (M' : Me) (V : Nat → Int) (nb : Nat), sem a.tx a.len + 1 ≤ (r : Int) + d → (r : Int) = sem a.tx s → gd a.tx a.len s → nb = a.nb + r → (r : Int) ≤ sem a.tx a.len → MR M' ((V, nb, a.nc), (sv a).2) → WF V nb a.nc (t + 1) → V 11 = a.V 11 + r → (∀ k, k < 74 → M' k = M k) → sem a.tx a.len + 1 ≤ 12 - a.nb → rdV a.tx a.len d s V nb = rdV a.tx a.len 12 0 a.V a.nb →
      Wp zS0 tX9_readBags none 78 [zr 74, zi (-10006), zi (sem a.tx a.len + 1), zi s] [] M' h (Ms (sem a.tx a.len + 1, (((rdV a.tx a.len 12 0 a.V a.nb).1, (rdV a.tx a.len 12 0 a.V a.nb).2, a.nc), (sv a).2.1, (0, a.tx), a.2.2.2)) M h) := by
    intro d
    induction d with
    | zero => intro s r M' V nb e1 e2 e3 e4 e5; omega
    | succ d ih =>
      intro s r M' V nb e1 e2 e3 e4 e5 hM' hW' hV hk hroom hrd
      obtain ⟨g1, g2, g3, g4, g5, g6, g7, g8⟩ := gd_facts e3
      have hl4 : M' 74 4 = (a.len : Int) := hM'.2.2.1.1
      refine Wp.g1 rfl ?_
      rw [hl4]
      refine Wp.brf rfl (by omega) ?_
      refine Wp.g1 rfl ?_
      refine Wp.call rfl (m9_reads (a := ((V, nb, a.nc), (sv a).2)) (s := s) hM' hl hr e3 hW'.1.1 (show nb < 12 by omega) (show 0 ≤ V 11 ∧ V 11 ≤ 1000000 by omega)) (fun v M1 h1 q => ?_)
      obtain ⟨rfl, rfl, q1, q2⟩ := q
      have hT1 : TX M1 a.len a.tx := by
        refine ⟨?_, hl, fun i hi => ?_, hr⟩
        · rw [q1 74 (by decide)]; exact hl4
        · rw [q1 77 (by decide)]; exact hM'.2.2.1.2 i hi
      have hnm : nm a.tx a.len s ≤ a.len - (s + 11) := fnd_le _ _ _
      refine Wp.g1 rfl ?_
      refine Wp.call rfl (m9_bagEnd hT1 s (by omega)) (fun v M2 h2 q => ?_)
      obtain ⟨⟨x, rfl, hb⟩, rfl, rfl⟩ := q
      rw [be_gd e3 hb]
      refine Wp.gt 78 rfl ?_
      rw [w32_s (n := s + 11 + nm a.tx a.len s) (by omega)]
      have hW2 := hW'.rd e3 (Nat.le_refl _) (by omega) (by omega)
      have hV2 := (nBag_hd (V := V) (nb := nb) (a.tx s - 48) (leg (tgF a.tx s 6) (ilF a.tx s 6)) (ilF a.tx s 6) (a.tx (s + 9) - 48) (a.tx (s + 10) - 97) (mkF a.tx s (nm a.tx a.len s))).2.1
      have hk2 : ∀ k, k < 74 → M2 k = M k := fun k g => (q1 k (by omega)).trans (hk k g)
      have hrd : (if s + 11 + nm a.tx a.len s < a.len then rdV a.tx a.len d (s + 11 + nm a.tx a.len s + 1) (nBag V nb (a.tx s - 48) (leg (tgF a.tx s 6) (ilF a.tx s 6)) (ilF a.tx s 6) (a.tx (s + 9) - 48) (a.tx (s + 10) - 97) (mkF a.tx s (nm a.tx a.len s))) (nb + 1) else (nBag V nb (a.tx s - 48) (leg (tgF a.tx s 6) (ilF a.tx s 6)) (ilF a.tx s 6) (a.tx (s + 9) - 48) (a.tx (s + 10) - 97) (mkF a.tx s (nm a.tx a.len s)), nb + 1)) = rdV a.tx a.len 12 0 a.V a.nb := hrd
      have hsm := sem_same (tx := a.tx) (s := s) (s + 11 + nm a.tx a.len s) (by omega) g7
      rcases g8 with g8 | ⟨g8, g9, g10⟩
      · rw [if_neg (by omega)] at hrd
        refine Wp.g1 rfl ?_
        rw [hT1.1]
        refine Wp.brt rfl (by omega) ?_
        refine Wp.g1 rfl ?_
        rw [← hrd]
        exact Wp.re rfl ⟨rfl, rfl, fun k g => by rw [upd2_ne (by omega)]; exact hk2 k g, q2.text0⟩
      · rw [if_pos g8] at hrd
        have hs2 : sem a.tx (s + 11 + nm a.tx a.len s + 1) = sem a.tx (s + 11 + nm a.tx a.len s) + (if a.tx (s + 11 + nm a.tx a.len s) = 59 then 1 else 0) := rfl
        rw [if_pos g9, hsm] at hs2
        have hs3 : sem a.tx (s + 11 + nm a.tx a.len s + 1) ≤ sem a.tx a.len := by
          have mono : ∀ e m : Nat, sem a.tx m ≤ sem a.tx (m + e) := by
            intro e
            induction e with
            | zero => intro m; exact Int.le_refl _
            | succ e ihe =>
              intro m
              have h1 := ihe m
              have h2 : sem a.tx (m + (e + 1)) = sem a.tx (m + e) + (if a.tx (m + e) = 59 then 1 else 0) := rfl
              rw [h2]
              split <;> omega
          have := mono (a.len - (s + 11 + nm a.tx a.len s + 1)) (s + 11 + nm a.tx a.len s + 1)
          rw [show s + 11 + nm a.tx a.len s + 1 + (a.len - (s + 11 + nm a.tx a.len s + 1)) = a.len by omega] at this
          exact this
        exact ih (s + 11 + nm a.tx a.len s + 1) (r + 1) M2 _ (nb + 1) (by omega) (by omega) g10 (by omega) (by omega) q2 hW2 (hV2.trans (by omega)) hk2 hroom hrd
  unfold sRead
  refine Wp.g1 rfl ?_
  refine Wp.calli rfl (m9_syntaxError hT) ?_
  refine Wp.g1 rfl ?_
  rw [show scn a.tx a.len a.len 0 0 = eA a from rfl]
  by_cases he : eA a = -10006
  · rw [if_pos he, he]
    refine Wp.brt rfl rfl ?_
    refine Wp.g1 rfl ?_
    rw [hT.1]
    refine Wp.calli rfl (m9_semicolons hT a.len (Nat.le_refl _)) ?_
    refine Wp.g1 rfl ?_
    rw [w32_id (x := sem a.tx a.len + 1) ⟨by omega, by omega⟩]
    refine Wp.ld rfl rfl 10 rfl (by omega) ?_
    rw [e10]
    refine Wp.g1 rfl ?_
    rw [w32_id (x := (a.nb : Int) + (sem a.tx a.len + 1)) ⟨by omega, by omega⟩]
    by_cases hroom : 12 - (a.nb : Int) < sem a.tx a.len + 1
    · rw [if_pos hroom]
      refine Wp.brf rfl (by omega) ?_
      refine Wp.g1 rfl ?_
      refine Wp.ld rfl rfl 10 rfl (by omega) ?_
      rw [e10]
      refine Wp.g1 rfl ?_
      rw [w32_id (x := 12 - (a.nb : Int)) ⟨by omega, by omega⟩]
      refine Wp.calli rfl (m9_fails _ _ _ M h) ?_
      exact Wp.re rfl ⟨rfl, rfl, fun k g => by rw [upd2_ne (by omega), upd2_ne (by omega), upd2_ne (by omega)], hM.prob _ _ _⟩
    · rw [if_neg hroom]
      refine Wp.brt rfl (by omega) ?_
      refine Wp.g1 rfl ?_
      refine Wp.call rfl (m9_saves hM hS) (fun v M1 h1 q => ?_)
      obtain ⟨rfl, rfl, q1, q2⟩ := q
      refine Wp.gt 78 rfl ?_
      exact loop 12 0 0 M1 a.V a.nb (by omega) rfl ⟨Nat.zero_le _, he⟩ rfl (by omega) q2 (hW.mono (by omega)) (by omega) (fun k g => q1 k (by omega) (by omega)) (by omega) rfl
  · rw [if_neg he]
    have hrn := scn_rn (tx := a.tx) (len := a.len) a.len 0 0 (by omega)
    have hrn : 0 ≤ eA a ∧ eA a ≤ a.len := by
      rcases hrn with q | q
      · exact absurd q he
      · exact q
    obtain ⟨e, hee⟩ := Int.eq_ofNat_of_zero_le hrn.1
    have ep : eP (eA a) a.len = e := by
      unfold eP
      rw [if_neg he, hee, Int.toNat_natCast]
    rw [ep]
    rw [hee] at he ⊢
    refine Wp.brf rfl he ?_
    refine Wp.g1 rfl ?_
    refine Wp.calli rfl (m9_semicolons hT e (by omega)) ?_
    refine Wp.g1 rfl ?_
    refine Wp.calli rfl (m9_fails _ _ _ M h) ?_
    exact Wp.re rfl ⟨rfl, rfl, fun k g => by rw [upd2_ne (by omega), upd2_ne (by omega), upd2_ne (by omega)], hM.prob _ _ _⟩
end RD9
