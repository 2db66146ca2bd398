/-! the class's office under a change -/
section OFF
variable {M M' : Me} {h : Ml} {V : Nat → Int} {nb nc t : Nat}
theorem cw_free (hW : WF V nb nc t) (b : Nat) : cw V nc b = -10006 ↔ ∀ r, r < nc → V (114 + 10 * r + 9) ≠ V (18 + 8 * b) := by
  unfold cw
  rcases fnd_spec (f := fun c => V (114 + 10 * c + 9)) (x := V (18 + 8 * b)) (n := nc) with ⟨h1, h2, h3⟩ | ⟨h1, h2⟩
  · rw [if_pos h1]
    constructor
    · intro e
      have := (hW.2.2.2.1 _ h1).1
      omega
    · intro e
      exact absurd h2 (e _ h1)
  · rw [if_neg (by omega)]
    exact ⟨fun _ => h2, fun _ => rfl⟩
theorem cw_none {V : Nat → Int} {nc r : Nat} (e : ∀ q, q < nc → V (114 + 10 * q + 9) ≠ V (18 + 8 * r)) : cw V nc r = -10006 := by
  unfold cw
  rw [fnd_none (f := fun c => V (114 + 10 * c + 9)) e, if_neg (by omega)]
theorem cw_some {V : Nat → Int} {nc r c : Nat} (hc : c < nc) (e0 : V (114 + 10 * c + 9) = V (18 + 8 * r)) (e : ∀ q, q < nc → q ≠ c → V (114 + 10 * q + 9) ≠ V (18 + 8 * r)) : cw V nc r = V (114 + 10 * c) := by
  unfold cw
  rw [fnd_some (f := fun c => V (114 + 10 * c + 9)) hc e0 (fun j hj => e j (by omega) (by omega)), if_pos hc]
theorem cw_same {V V' : Nat → Int} {nc r : Nat} (hr : V' (18 + 8 * r) = V (18 + 8 * r)) (h9 : ∀ c, c < nc → (V' (114 + 10 * c + 9) = V (18 + 8 * r) ↔ V (114 + 10 * c + 9) = V (18 + 8 * r))) (h0 : ∀ c, c < nc → V' (114 + 10 * c) = V (114 + 10 * c)) : cw V' nc r = cw V nc r := by
  have e : fnd (fun c => V' (114 + 10 * c + 9)) (V' (18 + 8 * r)) nc = fnd (fun c => V (114 + 10 * c + 9)) (V (18 + 8 * r)) nc := by rw [hr]; exact fnd_iff h9
  unfold cw
  rw [e]
  by_cases g : fnd (fun c => V (114 + 10 * c + 9)) (V (18 + 8 * r)) nc < nc
  · rw [if_pos g, if_pos g, h0 _ g]
  · rw [if_neg g, if_neg g]
theorem OfRel.addB (hR : OfRel M 1 V nb nc) (hW : WF V nb nc t) (hn : nb < 12) {x0 x1 x2 x3 x4 x5 : Int} (hk : ∀ k, k ≠ 2 → k ≠ 3 → k ≠ 4 → M' k = M k) (h23 : M' 2 3 = ((nb + 1 : Nat) : Int)) (h24 : M' 2 4 = V 11 + 1) (h3 : M' 3 nb = V 11 + 1) (h3' : ∀ r, r ≠ nb → M' 3 r = M 3 r) (h4 : ∀ i, i < 8 * nb → M' 4 i = M 4 i)
    (g : M' 4 (8 * nb) = x0 ∧ M' 4 (8 * nb + 1) = x1 ∧ M' 4 (8 * nb + 2) = x2 ∧ M' 4 (8 * nb + 3) = x3 ∧ M' 4 (8 * nb + 4) = x4 ∧ M' 4 (8 * nb + 5) = x5 ∧ M' 4 (8 * nb + 6) = V 0 ∧ M' 4 (8 * nb + 7) = -10006) : OfRel M' 1 (nBag V nb x0 x1 x2 x3 x4 x5) (nb + 1) nc := by
  obtain ⟨n1, n2, n3⟩ := nBag_hd (V := V) (nb := nb) x0 x1 x2 x3 x4 x5
  obtain ⟨r1, r2, r3, r4, r5, r6, r7⟩ := nBag_row (V := V) (nb := nb) x0 x1 x2 x3 x4 x5
  have hV : ∀ j, j ≠ 10 → j ≠ 11 → (j < 18 + 8 * nb ∨ 18 + 8 * nb + 8 ≤ j) → nBag V nb x0 x1 x2 x3 x4 x5 j = V j := fun j e1 e2 e3 => nBag_off e1 e2 e3
  generalize nBag V nb x0 x1 x2 x3 x4 x5 = V' at *
  obtain ⟨a1, a2, a3, a4, a5⟩ := hR
  have k1 := hk 1 (by omega) (by omega) (by omega)
  have k8 := hk 8 (by omega) (by omega) (by omega)
  have k5 := hk 5 (by omega) (by omega) (by omega)
  have k6 := hk 6 (by omega) (by omega) (by omega)
  have k7 := hk 7 (by omega) (by omega) (by omega)
  refine ⟨?_, fun i hi => ?_, ?_, fun r hr => ?_, fun r hr => ?_⟩
  · rw [k1, hV 0 (by omega) (by omega) (by omega), hV 1 (by omega) (by omega) (by omega), hV 2 (by omega) (by omega) (by omega), hV 3 (by omega) (by omega) (by omega), hV 14 (by omega) (by omega) (by omega), hV 15 (by omega) (by omega) (by omega), hV 16 (by omega) (by omega) (by omega), hV 17 (by omega) (by omega) (by omega)]
    exact a1
  · rw [show 1 + 7 = 8 from rfl, k8, hV _ (by omega) (by omega) (by omega)]
    exact a2 i hi
  · rw [show 1 + 1 = 2 from rfl, show 1 + 4 = 5 from rfl, k5, n2, hV 13 (by omega) (by omega) (by omega)]
    exact ⟨h23, h24, a3.2.2⟩
  · rw [show 1 + 2 = 3 from rfl, show 1 + 3 = 4 from rfl]
    by_cases e : r = nb
    · subst e
      refine ⟨by rw [h3, n3], fun c hc => ?_, ?_⟩
      · rcases (show c = 0 ∨ c = 1 ∨ c = 2 ∨ c = 3 ∨ c = 4 ∨ c = 5 ∨ c = 6 by omega) with e | e | e | e | e | e | e <;> subst e
        · exact g.1.trans r1.symm
        · exact g.2.1.trans r2.symm
        · exact g.2.2.1.trans r3.symm
        · exact g.2.2.2.1.trans r4.symm
        · exact g.2.2.2.2.1.trans r5.symm
        · exact g.2.2.2.2.2.1.trans r6.symm
        · exact g.2.2.2.2.2.2.1.trans r7.symm
      · rw [g.2.2.2.2.2.2.2]
        refine (cw_none (fun q hq => ?_)).symm
        rw [n3, hV _ (by omega) (by omega) (by omega)]
        have := hW.2.2.2.1 q hq
        have := this.2.2.2.2.2.2.2.2.2.2.2
        omega
    · obtain ⟨b1, b2, b3⟩ := a4 r (by omega)
      refine ⟨?_, fun c hc => ?_, ?_⟩
      · rw [h3' r e, hV _ (by omega) (by omega) (by omega)]; exact b1
      · rw [h4 _ (by omega), hV _ (by omega) (by omega) (by omega)]; exact b2 c hc
      · rw [h4 _ (by omega), cw_congr (V := V) (hV _ (by omega) (by omega) (by omega)) (fun c _ => hV _ (by omega) (by omega) (by omega)) (fun c _ => hV _ (by omega) (by omega) (by omega))]; exact b3
  · obtain ⟨b1, b2, b3⟩ := a5 r hr
    rw [show 1 + 5 = 6 from rfl, show 1 + 6 = 7 from rfl, k6, k7, pt_congr (V := V) (hV _ (by omega) (by omega) (by omega))]
    exact ⟨by rw [hV _ (by omega) (by omega) (by omega)]; exact b1, fun c hc => by rw [hV _ (by omega) (by omega) (by omega)]; exact b2 c hc, b3⟩
theorem OfRel.addC (hR : OfRel M 1 V nb nc) (hW : WF V nb nc t) (hn : nc < 10) {x0 x1 x2 x3 x4 x5 x6 x7 : Int} (hk : ∀ k, k ≠ 5 → k ≠ 6 → k ≠ 7 → M' k = M k) (h23 : M' 5 3 = ((nc + 1 : Nat) : Int)) (h24 : M' 5 4 = V 13 + 1) (h3 : M' 6 nc = V 13 + 1) (h3' : ∀ r, r ≠ nc → M' 6 r = M 6 r) (h4 : ∀ i, i < 9 * nc → M' 7 i = M 7 i)
    (g : M' 7 (9 * nc) = x0 ∧ M' 7 (9 * nc + 1) = x1 ∧ M' 7 (9 * nc + 2) = x2 ∧ M' 7 (9 * nc + 3) = x3 ∧ M' 7 (9 * nc + 4) = x4 ∧ M' 7 (9 * nc + 5) = x5 ∧ M' 7 (9 * nc + 6) = x6 ∧ M' 7 (9 * nc + 7) = x7 ∧ M' 7 (9 * nc + 8) = -10006) : OfRel M' 1 (nClm V nc x0 x1 x2 x3 x4 x5 x6 x7) nb (nc + 1) := by
  obtain ⟨n1, n2, n3, n4⟩ := nClm_hd (V := V) (nc := nc) x0 x1 x2 x3 x4 x5 x6 x7
  obtain ⟨r1, r2, r3, r4, r5, r6, r7, r8⟩ := nClm_row (V := V) (nc := nc) x0 x1 x2 x3 x4 x5 x6 x7
  have hV : ∀ j, j ≠ 12 → j ≠ 13 → (j < 114 + 10 * nc ∨ 114 + 10 * nc + 10 ≤ j) → nClm V nc x0 x1 x2 x3 x4 x5 x6 x7 j = V j := fun j e1 e2 e3 => nClm_off e1 e2 e3
  generalize nClm V nc x0 x1 x2 x3 x4 x5 x6 x7 = V' at *
  obtain ⟨a1, a2, a3, a4, a5⟩ := hR
  have k1 := hk 1 (by omega) (by omega) (by omega)
  have k8 := hk 8 (by omega) (by omega) (by omega)
  have k2 := hk 2 (by omega) (by omega) (by omega)
  have k3 := hk 3 (by omega) (by omega) (by omega)
  have k4 := hk 4 (by omega) (by omega) (by omega)
  have hnb := hW.1.2.2.1
  refine ⟨?_, fun i hi => ?_, ?_, fun r hr => ?_, fun r hr => ?_⟩
  · rw [k1, hV 0 (by omega) (by omega) (by omega), hV 1 (by omega) (by omega) (by omega), hV 2 (by omega) (by omega) (by omega), hV 3 (by omega) (by omega) (by omega), hV 14 (by omega) (by omega) (by omega), hV 15 (by omega) (by omega) (by omega), hV 16 (by omega) (by omega) (by omega), hV 17 (by omega) (by omega) (by omega)]
    exact a1
  · rw [show 1 + 7 = 8 from rfl, k8, hV _ (by omega) (by omega) (by omega)]
    exact a2 i hi
  · rw [show 1 + 1 = 2 from rfl, show 1 + 4 = 5 from rfl, k2, n2, hV 11 (by omega) (by omega) (by omega)]
    exact ⟨a3.1, a3.2.1, h23, h24⟩
  · obtain ⟨b1, b2, b3⟩ := a4 r hr
    rw [show 1 + 2 = 3 from rfl, show 1 + 3 = 4 from rfl, k3, k4]
    have ecw : cw V' (nc + 1) r = cw V nc r := by
      have hr0 : V' (18 + 8 * r) = V (18 + 8 * r) := hV _ (by omega) (by omega) (by omega)
      have h9 : ∀ c, c < nc → V' (114 + 10 * c + 9) = V (114 + 10 * c + 9) := fun c _ => hV _ (by omega) (by omega) (by omega)
      have hpos := (hW.2.2.1 r hr).1
      rcases fnd_spec (f := fun c => V (114 + 10 * c + 9)) (x := V (18 + 8 * r)) (n := nc) with ⟨e1, e2, e3⟩ | ⟨e1, e2⟩
      · have e4 : fnd (fun c => V' (114 + 10 * c + 9)) (V' (18 + 8 * r)) (nc + 1) = fnd (fun c => V (114 + 10 * c + 9)) (V (18 + 8 * r)) nc := fnd_some (by omega) (by show V' _ = V' _; rw [h9 _ e1, hr0]; exact e2) (fun j hj => by show V' _ ≠ V' _; rw [h9 _ (by omega), hr0]; exact e3 j hj)
        unfold cw
        rw [e4, if_pos e1, if_pos (by omega), hV _ (by omega) (by omega) (by omega)]
      · rw [cw_none (V := V) e2, cw_none (V := V')]
        intro q hq
        by_cases e : q = nc
        · rw [e, n4, hr0]; omega
        · rw [h9 q (by omega), hr0]; exact e2 q (by omega)
    rw [ecw, hV _ (by omega) (by omega) (by omega)]
    exact ⟨b1, fun c hc => by rw [hV _ (by omega) (by omega) (by omega)]; exact b2 c hc, b3⟩
  · rw [show 1 + 5 = 6 from rfl, show 1 + 6 = 7 from rfl]
    by_cases e : r = nc
    · subst e
      refine ⟨by rw [h3, n3], fun c hc => ?_, ?_⟩
      · rcases (show c = 0 ∨ c = 1 ∨ c = 2 ∨ c = 3 ∨ c = 4 ∨ c = 5 ∨ c = 6 ∨ c = 7 by omega) with e | e | e | e | e | e | e | e <;> subst e
        · exact g.1.trans r1.symm
        · exact g.2.1.trans r2.symm
        · exact g.2.2.1.trans r3.symm
        · exact g.2.2.2.1.trans r4.symm
        · exact g.2.2.2.2.1.trans r5.symm
        · exact g.2.2.2.2.2.1.trans r6.symm
        · exact g.2.2.2.2.2.2.1.trans r7.symm
        · exact g.2.2.2.2.2.2.2.1.trans r8.symm
      · rw [g.2.2.2.2.2.2.2.2]
        unfold pt
        rw [if_pos n4]
    · obtain ⟨b1, b2, b3⟩ := a5 r (by omega)
      refine ⟨?_, fun c hc => ?_, ?_⟩
      · rw [h3' r e, hV _ (by omega) (by omega) (by omega)]; exact b1
      · rw [h4 _ (by omega), hV _ (by omega) (by omega) (by omega)]; exact b2 c hc
      · rw [h4 _ (by omega), pt_congr (V := V) (hV _ (by omega) (by omega) (by omega))]; exact b3
theorem OfRel.setM (hR : OfRel M 1 V nb nc) (hn : nb ≤ 12) {c : Nat} {x : Int} (hk : ∀ k, k ≠ 4 → k ≠ 7 → M' k = M k) (h7 : M' 7 (9 * c + 8) = if x = 0 then -10006 else x) (h7' : ∀ i, i ≠ 9 * c + 8 → M' 7 i = M 7 i) (h4 : ∀ r, r < nb → M' 4 (8 * r + 7) = cw (up V (114 + 10 * c + 9) x) nc r) (h4' : ∀ r k, r < nb → k < 7 → M' 4 (8 * r + k) = M 4 (8 * r + k)) : OfRel M' 1 (up V (114 + 10 * c + 9) x) nb nc := by
  have hV : ∀ j, j ≠ 114 + 10 * c + 9 → up V (114 + 10 * c + 9) x j = V j := fun j e => up_off e
  have hA : up V (114 + 10 * c + 9) x (114 + 10 * c + 9) = x := up_at
  generalize up V (114 + 10 * c + 9) x = V' at *
  obtain ⟨a1, a2, a3, a4, a5⟩ := hR
  have k1 := hk 1 (by omega) (by omega)
  have k8 := hk 8 (by omega) (by omega)
  have k2 := hk 2 (by omega) (by omega)
  have k3 := hk 3 (by omega) (by omega)
  have k5 := hk 5 (by omega) (by omega)
  have k6 := hk 6 (by omega) (by omega)
  refine ⟨?_, fun i hi => ?_, ?_, fun r hr => ?_, fun r hr => ?_⟩
  · rw [k1, hV 0 (by omega), hV 1 (by omega), hV 2 (by omega), hV 3 (by omega), hV 14 (by omega), hV 15 (by omega), hV 16 (by omega), hV 17 (by omega)]
    exact a1
  · rw [show 1 + 7 = 8 from rfl, k8, hV _ (by omega)]
    exact a2 i hi
  · rw [show 1 + 1 = 2 from rfl, show 1 + 4 = 5 from rfl, k2, k5, hV 11 (by omega), hV 13 (by omega)]
    exact a3
  · obtain ⟨b1, b2, b3⟩ := a4 r hr
    rw [show 1 + 2 = 3 from rfl, show 1 + 3 = 4 from rfl, k3, hV _ (by omega)]
    exact ⟨b1, fun k hk' => by rw [h4' r k hr (by omega), hV _ (by omega)]; exact b2 k hk', h4 r hr⟩
  · obtain ⟨b1, b2, b3⟩ := a5 r hr
    rw [show 1 + 5 = 6 from rfl, show 1 + 6 = 7 from rfl, k6, hV _ (by omega)]
    refine ⟨b1, fun k hk' => by rw [h7' _ (by omega), hV _ (by omega)]; exact b2 k hk', ?_⟩
    by_cases e : r = c
    · subst e
      rw [h7]
      unfold pt
      rw [hA]
    · rw [h7' _ (by omega), pt_congr (V := V) (hV _ (by omega))]
      exact b3
theorem OfRel.delB (hR : OfRel M 1 V nb nc) (hn : nb ≤ 12) {b : Nat} (hb : b < nb) (hk : ∀ k, k ≠ 2 → k ≠ 3 → k ≠ 4 → M' k = M k) (h23 : M' 2 3 = ((nb - 1 : Nat) : Int)) (h24 : M' 2 4 = M 2 4) (h3 : ∀ r, r + 1 < nb → M' 3 r = M 3 (sk b r)) (h4 : ∀ r k, r + 1 < nb → k < 8 → M' 4 (8 * r + k) = M 4 (8 * sk b r + k)) : OfRel M' 1 (rmB V nb b) (nb - 1) nc := by
  have hV : ∀ j, j ≠ 10 → (j < 18 ∨ 114 ≤ j) → rmB V nb b j = V j := fun j e1 e2 => rmB_off e1 (by omega)
  have hA : ∀ r k, r + 1 < nb → k < 8 → rmB V nb b (18 + 8 * r + k) = V (18 + 8 * sk b r + k) := fun r k e1 e2 => rmB_sk e1 e2
  generalize rmB V nb b = V' at *
  have hA0 : ∀ r, r + 1 < nb → V' (18 + 8 * r) = V (18 + 8 * sk b r) := fun r e => hA r 0 e (by omega)
  obtain ⟨a1, a2, a3, a4, a5⟩ := hR
  have k1 := hk 1 (by omega) (by omega) (by omega)
  have k8 := hk 8 (by omega) (by omega) (by omega)
  have k5 := hk 5 (by omega) (by omega) (by omega)
  have k6 := hk 6 (by omega) (by omega) (by omega)
  have k7 := hk 7 (by omega) (by omega) (by omega)
  refine ⟨?_, fun i hi => ?_, ?_, fun r hr => ?_, fun r hr => ?_⟩
  · rw [k1, hV 0 (by omega) (by omega), hV 1 (by omega) (by omega), hV 2 (by omega) (by omega), hV 3 (by omega) (by omega), hV 14 (by omega) (by omega), hV 15 (by omega) (by omega), hV 16 (by omega) (by omega), hV 17 (by omega) (by omega)]
    exact a1
  · rw [show 1 + 7 = 8 from rfl, k8, hV _ (by omega) (by omega)]
    exact a2 i hi
  · rw [show 1 + 1 = 2 from rfl, show 1 + 4 = 5 from rfl, k5, hV 11 (by omega) (by omega), hV 13 (by omega) (by omega)]
    exact ⟨h23, h24.trans a3.2.1, a3.2.2⟩
  · rw [show 1 + 2 = 3 from rfl, show 1 + 3 = 4 from rfl]
    obtain ⟨b1, b2, b3⟩ := a4 (sk b r) (sk_lt (by omega))
    refine ⟨?_, fun k hk' => ?_, ?_⟩
    · rw [h3 r (by omega), hA0 r (by omega)]; exact b1
    · rw [h4 r k (by omega) (by omega), show 18 + 8 * r + 1 + k = 18 + 8 * r + (1 + k) by omega, hA r (1 + k) (by omega) (by omega), show 18 + 8 * sk b r + (1 + k) = 18 + 8 * sk b r + 1 + k by omega]; exact b2 k hk'
    · rw [h4 r 7 (by omega) (by omega), show M (1 + 3) = M 4 from rfl] at *
      rw [b3]
      have e1 : (fun c => V' (114 + 10 * c + 9)) = (fun c => V (114 + 10 * c + 9)) := funext (fun c => hV _ (by omega) (by omega))
      unfold cw
      rw [e1, hA0 r (by omega), hV (114 + 10 * _) (by omega) (by omega)]
  · obtain ⟨b1, b2, b3⟩ := a5 r hr
    rw [show 1 + 5 = 6 from rfl, show 1 + 6 = 7 from rfl, k6, k7, pt_congr (V := V) (hV _ (by omega) (by omega))]
    exact ⟨by rw [hV _ (by omega) (by omega)]; exact b1, fun c hc => by rw [hV _ (by omega) (by omega)]; exact b2 c hc, b3⟩
theorem OfRel.delC (hR : OfRel M 1 V nb nc) (hn : nc ≤ 10) (hnb : nb ≤ 12) {c : Nat} (hc : c < nc) (hf : ∀ r, r < nb → V (114 + 10 * c + 9) ≠ V (18 + 8 * r)) (hk : ∀ k, k ≠ 5 → k ≠ 6 → k ≠ 7 → M' k = M k) (h23 : M' 5 3 = ((nc - 1 : Nat) : Int)) (h24 : M' 5 4 = M 5 4) (h3 : ∀ r, r + 1 < nc → M' 6 r = M 6 (sk c r)) (h4 : ∀ r k, r + 1 < nc → k < 9 → M' 7 (9 * r + k) = M 7 (9 * sk c r + k)) : OfRel M' 1 (rmC V nc c) nb (nc - 1) := by
  have hV : ∀ j, j ≠ 12 → j < 114 → rmC V nc c j = V j := fun j e1 e2 => rmC_off e1 (Or.inl e2)
  have hA : ∀ r k, r + 1 < nc → k < 10 → rmC V nc c (114 + 10 * r + k) = V (114 + 10 * sk c r + k) := fun r k e1 e2 => rmC_sk e1 e2
  generalize rmC V nc c = V' at *
  have hA0 : ∀ r, r + 1 < nc → V' (114 + 10 * r) = V (114 + 10 * sk c r) := fun r e => hA r 0 e (by omega)
  obtain ⟨a1, a2, a3, a4, a5⟩ := hR
  have k1 := hk 1 (by omega) (by omega) (by omega)
  have k8 := hk 8 (by omega) (by omega) (by omega)
  have k2 := hk 2 (by omega) (by omega) (by omega)
  have k3 := hk 3 (by omega) (by omega) (by omega)
  have k4 := hk 4 (by omega) (by omega) (by omega)
  refine ⟨?_, fun i hi => ?_, ?_, fun r hr => ?_, fun r hr => ?_⟩
  · rw [k1, hV 0 (by omega) (by omega), hV 1 (by omega) (by omega), hV 2 (by omega) (by omega), hV 3 (by omega) (by omega), hV 14 (by omega) (by omega), hV 15 (by omega) (by omega), hV 16 (by omega) (by omega), hV 17 (by omega) (by omega)]
    exact a1
  · rw [show 1 + 7 = 8 from rfl, k8, hV _ (by omega) (by omega)]
    exact a2 i hi
  · rw [show 1 + 1 = 2 from rfl, show 1 + 4 = 5 from rfl, k2, hV 11 (by omega) (by omega), hV 13 (by omega) (by omega)]
    exact ⟨a3.1, a3.2.1, h23, h24.trans a3.2.2.2⟩
  · obtain ⟨b1, b2, b3⟩ := a4 r hr
    rw [show 1 + 2 = 3 from rfl, show 1 + 3 = 4 from rfl, k3, k4, hV _ (by omega) (by omega)]
    refine ⟨b1, fun k hk' => by rw [hV _ (by omega) (by omega)]; exact b2 k hk', ?_⟩
    rw [show M (1 + 3) = M 4 from rfl] at b3
    rw [b3]
    have e0 : V' (18 + 8 * r) = V (18 + 8 * r) := hV _ (by omega) (by omega)
    rcases fnd_sk (f := fun c => V (114 + 10 * c + 9)) (g := fun c => V' (114 + 10 * c + 9)) (x := V (18 + 8 * r)) hc (fun q hq => hA q 9 hq (by omega)) (hf r hr) with ⟨g1, g2⟩ | ⟨g1, g2⟩
    · unfold cw
      rw [e0, g1, g2, if_neg (by omega), if_neg (by omega)]
    · unfold cw
      rw [e0, g2, if_pos g1, if_pos (sk_lt (by omega)), hA0 _ (by omega)]
  · rw [show 1 + 5 = 6 from rfl, show 1 + 6 = 7 from rfl]
    obtain ⟨b1, b2, b3⟩ := a5 (sk c r) (sk_lt (by omega))
    refine ⟨?_, fun k hk' => ?_, ?_⟩
    · rw [h3 r (by omega), hA0 r (by omega)]; exact b1
    · rw [h4 r k (by omega) (by omega), show 114 + 10 * r + 1 + k = 114 + 10 * r + (1 + k) by omega, hA r (1 + k) (by omega) (by omega), show 114 + 10 * sk c r + (1 + k) = 114 + 10 * sk c r + 1 + k by omega]; exact b2 k hk'
    · rw [h4 r 8 (by omega) (by omega)]
      rw [show M (1 + 6) = M 7 from rfl] at b3
      rw [b3]
      unfold pt
      rw [hA r 9 (by omega) (by omega)]
end OFF
