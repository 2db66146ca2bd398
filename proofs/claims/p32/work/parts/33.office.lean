/-! what the changing calls make of an office: bags and claims come, go, are joined and parted -/
theorem fnd_iff {f g : Nat → Int} {x y : Int} {n : Nat} (h : ∀ j, j < n → (f j = x ↔ g j = y)) : fnd f x n = fnd g y n := by
  rcases fnd_spec (f := g) (x := y) (n := n) with ⟨h1, h2, h3⟩ | ⟨h1, h2⟩
  · exact fnd_some h1 ((h _ h1).mpr h2) (fun j hj q => h3 j hj ((h j (by omega)).mp q))
  · rw [h1]
    exact fnd_none fun j hj q => h2 j hj ((h j hj).mp q)
def sk (c r : Nat) : Nat := if r < c then r else r + 1
theorem sk_ne (c r : Nat) : sk c r ≠ c := by unfold sk; split <;> omega
theorem sk_lt {c r n : Nat} (h : r + 1 < n) : sk c r < n := by unfold sk; split <;> omega
theorem sk_inj {c r q : Nat} (h : sk c r = sk c q) : r = q := by unfold sk at h; split at h <;> split at h <;> omega
theorem sk_onto {c r n : Nat} (hr : r < n) (hc : r ≠ c) (hn : c < n) : ∃ q, q + 1 < n ∧ sk c q = r := by
  by_cases h : r < c
  · exact ⟨r, by omega, by unfold sk; rw [if_pos h]⟩
  · exact ⟨r - 1, by omega, by unfold sk; rw [if_neg (by omega)]; omega⟩
theorem fnd_sk {f g : Nat → Int} {x : Int} {n c : Nat} (hc : c < n) (hg : ∀ r, r + 1 < n → g r = f (sk c r)) (hx : f c ≠ x) :
    (fnd f x n = n ∧ fnd g x (n - 1) = n - 1) ∨ (fnd g x (n - 1) < n - 1 ∧ fnd f x n = sk c (fnd g x (n - 1))) := by
  rcases fnd_spec (f := f) (x := x) (n := n) with ⟨h1, h2, h3⟩ | ⟨h1, h2⟩
  · obtain ⟨q, e1, e2⟩ := sk_onto (c := c) h1 (fun e => hx (e ▸ h2)) hc
    have e3 : fnd g x (n - 1) = q := fnd_some (by omega) (by rw [hg q e1, e2]; exact h2) (fun j hj => by
      rw [hg j (by omega)]
      refine h3 _ ?_
      rw [← e2]
      unfold sk
      split <;> split <;> omega)
    exact Or.inr ⟨by omega, by rw [e3, e2]⟩
  · refine Or.inl ⟨h1, fnd_none (fun j hj => ?_)⟩
    rw [hg j (by omega)]
    exact h2 _ (sk_lt (by omega))
def nBag (V : Nat → Int) (nb : Nat) (x0 x1 x2 x3 x4 x5 : Int) : Nat → Int :=
  up (up (up (up (up (up (up (up (up (up V 10 ((nb + 1 : Nat) : Int)) 11 (V 11 + 1)) (18 + 8 * nb) (V 11 + 1)) (18 + 8 * nb + 1) x0) (18 + 8 * nb + 2) x1) (18 + 8 * nb + 3) x2) (18 + 8 * nb + 4) x3) (18 + 8 * nb + 5) x4) (18 + 8 * nb + 6) x5) (18 + 8 * nb + 7) (V 0)
def nClm (V : Nat → Int) (nc : Nat) (x0 x1 x2 x3 x4 x5 x6 x7 : Int) : Nat → Int :=
  up (up (up (up (up (up (up (up (up (up (up (up V 12 ((nc + 1 : Nat) : Int)) 13 (V 13 + 1)) (114 + 10 * nc) (V 13 + 1)) (114 + 10 * nc + 1) x0) (114 + 10 * nc + 2) x1) (114 + 10 * nc + 3) x2) (114 + 10 * nc + 4) x3) (114 + 10 * nc + 5) x4) (114 + 10 * nc + 6) x5) (114 + 10 * nc + 7) x6) (114 + 10 * nc + 8) x7) (114 + 10 * nc + 9) 0
def rmB (V : Nat → Int) (nb b : Nat) : Nat → Int := fun k => if k = 10 then ((nb - 1 : Nat) : Int) else if 18 + 8 * b ≤ k ∧ k < 18 + 8 * (nb - 1) then V (k + 8) else V k
def rmC (V : Nat → Int) (nc c : Nat) : Nat → Int := fun k => if k = 12 then ((nc - 1 : Nat) : Int) else if 114 + 10 * c ≤ k ∧ k < 114 + 10 * (nc - 1) then V (k + 10) else V k
section OPS
variable {V : Nat → Int} {nb nc t : Nat}
theorem nBag_off {x0 x1 x2 x3 x4 x5 : Int} {j : Nat} (h1 : j ≠ 10) (h2 : j ≠ 11) (h3 : j < 18 + 8 * nb ∨ 18 + 8 * nb + 8 ≤ j) : nBag V nb x0 x1 x2 x3 x4 x5 j = V j := by
  unfold nBag
  repeat rw [up_off (by omega)]
theorem nBag_hd (x0 x1 x2 x3 x4 x5 : Int) : nBag V nb x0 x1 x2 x3 x4 x5 10 = ((nb + 1 : Nat) : Int) ∧ nBag V nb x0 x1 x2 x3 x4 x5 11 = V 11 + 1 ∧ nBag V nb x0 x1 x2 x3 x4 x5 (18 + 8 * nb) = V 11 + 1 := by
  unfold nBag
  refine ⟨?_, ?_, ?_⟩ <;> repeat rw [up_off (by omega)]
  all_goals exact up_at
theorem nBag_row (x0 x1 x2 x3 x4 x5 : Int) : nBag V nb x0 x1 x2 x3 x4 x5 (18 + 8 * nb + 1) = x0 ∧ nBag V nb x0 x1 x2 x3 x4 x5 (18 + 8 * nb + 2) = x1 ∧ nBag V nb x0 x1 x2 x3 x4 x5 (18 + 8 * nb + 3) = x2 ∧ nBag V nb x0 x1 x2 x3 x4 x5 (18 + 8 * nb + 4) = x3 ∧ nBag V nb x0 x1 x2 x3 x4 x5 (18 + 8 * nb + 5) = x4 ∧ nBag V nb x0 x1 x2 x3 x4 x5 (18 + 8 * nb + 6) = x5 ∧ nBag V nb x0 x1 x2 x3 x4 x5 (18 + 8 * nb + 7) = V 0 := by
  unfold nBag
  refine ⟨?_, ?_, ?_, ?_, ?_, ?_, ?_⟩ <;> repeat rw [up_off (by omega)]
  all_goals exact up_at
theorem nClm_off {x0 x1 x2 x3 x4 x5 x6 x7 : Int} {j : Nat} (h1 : j ≠ 12) (h2 : j ≠ 13) (h3 : j < 114 + 10 * nc ∨ 114 + 10 * nc + 10 ≤ j) : nClm V nc x0 x1 x2 x3 x4 x5 x6 x7 j = V j := by
  unfold nClm
  repeat rw [up_off (by omega)]
theorem nClm_hd (x0 x1 x2 x3 x4 x5 x6 x7 : Int) : nClm V nc x0 x1 x2 x3 x4 x5 x6 x7 12 = ((nc + 1 : Nat) : Int) ∧ nClm V nc x0 x1 x2 x3 x4 x5 x6 x7 13 = V 13 + 1 ∧ nClm V nc x0 x1 x2 x3 x4 x5 x6 x7 (114 + 10 * nc) = V 13 + 1 ∧ nClm V nc x0 x1 x2 x3 x4 x5 x6 x7 (114 + 10 * nc + 9) = 0 := by
  unfold nClm
  refine ⟨?_, ?_, ?_, ?_⟩ <;> repeat rw [up_off (by omega)]
  all_goals exact up_at
theorem nClm_row (x0 x1 x2 x3 x4 x5 x6 x7 : Int) : nClm V nc x0 x1 x2 x3 x4 x5 x6 x7 (114 + 10 * nc + 1) = x0 ∧ nClm V nc x0 x1 x2 x3 x4 x5 x6 x7 (114 + 10 * nc + 2) = x1 ∧ nClm V nc x0 x1 x2 x3 x4 x5 x6 x7 (114 + 10 * nc + 3) = x2 ∧ nClm V nc x0 x1 x2 x3 x4 x5 x6 x7 (114 + 10 * nc + 4) = x3 ∧ nClm V nc x0 x1 x2 x3 x4 x5 x6 x7 (114 + 10 * nc + 5) = x4 ∧ nClm V nc x0 x1 x2 x3 x4 x5 x6 x7 (114 + 10 * nc + 6) = x5 ∧ nClm V nc x0 x1 x2 x3 x4 x5 x6 x7 (114 + 10 * nc + 7) = x6 ∧ nClm V nc x0 x1 x2 x3 x4 x5 x6 x7 (114 + 10 * nc + 8) = x7 := by
  unfold nClm
  refine ⟨?_, ?_, ?_, ?_, ?_, ?_, ?_, ?_⟩ <;> repeat rw [up_off (by omega)]
  all_goals exact up_at
theorem rmB_off {b j : Nat} (h1 : j ≠ 10) (h2 : j < 18 ∨ 18 + 8 * (nb - 1) ≤ j) : rmB V nb b j = V j := by
  unfold rmB
  rw [if_neg h1, if_neg (by omega)]
theorem rmB_10 {b : Nat} : rmB V nb b 10 = ((nb - 1 : Nat) : Int) := by
  unfold rmB
  rw [if_pos rfl]
theorem rmB_sk {b r k : Nat} (hr : r + 1 < nb) (hk : k < 8) : rmB V nb b (18 + 8 * r + k) = V (18 + 8 * sk b r + k) := by
  unfold rmB sk
  rw [if_neg (by omega)]
  by_cases h : r < b
  · rw [if_pos h, if_neg (by omega)]
  · rw [if_neg h, if_pos (by omega), show 18 + 8 * r + k + 8 = 18 + 8 * (r + 1) + k by omega]
theorem rmC_off {c j : Nat} (h1 : j ≠ 12) (h2 : j < 114 ∨ 114 + 10 * (nc - 1) ≤ j) : rmC V nc c j = V j := by
  unfold rmC
  rw [if_neg h1, if_neg (by omega)]
theorem rmC_12 {c : Nat} : rmC V nc c 12 = ((nc - 1 : Nat) : Int) := by
  unfold rmC
  rw [if_pos rfl]
theorem rmC_sk {c r k : Nat} (hr : r + 1 < nc) (hk : k < 10) : rmC V nc c (114 + 10 * r + k) = V (114 + 10 * sk c r + k) := by
  unfold rmC sk
  rw [if_neg (by omega)]
  by_cases h : r < c
  · rw [if_pos h, if_neg (by omega)]
  · rw [if_neg h, if_pos (by omega), show 114 + 10 * r + k + 10 = 114 + 10 * (r + 1) + k by omega]
theorem BOK.of {V' : Nat → Int} {r r' : Nat} (h : BOK V r) (hk : ∀ k, k < 8 → V' (18 + 8 * r' + k) = V (18 + 8 * r + k)) (h11 : V 11 ≤ V' 11) : BOK V' r' := by
  unfold BOK at h ⊢
  have e0 : V' (18 + 8 * r') = V (18 + 8 * r) := hk 0 (by omega)
  rw [e0, hk 1 (by omega), hk 2 (by omega), hk 3 (by omega), hk 4 (by omega), hk 5 (by omega), hk 6 (by omega), hk 7 (by omega)]
  exact ⟨h.1, by omega, h.2.2⟩
theorem COK.of {V' : Nat → Int} {r r' : Nat} (h : COK V r) (hk : ∀ k, k < 10 → V' (114 + 10 * r' + k) = V (114 + 10 * r + k)) (h11 : V 11 ≤ V' 11) (h13 : V 13 ≤ V' 13) : COK V' r' := by
  unfold COK at h ⊢
  have e0 : V' (114 + 10 * r') = V (114 + 10 * r) := hk 0 (by omega)
  rw [e0, hk 1 (by omega), hk 2 (by omega), hk 3 (by omega), hk 4 (by omega), hk 5 (by omega), hk 6 (by omega), hk 7 (by omega), hk 8 (by omega), hk 9 (by omega)]
  obtain ⟨a1, a2, a3, a4, a5, a6, a7, a8, a9, a10, a11, a12⟩ := h
  exact ⟨a1, by omega, a3, a4, a5, a6, a7, a8, a9, a10, a11, by omega⟩
/-- the rows ahead of the tables stay in order -/
theorem WF.heads {V' : Nat → Int} {t' : Nat} (h : WF V nb nc t) (hV : ∀ j, j < 10 → V' j = V j) (h11 : 0 ≤ V' 11 ∧ V' 11 ≤ 12 * t') (h13 : 0 ≤ V' 13 ∧ V' 13 ≤ 12 * t') : (0 ≤ V' 0 ∧ V' 0 ≤ 9999) ∧ (0 ≤ V' 1 ∧ V' 1 ≤ 200) ∧ (0 ≤ V' 2 ∧ V' 2 ≤ 500) ∧ (0 ≤ V' 3 ∧ V' 3 ≤ 9999) ∧ (∀ i, i < 6 → 0 ≤ V' (4 + i) ∧ V' (4 + i) ≤ 50) ∧ (0 ≤ V' 11 ∧ V' 11 ≤ 12 * t') ∧ (0 ≤ V' 13 ∧ V' 13 ≤ 12 * t') := by
  obtain ⟨-, ⟨v0, v1, v2, v3, v4, -⟩, -⟩ := h
  rw [hV 0 (by omega), hV 1 (by omega), hV 2 (by omega), hV 3 (by omega)]
  exact ⟨v0, v1, v2, v3, fun i hi => by rw [hV _ (by omega)]; exact v4 i hi, h11, h13⟩
theorem WF.addB {t' : Nat} (h : WF V nb nc t) (ht : t ≤ t') (hn : nb < 12) (h11 : V 11 + 1 ≤ 12 * t') {x0 x1 x2 x3 x4 x5 : Int} (g0 : 0 ≤ x0 ∧ x0 ≤ 7) (g1 : 0 ≤ x1 ∧ x1 ≤ 999999) (g2 : 0 ≤ x2 ∧ x2 ≤ 63) (g3 : 0 ≤ x3 ∧ x3 ≤ 7) (g4 : 0 ≤ x4 ∧ x4 ≤ 11) (g5 : 0 ≤ x5 ∧ x5 ≤ 255) : WF (nBag V nb x0 x1 x2 x3 x4 x5) (nb + 1) nc t' := by
  obtain ⟨n1, n2, n3⟩ := nBag_hd (V := V) (nb := nb) x0 x1 x2 x3 x4 x5
  obtain ⟨r1, r2, r3, r4, r5, r6, r7⟩ := nBag_row (V := V) (nb := nb) x0 x1 x2 x3 x4 x5
  obtain ⟨⟨a1, a2, a3, a4⟩, ⟨v0, -, -, -, -, v5, v6⟩, b1, b2, b3, b4, b5⟩ := id h
  have hV : ∀ j, j ≠ 10 → j ≠ 11 → (j < 18 + 8 * nb ∨ 18 + 8 * nb + 8 ≤ j) → nBag V nb x0 x1 x2 x3 x4 x5 j = V j := fun j e1 e2 e3 => nBag_off e1 e2 e3
  generalize nBag V nb x0 x1 x2 x3 x4 x5 = V' at *
  have old : ∀ r, r < nb → V' (18 + 8 * r) = V (18 + 8 * r) := fun r hr => hV _ (by omega) (by omega) (by omega)
  refine ⟨⟨n1, by rw [hV 12 (by omega) (by omega) (by omega)]; exact a2, by omega, a4⟩, h.heads (fun j hj => hV j (by omega) (by omega) (by omega)) (by omega) (by rw [hV 13 (by omega) (by omega) (by omega)]; omega), fun r hr => ?_, fun r hr => ?_, fun r q hr hq => ?_, fun r hr => ?_, fun r q hr hq => ?_⟩
  · by_cases e : r = nb
    · subst e
      unfold BOK
      rw [n3, r1, r2, r3, r4, r5, r6, r7, n2]
      exact ⟨by omega, by omega, g0, g1, g2, g3, g4, g5, v0⟩
    · exact (b1 r (by omega)).of (fun k hk => hV _ (by omega) (by omega) (by omega)) (by omega)
  · exact (b2 r hr).of (fun k hk => hV _ (by omega) (by omega) (by omega)) (by omega) (by rw [hV 13 (by omega) (by omega) (by omega)]; omega)
  · intro he
    by_cases e1 : r = nb
    · by_cases e2 : q = nb
      · omega
      · exfalso
        have := (b1 q (by omega)).2.1
        rw [e1, n3, old q (by omega)] at he
        omega
    · by_cases e2 : q = nb
      · exfalso
        have := (b1 r (by omega)).2.1
        rw [e2, n3, old r (by omega)] at he
        omega
      · rw [old r (by omega), old q (by omega)] at he
        exact b3 r q (by omega) (by omega) he
  · rw [hV _ (by omega) (by omega) (by omega)]
    intro hz
    obtain ⟨b, e1, e2⟩ := b4 r hr hz
    exact ⟨b, by omega, by rw [old b e1]; exact e2⟩
  · rw [hV _ (by omega) (by omega) (by omega), hV _ (by omega) (by omega) (by omega)]
    exact b5 r q hr hq
theorem WF.addC {t' : Nat} (h : WF V nb nc t) (ht : t ≤ t') (hn : nc < 10) (h13 : V 13 + 1 ≤ 12 * t') {x0 x1 x2 x3 x4 x5 x6 x7 : Int} (g0 : 0 ≤ x0 ∧ x0 ≤ 999999) (g1 : 0 ≤ x1 ∧ x1 ≤ 7) (g2 : 0 ≤ x2 ∧ x2 ≤ 11) (g3 : 0 ≤ x3 ∧ x3 ≤ 255) (g4 : 1 ≤ x4 ∧ x4 ≤ 255) (g5 : 1 ≤ x5 ∧ x5 ≤ 99999) (g6 : 0 ≤ x6 ∧ x6 ≤ 20) (g7 : -30 ≤ x7 ∧ x7 ≤ 9999) : WF (nClm V nc x0 x1 x2 x3 x4 x5 x6 x7) nb (nc + 1) t' := by
  obtain ⟨n1, n2, n3, n4⟩ := nClm_hd (V := V) (nc := nc) x0 x1 x2 x3 x4 x5 x6 x7
  obtain ⟨r1, r2, r3, r4, r5, r6, r7, r8⟩ := nClm_row (V := V) (nc := nc) x0 x1 x2 x3 x4 x5 x6 x7
  obtain ⟨⟨a1, a2, a3, a4⟩, ⟨v0, -, -, -, -, v5, v6⟩, b1, b2, b3, b4, b5⟩ := id h
  have hV : ∀ j, j ≠ 12 → j ≠ 13 → (j < 114 + 10 * nc ∨ 114 + 10 * nc + 10 ≤ j) → nClm V nc x0 x1 x2 x3 x4 x5 x6 x7 j = V j := fun j e1 e2 e3 => nClm_off e1 e2 e3
  generalize nClm V nc x0 x1 x2 x3 x4 x5 x6 x7 = V' at *
  have old : ∀ r, r < nc → V' (114 + 10 * r + 9) = V (114 + 10 * r + 9) := fun r hr => hV _ (by omega) (by omega) (by omega)
  have e11 : V' 11 = V 11 := hV 11 (by omega) (by omega) (by omega)
  refine ⟨⟨by rw [hV 10 (by omega) (by omega) (by omega)]; exact a1, n1, a3, by omega⟩, h.heads (fun j hj => hV j (by omega) (by omega) (by omega)) (by rw [e11]; omega) (by omega), fun r hr => ?_, fun r hr => ?_, fun r q hr hq => ?_, fun r hr => ?_, fun r q hr hq => ?_⟩
  · exact (b1 r hr).of (fun k hk => hV _ (by omega) (by omega) (by omega)) (by omega)
  · by_cases e : r = nc
    · subst e
      unfold COK
      rw [n3, r1, r2, r3, r4, r5, r6, r7, r8, n4, n2, e11]
      exact ⟨by omega, by omega, g0, g1, g2, g3, g4, g5, g6, g7, by omega, v5.1⟩
    · exact (b2 r (by omega)).of (fun k hk => hV _ (by omega) (by omega) (by omega)) (by omega) (by omega)
  · rw [hV _ (by omega) (by omega) (by omega), hV _ (by omega) (by omega) (by omega)]
    exact b3 r q hr hq
  · by_cases e : r = nc
    · rw [e, n4]; intro hz; exact absurd rfl hz
    · rw [old r (by omega)]
      intro hz
      obtain ⟨b, e1, e2⟩ := b4 r (by omega) hz
      exact ⟨b, e1, by rw [hV _ (by omega) (by omega) (by omega)]; exact e2⟩
  · by_cases e1 : r = nc
    · rw [e1, n4]; intro _ hz; exact absurd rfl hz
    · by_cases e2 : q = nc
      · rw [e2, n4]; intro e3 hz; exact absurd e3 hz
      · rw [old r (by omega), old q (by omega)]
        exact b5 r q (by omega) (by omega)
theorem WF.setM {t' : Nat} (h : WF V nb nc t) (ht : t ≤ t') {c : Nat} (hc : c < nc) {x : Int} (hx : x = 0 ∨ ∃ b, b < nb ∧ V (18 + 8 * b) = x ∧ ∀ r, r < nc → V (114 + 10 * r + 9) ≠ x) : WF (up V (114 + 10 * c + 9) x) nb nc t' := by
  obtain ⟨⟨a1, a2, a3, a4⟩, ⟨v0, -, -, -, -, v5, v6⟩, b1, b2, b3, b4, b5⟩ := id h
  have hV : ∀ j, j ≠ 114 + 10 * c + 9 → up V (114 + 10 * c + 9) x j = V j := fun j e => up_off e
  have hA : up V (114 + 10 * c + 9) x (114 + 10 * c + 9) = x := up_at
  have hx2 : 0 ≤ x ∧ x ≤ V 11 := by
    rcases hx with e | ⟨b, e1, e2, -⟩
    · omega
    · have := b1 b e1
      rw [← e2]; exact ⟨by have := this.1; omega, this.2.1⟩
  generalize up V (114 + 10 * c + 9) x = V' at *
  have e11 : V' 11 = V 11 := hV _ (by omega)
  have e13 : V' 13 = V 13 := hV _ (by omega)
  refine ⟨⟨by rw [hV _ (by omega)]; exact a1, by rw [hV _ (by omega)]; exact a2, a3, a4⟩, h.heads (fun j hj => hV j (by omega)) (by rw [e11]; omega) (by rw [e13]; omega), fun r hr => ?_, fun r hr => ?_, fun r q hr hq => ?_, fun r hr => ?_, fun r q hr hq => ?_⟩
  · exact (b1 r hr).of (fun k hk => hV _ (by omega)) (by omega)
  · by_cases e : r = c
    · subst e
      have := b2 r hr
      unfold COK at this ⊢
      rw [hA, e11, e13, hV _ (by omega), hV _ (by omega), hV _ (by omega), hV _ (by omega), hV _ (by omega), hV _ (by omega), hV _ (by omega), hV _ (by omega), hV _ (by omega)]
      obtain ⟨a1, a2, a3, a4, a5, a6, a7, a8, a9, a10, a11, a12⟩ := this
      exact ⟨a1, a2, a3, a4, a5, a6, a7, a8, a9, a10, hx2⟩
    · exact (b2 r hr).of (fun k hk => hV _ (by omega)) (by omega) (by omega)
  · rw [hV _ (by omega), hV _ (by omega)]
    exact b3 r q hr hq
  · by_cases e : r = c
    · rw [e, hA]
      intro hz
      rcases hx with e | ⟨b, e1, e2, -⟩
      · exact absurd e hz
      · exact ⟨b, e1, by rw [hV _ (by omega)]; exact e2⟩
    · rw [hV _ (by omega)]
      intro hz
      obtain ⟨b, e1, e2⟩ := b4 r hr hz
      exact ⟨b, e1, by rw [hV _ (by omega)]; exact e2⟩
  · intro he hz
    by_cases e1 : r = c
    · by_cases e2 : q = c
      · omega
      · rw [e1, hA] at he hz
        rw [hV _ (by omega)] at he
        rcases hx with e | ⟨b, -, -, e⟩
        · exact absurd e hz
        · exact absurd he.symm (e q hq)
    · rw [hV _ (by omega)] at he hz
      by_cases e2 : q = c
      · rw [e2, hA] at he
        rcases hx with e | ⟨b, -, -, e⟩
        · exact absurd (he.trans e) hz
        · exact absurd he (e r hr)
      · rw [hV _ (by omega)] at he
        exact b5 r q hr hq he hz
theorem WF.delC {t' : Nat} (h : WF V nb nc t) (ht : t ≤ t') {c : Nat} (hc : c < nc) : WF (rmC V nc c) nb (nc - 1) t' := by
  obtain ⟨⟨a1, a2, a3, a4⟩, ⟨v0, -, -, -, -, v5, v6⟩, b1, b2, b3, b4, b5⟩ := id h
  have hV : ∀ j, j ≠ 12 → j < 114 → rmC V nc c j = V j := fun j e1 e2 => rmC_off e1 (Or.inl e2)
  have hA : ∀ r k, r + 1 < nc → k < 10 → rmC V nc c (114 + 10 * r + k) = V (114 + 10 * sk c r + k) := fun r k e1 e2 => rmC_sk e1 e2
  have hN : rmC V nc c 12 = ((nc - 1 : Nat) : Int) := rmC_12
  generalize rmC V nc c = V' at *
  have e11 : V' 11 = V 11 := hV _ (by omega) (by omega)
  have e13 : V' 13 = V 13 := hV _ (by omega) (by omega)
  refine ⟨⟨by rw [hV _ (by omega) (by omega)]; exact a1, hN, a3, by omega⟩, h.heads (fun j hj => hV j (by omega) (by omega)) (by rw [e11]; omega) (by rw [e13]; omega), fun r hr => ?_, fun r hr => ?_, fun r q hr hq => ?_, fun r hr => ?_, fun r q hr hq => ?_⟩
  · exact (b1 r hr).of (fun k hk => hV _ (by omega) (by omega)) (by omega)
  · exact (b2 _ (sk_lt (by omega))).of (fun k hk => hA r k (by omega) hk) (by omega) (by omega)
  · rw [hV _ (by omega) (by omega), hV _ (by omega) (by omega)]
    exact b3 r q hr hq
  · rw [hA r 9 (by omega) (by omega)]
    intro hz
    obtain ⟨b, e1, e2⟩ := b4 _ (sk_lt (by omega)) hz
    exact ⟨b, e1, by rw [hV _ (by omega) (by omega)]; exact e2⟩
  · rw [hA r 9 (by omega) (by omega), hA q 9 (by omega) (by omega)]
    intro he hz
    exact sk_inj (b5 _ _ (sk_lt (by omega)) (sk_lt (by omega)) he hz)
theorem WF.delB {t' : Nat} (h : WF V nb nc t) (ht : t ≤ t') {b : Nat} (hb : b < nb) (hf : ∀ r, r < nc → V (114 + 10 * r + 9) ≠ V (18 + 8 * b)) : WF (rmB V nb b) (nb - 1) nc t' := by
  obtain ⟨⟨a1, a2, a3, a4⟩, ⟨v0, -, -, -, -, v5, v6⟩, b1, b2, b3, b4, b5⟩ := id h
  have hV : ∀ j, j ≠ 10 → (j < 18 ∨ 114 ≤ j) → rmB V nb b j = V j := fun j e1 e2 => rmB_off e1 (by omega)
  have hA : ∀ r k, r + 1 < nb → k < 8 → rmB V nb b (18 + 8 * r + k) = V (18 + 8 * sk b r + k) := fun r k e1 e2 => rmB_sk e1 e2
  have hN : rmB V nb b 10 = ((nb - 1 : Nat) : Int) := rmB_10
  generalize rmB V nb b = V' at *
  have e11 : V' 11 = V 11 := hV _ (by omega) (by omega)
  have e13 : V' 13 = V 13 := hV _ (by omega) (by omega)
  have hA0 : ∀ r, r + 1 < nb → V' (18 + 8 * r) = V (18 + 8 * sk b r) := fun r e => hA r 0 e (by omega)
  refine ⟨⟨hN, by rw [hV _ (by omega) (by omega)]; exact a2, by omega, a4⟩, h.heads (fun j hj => hV j (by omega) (by omega)) (by rw [e11]; omega) (by rw [e13]; omega), fun r hr => ?_, fun r hr => ?_, fun r q hr hq => ?_, fun r hr => ?_, fun r q hr hq => ?_⟩
  · exact (b1 _ (sk_lt (by omega))).of (fun k hk => hA r k (by omega) hk) (by omega)
  · exact (b2 r hr).of (fun k hk => hV _ (by omega) (by omega)) (by omega) (by omega)
  · rw [hA0 r (by omega), hA0 q (by omega)]
    intro he
    exact sk_inj (b3 _ _ (sk_lt (by omega)) (sk_lt (by omega)) he)
  · rw [hV _ (by omega) (by omega)]
    intro hz
    obtain ⟨b', e1, e2⟩ := b4 r hr hz
    obtain ⟨q, e3, e4⟩ := sk_onto (c := b) e1 (fun e => hf r hr (by rw [← e, e2])) hb
    exact ⟨q, by omega, by rw [hA0 q e3, e4]; exact e2⟩
  · rw [hV _ (by omega) (by omega), hV _ (by omega) (by omega)]
    exact b5 r q hr hq
end OPS
