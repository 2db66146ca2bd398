/-! what stays from step to step of the law -/
def Iv (a : At) (e : Nat) : Prop := SO a e ∧ SB a.V a.nb ∧ SC a.V a.nc ∧ (a.V 11 ≤ e ∧ a.V 13 ≤ e) ∧ a.V 0 ≤ 99 * e
def GR (M : Me) (V : Nat → Int) : Prop := M 74 0 = V 1 ∧ ∀ i, i < 6 → M 74 (1 + i) = V (4 + i)
section KEEPS
variable {V W : Nat → Int} {nb nc t e : Nat} {a b : At}
theorem Iv.mono (h : Iv a e) : Iv a (e + 1) := ⟨h.1.mono (by omega), h.2.1, h.2.2.1, ⟨by have := h.2.2.2.1.1; omega, by have := h.2.2.2.1.2; omega⟩, by have := h.2.2.2.2; omega⟩
theorem Iv.of (h : Iv a e) (hS : SO b (e + 1)) (hB : SB b.V b.nb) (hC : SC b.V b.nc) (h11 : b.V 11 ≤ a.V 11 + 1) (h13 : b.V 13 ≤ a.V 13 + 1) (h0 : b.V 0 ≤ a.V 0 + 99) : Iv b (e + 1) := ⟨hS, hB, hC, ⟨by have := h.2.2.2.1.1; omega, by have := h.2.2.2.1.2; omega⟩, by have := h.2.2.2.2; omega⟩
theorem GR.same {M M' : Me} (h : GR M V) (hM : M' 74 = M 74) (h1 : W 1 = V 1) (h4 : ∀ i, i < 6 → W (4 + i) = V (4 + i)) : GR M' W := ⟨by rw [hM, h1]; exact h.1, fun i hi => by rw [hM, h4 i hi]; exact h.2 i hi⟩
theorem SB.head (hV : ∀ j, 18 ≤ j → W j = V j) (h : SB V nb) : SB W nb := fun r q h1 h2 => by rw [hV _ (by omega), hV _ (by omega)]; exact h r q h1 h2
theorem SC.head (hV : ∀ j, 18 ≤ j → W j = V j) (h : SC V nc) : SC W nc := fun r q h1 h2 => by rw [hV _ (by omega), hV _ (by omega)]; exact h r q h1 h2
theorem sk_mono {c r q : Nat} (h : r < q) : sk c r < sk c q := by unfold sk; split <;> split <;> omega
theorem SB.add (hW : WF V nb nc t) (hn : nb < 12) (h : SB V nb) (x0 x1 x2 x3 x4 x5 : Int) : SB (nBag V nb x0 x1 x2 x3 x4 x5) (nb + 1) := fun r q h1 h2 => by
  rw [nBag_off (j := 18 + 8 * r) (by omega) (by omega) (by omega)]
  by_cases g : q = nb
  · subst g
    rw [(nBag_hd x0 x1 x2 x3 x4 x5).2.2]
    have := (hW.2.2.1 r h1).2.1
    omega
  · rw [nBag_off (j := 18 + 8 * q) (by omega) (by omega) (by omega)]
    exact h r q h1 (by omega)
theorem SC.addB (hn : nb < 12) (h : SC V nc) (x0 x1 x2 x3 x4 x5 : Int) : SC (nBag V nb x0 x1 x2 x3 x4 x5) nc := fun r q h1 h2 => by
  rw [nBag_off (j := 114 + 10 * r) (by omega) (by omega) (by omega), nBag_off (j := 114 + 10 * q) (by omega) (by omega) (by omega)]
  exact h r q h1 h2
theorem SC.add (hW : WF V nb nc t) (h : SC V nc) (x0 x1 x2 x3 x4 x5 x6 x7 : Int) : SC (nClm V nc x0 x1 x2 x3 x4 x5 x6 x7) (nc + 1) := fun r q h1 h2 => by
  rw [nClm_off (j := 114 + 10 * r) (by omega) (by omega) (by omega)]
  by_cases g : q = nc
  · subst g
    rw [(nClm_hd x0 x1 x2 x3 x4 x5 x6 x7).2.2.1]
    have := (hW.2.2.2.1 r h1).2.1
    omega
  · rw [nClm_off (j := 114 + 10 * q) (by omega) (by omega) (by omega)]
    exact h r q h1 (by omega)
theorem SB.addC (hn : nb ≤ 12) (h : SB V nb) (x0 x1 x2 x3 x4 x5 x6 x7 : Int) : SB (nClm V nc x0 x1 x2 x3 x4 x5 x6 x7) nb := fun r q h1 h2 => by
  rw [nClm_off (j := 18 + 8 * r) (by omega) (by omega) (by omega), nClm_off (j := 18 + 8 * q) (by omega) (by omega) (by omega)]
  exact h r q h1 h2
theorem rmB_num {b r : Nat} (hr : r + 1 < nb) : rmB V nb b (18 + 8 * r) = V (18 + 8 * sk b r) := rmB_sk (k := 0) hr (by decide)
theorem rmC_num {c r : Nat} (hr : r + 1 < nc) : rmC V nc c (114 + 10 * r) = V (114 + 10 * sk c r) := rmC_sk (k := 0) hr (by decide)
theorem SB.rm {b : Nat} (h : SB V nb) : SB (rmB V nb b) (nb - 1) := fun r q h1 h2 => by
  rw [rmB_num (by omega), rmB_num (by omega)]
  exact h _ _ (sk_mono h1) (sk_lt (by omega))
theorem SC.rmB {b : Nat} (hn : nb ≤ 12) (h : SC V nc) : SC (rmB V nb b) nc := fun r q h1 h2 => by
  rw [rmB_off (by omega) (by omega), rmB_off (by omega) (by omega)]
  exact h r q h1 h2
theorem SC.rm {c : Nat} (h : SC V nc) : SC (rmC V nc c) (nc - 1) := fun r q h1 h2 => by
  rw [rmC_num (by omega), rmC_num (by omega)]
  exact h _ _ (sk_mono h1) (sk_lt (by omega))
theorem SB.rmC {c : Nat} (hn : nb ≤ 12) (h : SB V nb) : SB (rmC V nc c) nb := fun r q h1 h2 => by
  rw [rmC_off (by omega) (by omega), rmC_off (by omega) (by omega)]
  exact h r q h1 h2
theorem cnt_off {k : Nat} {p : Int} {j : Nat} (h1 : j ≠ k) (h2 : j ≠ 17) : cntV V k p j = V j := by
  unfold cntV
  rw [up_off h2, up_off h1]
theorem cnt_17 {k : Nat} {p : Int} (hk : k ≠ 17) : cntV V k p 17 = w32 (V 17 + p) := by
  unfold cntV
  rw [up_at]
end KEEPS
