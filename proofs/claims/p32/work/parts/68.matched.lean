/-! all are matched, taken back, and matched one after the other -/
theorem mA_0 {nb nc : Nat} {W : Nat → Int} (hb : bs W nb nc = -1) (d : Nat) : mA nb nc d W = (0, W) := by
  cases d with
  | zero => rfl
  | succ d => exact if_pos hb
theorem scan_at {W : Nat → Int} {nb nc t : Nat} (hW : WF W nb nc t) : bv (fk W nb nc) (nb * nc) = bs W nb nc ∧ (bs W nb nc ≠ -1 → cl W nb nc (nb * nc) = W (114 + 10 * bc W nb nc) ∧ ba W nb nc (nb * nc) = W (18 + 8 * bb W nb nc)) := by
  rcases Nat.eq_zero_or_pos nb with e | e
  · have hb : bs W nb nc = -1 := Classical.byContradiction (fun g => by
      have := (bs_facts g).2.2.1
      omega)
    refine ⟨?_, fun g => absurd hb g⟩
    rw [hb, e, Nat.zero_mul]
    rfl
  · obtain ⟨h1, h2⟩ := scan_eq hW e
    have h1 : bv (fk W nb nc) (nb * nc) = bs W nb nc := h1
    refine ⟨h1, fun g => ?_⟩
    obtain ⟨h3, h4⟩ := h2 g
    have h3 : bp (fk W nb nc) (nb * nc) / nb = bc W nb nc := h3
    have h4 : bp (fk W nb nc) (nb * nc) % nb = bb W nb nc := h4
    unfold cl ba
    rw [h1, if_neg g, if_neg g, h3, h4]
    exact ⟨rfl, rfl⟩
section MATCHED
variable {M : Me} {h : Ml} {a : At} {t : Nat}
theorem sMatch_at {W : Nat → Int} {nb nc : Nat} {r : (Nat × (Nat → Nat → Int)) × (Nat × (Nat → Int)) × (Int × Int × Int)} (hW : WF W nb nc t) (hC : SC W nc) (hb : bs W nb nc ≠ -1) : sMatch ((W, nb, nc), r) (W (114 + 10 * bc W nb nc)) (W (18 + 8 * bb W nb nc)) = (bs W nb nc, ((jn W nb nc, nb, nc), (sv ((W, nb, nc), r)).2)) := by
  obtain ⟨h1, h2, h3, h4, h5⟩ := bs_facts hb
  have e1 : rkC W nc (W (114 + 10 * bc W nb nc)) = bc W nb nc := rkC_at hC h1
  have e2 : rkB W nb (W (18 + 8 * bb W nb nc)) = bb W nb nc := rkB_at hW h3
  have g : gF W nb nc (bc W nb nc) (bb W nb nc) ≠ -1 := by rw [h5]; exact hb
  have e3 : scN W (bc W nb nc) (bb W nb nc) 0 = bs W nb nc := (gF_sc hW g).symm.trans h5
  have e4 := (gF_ge hW _ _ g).1
  show (if rkC W nc (W (114 + 10 * bc W nb nc)) < nc ∧ rkB W nb (W (18 + 8 * bb W nb nc)) < nb then
    (if W (114 + 10 * rkC W nc (W (114 + 10 * bc W nb nc)) + 9) = 0 ∧ cw W nc (rkB W nb (W (18 + 8 * bb W nb nc))) = -10006 ∧ scN W (rkC W nc (W (114 + 10 * bc W nb nc))) (rkB W nb (W (18 + 8 * bb W nb nc))) 0 ≠ -10006 then
      (scN W (rkC W nc (W (114 + 10 * bc W nb nc))) (rkB W nb (W (18 + 8 * bb W nb nc))) 0, ((up W (114 + 10 * rkC W nc (W (114 + 10 * bc W nb nc)) + 9) (W (18 + 8 * rkB W nb (W (18 + 8 * bb W nb nc)))), nb, nc), (sv ((W, nb, nc), r)).2)) else (-10003, ((W, nb, nc), r))) else (-10001, ((W, nb, nc), r))) = _
  rw [e1, e2, if_pos ⟨h1, h3⟩, if_pos ⟨h2, h4, by omega⟩, e3]
  rfl
theorem bs_bd {W : Nat → Int} {nb nc : Nat} (hW : WF W nb nc t) : bs W nb nc ≤ 9600 := bv_le (by decide) 120 (fun i _ => gM_bd hW i)
def Mt (a : At) (t : Nat) (M : Me) (h : Ml) : Option ZV → Me → Ml → Prop := fun v M' h' => v = some (zi 1) ∧ h' = h ∧ (∀ k, 74 ≤ k → M' k = M k) ∧ ∃ (W : Nat → Int) (r : (Nat × (Nat → Nat → Int)) × (Nat × (Nat → Int)) × (Int × Int × Int)), CR M' ((W, a.nb, a.nc), r) ∧ SO ((W, a.nb, a.nc), r) t ∧ Same a.V W
theorem mt_body (hnb : a.nb ≤ 12) (hB : SB a.V a.nb) (hCs : SC a.V a.nc) (hA : AM M a.V a.nb a.nc) {best told had many now : Int} (n : Nat) (hn : n ≤ 10) (M' : Me) (W : Nat → Int) (r : (Nat × (Nat → Nat → Int)) × (Nat × (Nat → Int)) × (Int × Int × Int)) (sum most : Int) (y13 y14 y15 y16 y17 y18 y19 : ZV)
    (hk : ∀ k, 74 ≤ k → M' k = M k) (hC : CR M' ((W, a.nb, a.nc), r)) (hS : SO ((W, a.nb, a.nc), r) t) (hV : Same a.V W) (hmo : 0 ≤ most) (fin : bs W a.nb a.nc = -1 → (n : Int) = many ∧ sum = told ∧ rMatched W a.nc = now)
    (more : bs W a.nb a.nc ≠ -1 → ∀ (M2 : Me) (y13 y14 y15 y16 y17 y18 y19 : ZV), (∀ k, 74 ≤ k → M2 k = M k) → CR M2 ((jn W a.nb a.nc, a.nb, a.nc), (sv ((W, a.nb, a.nc), r)).2) → SO ((jn W a.nb a.nc, a.nb, a.nc), (sv ((W, a.nb, a.nc), r)).2) t → Wp zS0 tL_isMatched none 105 [zr 0, zr 75, zr 76, zi (a.V 1), zi best, zi told, zi had, zi many, zi now, zi 1, zi (w32 (sum + bs W a.nb a.nc)), zi ((n + 1 : Nat) : Int), zi (bs W a.nb a.nc), y13, y14, y15, y16, y17, y18, y19] [] M2 h (Mt a t M h)) :
    Wp zS0 tL_isMatched none 105 [zr 0, zr 75, zr 76, zi (a.V 1), zi best, zi told, zi had, zi many, zi now, zi 1, zi sum, zi n, zi most, y13, y14, y15, y16, y17, y18, y19] [] M' h (Mt a t M h) := by
  have hW : WF W a.nb a.nc t := hS.1
  have hK : CS M' W a.nb a.nc t := hC.cs hS
  have hCw : SC W a.nc := hV.SC hCs
  have hAw : AM M' W a.nb a.nc := by
    have h1 := hV.AM hnb hA
    exact ⟨fun q hq => by rw [hk 75 (by omega)]; exact h1.1 q hq, fun q hq => by rw [hk 76 (by omega)]; exact h1.2 q hq⟩
  have e1 : a.V 1 = W 1 := (hV 1 (by omega)).symm
  obtain ⟨s1, s2⟩ := scan_at hW
  refine Wp.g1 rfl ?_
  refine Wp.brf rfl (by decide) ?_
  refine Wp.g1 rfl ?_
  refine Wp.brf rfl (by omega) ?_
  refine Wp.g1 rfl ?_
  refine Wp.brf rfl (by omega) ?_
  refine Wp.gt 134 rfl ?_
  rw [e1]
  refine m_scan hK hCw hAw (fun M1 y15 y16 y17 y18 y19 hk1 => ?_) (a.nb * a.nc) 0 (by omega) M' _ _ _ _ (fun k _ => rfl)
  have hC1 : CR M1 ((W, a.nb, a.nc), r) := hC.kept (fun k g => hk1 k (by omega))
  rw [s1]
  refine Wp.g1 rfl ?_
  by_cases hb : bs W a.nb a.nc = -1
  · obtain ⟨f1, f2, f3⟩ := fin hb
    rw [hb]
    refine Wp.brt rfl (by decide) ?_
    refine Wp.g1 rfl ?_
    refine Wp.brf rfl (by decide) ?_
    refine Wp.g1 rfl ?_
    refine Wp.brt rfl (by decide) ?_
    refine Wp.g1 rfl ?_
    refine Wp.brf rfl (by decide) ?_
    refine Wp.g1 rfl ?_
    refine Wp.brf rfl (fun q => q f1) ?_
    refine Wp.g1 rfl ?_
    refine Wp.brf rfl (fun q => q f2) ?_
    refine Wp.g1 rfl ?_
    refine Wp.call rfl (c_count (hC1.cs hS) _) (fun v M2 h2 q => ?_)
    obtain ⟨rfl, rfl, q2⟩ := q
    refine Wp.g1 rfl ?_
    refine Wp.brf rfl (fun q => q f3) ?_
    refine Wp.g1 rfl ?_
    exact Wp.re rfl ⟨rfl, rfl, fun k g => (q2 k (by omega)).trans ((hk1 k (by omega)).trans (hk k g)), W, r, hC1.kept (fun k g => q2 k (by omega)), hS, hV⟩
  · obtain ⟨s3, s4⟩ := s2 hb
    have eM := sMatch_at (r := r) hW hCw hb
    have sS := s_match hS (Nat.le_refl t) (W (114 + 10 * bc W a.nb a.nc)) (W (18 + 8 * bb W a.nb a.nc))
    rw [eM] at sS
    have g : gF W a.nb a.nc (bc W a.nb a.nc) (bb W a.nb a.nc) ≠ -1 := by rw [(bs_facts hb).2.2.2.2]; exact hb
    have hge := (gF_ge hW _ _ g).1
    rw [(bs_facts hb).2.2.2.2] at hge
    rw [s3, s4]
    refine Wp.brf rfl (by omega) ?_
    refine Wp.g1 rfl ?_
    refine Wp.call rfl (c_match hC1 hS _ _) (fun v M2 h2 q => ?_)
    rw [eM] at q
    obtain ⟨rfl, rfl, q2, q3⟩ := q
    refine Wp.g1 rfl ?_
    refine Wp.brf rfl (fun q => q rfl) ?_
    refine Wp.gt 105 rfl ?_
    rw [w32_s (n := n) (by omega), ← e1]
    exact more hb M2 _ _ _ _ _ _ _ (fun k g => (q2 k g).trans ((hk1 k (by omega)).trans (hk k g))) q3 sS
theorem m_isMatched (hC : CR M a) (hS : SO a t) (hB : SB a.V a.nb) (hCs : SC a.V a.nc) (hA : AM M a.V a.nb a.nc) : Wp zS0 tL_isMatched none 0 [zr 0, zr 75, zr 76, zi (a.V 1), zn, zn, zn, zn, zn, zn, zn, zn, zn, zn, zn, zn, zn, zn, zn, zn] [] M h (Mt a t M h) := by
  have hW : WF a.V a.nb a.nc t := hS.1
  have hnb := hW.1.2.2.1
  have hnc := hW.1.2.2.2
  have hM0 := mt_bd (V := a.V) a.nc
  have hmle := mA_le (nb := a.nb) (nc := a.nc) 10 a.V
  have hmt := mA_mt 10 hW
  have hend := mA_end 10 hW (by omega)
  have hW1 : WF (mA a.nb a.nc 10 a.V).2 a.nb a.nc t := mA_WF 10 hW
  have hb1 := best_0 hW1 hend
  have ht1 : rTotal (mA a.nb a.nc 10 a.V).2 a.nb a.nc = 0 := total_0 hend 10
  have htl := total_le hW
  have loop : ∀ d n : Nat, n + d = 10 → ∀ (M' : Me) (W : Nat → Int) (r : (Nat × (Nat → Nat → Int)) × (Nat × (Nat → Int)) × (Int × Int × Int)) (sum most : Int) (y13 y14 y15 y16 y17 y18 y19 : ZV), (∀ k, 74 ≤ k → M' k = M k) → CR M' ((W, a.nb, a.nc), r) → SO ((W, a.nb, a.nc), r) t → Same a.V W → 0 ≤ most →
      n + (mA a.nb a.nc d W).1 = (mA a.nb a.nc 10 a.V).1 → (mA a.nb a.nc d W).2 = (mA a.nb a.nc 10 a.V).2 → sum + tot (gM W a.nb a.nc) d = rTotal a.V a.nb a.nc → 0 ≤ sum → sum ≤ 9600 * n → (a.nc : Int) - rMatched W a.nc ≤ d →
      Wp zS0 tL_isMatched none 105 [zr 0, zr 75, zr 76, zi (a.V 1), zi (rBest a.V a.nb a.nc), zi (rTotal a.V a.nb a.nc), zi (rMatched a.V a.nc), zi ((mA a.nb a.nc 10 a.V).1 : Int), zi (rMatched (mA a.nb a.nc 10 a.V).2 a.nc), zi 1, zi sum, zi n, zi most, y13, y14, y15, y16, y17, y18, y19] [] M' h (Mt a t M h) := by
    intro d
    induction d with
    | zero =>
      intro n hn M' W r sum most y13 y14 y15 y16 y17 y18 y19 hk hC1 hS1 hV hmo i1 i2 i3 i4 i5 i6
      have hW' : WF W a.nb a.nc t := hS1.1
      have he := mA_end 0 hW' i6
      have he : bs W a.nb a.nc = -1 := he
      refine mt_body hnb hB hCs hA n (by omega) M' W r sum most y13 y14 y15 y16 y17 y18 y19 hk hC1 hS1 hV hmo (fun _ => ⟨?_, ?_, ?_⟩) (fun g => absurd he g)
      · rw [mA_0 he] at i1
        have i1 : n + 0 = (mA a.nb a.nc 10 a.V).1 := i1
        omega
      · rw [total_0 he] at i3; omega
      · rw [mA_0 he] at i2
        have i2 : W = (mA a.nb a.nc 10 a.V).2 := i2
        rw [← i2]
    | succ d ih =>
      intro n hn M' W r sum most y13 y14 y15 y16 y17 y18 y19 hk hC1 hS1 hV hmo i1 i2 i3 i4 i5 i6
      have hW' : WF W a.nb a.nc t := hS1.1
      refine mt_body hnb hB hCs hA n (by omega) M' W r sum most y13 y14 y15 y16 y17 y18 y19 hk hC1 hS1 hV hmo (fun he => ⟨?_, ?_, ?_⟩) (fun g M2 y13 y14 y15 y16 y17 y18 y19 hk2 hC2 hS2 => ?_)
      · rw [mA_0 he] at i1
        have i1 : n + 0 = (mA a.nb a.nc 10 a.V).1 := i1
        omega
      · rw [total_0 he] at i3; omega
      · rw [mA_0 he] at i2
        have i2 : W = (mA a.nb a.nc 10 a.V).2 := i2
        rw [← i2]
      · have gg : gF W a.nb a.nc (bc W a.nb a.nc) (bb W a.nb a.nc) ≠ -1 := by rw [(bs_facts g).2.2.2.2]; exact g
        have hge := (gF_ge hW' _ _ gg).1
        rw [(bs_facts g).2.2.2.2] at hge
        have hle := bs_bd hW'
        rw [mA_step g] at i1 i2
        have i1 : n + ((mA a.nb a.nc d (jn W a.nb a.nc)).1 + 1) = (mA a.nb a.nc 10 a.V).1 := i1
        have i2 : (mA a.nb a.nc d (jn W a.nb a.nc)).2 = (mA a.nb a.nc 10 a.V).2 := i2
        rw [total_s hW' g] at i3
        have hj := mt_jn hW' g
        rw [w32_id (x := sum + bs W a.nb a.nc) ⟨by omega, by omega⟩]
        exact ih (n + 1) (by omega) M2 _ _ _ _ _ _ _ _ _ _ _ hk2 hC2 hS2 (hV.tr Same.jn) hge (by omega) i2 (by omega) (by omega) (by omega) (by omega)
  have hK := hC.cs hS
  refine Wp.g1 rfl ?_
  refine Wp.call rfl (c_bestTotal hK) (fun v M1 h1 q => ?_)
  obtain ⟨rfl, rfl, q1⟩ := q
  have hC1 : CR M1 a := hC.kept (fun k g => q1 k (by omega))
  refine Wp.g1 rfl ?_
  refine Wp.call rfl (c_totalOfAll (hC1.cs hS)) (fun v M2 h2 q => ?_)
  obtain ⟨rfl, rfl, q2⟩ := q
  have hC2 : CR M2 a := hC1.kept (fun k g => q2 k (by omega))
  refine Wp.g1 rfl ?_
  refine Wp.call rfl (c_count (hC2.cs hS) _) (fun v M3 h3 q => ?_)
  obtain ⟨rfl, rfl, q3⟩ := q
  have hC3 : CR M3 a := hC2.kept (fun k g => q3 k (by omega))
  refine Wp.g1 rfl ?_
  refine Wp.call rfl (c_matchAll hC3 hS) (fun v M4 h4 q => ?_)
  obtain ⟨rfl, rfl, q4, hC4⟩ := q
  have hS4 : SO (sMatchAll a).2 t := s_matchAll hS (Nat.le_refl t)
  refine Wp.g1 rfl ?_
  refine Wp.call rfl (c_count (hC4.cs hS4) _) (fun v M5 h5 q => ?_)
  obtain ⟨rfl, rfl, q5⟩ := q
  have hC5 : CR M5 (sMatchAll a).2 := hC4.kept (fun k g => q5 k (by omega))
  have ec : rCount (sMatchAll a).2.V (sMatchAll a).2.nb (sMatchAll a).2.nc 3 = rMatched (mA a.nb a.nc 10 a.V).2 a.nc := rfl
  have ec2 : rCount a.V a.nb a.nc 3 = rMatched a.V a.nc := rfl
  have em : (sMatchAll a).1 = ((mA a.nb a.nc 10 a.V).1 : Int) := rfl
  rw [ec, ec2, em]
  refine Wp.g1 rfl ?_
  rw [w32_id (x := rMatched a.V a.nc + ((mA a.nb a.nc 10 a.V).1 : Int)) ⟨by omega, by omega⟩]
  refine Wp.brf rfl (fun q => q hmt) ?_
  refine Wp.g1 rfl ?_
  refine Wp.brf rfl (by omega) ?_
  refine Wp.g1 rfl ?_
  refine Wp.call rfl (c_bestTotal (hC5.cs hS4)) (fun v M6 h6 q => ?_)
  obtain ⟨rfl, rfl, q6⟩ := q
  have hC6 : CR M6 (sMatchAll a).2 := hC5.kept (fun k g => q6 k (by omega))
  refine Wp.brf rfl (fun q => q hb1) ?_
  refine Wp.g1 rfl ?_
  refine Wp.call rfl (c_totalOfAll (hC6.cs hS4)) (fun v M7 h7 q => ?_)
  obtain ⟨rfl, rfl, q7⟩ := q
  have hC7 : CR M7 (sMatchAll a).2 := hC6.kept (fun k g => q7 k (by omega))
  refine Wp.brf rfl (fun q => q ht1) ?_
  refine Wp.g1 rfl ?_
  have eP : svP a.kn a.V a.P (svK a.kn - 1) = a.V := by
    unfold svP svK
    by_cases g : a.kn = 6
    · rw [if_pos g, if_pos g]; exact if_neg (by decide)
    · rw [if_neg g, if_neg g]; exact if_neg (by omega)
  have hk0 : svK a.kn ≠ 0 := by unfold svK; split <;> omega
  have eU : sUndo (sMatchAll a).2 = (((svK a.kn - 1 : Nat) : Int), ((a.V, a.nb, a.nc), (svK a.kn - 1, svP a.kn a.V a.P), a.2.2)) := by
    have e : sUndo (sMatchAll a).2 = (((svK a.kn - 1 : Nat) : Int), ((svP a.kn a.V a.P (svK a.kn - 1), (svP a.kn a.V a.P (svK a.kn - 1) 10).toNat, (svP a.kn a.V a.P (svK a.kn - 1) 12).toNat), (svK a.kn - 1, svP a.kn a.V a.P), a.2.2)) := if_neg hk0
    rw [e, eP, hW.1.1, hW.1.2.1, Int.toNat_natCast, Int.toNat_natCast]
  have hS8 := s_undo hS4 (Nat.le_refl t)
  rw [eU] at hS8
  refine Wp.call rfl (c_undo hC7 hS4) (fun v M8 h8 q => ?_)
  rw [eU] at q
  obtain ⟨rfl, rfl, q8, hC8⟩ := q
  refine Wp.brf rfl (by omega) ?_
  refine Wp.g1 rfl ?_
  refine Wp.call rfl (c_count (hC8.cs hS8) _) (fun v M9 h9 q => ?_)
  obtain ⟨rfl, rfl, q9⟩ := q
  have hC9 := hC8.kept (M' := M9) (fun k g => q9 k (by omega))
  refine Wp.g1 rfl ?_
  refine Wp.brf rfl (fun q => q rfl) ?_
  refine Wp.g1 rfl ?_
  refine Wp.call rfl (c_bestTotal (hC9.cs hS8)) (fun v M10 h10 q => ?_)
  obtain ⟨rfl, rfl, q10⟩ := q
  have hC10 := hC9.kept (M' := M10) (fun k g => q10 k (by omega))
  refine Wp.g1 rfl ?_
  refine Wp.brf rfl (fun q => q rfl) ?_
  refine Wp.gt 105 rfl ?_
  refine loop 10 0 (by omega) M10 a.V _ 0 0 _ _ _ _ _ _ _ (fun k g => ?_) hC10 hS8 (Same.rf _) (by decide) (by omega) rfl ?_ (by decide) (by decide) (by omega)
  · exact (q10 k (by omega)).trans ((q9 k (by omega)).trans ((q8 k g).trans ((q7 k (by omega)).trans ((q6 k (by omega)).trans ((q5 k (by omega)).trans ((q4 k g).trans ((q3 k (by omega)).trans ((q2 k (by omega)).trans (q1 k (by omega))))))))))
  · rw [Int.zero_add]; rfl
end MATCHED
