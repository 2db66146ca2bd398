/-! the class's best total -/
theorem c_bestTotal {M : Me} {h : Ml} {V : Nat → Int} {nb nc t : Nat} (hS : CS M V nb nc t) : Wp zS0 tX8_bestTotal none 0 [zr 0] [] M h (Qr (rBest V nb nc) M h) := by
  have hW := hS.2.2.2
  refine Wp.g1 rfl ?_
  refine Wp.call rfl (m_fill hS.1 hS.2.1 hS.2.2.1 hW) (fun v M1 h1 q => ?_)
  obtain ⟨rfl, rfl, q1, q2⟩ := q
  have e : ∀ i, i < 120 → M1 64 i = gM V nb nc i := fun i hi => by
    have := q2 (i / 12) (i % 12) (by omega) (by omega)
    rw [show 12 * (i / 12) + i % 12 = i by omega] at this
    exact this
  refine Wp.g1 rfl ?_
  refine Wp.call rfl (m_bestSum (M := M1) (fun c b c1 c2 b1 b2 => ?_)) (fun v M2 h2 q => ?_)
  · unfold gn
    rw [e _ (by omega)]
    have := gM_bd hW (12 * (c - 1) + (b - 1))
    omega
  · have hv := best_eq hW e q
    obtain ⟨rfl, q3, -⟩ := q
    subst hv
    exact Wp.re rfl ⟨rfl, rfl, fun k g => by rw [q3 k (by omega)]; exact q1 k (by omega) (by omega)⟩
