/-! ===== rows: what follows from the invariant ===== -/
theorem Okt.ru {T : Nat} {r : aR} (h : Okt T r) : Ru r := ⟨h.1.2.2.2.2.2.1.2.1, fun q hq => (h.2.1 q hq).2.2⟩
theorem Okt.rz {T : Nat} {r : aR} (h : Okt T r) : Rz r := h.2.2.2.2.1
theorem Okt.rs {T : Nat} {r : aR} (h : Okt T r) : Rs r := h.1.1
theorem Okt.rq {T : Nat} {r : aR} (h : Okt T r) : Rq r := h.1.2.1
theorem Okt.rc {T : Nat} {r : aR} (h : Okt T r) (hT : T ≤ 100000) : Rc r := ⟨h.1.2.2.2.1.1, Nat.le_trans h.1.2.2.2.1.2 hT⟩
theorem Okt.rd {T : Nat} {r : aR} (h : Okt T r) (hT : T < 2 ^ 30) : Rd r := by
  intro q hq
  obtain ⟨-, a, a1, a2, a3⟩ := h.2.2.2.2.2.1 q hq
  rcases a3 with y | ⟨d, d1, d2, d3⟩
  · exact Or.inl ⟨by unfold m_dy; rw [if_pos y], y⟩
  · have hn : ¬ r (68 + 8 * q + 6) = -1 := by rw [d3]; exact nI_n1 (by omega)
    refine Or.inr ⟨d - a, by omega, ?_, hn⟩
    unfold m_dy
    rw [if_neg hn, d3, a2, z_sub (by omega)]
