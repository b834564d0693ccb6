/-! ===== the class: records and contacts that are only read ===== -/
section
variable {a8 : Int32} {i : Nat} {r : aR}
theorem C_45L (I : aI) (w : aW) (k : aQ) (hS : Sim a8 i I r) (hQ : Rq r) : ∀ (d j : Nat) (a : Int32), j + d = nR r → rn 45 (4, [some (.inr (.inr (some (20, i)))), some (.inl a), some (.inl (nI j))], [], MM I w k) = some (.inl (some (.inl (m_iu r d j a))), MM I w k) := by
  obtain ⟨h1, h2⟩ := hQ
  have h3 : I 20 i 3 = nI (nR r) := hS.1.2.2.1.1.trans h1
  intro d
  induction d with
  | zero =>
    intro j a hj
    refine (e45_4 I w k _ _ _).trans ?_
    rw [h3, zc_t (nI_le (by omega) (by omega))]
    rfl
  | succ d ih =>
    intro j a hj
    have hk := hS.2.2.2.2.1 j (by omega)
    refine (e45_4 I w k _ _ _).trans ?_
    rw [h3, zc_f (nI_ge (by omega) (by omega)), z_in (by omega) (by decide), nI_clamp (by omega), cond_true, hk.1.1, hk.2.2.1.2.2.2]
    simp only [z_c, cond_true, e45_37, nI_1, ih (j + 1) _ (by omega), m_iu, z_ri, ite_not, Int32.add_zero]
theorem C_45 (I : aI) (w : aW) (k : aQ) (hS : Sim a8 i I r) (hQ : Rq r) : rn 45 (a_en 45 [.inr (.inr (some (20, i)))] (MM I w k)) = some (.inl (some (.inl (m_use r))), MM I w k) :=
  (e45_0 I w k _).trans (C_45L I w k hS hQ _ 0 0 (by omega))
theorem C_47L (I : aI) (w : aW) (k : aQ) (hS : Sim a8 i I r) (hQ : Rq r) : ∀ (d j : Nat), j + d = nR r → rn 47 (2, [some (.inr (.inr (some (20, i)))), some (.inl (nI j))], [], MM I w k) = some (.inl (some (.inl (m_old r d j))), MM I w k) := by
  obtain ⟨h1, h2⟩ := hQ
  have h3 : I 20 i 3 = nI (nR r) := hS.1.2.2.1.1.trans h1
  intro d
  induction d with
  | zero =>
    intro j hj
    refine (e47_2 I w k _ _).trans ?_
    rw [h3, zc_t (nI_le (by omega) (by omega))]
    rfl
  | succ d ih =>
    intro j hj
    have hk := hS.2.2.2.2.1 j (by omega)
    refine (e47_2 I w k _ _).trans ?_
    rw [h3, zc_f (nI_ge (by omega) (by omega)), z_in (by omega) (by decide), nI_clamp (by omega), cond_true, hk.2.2.1.2.2.2]
    simp only [z_c, nI_1, ih (j + 1) (by omega), m_old, z_ri, ite_not]
theorem C_47 (I : aI) (w : aW) (k : aQ) (hS : Sim a8 i I r) (hQ : Rq r) : rn 47 (a_en 47 [.inr (.inr (some (20, i)))] (MM I w k)) = some (.inl (some (.inl (m_old r (nR r) 0))), MM I w k) :=
  (e47_0 I w k _).trans (C_47L I w k hS hQ _ 0 (by omega))
theorem C_48 (I : aI) (w : aW) (k : aQ) (hS : Sim a8 i I r) {q : Nat} (hq : q < nR r) : rn 48 (a_en 48 [.inr (.inr (some (20, i))), .inr (.inr (some (14, (40 * i + q))))] (MM I w k)) = some (.inl (some (.inl (m_ur r q (r 5)))), MM I w k) := by
  have hk := hS.2.2.2.2.1 q hq
  refine (e48_0 I w k _ _).trans ?_
  rw [hk.1.2.1, hk.1.2.2.1, hS.1.2.1.2.2.1, hS.1.2.1.2.2.2.1, hS.1.2.2.1.2.2.2]
  unfold m_ur
  simp only [z_c, z_ri, Int32.add_zero]
/-- urgencies aren't negative -/
def Ru (r : aR) : Prop := (∃ b, b ≤ 9 ∧ r 7 = nI b) ∧ ∀ q, q < nR r → ∃ p, p ≤ 9 ∧ r (68 + 8 * q + 1) = nI p
theorem m_ur_n (hU : Ru r) {q : Nat} (hq : q < nR r) (t : Int32) : ∃ u, u ≤ 18 ∧ m_ur r q t = nI u := by
  obtain ⟨⟨b, b1, b2⟩, h⟩ := hU
  obtain ⟨p, p1, p2⟩ := h q hq
  unfold m_ur
  rw [b2, p2, nI_add, Int32.add_zero]
  split
  · exact ⟨p, by omega, rfl⟩
  · exact ⟨p + b, by omega, rfl⟩
theorem C_49L (I : aI) (w : aW) (k : aQ) (hS : Sim a8 i I r) (hQ : Rq r) (hU : Ru r) : ∀ (d j : Nat) (b g : Int32) (d4 : Option aV), j + d = nR r → ((b = -1 ∧ g = -1) ∨ ∃ c, c < nR r ∧ b = nI c ∧ g = m_ur r c (r 5)) → rn 49 (6, [some (.inr (.inr (some (20, i)))), some (.inl b), some (.inl g), some (.inl (nI j)), d4], [], MM I w k) = some (.inl (some (.inl (m_nxL r (r 5) d j b))), MM I w k) := by
  have h1 := hQ.1
  have h2 := hQ.2
  have h3 : I 20 i 3 = nI (nR r) := hS.1.2.2.1.1.trans h1
  intro d
  induction d with
  | zero =>
    intro j b g d4 hj hb
    refine (e49_6 I w k _ _ _ _ _).trans ?_
    rw [h3, zc_t (nI_le (by omega) (by omega))]
    rfl
  | succ d ih =>
    intro j b g d4 hj hb
    have hjr : j < nR r := by omega
    have hk := hS.2.2.2.2.1 j hjr
    refine (e49_6 I w k _ _ _ _ _).trans ?_
    rw [h3, zc_f (nI_ge (by omega) (by omega)), z_in (by omega) (by decide), nI_clamp (by omega), cond_true, hk.1.2.2.2, nI_1]
    have i1 := fun d4 => ih (j + 1) b g d4 (by omega) hb
    have i2 := fun d4 => ih (j + 1) (nI j) (m_ur r j (r 5)) d4 (by omega) (Or.inr ⟨j, hjr, rfl, rfl⟩)
    unfold m_nxL
    by_cases h0 : r (68 + 8 * j + 3) = 0
    · rw [zc_t h0, if_pos h0]; exact i1 _
    · rw [zc_f h0, if_neg h0]
      refine (bk_v (C_48 I w k hS hjr)).trans ?_
      refine (e49_36 I w k _ _ _ _ _ _).trans ?_
      rw [nI_1]
      have two : (rn 48 (a_en 48 [.inr (.inr (some (20, i))), .inr (.inr (some (14, (40 * i + j))))] (MM I w k))).bind (fun o => a_bk 49 48 (45, [some (.inr (.inr (some (20, i)))), some (.inl (nI j)), some (.inl g), some (.inl (nI j)), some (.inr (.inr (some (14, 40 * i + j))))], [], MM I w k) o (rn 49)) = some (.inl (some (.inl (m_nxL r (r 5) d (j + 1) (nI j)))), MM I w k) := by
        refine (bk_v (C_48 I w k hS hjr)).trans ?_
        refine (e49_48 I w k _ _ _ _ _ _).trans ?_
        rw [nI_1]
        exact i2 _
      obtain ⟨u, u1, u2⟩ := m_ur_n hU hjr (r 5)
      rcases hb with ⟨rfl, rfl⟩ | ⟨c, hc, rfl, rfl⟩
      · rw [zc_f (by rw [u2, fa_le, nI_toInt (by omega), show (-1 : Int32).toInt = -1 from by decide +kernel]; omega), if_pos rfl]
        exact two
      · rw [if_neg (nI_n1 (by omega)), nI_clamp (by omega)]
        by_cases h5 : m_ur r j (r 5) ≤ m_ur r c (r 5)
        · rw [zc_t h5, if_pos h5]; exact i1 _
        · rw [zc_f h5, if_neg h5]; exact two
theorem C_49 (I : aI) (w : aW) (k : aQ) (hS : Sim a8 i I r) (hQ : Rq r) (hU : Ru r) : rn 49 (a_en 49 [.inr (.inr (some (20, i)))] (MM I w k)) = some (.inl (some (.inl (m_nxt r (r 5)))), MM I w k) :=
  (e49_0 I w k _).trans (C_49L I w k hS hQ hU _ 0 _ _ _ (by omega) (Or.inl ⟨rfl, rfl⟩))
theorem C_50L (I : aI) (w : aW) (k : aQ) (hS : Sim a8 i I r) (hQ : Rq r) : ∀ (d j : Nat) (a : Int32), j + d = nR r → rn 50 (4, [some (.inr (.inr (some (20, i)))), some (.inl a), some (.inl (nI j))], [], MM I w k) = some (.inl (some (.inl (m_dl r d j a))), MM I w k) := by
  have h1 := hQ.1
  have h2 := hQ.2
  have h3 : I 20 i 3 = nI (nR r) := hS.1.2.2.1.1.trans h1
  intro d
  induction d with
  | zero =>
    intro j a hj
    refine (e50_4 I w k _ _ _).trans ?_
    rw [h3, zc_t (nI_le (by omega) (by omega))]
    rfl
  | succ d ih =>
    intro j a hj
    have hk := hS.2.2.2.2.1 j (by omega)
    refine (e50_4 I w k _ _ _).trans ?_
    rw [h3, zc_f (nI_ge (by omega) (by omega)), z_in (by omega) (by decide), nI_clamp (by omega), cond_true, hk.2.2.1.2.2.1, nI_1]
    unfold m_dl
    by_cases h5 : r (68 + 8 * j + 6) = -1
    · rw [zc_t h5, if_pos h5, Int32.add_zero]; exact ih (j + 1) _ (by omega)
    · rw [zc_f h5, if_neg h5, cond_true]
      refine (bk_v (e10_0 I w k _)).trans ?_
      refine (e50_35 I w k _ _ _ _ _).trans ?_
      rw [nI_1, hk.2.2.1.2.2.1, hk.1.2.2.1]
      exact ih (j + 1) _ (by omega)
theorem C_50 (I : aI) (w : aW) (k : aQ) (hS : Sim a8 i I r) (hQ : Rq r) : rn 50 (a_en 50 [.inr (.inr (some (20, i)))] (MM I w k)) = some (.inl (some (.inl (m_del r))), MM I w k) :=
  (e50_0 I w k _).trans (C_50L I w k hS hQ _ 0 0 (by omega))
/-- delays aren't negative -/
def Rd (r : aR) : Prop := ∀ q, q < nR r → m_dy r q = -1 ∧ r (68 + 8 * q + 6) = -1 ∨ ∃ v, v < 2 ^ 31 ∧ m_dy r q = nI v ∧ ¬ r (68 + 8 * q + 6) = -1
theorem C_51L (I : aI) (w : aW) (k : aQ) (hS : Sim a8 i I r) (hQ : Rq r) (hD : Rd r) : ∀ (d j : Nat) (b g : Int32) (d4 : Option aV), j + d = nR r → ((b = -1 ∧ g = -1) ∨ ∃ c, c < nR r ∧ b = nI c ∧ g = m_dy r c) → rn 51 (6, [some (.inr (.inr (some (20, i)))), some (.inl b), some (.inl g), some (.inl (nI j)), d4], [], MM I w k) = some (.inl (some (.inl (m_sl r d j b))), MM I w k) := by
  have h1 := hQ.1
  have h2 := hQ.2
  have h3 : I 20 i 3 = nI (nR r) := hS.1.2.2.1.1.trans h1
  intro d
  induction d with
  | zero =>
    intro j b g d4 hj hb
    refine (e51_6 I w k _ _ _ _ _).trans ?_
    rw [h3, zc_t (nI_le (by omega) (by omega))]
    rfl
  | succ d ih =>
    intro j b g d4 hj hb
    have hjr : j < nR r := by omega
    have hk := hS.2.2.2.2.1 j hjr
    refine (e51_6 I w k _ _ _ _ _).trans ?_
    rw [h3, zc_f (nI_ge (by omega) (by omega)), z_in (by omega) (by decide), nI_clamp (by omega), cond_true, hk.2.2.1.2.2.1, nI_1]
    have i1 := fun d4 => ih (j + 1) b g d4 (by omega) hb
    have i2 := fun d4 => ih (j + 1) (nI j) (m_dy r j) d4 (by omega) (Or.inr ⟨j, hjr, rfl, rfl⟩)
    have ev : rn 10 (a_en 10 [.inr (.inr (some (14, (40 * i + j))))] (MM I w k)) = some (.inl (some (.inl (r (68 + 8 * j + 6) - r (68 + 8 * j + 2)))), MM I w k) := by
      refine (e10_0 I w k _).trans ?_
      rw [hk.2.2.1.2.2.1, hk.1.2.2.1]
    unfold m_sl
    rcases hD j hjr with ⟨h0, h6⟩ | ⟨v, hv, hd, h6⟩
    · rw [zc_t h6, if_pos h0]; exact i1 _
    · have edy : m_dy r j = r (68 + 8 * j + 6) - r (68 + 8 * j + 2) := by unfold m_dy; rw [if_neg h6]
      rw [zc_f h6, if_neg (by rw [hd]; exact nI_n1 hv)]
      refine (bk_v ev).trans ?_
      refine (e51_36 I w k _ _ _ _ _ _).trans ?_
      rw [nI_1, ← edy]
      have two : (rn 10 (a_en 10 [.inr (.inr (some (14, (40 * i + j))))] (MM I w k))).bind (fun o => a_bk 51 10 (44, [some (.inr (.inr (some (20, i)))), some (.inl (nI j)), some (.inl g), some (.inl (nI j)), some (.inr (.inr (some (14, 40 * i + j))))], [], MM I w k) o (rn 51)) = some (.inl (some (.inl (m_sl r d (j + 1) (nI j)))), MM I w k) := by
        refine (bk_v ev).trans ?_
        refine (e51_47 I w k _ _ _ _ _ _).trans ?_
        rw [nI_1, ← edy]
        exact i2 _
      rcases hb with ⟨rfl, rfl⟩ | ⟨c, hc, rfl, rfl⟩
      · rw [zc_f (by rw [hd, fa_le, nI_toInt hv, show (-1 : Int32).toInt = -1 from by decide +kernel]; omega), if_pos rfl]
        exact two
      · rw [if_neg (nI_n1 (by omega)), nI_clamp (by omega)]
        by_cases h5 : m_dy r j ≤ m_dy r c
        · rw [zc_t h5, if_pos h5]; exact i1 _
        · rw [zc_f h5, if_neg h5]; exact two
theorem C_51 (I : aI) (w : aW) (k : aQ) (hS : Sim a8 i I r) (hQ : Rq r) (hD : Rd r) : rn 51 (a_en 51 [.inr (.inr (some (20, i)))] (MM I w k)) = some (.inl (some (.inl (m_sl r (nR r) 0 (-1)))), MM I w k) :=
  (e51_0 I w k _).trans (C_51L I w k hS hQ hD _ 0 _ _ _ (by omega) (Or.inl ⟨rfl, rfl⟩))
/-! the lowest frame to send -/
theorem C_11L (I : aI) (w : aW) (k : aQ) {Q : Nat} : ∀ (d j : Nat), j + d = 24 → ((∃ f, j ≤ f ∧ f < j + d ∧ (I 14 Q 3 >>> (nI f &&& 31)) &&& 1 = 1) → rn 11 (2, [some (.inr (.inr (some (14, Q)))), some (.inl (nI j))], [], MM I w k) = some (.inl (some (.inl (nI (m_lo (I 14 Q 3) d j)))), MM I w k)) ∧ ((¬ ∃ f, j ≤ f ∧ f < j + d ∧ (I 14 Q 3 >>> (nI f &&& 31)) &&& 1 = 1) → rn 11 (2, [some (.inr (.inr (some (14, Q)))), some (.inl (nI j))], [], MM I w k) = some (.inl (some (.inl (-1))), MM I w k)) := by
  intro d
  induction d with
  | zero =>
    intro j hj
    refine ⟨fun ⟨f, h1, h2, _⟩ => by omega, fun _ => ?_⟩
    refine (e11_2 I w k _ _).trans ?_
    rw [zc_t (show (24 : Int32) ≤ nI j from nI_le (a := 24) (by omega) (by omega))]
  | succ d ih =>
    intro j hj
    have hs := e11_2 I w k Q (nI j)
    rw [zc_f (show ¬ (24 : Int32) ≤ nI j from nI_ge (b := 24) (by omega) (by omega)), nI_1] at hs
    by_cases h : (I 14 Q 3 >>> (nI j &&& 31)) &&& 1 = 1
    · refine ⟨fun _ => ?_, fun z => absurd ⟨j, Nat.le_refl _, by omega, h⟩ z⟩
      rw [hs, zc_f (by rw [b_nhas _ (by omega), (b_has _ (by omega)).mp h]; exact Bool.noConfusion), show m_lo (I 14 Q 3) (d + 1) j = j from if_pos h]
    · have hb : bt (I 14 Q 3) j = false := Bool.eq_false_iff.mpr (fun z => h ((b_has _ (by omega)).mpr z))
      rw [hs, zc_t ((b_nhas _ (by omega)).mpr hb), show m_lo (I 14 Q 3) (d + 1) j = m_lo (I 14 Q 3) d (j + 1) from if_neg h]
      refine ⟨fun ⟨f, h1, h2, h3⟩ => (ih (j + 1) (by omega)).1 ⟨f, ?_, by omega, h3⟩, fun z => (ih (j + 1) (by omega)).2 (fun ⟨f, h1, h2, h3⟩ => z ⟨f, by omega, by omega, h3⟩)⟩
      rcases Nat.lt_or_ge j f with h4 | h4
      · omega
      · have : f = j := by omega
        subst this
        exact absurd h3 h
theorem C_11 (I : aI) (w : aW) (k : aQ) {Q : Nat} (hL : Lw (I 14 Q 3)) : rn 11 (a_en 11 [.inr (.inr (some (14, Q)))] (MM I w k)) = some (.inl (some (.inl (if I 14 Q 3 = 0 then -1 else nI (m_lo (I 14 Q 3) 24 0)))), MM I w k) := by
  refine (e11_0 I w k _).trans ?_
  by_cases h : I 14 Q 3 = 0
  · rw [if_pos h]
    refine (C_11L I w k 24 0 (by omega)).2 (fun ⟨f, h1, h2, h3⟩ => ?_)
    have := (b_has _ (by omega)).mp h3
    rw [h, b_0] at this
    cases this
  · rw [if_neg h]
    obtain ⟨f, h1, h2⟩ := hL.ex h
    exact (C_11L I w k 24 0 (by omega)).1 ⟨f, by omega, by omega, h2⟩
/-! contacts -/
theorem C_55 (I : aI) (w : aW) (k : aQ) {c : Nat} (h : c < 2 ^ 31) : rn 55 (a_en 55 [.inr (.inr (some (20, i))), .inl (nI c)] (MM I w k)) = some (.inl (some (.inr (.inr (some (15, 60 * i + c % 60))))), MM I w k) := by
  have hm := Nat.mod_lt c (by decide : 0 < 60)
  refine (e55_0 I w k _ _).trans ?_
  rw [zc_t (nI_pos' h), z_m60 h, z_in hm (by decide), nI_clamp (by omega)]
  rfl
theorem C_56 (I : aI) (w : aW) (k : aQ) (hS : Sim a8 i I r) (hC : Rc r) : rn 56 (a_en 56 [.inr (.inr (some (20, i)))] (MM I w k)) = some (.inl (some (.inl (nI (nC r - 60)))), MM I w k) := by
  have h2 := hC.2
  have h3 : I 20 i 5 = nI (nC r) := hS.1.2.2.1.2.1.trans hC.1
  refine (e56_0 I w k _).trans ?_
  rw [h3]
  rcases Nat.lt_or_ge 60 (nC r) with h | h
  · rw [show nI (nC r) - 60 = nI (nC r - 60) from z_sub (b := 60) (by omega), if_pos (show (0 : Int32) < nI (nC r - 60) from nI_lt (a := 0) (by omega) (by omega))]
  · rw [if_neg (by
      rw [fa_lt, fb_subI (by rw [nI_toInt (by omega), show (60 : Int32).toInt = 60 from by decide +kernel]; omega) (by rw [nI_toInt (by omega), show (60 : Int32).toInt = 60 from by decide +kernel]; omega), nI_toInt (by omega), show (60 : Int32).toInt = 60 from by decide +kernel, show (0 : Int32).toInt = 0 from by decide +kernel]
      omega), show nC r - 60 = 0 by omega]
    rfl
/-- the flag of a talk -/
def Rf (r : aR) : Prop := (r 13 = 0 ↔ (nC r = 0 ∨ ¬ r (1348 + 84 * ((nC r - 1) % 60) + 2) = -1))
theorem C_57 (I : aI) (w : aW) (k : aQ) (hS : Sim a8 i I r) (hC : Rc r) (hF : Rf r) : rn 57 (a_en 57 [.inr (.inr (some (20, i)))] (MM I w k)) = some (.inl (some (.inl (m_tk0 r))), MM I w k) := by
  have h2 := hC.2
  have h3 : I 20 i 5 = nI (nC r) := hS.1.2.2.1.2.1.trans hC.1
  refine (e57_0 I w k _).trans ?_
  rw [h3]
  unfold m_tk0
  rcases Nat.eq_zero_or_pos (nC r) with h0 | h0
  · rw [if_pos (hF.mpr (Or.inl h0)), h0, zc_f (fun z => z rfl)]
  · rw [zc_t (nI_ne0 h0 (by omega)), show nI (nC r) - 1 = nI (nC r - 1) from z_sub (b := 1) (by omega)]
    refine (bk_v (C_55 I w k (by omega))).trans ?_
    refine (e57_19 I w k _ _ _).trans ?_
    have hk := hS.2.2.2.2.2 (nC r - 1) (by omega) (by omega)
    rw [hk.2.1.1, hk.2.1.2.2.1]
    by_cases h5 : r (1348 + 84 * ((nC r - 1) % 60) + 2) = -1
    · rw [zc_f (fun z => z h5), if_neg (fun z => (hF.mp z).elim (fun y => absurd y (by omega)) (fun y => y h5))]
    · rw [zc_t h5, if_pos (hF.mpr (Or.inr h5))]
theorem C_58L (I : aI) (w : aW) (k : aQ) (hS : Sim a8 i I r) (hC : Rc r) (s : Int32) : ∀ d : Nat, nC r - 60 + d ≤ nC r → rn 58 (7, [some (.inr (.inr (some (20, i)))), some (.inl s), some (.inl (nI (nC r - 60 + d) - 1))], [], MM I w k) = some (.inl (some (.inl (m_lc r s (nC r - 60) d))), MM I w k) := by
  have h2 := hC.2
  have h56 := C_56 I w k hS hC
  generalize ho : nC r - 60 = o at h56
  intro d
  induction d with
  | zero =>
    intro hd
    refine (e58_7 I w k _ _ _).trans ?_
    refine (bk_v h56).trans ?_
    refine (e58_12 I w k _ _ _ _ _).trans ?_
    rw [Nat.add_zero, zc_t (by
      rw [fa_lt]
      rw [fb_subI (x := nI o) (y := 1) (by rw [nI_toInt (by omega), show (1 : Int32).toInt = 1 from by decide +kernel]; omega) (by rw [nI_toInt (by omega), show (1 : Int32).toInt = 1 from by decide +kernel]; omega), nI_toInt (by omega), show (1 : Int32).toInt = 1 from by decide +kernel]
      omega)]
    rfl
  | succ d ih =>
    intro hd
    refine (e58_7 I w k _ _ _).trans ?_
    refine (bk_v h56).trans ?_
    refine (e58_12 I w k _ _ _ _ _).trans ?_
    rw [show o + (d + 1) = o + d + 1 by omega, nI_pred, zc_f (nI_nlt (by omega) (by omega))]
    refine (bk_v (C_55 I w k (by omega))).trans ?_
    refine (e58_20 I w k _ _ _ _).trans ?_
    have hk := hS.2.2.2.2.2 (o + d) (by omega) (by omega)
    rw [hk.2.1.1]
    by_cases h : r (1348 + 84 * ((o + d) % 60) + 0) = s
    · rw [zc_f (fun z => z h), show m_lc r s o (d + 1) = nI (o + d) from if_pos h]
    · rw [zc_t h, show m_lc r s o (d + 1) = m_lc r s o d from if_neg h, show nI (o + d) + -1 = nI (o + d) - 1 from (Int32.sub_eq_add_neg _ _).symm]
      exact ih (by omega)
theorem C_58 (I : aI) (w : aW) (k : aQ) (hS : Sim a8 i I r) (hC : Rc r) (s : Int32) : rn 58 (a_en 58 [.inr (.inr (some (20, i))), .inl s] (MM I w k)) = some (.inl (some (.inl (m_last r s))), MM I w k) := by
  have h3 : I 20 i 5 = nI (nC r) := hS.1.2.2.1.2.1.trans hC.1
  refine (e58_0 I w k _ _).trans ?_
  have e := C_58L I w k hS hC s (nC r - (nC r - 60)) (by omega)
  rw [show nC r - 60 + (nC r - (nC r - 60)) = nC r by omega] at e
  rw [h3]
  exact e
theorem C_54 (I : aI) (w : aW) (k : aQ) (hS : Sim a8 i I r) (hC : Rc r) (x : Int32) : rn 54 (a_en 54 [.inr (.inr (some (20, i))), .inl x] (MM I w k)) = some (.inl (some (.inl (tf (nI (nC r - 60) ≤ x ∧ x ≤ r 12 - 1)))), MM I w k) := by
  have h2 := hC.2
  have h3 : I 20 i 5 = nI (nC r) := hS.1.2.2.1.2.1.trans hC.1
  have e60 : (nI (nC r) - 60).toInt = (nC r : Int) - 60 := by
    rw [fb_subI (by rw [nI_toInt (by omega), show (60 : Int32).toInt = 60 from by decide +kernel]; omega) (by rw [nI_toInt (by omega), show (60 : Int32).toInt = 60 from by decide +kernel]; omega), nI_toInt (by omega), show (60 : Int32).toInt = 60 from by decide +kernel]
  have e1 : (nI (nC r) - 1).toInt = (nC r : Int) - 1 := by
    rw [fb_subI (by rw [nI_toInt (by omega), show (1 : Int32).toInt = 1 from by decide +kernel]; omega) (by rw [nI_toInt (by omega), show (1 : Int32).toInt = 1 from by decide +kernel]; omega), nI_toInt (by omega), show (1 : Int32).toInt = 1 from by decide +kernel]
  have e0 := nI_toInt (n := nC r - 60) (by omega)
  have en := nI_toInt (n := nC r) (by omega)
  have ez : (0 : Int32).toInt = 0 := by decide +kernel
  refine (e54_0 I w k _ _).trans ?_
  rw [h3, hC.1]
  by_cases a : x < 0
  · rw [zc_t a, tff]
    rw [fa_lt, ez] at a
    rw [fa_le, fa_le, e0, e1]
    omega
  · rw [zc_f a]
    rw [fa_lt, ez] at a
    by_cases b : x < nI (nC r) - 60
    · rw [zc_t b, tff]
      rw [fa_lt, e60] at b
      rw [fa_le, fa_le, e0, e1]
      omega
    · rw [zc_f b]
      rw [fa_lt, e60] at b
      by_cases c : nI (nC r) ≤ x
      · rw [zc_t c, tff]
        rw [fa_le, en] at c
        rw [fa_le, fa_le, e0, e1]
        omega
      · rw [zc_f c, tft]
        rw [fa_le, en] at c
        rw [fa_le, fa_le, e0, e1]
        omega
end
