/-! ===== trials of the reference: the whole calls ===== -/
theorem m_fix (K : aI) (rf : aR) (h : K 31 0 8 = 0) : a_cpI (a_setI (pR (a_setI K 31 0 8 1) rf) 31 0 8 0) 24 0 (K 24 0) = K := by
  funext s q j
  unfold pR
  rw [gC, gI, gC, gI]
  by_cases h1 : s = 24
  · subst h1
    by_cases h2 : q = 0
    · subst h2; simp
    · simp [h2]
  · by_cases h3 : s = 31
    · subst h3
      by_cases h2 : q = 0
      · subst h2
        by_cases h4 : j = 8
        · subst h4; simp [h]
        · simp [h4]
      · simp [h2]
    · simp [h1, h3]
theorem M_273 (I : aI) (w : aW) (k : aQ) {T q : Nat} (hO : Okt T (I 24 0)) (hT : T ≤ 90000) (h8 : I 31 0 8 = 0) (hq : q < nR (I 24 0)) : rn 273 (a_en 273 [.inr (.inr (some (31, 0))), .inl (nI q)] (MM I w k)) = some (.inl (some (.inl (m_fc q 3000 (I 24 0) (68 + 8 * q + 6)))), MM (kp (a_setI I 31 0 0 0)) w k) := by
  have hQ : Rq (I 24 0) := hO.1.2.1
  have h40 : q < 40 := by have := hQ.2; omega
  refine (e273_0 I w k _).trans ?_
  refine (bk_v (M_178 I w k _)).trans ?_
  refine (e273_6 I w k _ _ _).trans ?_
  refine (zc_f (by rw [tf, if_pos (isQ hQ hq)]; decide)).trans ?_
  have hc : rn 272 (a_en 272 [.inr (.inr (some (24, 0))), .inl (nI 0), .inr (.inr (some (25, 0))), .inl (nI 0)] (MM (a_setI I 31 0 0 0) w k)) = some (.inl none, MM (kp (a_setI I 31 0 0 0)) w k) := by
    refine (M_272p0 (a_setI I 31 0 0 0) w k (a := 0) (b := 0) (by omega) (by omega)).trans ?_
    unfold kp
    simp only [Nat.zero_add]
  refine (bk_n hc).trans ?_
  refine (e273_39 _ w k _ _).trans ?_
  have r0 : kp (a_setI I 31 0 0 0) 24 0 = I 24 0 := by rw [kp_24]; rfl
  have hL := M_273L (a_setI (kp (a_setI I 31 0 0 0)) 31 0 8 1) w k h40 rfl 3000 0 T (I 24 0) (by omega) (by omega) hO
  have p0 : pR (a_setI (kp (a_setI I 31 0 0 0)) 31 0 8 1) (I 24 0) = a_setI (kp (a_setI I 31 0 0 0)) 31 0 8 1 := by
    have y := pR_self (a_setI (kp (a_setI I 31 0 0 0)) 31 0 8 1)
    rw [m31_24, r0] at y
    exact y
  rw [p0] at hL
  refine hL.trans ?_
  have hb := back I (a_setI (kp (a_setI I 31 0 0 0)) 31 0 8 1) (m_fc q 3000 (I 24 0)) (fun x hx => kp_25 (a_setI I 31 0 0 0) hx) (fun x hx => hO.fc_q (Or.inr (Or.inr (Or.inr hx))) _ _ _ (by omega))
  rw [hb, ← r0, m_fix (kp (a_setI I 31 0 0 0)) _ (by rw [kp_31]; exact h8), r0]
theorem M_273f (I : aI) (w : aW) (k : aQ) (x : Int32) (h : ¬ (0 ≤ x ∧ x ≤ I 24 0 4 - 1)) : rn 273 (a_en 273 [.inr (.inr (some (31, 0))), .inl x] (MM I w k)) = some (.inl (some (.inl 0)), MM (a_setI I 31 0 0 1) w k) := by
  refine (e273_0 I w k _).trans ?_
  refine (bk_v (M_178 I w k _)).trans ?_
  refine (e273_6 I w k _ _ _).trans ?_
  exact zc_t (by rw [tf, if_neg h])
theorem M_274L (I : aI) (w : aW) (k : aQ) {m : Nat} (hm : m ≤ 1440) (d1 : Option aV) : ∀ (d j T : Nat) (r : aR), j + d = m → T + d < 99998 → Okt T r → rn 274 (23, [some (.inr (.inr (some (31, 0)))), d1, some (.inl (nI m)), some (.inl (nI j))], [], MM (pR I r) w k) = some (.inl (some (.inl (m_it (I 31 0 8) d r 19))), MM (a_cpI (pR I (m_it (I 31 0 8) d r)) 24 0 (fb_put (m_it (I 31 0 8) d r) (fun k => I 25 0 (0 + k)) 0 6388)) w k) := by
  intro d
  induction d with
  | zero =>
    intro j T r hj hT hO
    refine (e274_23 _ w k _ _ _).trans ?_
    refine (zc_t (nI_le (by omega) (by omega))).trans ?_
    refine (bk_n (M_272p1 _ w k (a := 0) (b := 0) (by omega) (by omega))).trans ?_
    exact e274_59 _ w k _ _ _ _
  | succ d ih =>
    intro j T r hj hT hO
    refine (e274_23 _ w k _ _ _).trans ?_
    refine (zc_f (nI_ge (by omega) (by omega))).trans ?_
    have hm : rn 245 (a_en 245 [.inr (.inr (some (31, 0)))] (MM (pR I r) w k)) = some (.inl none, MM (pR I (m_min (I 31 0 8) r)) w k) := by
      have y := M_245 (pR I r) w k (by rw [pR_row]; exact (hO.mv (by omega)).rm)
      rw [pR_row, pR_m, pR_pR] at y
      exact y
    refine (bk_n hm).trans ?_
    refine (e274_32 _ w k _ _ _).trans ?_
    rw [nI_1]
    exact ih (j + 1) (T + 1) _ (by omega) (by omega) (hO.min (by omega) _)
/-- frames archived after m minutes under policy p -/
noncomputable def m_tr (a8 : Int32) (m : Nat) (p : Int32) (r : aR) : Int32 := m_it a8 m (upd r 9 p) 19
theorem M_274 (I : aI) (w : aW) (k : aQ) {T m p : Nat} (hO : Okt T (I 24 0)) (hT : T ≤ 90000) (hm : m ≤ 1440) (hp : p ≤ 1) : rn 274 (a_en 274 [.inr (.inr (some (31, 0))), .inl (nI p), .inl (nI m)] (MM I w k)) = some (.inl (some (.inl (m_tr (I 31 0 8) m (nI p) (I 24 0)))), MM (kp I) w k) := by
  refine (e274_0 I w k _ _).trans ?_
  have hc : rn 272 (a_en 272 [.inr (.inr (some (24, 0))), .inl (nI 0), .inr (.inr (some (25, 0))), .inl (nI 0)] (MM I w k)) = some (.inl none, MM (kp I) w k) := by
    refine (M_272p0 I w k (a := 0) (b := 0) (by omega) (by omega)).trans ?_
    unfold kp
    simp only [Nat.zero_add]
  refine (bk_n hc).trans ?_
  refine (e274_13 _ w k _ _ _).trans ?_
  rw [pR_set, kp_24]
  have hO2 : Okt T (upd (I 24 0) 9 (nI p)) := by
    refine hO.par (by omega) (by omega) ?_
    obtain ⟨r1, r2, r3, r4, r5, r6⟩ := hO.1.2.2.2.2.2.1
    unfold Rp
    rw [upd_n _ _ _ (by omega), upd_n _ _ _ (by omega), upd_n _ _ _ (by omega), upd_s, upd_n _ _ _ (by omega), upd_n _ _ _ (by omega)]
    exact ⟨r1, r2, r3, ⟨p, hp, rfl⟩, r5, r6⟩
  have hL := M_274L (kp I) w k hm (some (.inl (nI p))) m 0 T (upd (I 24 0) 9 (nI p)) (by omega) (by omega) hO2
  refine hL.trans ?_
  have hb := back I (kp I) (m_it (kp I 31 0 8) m (upd (I 24 0) 9 (nI p))) (fun x hx => kp_25 I hx) (fun x hx => (Okt.it_q (Or.inr (Or.inr (Or.inr hx))) _ _ _ hO2 (by omega)).trans (upd_n _ _ _ (by omega)))
  have hf : ∀ z : aR, a_cpI (pR (kp I) z) 24 0 (I 24 0) = kp I := fun z => by
    have y := pR_self (kp I)
    rw [kp_24] at y
    exact (pR_pR (kp I) z (I 24 0)).trans y
  rw [hb, hf, kp_31]
  rfl
theorem M_275 (I : aI) (w : aW) (k : aQ) {T m : Nat} (hO : Okt T (I 24 0)) (hT : T ≤ 90000) (h1 : 1 ≤ m) (hm : m ≤ 1440) : rn 275 (a_en 275 [.inr (.inr (some (31, 0))), .inl (nI m)] (MM I w k)) = some (.inl (some (.inl (tf (¬ m_tr (I 31 0 8) m 1 (I 24 0) ≤ m_tr (I 31 0 8) m 0 (I 24 0))))), MM (kp (kp (a_setI I 31 0 0 0))) w k) := by
  have hb : 1 ≤ nI m ∧ nI m ≤ 1440 := ⟨nI_le h1 (by omega), nI_le (b := 1440) hm (by decide)⟩
  refine (e275_0 I w k _).trans ?_
  refine (bk_v (M_173 I w k _ _ _)).trans ?_
  refine (e275_9 I w k _ _).trans ?_
  refine (zc_f (by rw [tf, if_pos hb]; decide)).trans ?_
  have c1 := M_274 (a_setI I 31 0 0 0) w k (p := 1) hO hT hm (by omega)
  refine (bk_v c1).trans ?_
  refine (e275_35 _ w k _ _).trans ?_
  have c2 := M_274 (kp (a_setI I 31 0 0 0)) w k (T := T) (p := 0) (m := m) (by rw [kp_24]; exact hO) hT hm (by omega)
  refine (bk_v c2).trans ?_
  refine (e275_41 _ w k _ _ _ _).trans ?_
  rw [kp_24, kp_31]
  by_cases h : m_tr (I 31 0 8) m 1 (I 24 0) ≤ m_tr (I 31 0 8) m 0 (I 24 0)
  · rw [tf, if_neg (fun z => z h)]
    exact zc_t h
  · rw [tf, if_pos h]
    exact zc_f h
theorem M_275f (I : aI) (w : aW) (k : aQ) (x : Int32) (h : ¬ (1 ≤ x ∧ x ≤ 1440)) : rn 275 (a_en 275 [.inr (.inr (some (31, 0))), .inl x] (MM I w k)) = some (.inl (some (.inl 0)), MM (a_setI I 31 0 0 1) w k) := by
  refine (e275_0 I w k _).trans ?_
  refine (bk_v (M_173 I w k _ _ _)).trans ?_
  refine (e275_9 I w k _ _).trans ?_
  exact zc_t (by rw [tf, if_neg h])
