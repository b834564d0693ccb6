/-! ===== calls that only read ===== -/
theorem Hv_321 {I I1 : aI} {w w1 : aW} {k k1 : aQ} (p1 p2 : Int32) {P : Prop} [Decidable P] (h : rn 109 (a_en 109 [vX, .inl p1, .inl p2] (MM I w k)) = some (.inl (some (.inl (tf P))), MM I1 w1 k1)) : rn 321 (a_en 321 [vX, .inl p1, .inl p2, vO] (MM I w k)) = some (.inl (some (.inl 0)), MM I1 w1 (a_setL k1.1 32 0 0 (tf P).toInt64, k1.2)) := by
  refine (e321_0 I w k _ _).trans ((bk_v h).trans ((e321_8 I1 w1 k1 _ _ _ _ _ _).trans ?_))
  by_cases hP : P
  · rw [tft hP]; exact zc_f (by decide)
  · rw [tff hP]; exact zc_t rfl
section
variable {xs : Nat → Int32} {N n : Nat} {I : aI} {w : aW} {k : aQ}
theorem Gd.f (G : Gd xs N n I w k) : ∃ T, T ≤ 20000 ∧ Okt T (I 24 0) ∧ Rs (I 24 0) ∧ Rq (I 24 0) ∧ Rc (I 24 0) ∧ Ru (I 24 0) ∧ Rd (I 24 0) ∧ Mv (I 24 0) := by
  obtain ⟨T, hT, hO⟩ := G.1
  exact ⟨T, hT, hO, hO.rs, hO.rq, hO.rc (by omega), hO.ru, hO.rd (by omega), hO.mv (by omega)⟩
theorem st_un {r : aR} (hR : Rs r) {x : Int32} (h : 0 ≤ x ∧ x ≤ r 3 - 1) : ∃ s, s < nS r ∧ x = nI s := by
  rw [hR.1.1] at h
  have := hR.1.2
  exact z_un h (by omega)
theorem re_un {r : aR} (hQ : Rq r) {x : Int32} (h : 0 ≤ x ∧ x ≤ r 4 - 1) : ∃ s, s < nR r ∧ x = nI s := by
  rw [hQ.1] at h
  have := hQ.2
  exact z_un h (by omega)
theorem st_in {r : aR} (hR : Rs r) {s : Nat} (h : s < nS r) : 0 ≤ nI s ∧ nI s ≤ r 3 - 1 := by
  rw [hR.1.1]
  have := hR.1.2
  exact z_is h (by omega)
theorem re_in {r : aR} (hQ : Rq r) {s : Nat} (h : s < nR r) : 0 ≤ nI s ∧ nI s ≤ r 4 - 1 := by
  rw [hQ.1]
  have := hQ.2
  exact z_is h (by omega)
/-! direct -/
theorem K_2 (G : Gd xs N n I w k) : KD xs N n I w k 99 190 := kd_r G (v := I 24 0 3) ((e99_0 I w k).trans (by rw [G.2.1.1.1.2.2.2])) (M_190 I w k)
theorem K_21 (G : Gd xs N n I w k) : KD xs N n I w k 118 220 := kd_r G (v := I 24 0 4) ((e118_0 I w k).trans (by rw [G.2.1.1.2.2.1.1])) (M_220 I w k)
theorem K_24 (G : Gd xs N n I w k) : KD xs N n I w k 121 225 := by
  obtain ⟨T, hT, hO, hR, hQ, hC, hU, hD, hM⟩ := G.f
  exact kd_r G ((e121_0 I w k).trans ((bk_v (C_49 I w k G.2.1 hQ hU)).trans (e121_7 I w k _ _))) (M_225 I w k hQ)
theorem K_31 (G : Gd xs N n I w k) : KD xs N n I w k 128 235 := by
  obtain ⟨T, hT, hO, hR, hQ, hC, hU, hD, hM⟩ := G.f
  exact kd_r G ((e128_0 I w k).trans ((bk_v (C_47 I w k G.2.1 hQ)).trans (e128_7 I w k _ _))) (M_235 I w k hQ)
theorem K_32 (G : Gd xs N n I w k) : KD xs N n I w k 129 236 := by
  obtain ⟨T, hT, hO, hR, hQ, hC, hU, hD, hM⟩ := G.f
  exact kd_r G ((e129_0 I w k).trans ((bk_v (C_45 I w k G.2.1 hQ)).trans (e129_7 I w k _ _))) (M_236 I w k hQ)
theorem K_33 (G : Gd xs N n I w k) : KD xs N n I w k 130 246 := kd_r G (v := I 24 0 5) ((e130_0 I w k).trans (by rw [G.2.1.1.2.2.1.2.2.2])) (M_246 I w k)
theorem K_35 (G : Gd xs N n I w k) : KD xs N n I w k 132 250 := kd_r G (v := I 24 0 12) ((e132_0 I w k).trans (by rw [G.2.1.1.2.2.1.2.1])) (M_250 I w k)
theorem K_36 (G : Gd xs N n I w k) : KD xs N n I w k 133 251 := by
  obtain ⟨T, hT, hO, hR, hQ, hC, hU, hD, hM⟩ := G.f
  exact kd_r G ((e133_0 I w k).trans ((bk_v (C_57 I w k G.2.1 hC hM.2.2.2.1)).trans (e133_7 I w k _ _))) (M_251 I w k hC hM.rm.2.2.2.2.2)
theorem K_46 (G : Gd xs N n I w k) : KD xs N n I w k 143 261 := kd_r G (v := I 24 0 15) ((e143_0 I w k).trans (by rw [G.2.1.1.2.2.1.2.2.1])) (M_261 I w k)
theorem K_52 (G : Gd xs N n I w k) : KD xs N n I w k 149 271 := by
  obtain ⟨T, hT, hO, hR, hQ, hC, hU, hD, hM⟩ := G.f
  exact kd_r G ((e149_0 I w k).trans ((bk_v (C_51 I w k G.2.1 hQ hD)).trans (e149_7 I w k _ _))) (M_271 I w k hQ)
theorem K_51 (G : Gd xs N n I w k) : KD xs N n I w k 148 270 := by
  obtain ⟨T, hT, hO, hR, hQ, hC, hU, hD, hM⟩ := G.f
  obtain ⟨-, -, -, -, ⟨S, A, s1, s2, s3, s4, s5⟩, -⟩ := hO.2.2
  obtain ⟨J, j1, j2⟩ := C_148 I w k G.2.1 hQ hD s5
  have e24 : J 24 0 = I 24 0 := j2 24 0 (by omega)
  have m := M_270 J w k (by rw [e24]; exact hQ)
  rw [e24] at m
  refine ⟨_, J, w, k, _, j1, m, G.keep (fun s q j g => ?_) rfl G.rm⟩
  rw [set_n (fun z => g (Or.inl ⟨z.1, z.2.1, Or.inl z.2.2⟩))]
  exact congrFun (j2 s q (fun z => g (by unfold scr; omega))) j
/-! fractions -/
theorem dl_r {r : aR} (hD : Rd r) (T : Nat) (hT : ∀ q, q < nR r → ¬ r (68 + 8 * q + 6) = -1 → dN r q ≤ T) : ∀ (d j a : Nat), j + d = nR r → ∃ u, u ≤ a + T * d ∧ m_dl r d j (nI a) = nI u := by
  intro d
  induction d with
  | zero => intro j a _; exact ⟨a, by omega, rfl⟩
  | succ d ih =>
    intro j a hj
    unfold m_dl
    by_cases h6 : r (68 + 8 * j + 6) = -1
    · rw [if_pos h6, Int32.add_zero]
      obtain ⟨u, u1, u2⟩ := ih (j + 1) a (by omega)
      exact ⟨u, by rw [Nat.mul_succ]; omega, u2⟩
    · obtain ⟨v1, v2⟩ := dN_v hD (by omega) h6
      have e : r (68 + 8 * j + 6) - r (68 + 8 * j + 2) = nI (dN r j) := by
        rw [← v1]; unfold m_dy; rw [if_neg h6]
      rw [if_neg h6, e, nI_add]
      obtain ⟨u, u1, u2⟩ := ih (j + 1) (a + dN r j) (by omega)
      have := hT j (by omega) h6
      exact ⟨u, by rw [Nat.mul_succ]; omega, u2⟩
theorem Okt.del {T : Nat} {r : aR} (h : Okt T r) (hT : T ≤ 20000) : ∃ D, D < 2 ^ 31 ∧ m_del r = nI D ∧ (r 20 = 0 → D = 0) := by
  have hD := h.rd (show T < 2 ^ 30 by omega)
  have h40 := h.rq.2
  have hq : ∀ q, q < nR r → ¬ r (68 + 8 * q + 6) = -1 → dN r q ≤ T := fun q hq h6 => by
    obtain ⟨-, a, a1, a2, a3⟩ := h.2.2.2.2.2.1 q hq
    rcases a3 with y | ⟨d, d1, d2, d3⟩
    · exact absurd y h6
    · unfold dN m_dy
      rw [if_neg h6, d3, a2, z_sub (by omega), nI_clamp (by omega)]; omega
  obtain ⟨u, u1, u2⟩ := dl_r hD T hq (nR r) 0 0 (by omega)
  have h800 : T * nR r ≤ 20000 * 40 := Nat.mul_le_mul hT h40
  refine ⟨u, by omega, u2, fun h20 => ?_⟩
  obtain ⟨-, -, -, -, ⟨S, A, s1, s2, s3, s4, s5⟩, -⟩ := h.2.2
  have hc : cD r (nR r) = 0 := by
    rw [s5] at h20
    have := cD_le r (nR r)
    exact (nI_eq (b := 0) (by omega) (by omega)).mp h20
  have no : ∀ q, q < nR r → r (68 + 8 * q + 6) = -1 := fun q hq => Classical.byContradiction (fun z => by
    have h8 := fb_ct_mono (fun q => decide (¬ r (68 + 8 * q + 6) = -1)) (m := q + 1) (n := nR r) (by omega)
    rw [fb_ct_succ, decide_eq_true z, if_pos rfl] at h8
    have : fb_ct (fun q => decide (¬ r (68 + 8 * q + 6) = -1)) (nR r) = 0 := hc
    omega)
  have z : ∀ (d j : Nat) (a : Int32), j + d = nR r → m_dl r d j a = a := by
    intro d
    induction d with
    | zero => intro j a _; rfl
    | succ d ih =>
      intro j a hj
      unfold m_dl
      rw [if_pos (no j (by omega)), Int32.add_zero]
      exact ih (j + 1) a (by omega)
  have e := z (nR r) 0 (nI 0) (by omega)
  rw [u2] at e
  exact (nI_eq (by omega) (by omega)).mp e
theorem Okt.fg {T : Nat} {r : aR} (h : Okt T r) (hT : T ≤ 20000) : ∃ A S D, A < 2 ^ 31 ∧ S < 2 ^ 31 ∧ D < 2 ^ 31 ∧ r 19 = nI A ∧ r 16 = nI S ∧ r 20 = nI D := by
  obtain ⟨-, -, -, -, ⟨S, A, s1, s2, s3, s4, s5⟩, -⟩ := h.2.2
  have := cD_le r (nR r)
  have := h.rq.2
  exact ⟨A, S, cD r (nR r), by omega, by omega, by omega, s4, s3, s5⟩
theorem K_47 (G : Gd xs N n I w k) : KD xs N n I w k 144 264 := by
  obtain ⟨T, hT, hO, hR, hQ, hC, hU, hD, hM⟩ := G.f
  obtain ⟨D, d1, d2, d3⟩ := hO.del hT
  obtain ⟨A, S, F, x1, x2, x3, y1, y2, y3⟩ := hO.fg hT
  have c50 := C_50 I w k G.2.1 hQ
  rw [d2] at c50
  have c := (e144_0 I w k).trans ((bk_v c50).trans (e144_7 I w k _))
  rw [G.2.1.2.1 4 (by omega), y3] at c
  have c := c.trans ((bk_v (C_168 I w k d1 x3)).trans (e144_19 I w k _ _))
  refine kd_r G c ((M_264 I w k d1 x3 hQ d2 y3).trans ?_)
  rcases Nat.eq_zero_or_pos D with h | h
  · subst h; rw [if_pos rfl, Nat.zero_div]; rfl
  · rw [if_neg (by omega)]
theorem K_48 (G : Gd xs N n I w k) : KD xs N n I w k 145 265 := by
  obtain ⟨T, hT, hO, hR, hQ, hC, hU, hD, hM⟩ := G.f
  obtain ⟨D, d1, d2, d3⟩ := hO.del hT
  obtain ⟨A, S, F, x1, x2, x3, y1, y2, y3⟩ := hO.fg hT
  have c50 := C_50 I w k G.2.1 hQ
  rw [d2] at c50
  have c := e145_0 I w k
  rw [G.2.1.2.1 4 (by omega), y3] at c
  have m := M_265 I w k d1 x3 hQ d2 y3
  rcases Nat.eq_zero_or_pos F with hF | hF
  · subst hF
    have hD0 : D = 0 := d3 y3
    subst hD0
    rw [if_pos rfl] at m
    exact kd_r G (c.trans (zc_f (fun z => z rfl))) m
  · have c := c.trans ((zc_t (nI_ne0 hF x3)).trans ((bk_v c50).trans ((e145_26 I w k _ _ _ _).trans ((bk_v (C_168 I w k x3 d1)).trans (e145_29 I w k _ _ _)))))
    refine kd_r G c (m.trans ?_)
    rcases Nat.eq_zero_or_pos D with h | h
    · subst h; rw [if_pos rfl, Nat.gcd_zero_right, Nat.div_self hF]; rfl
    · rw [if_neg (by omega), Nat.gcd_comm D F]
theorem K_49 (G : Gd xs N n I w k) : KD xs N n I w k 146 266 := by
  obtain ⟨T, hT, hO, hR, hQ, hC, hU, hD, hM⟩ := G.f
  obtain ⟨A, S, F, x1, x2, x3, y1, y2, y3⟩ := hO.fg hT
  have c := e146_0 I w k
  rw [G.2.1.2.1 3 (by omega), G.2.1.2.1 0 (by omega), y1, show I 24 0 (16 + 0) = nI S from y2] at c
  have c := c.trans ((bk_v (C_168 I w k x1 x2)).trans (e146_21 I w k _ _))
  refine kd_r G c ((M_266 I w k x1 x2 y1 y2).trans ?_)
  rcases Nat.eq_zero_or_pos A with h | h
  · subst h; rw [if_pos rfl, Nat.zero_div]; rfl
  · rw [if_neg (by omega)]
theorem K_50 (G : Gd xs N n I w k) : KD xs N n I w k 147 267 := by
  obtain ⟨T, hT, hO, hR, hQ, hC, hU, hD, hM⟩ := G.f
  obtain ⟨A, S, F, x1, x2, x3, y1, y2, y3⟩ := hO.fg hT
  have c := e147_0 I w k
  rw [G.2.1.2.1 3 (by omega), G.2.1.2.1 0 (by omega), y1, show I 24 0 (16 + 0) = nI S from y2] at c
  have m := M_267 I w k x1 x2 y1 y2
  rcases Nat.eq_zero_or_pos A with h | h
  · subst h
    rw [if_pos rfl] at m
    exact kd_r G (c.trans (zc_f (fun z => z rfl))) m
  · rw [if_neg (by omega), Nat.gcd_comm A S] at m
    exact kd_r G (c.trans ((zc_t (nI_ne0 h x1)).trans ((bk_v (C_168 I w k x2 x1)).trans (e147_31 I w k _ _ _)))) m
/-! stations and orbits -/
theorem orb_un {o : Int32} (h : 0 ≤ o ∧ o ≤ 999) : ∃ O, O ≤ 999 ∧ o = nI O := by
  obtain ⟨m, -, m2, m3⟩ := z_nI (a := 0) (b := 999) h (by decide) (by decide)
  exact ⟨m, m2, m3⟩
theorem K_10 (G : Gd xs N n I w k) (a o : Int32) : KH xs N n I w k 319 204 [.inl a, .inl o] := by
  obtain ⟨T, hT, hO, hR, hQ, hC, hU, hD, hM⟩ := G.f
  by_cases h1 : 0 ≤ a ∧ a ≤ I 24 0 3 - 1
  · obtain ⟨s, hs, rfl⟩ := st_un hR h1
    have hs4 := hR.s4 hs
    have c0 := (e107_0 I w k (nI s) o).trans ((bk_n (C_162 I w k G.2.1 h1)).trans (e107_5 I w k _ _ _))
    by_cases h2 : 0 ≤ o ∧ o ≤ 999
    · obtain ⟨O, hO2, rfl⟩ := orb_un h2
      have c1 := c0.trans ((bk_n (C_160 I w k h2)).trans (e107_13 I w k _ _ _))
      rw [z_in hs4 (by decide), nI_clamp (by omega), cond_true] at c1
      have c2 := c1.trans ((bk_v (C_81 I w k G.2.1 hR hs (by omega))).trans (e107_38 I w k _ _ _ _))
      have m := fun k => M_204 I w k hR hs (nI O) h2
      by_cases h3 : m_lasts (I 24 0) s (nI O) = 0
      · have c3 := c2.trans (zc_f (fun z => z h3))
        rw [if_pos h3] at m
        exact kh_r G (Hv_319 _ _ c3) (m _)
      · have c3 := c2.trans ((zc_t h3).trans ((bk_v (C_80 I w k G.2.1 hs _)).trans (e107_57 I w k _ _ _ _ _)))
        rw [if_neg h3] at m
        exact kh_r G (Hv_319 _ _ c3) (m _)
    · exact kh_x (by decide) G (Hx_319_0 _ _ (c0.trans (bk_x (C_160f I w k h2) (by decide +kernel) (by decide +kernel)))) (M_204g I w _ hR hs o h2)
  · exact kh_x (by decide) G (Hx_319_2 _ _ ((e107_0 I w k a o).trans (bk_x (C_162f I w k G.2.1 h1) (by decide +kernel) (by decide +kernel)))) (M_204f I w _ a o h1)
theorem K_11 (G : Gd xs N n I w k) (a o : Int32) : KH xs N n I w k 320 205 [.inl a, .inl o] := by
  obtain ⟨T, hT, hO, hR, hQ, hC, hU, hD, hM⟩ := G.f
  by_cases h1 : 0 ≤ a ∧ a ≤ I 24 0 3 - 1
  · obtain ⟨s, hs, rfl⟩ := st_un hR h1
    have hs4 := hR.s4 hs
    have c0 := (e108_0 I w k (nI s) o).trans ((bk_n (C_162 I w k G.2.1 h1)).trans (e108_5 I w k _ _ _ _))
    by_cases h2 : 0 ≤ o ∧ o ≤ 999
    · obtain ⟨O, hO2, rfl⟩ := orb_un h2
      have c1 := c0.trans ((bk_n (C_160 I w k h2)).trans (e108_13 I w k _ _ _ _))
      rw [z_in hs4 (by decide), nI_clamp (by omega), cond_true] at c1
      have c2 := c1.trans ((bk_v (C_81 I w k G.2.1 hR hs (by omega))).trans (e108_38 I w k _ _ _ _ _))
      have m := fun k => M_205 I w k hR hs (nI O) h2
      by_cases h3 : m_lasts (I 24 0) s (nI O) = 0
      · have c3 := c2.trans (zc_f (fun z => z h3))
        rw [if_pos h3] at m
        exact kh_r G (Hv_320 _ _ c3) (m _)
      · have c3 := c2.trans ((zc_t h3).trans ((bk_v (C_80 I w k G.2.1 hs _)).trans (e108_61 I w k _ _ _ _ _ _)))
        rw [if_neg h3] at m
        exact kh_r G (Hv_320 _ _ c3) (m _)
    · exact kh_x (by decide) G (Hx_320_0 _ _ (c0.trans (bk_x (C_160f I w k h2) (by decide +kernel) (by decide +kernel)))) (M_205g I w _ hR hs o h2)
  · exact kh_x (by decide) G (Hx_320_2 _ _ ((e108_0 I w k a o).trans (bk_x (C_162f I w k G.2.1 h1) (by decide +kernel) (by decide +kernel)))) (M_205f I w _ a o h1)
theorem K_19 (G : Gd xs N n I w k) (a o : Int32) : KH xs N n I w k 328 206 [.inl a, .inl o] := by
  obtain ⟨T, hT, hO, hR, hQ, hC, hU, hD, hM⟩ := G.f
  by_cases h1 : 0 ≤ a ∧ a ≤ I 24 0 3 - 1
  · obtain ⟨s, hs, rfl⟩ := st_un hR h1
    have hs4 := hR.s4 hs
    have c0 := (e116_0 I w k (nI s) o).trans ((bk_n (C_162 I w k G.2.1 h1)).trans (e116_5 I w k _ _ _))
    by_cases h2 : 0 ≤ o ∧ o ≤ 999
    · obtain ⟨O, hO2, rfl⟩ := orb_un h2
      have c1 := c0.trans ((bk_n (C_160 I w k h2)).trans (e116_13 I w k _ _ _))
      rw [z_in hs4 (by decide), nI_clamp (by omega), cond_true, (G.2.1.2.2.1 s hs).1 4 (by omega)] at c1
      have c2 := c1.trans ((bk_v (C_81 I w k G.2.1 hR hs (by omega))).trans (e116_42 I w k _ _ _ _ _ _))
      rw [Int32.mul_comm] at c2
      exact kh_r G (Hv_328 _ _ c2) (M_206 I w _ hR hs (nI O) h2)
    · exact kh_x (by decide) G (Hx_328_0 _ _ (c0.trans (bk_x (C_160f I w k h2) (by decide +kernel) (by decide +kernel)))) (M_206g I w _ hR hs o h2)
  · exact kh_x (by decide) G (Hx_328_2 _ _ ((e116_0 I w k a o).trans (bk_x (C_162f I w k G.2.1 h1) (by decide +kernel) (by decide +kernel)))) (M_206f I w _ a o h1)
theorem tim_un {t : Int32} (h : 0 ≤ t ∧ t ≤ 99999) : ∃ U, U ≤ 99999 ∧ t = nI U := by
  obtain ⟨m, -, m2, m3⟩ := z_nI (a := 0) (b := 99999) h (by decide) (by decide)
  exact ⟨m, m2, m3⟩
theorem K_12 (G : Gd xs N n I w k) (a t : Int32) : KH xs N n I w k 321 207 [.inl a, .inl t] := by
  obtain ⟨T, hT, hO, hR, hQ, hC, hU, hD, hM⟩ := G.f
  by_cases h1 : 0 ≤ a ∧ a ≤ I 24 0 3 - 1
  · obtain ⟨s, hs, rfl⟩ := st_un hR h1
    have hs4 := hR.s4 hs
    have c0 := (e109_0 I w k (nI s) t).trans ((bk_n (C_162 I w k G.2.1 h1)).trans (e109_5 I w k _ _))
    have m := fun k => M_207 I w k hR hs t
    by_cases h2 : 0 ≤ t ∧ t ≤ 99999
    · obtain ⟨U, hU2, rfl⟩ := tim_un h2
      have c1 := c0.trans ((bk_n (C_160 I w k h2)).trans (e109_12 I w k _ _))
      rw [z_in hs4 (by decide), nI_clamp (by omega), cond_true] at c1
      have c2 := c1.trans ((bk_v (C_83 I w k G.2.1 hR hs (by omega))).trans (e109_35 I w k _ _ _ _))
      rw [tfb, cond_true] at c2
      exact kh_r G (Hv_321 _ _ c2) ((m _).trans (if_pos h2))
    · exact kh_x (by decide) G (Hx_321_0 _ _ (c0.trans (bk_x (C_160f I w k h2) (by decide +kernel) (by decide +kernel)))) ((m _).trans (if_neg h2))
  · exact kh_x (by decide) G (Hx_321_2 _ _ ((e109_0 I w k a t).trans (bk_x (C_162f I w k G.2.1 h1) (by decide +kernel) (by decide +kernel)))) (M_207f I w _ a t h1)
theorem K_18 (G : Gd xs N n I w k) (a t : Int32) : KH xs N n I w k 327 212 [.inl a, .inl t] := by
  obtain ⟨T, hT, hO, hR, hQ, hC, hU, hD, hM⟩ := G.f
  by_cases h1 : 0 ≤ a ∧ a ≤ I 24 0 3 - 1
  · obtain ⟨s, hs, rfl⟩ := st_un hR h1
    have hs4 := hR.s4 hs
    have c0 := (e115_0 I w k (nI s) t).trans ((bk_n (C_162 I w k G.2.1 h1)).trans (e115_5 I w k _ _))
    have m := fun k => M_212 I w k hR hs t
    by_cases h2 : 0 ≤ t ∧ t ≤ 99999
    · obtain ⟨U, hU2, rfl⟩ := tim_un h2
      have c1 := c0.trans ((bk_n (C_160 I w k h2)).trans (e115_12 I w k _ _))
      rw [z_in hs4 (by decide), nI_clamp (by omega), cond_true] at c1
      have c2 := c1.trans ((bk_v (C_89 I w k G.2.1 hR hs hU2)).trans (e115_35 I w k _ _ _ _))
      exact kh_r G (Hv_327 _ _ c2) ((m _).trans (if_pos h2))
    · exact kh_x (by decide) G (Hx_327_0 _ _ (c0.trans (bk_x (C_160f I w k h2) (by decide +kernel) (by decide +kernel)))) ((m _).trans (if_neg h2))
  · exact kh_x (by decide) G (Hx_327_2 _ _ ((e115_0 I w k a t).trans (bk_x (C_162f I w k G.2.1 h1) (by decide +kernel) (by decide +kernel)))) (M_212f I w _ a t h1)
theorem span_un {a b : Int32} (h : gSp a b) : ∃ F m, F ≤ 99999 ∧ 1 ≤ m ∧ m ≤ 1440 ∧ a = nI F ∧ b = nI m := by
  obtain ⟨F, -, f2, f3⟩ := z_nI (a := 0) (b := 99999) h.1 (by decide) (by decide)
  obtain ⟨m, m1, m2, m3⟩ := z_nI (a := 1) (b := 1440) h.2 (by decide) (by decide)
  exact ⟨F, m, f2, m1, m2, f3, m3⟩
theorem K_16 (G : Gd xs N n I w k) (a b : Int32) : KH xs N n I w k 325 210 [.inl a, .inl b] := by
  obtain ⟨T, hT, hO, hR, hQ, hC, hU, hD, hM⟩ := G.f
  by_cases h : gSp a b
  · obtain ⟨F, m, f1, m1, m2, rfl, rfl⟩ := span_un h
    exact kh_r G (Hv_325 _ _ ((e113_0 I w k _ _).trans ((bk_n (C_161 I w k h)).trans ((e113_5 I w k _ _).trans ((bk_v (C_92 I w k G.2.1 hR f1 m2)).trans (e113_17 I w k _ _ _ _)))))) (M_210 I w _ hR (nI F) m1 m2 h.1)
  · exact kh_x (by decide) G (Hx_325_0 _ _ ((e113_0 I w k a b).trans (bk_x (C_161f I w k h) (by decide +kernel) (by decide +kernel)))) (M_210f I w _ a b h)
theorem K_17 (G : Gd xs N n I w k) (a b : Int32) : KH xs N n I w k 326 211 [.inl a, .inl b] := by
  obtain ⟨T, hT, hO, hR, hQ, hC, hU, hD, hM⟩ := G.f
  by_cases h : gSp a b
  · obtain ⟨F, m, f1, m1, m2, rfl, rfl⟩ := span_un h
    exact kh_r G (Hv_326 _ _ ((e114_0 I w k _ _).trans ((bk_n (C_161 I w k h)).trans ((e114_5 I w k _ _).trans ((bk_v (C_93 I w k G.2.1 hR f1 m2)).trans (e114_17 I w k _ _ _ _)))))) (M_211 I w _ hR (nI F) m1 m2 h.1)
  · exact kh_x (by decide) G (Hx_326_0 _ _ ((e114_0 I w k a b).trans (bk_x (C_161f I w k h) (by decide +kernel) (by decide +kernel)))) (M_211f I w _ a b h)
theorem K_15 (G : Gd xs N n I w k) (x a b : Int32) : KH xs N n I w k 324 209 [.inl x, .inl a, .inl b] := by
  obtain ⟨T, hT, hO, hR, hQ, hC, hU, hD, hM⟩ := G.f
  by_cases hx : x = -1
  · subst hx
    have c0 := (e112_0 I w k (-1) a b).trans (zc_t rfl)
    by_cases h : gSp a b
    · obtain ⟨F, m, f1, m1, m2, rfl, rfl⟩ := span_un h
      exact kh_r G (Hv_324 _ _ _ (c0.trans ((bk_n (C_161 I w k h)).trans ((e112_15 I w k _ _ _).trans ((zc_f (fun z => z rfl)).trans ((bk_v (C_91 I w k G.2.1 hR f1 m2)).trans (e112_32 I w k _ _ _ _ _))))))) (M_209 I w _ hR (-1) (nI F) (Or.inl rfl) m1 m2 h.1)
    · exact kh_x (by decide) G (Hx_324_0 _ _ _ (c0.trans (bk_x (C_161f I w k h) (by decide +kernel) (by decide +kernel)))) (M_209g I w _ (-1) a b (Or.inl rfl) h)
  · have c0 := (e112_0 I w k x a b).trans (zc_f hx)
    by_cases h1 : 0 ≤ x ∧ x ≤ I 24 0 3 - 1
    · obtain ⟨s, hs, rfl⟩ := st_un hR h1
      have hs4 := hR.s4 hs
      have c1 := c0.trans ((bk_n (C_162 I w k G.2.1 h1)).trans (e112_10 I w k _ _ _))
      by_cases h : gSp a b
      · obtain ⟨F, m, f1, m1, m2, rfl, rfl⟩ := span_un h
        have c2 := c1.trans ((bk_n (C_161 I w k h)).trans ((e112_15 I w k _ _ _).trans (zc_t hx)))
        rw [z_in hs4 (by decide), nI_clamp (by omega), cond_true] at c2
        exact kh_r G (Hv_324 _ _ _ (c2.trans ((bk_v (C_90 I w k G.2.1 hR hs f1 m2)).trans (e112_59 I w k _ _ _ _ _)))) (M_209 I w _ hR (nI s) (nI F) (Or.inr h1) m1 m2 h.1)
      · exact kh_x (by decide) G (Hx_324_0 _ _ _ (c1.trans (bk_x (C_161f I w k h) (by decide +kernel) (by decide +kernel)))) (M_209g I w _ (nI s) a b (Or.inr h1) h)
    · exact kh_x (by decide) G (Hx_324_2 _ _ _ (c0.trans (bk_x (C_162f I w k G.2.1 h1) (by decide +kernel) (by decide +kernel)))) (M_209f I w _ x a b hx h1)
theorem K_14 (G : Gd xs N n I w k) (x : Int32) : KH xs N n I w k 323 217 [.inl x] := by
  obtain ⟨T, hT, hO, hR, hQ, hC, hU, hD, hM⟩ := G.f
  have h5 := hO.1.2.2.1
  by_cases h : 0 ≤ x ∧ x ≤ 2
  · exact kh_r G (Hv_323 _ ((e111_0 I w k x).trans ((bk_n (C_160 I w k h)).trans ((e111_6 I w k _).trans ((bk_v (C_59 I w k G.2.1 hM h5 (by omega) x)).trans (e111_14 I w k _ _ _)))))) (M_217 I w _ hM.rm h5 (by omega) x h)
  · exact kh_x (by decide) G (Hx_323_0 _ ((e111_0 I w k x).trans (bk_x (C_160f I w k h) (by decide +kernel) (by decide +kernel)))) (M_217f I w _ x h)
theorem K_13 (G : Gd xs N n I w k) (x y z : Int32) : KH xs N n I w k 322 214 [.inl x, .inl y, .inl z] := by
  obtain ⟨T, hT, hO, hR, hQ, hC, hU, hD, hM⟩ := G.f
  have c0 := e110_0 I w k x y z
  by_cases h1 : 0 ≤ x ∧ x ≤ 99999
  · have c1 := c0.trans ((bk_n (C_160 I w k h1)).trans (e110_7 I w k _ _ _))
    by_cases h2 : 0 ≤ y ∧ y ≤ 19
    · have c2 := c1.trans ((bk_n (C_160 I w k h2)).trans (e110_14 I w k _ _ _))
      by_cases h3 : 0 ≤ z ∧ z ≤ 3
      · obtain ⟨f, f1, rfl⟩ := tim_un h1
        obtain ⟨l, -, l1, rfl⟩ := z_nI (a := 0) (b := 19) h2 (by decide) (by decide)
        obtain ⟨e, -, e1, rfl⟩ := z_nI (a := 0) (b := 3) h3 (by decide) (by decide)
        have c3 := c2.trans ((bk_n (C_160 I w k h3)).trans ((e110_20 I w k _ _ _).trans ((bk_v (C_86 I w k G.2.1 hR f1 (by omega) (by omega))).trans (e110_33 I w k _ _ _ _ _))))
        obtain ⟨J, j1, j2⟩ := M_214 I w (a_setL k.1 32 0 0 (m_te (I 24 0) (nI e) (m_tb (I 24 0) l (nI f) (-1))).toInt64, k.2) hR f1 l1 e1
        refine ⟨0, _, I, w, _, J, Hv_322 _ _ _ c3, rfl, rfl, j1, ?_, fun _ => rfl, G.keep (fun s q j g => ?_) rfl G.rm⟩
        · rw [j2.2 0 0 (by omega), set_e]
        · by_cases hs : s = 31
          · subst hs
            by_cases hq : q = 0 ∧ (j = 5 ∨ j = 6 ∨ j = 7)
            · exact absurd (Or.inl ⟨rfl, hq.1, by omega⟩) g
            · rw [j2.2 q j hq, set_n (fun z => g (Or.inl ⟨rfl, z.2.1, Or.inl z.2.2⟩))]
          · rw [j2.1 s hs, set_n (by omega)]
      · exact kh_x (by decide) G (Hx_322_0 _ _ _ (c2.trans (bk_x (C_160f I w k h3) (by decide +kernel) (by decide +kernel)))) (M_214f I w _ x y z (fun q => h3 q.2.2))
    · exact kh_x (by decide) G (Hx_322_0 _ _ _ (c1.trans (bk_x (C_160f I w k h2) (by decide +kernel) (by decide +kernel)))) (M_214f I w _ x y z (fun q => h2 q.2.1))
  · exact kh_x (by decide) G (Hx_322_0 _ _ _ (c0.trans (bk_x (C_160f I w k h1) (by decide +kernel) (by decide +kernel)))) (M_214f I w _ x y z (fun q => h1 q.1))
end
