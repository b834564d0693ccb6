/-! ===== records, contacts, figures, setters ===== -/
section
variable {xs : Nat → Int32} {N n : Nat} {I : aI} {w : aW} {k : aQ}
theorem K_23 (G : Gd xs N n I w k) (a : Int32) : KH xs N n I w k 331 224 [.inl a] := by
  obtain ⟨T, hT, hO, hR, hQ, hC, hU, hD, hM⟩ := G.f
  by_cases h1 : 0 ≤ a ∧ a ≤ I 24 0 4 - 1
  · obtain ⟨q, hq, rfl⟩ := re_un hQ h1
    have h40 := hQ.q40 hq
    have c := (e120_0 I w k (nI q)).trans ((bk_n (C_163 I w k G.2.1 h1)).trans (e120_5 I w k _))
    rw [z_in h40 (by decide), nI_clamp (by omega), cond_true] at c
    exact kh_r G (Hv_331 _ (c.trans ((bk_v (C_48 I w k G.2.1 hq)).trans (e120_21 I w k _ _ _)))) (M_224 I w _ hQ hq)
  · exact kh_x (by decide) G (Hx_331_2 _ ((e120_0 I w k a).trans (bk_x (C_163f I w k G.2.1 h1) (by decide +kernel) (by decide +kernel)))) (M_224f I w _ a h1)
theorem K_25 (G : Gd xs N n I w k) (a : Int32) : KH xs N n I w k 332 226 [.inl a] := by
  obtain ⟨T, hT, hO, hR, hQ, hC, hU, hD, hM⟩ := G.f
  by_cases h1 : 0 ≤ a ∧ a ≤ I 24 0 4 - 1
  · obtain ⟨q, hq, rfl⟩ := re_un hQ h1
    have h40 := hQ.q40 hq
    have hk := G.2.1.2.2.2.2.1 q hq
    have hl : Lw (I 24 0 (68 + 8 * q + 3)) := (hO.2.1 q hq).lw
    have c := (e122_0 I w k (nI q)).trans ((bk_n (C_163 I w k G.2.1 h1)).trans (e122_5 I w k _))
    rw [z_in h40 (by decide), nI_clamp (by omega), cond_true] at c
    have c11 := C_11 I w k (Q := 40 * 0 + q) (by rw [hk.1.2.2.2]; exact hl)
    rw [hk.1.2.2.2] at c11
    exact kh_r G (Hv_332 _ (c.trans ((bk_v c11).trans (e122_17 I w k _ _ _)))) (M_226 I w _ hQ hq (fun z => hl.ex z))
  · exact kh_x (by decide) G (Hx_332_2 _ ((e122_0 I w k a).trans (bk_x (C_163f I w k G.2.1 h1) (by decide +kernel) (by decide +kernel)))) (M_226f I w _ a h1)
theorem K_26 (G : Gd xs N n I w k) (a b : Int32) : KH xs N n I w k 333 229 [.inl a, .inl b] := by
  obtain ⟨T, hT, hO, hR, hQ, hC, hU, hD, hM⟩ := G.f
  by_cases h1 : 0 ≤ a ∧ a ≤ I 24 0 4 - 1
  · obtain ⟨q, hq, rfl⟩ := re_un hQ h1
    have h40 := hQ.q40 hq
    have hk := G.2.1.2.2.2.2.1 q hq
    have c := (e123_0 I w k (nI q) b).trans ((bk_n (C_163 I w k G.2.1 h1)).trans (e123_5 I w k _ _ _))
    have m := fun k => M_229 I w k hQ hq b
    by_cases h2 : 0 ≤ b ∧ b ≤ 3
    · obtain ⟨e, -, e1, rfl⟩ := z_nI (a := 0) (b := 3) h2 (by decide) (by decide)
      have c := c.trans ((bk_n (C_160 I w k h2)).trans (e123_11 I w k _ _ _))
      rw [z_in h40 (by decide), nI_clamp (by omega), cond_true, hk.1.2.2.2, hk.2.1, hk.2.2.1.1, hk.2.2.1.2.1] at c
      have m := fun k => (m k).trans (if_pos h2)
      rcases (by omega : e = 0 ∨ e = 1 ∨ e = 2 ∨ e = 3) with rfl | rfl | rfl | rfl
      · exact kh_r G (Hv_333 _ _ (c.trans (zc_t (by decide)))) (m _)
      · exact kh_r G (Hv_333 _ _ (c.trans ((zc_f (by decide)).trans (zc_t (by decide))))) (m _)
      · exact kh_r G (Hv_333 _ _ (c.trans ((zc_f (by decide)).trans ((zc_f (by decide)).trans (zc_t (by decide)))))) (m _)
      · exact kh_r G (Hv_333 _ _ (c.trans ((zc_f (by decide)).trans ((zc_f (by decide)).trans (zc_f (by decide)))))) (m _)
    · exact kh_x (by decide) G (Hx_333_0 _ _ (c.trans (bk_x (C_160f I w k h2) (by decide +kernel) (by decide +kernel)))) ((m _).trans (if_neg h2))
  · exact kh_x (by decide) G (Hx_333_2 _ _ ((e123_0 I w k a b).trans (bk_x (C_163f I w k G.2.1 h1) (by decide +kernel) (by decide +kernel)))) (M_229f I w _ a b h1)
theorem K_27 (G : Gd xs N n I w k) (a b : Int32) : KH xs N n I w k 334 230 [.inl a, .inl b] := by
  obtain ⟨T, hT, hO, hR, hQ, hC, hU, hD, hM⟩ := G.f
  by_cases h1 : 0 ≤ a ∧ a ≤ I 24 0 4 - 1
  · obtain ⟨q, hq, rfl⟩ := re_un hQ h1
    have h40 := hQ.q40 hq
    have hk := G.2.1.2.2.2.2.1 q hq
    obtain ⟨⟨z, z1, z2, -⟩, -⟩ := hO.2.1 q hq
    have c := (e124_0 I w k (nI q) b).trans ((bk_n (C_163 I w k G.2.1 h1)).trans (e124_5 I w k _ _ _))
    rw [z_in h40 (by decide), nI_clamp (by omega), cond_true, hk.1.1] at c
    have c := c.trans ((bk_v (C_159 I w k _ _ _)).trans (e124_26 I w k _ _ _ _ _))
    by_cases h2 : 0 ≤ b ∧ b ≤ I 24 0 (68 + 8 * q + 0) - 1
    · have h3 := h2
      rw [z2] at h3
      obtain ⟨f, hf, rfl⟩ := z_un h3 (by omega)
      have c := c.trans (zc_t (tff (fun z => z h2)))
      rw [z_in (show f < 24 by omega) (by decide), nI_clamp (by omega), cond_true, hk.2.2.2 f (by omega)] at c
      exact kh_r G (Hv_334 _ _ c) (M_230 I w _ hQ hq z2 hf z1)
    · have c := c.trans (zc_f (show ¬ tf (¬ (0 ≤ b ∧ b ≤ I 24 0 (68 + 8 * q + 0) - 1)) = 0 by rw [tft h2]; decide))
      exact kh_x (by decide) G (Hx_334_2 _ _ c) (M_230g I w _ b hQ hq h2)
  · exact kh_x (by decide) G (Hx_334_2 _ _ ((e124_0 I w k a b).trans (bk_x (C_163f I w k G.2.1 h1) (by decide +kernel) (by decide +kernel)))) (M_230f I w _ a b h1)
theorem K_28 (G : Gd xs N n I w k) (a : Int32) : KH xs N n I w k 335 232 [.inl a] := by
  obtain ⟨T, hT, hO, hR, hQ, hC, hU, hD, hM⟩ := G.f
  by_cases h1 : 0 ≤ a ∧ a ≤ I 24 0 4 - 1
  · obtain ⟨q, hq, rfl⟩ := re_un hQ h1
    have h40 := hQ.q40 hq
    have hk := G.2.1.2.2.2.2.1 q hq
    have c := (e125_0 I w k (nI q)).trans ((bk_n (C_163 I w k G.2.1 h1)).trans (e125_5 I w k _))
    rw [z_in h40 (by decide), nI_clamp (by omega), cond_true, hk.2.2.1.2.2.1] at c
    exact kh_r G (Hv_335 _ c) (M_232 I w _ hQ hq)
  · exact kh_x (by decide) G (Hx_335_2 _ ((e125_0 I w k a).trans (bk_x (C_163f I w k G.2.1 h1) (by decide +kernel) (by decide +kernel)))) (M_232f I w _ a h1)
theorem K_29 (G : Gd xs N n I w k) (a : Int32) : KH xs N n I w k 336 233 [.inl a] := by
  obtain ⟨T, hT, hO, hR, hQ, hC, hU, hD, hM⟩ := G.f
  by_cases h1 : 0 ≤ a ∧ a ≤ I 24 0 4 - 1
  · obtain ⟨q, hq, rfl⟩ := re_un hQ h1
    have h40 := hQ.q40 hq
    have hk := G.2.1.2.2.2.2.1 q hq
    have c := (e126_0 I w k (nI q)).trans ((bk_n (C_163 I w k G.2.1 h1)).trans (e126_5 I w k _))
    rw [z_in h40 (by decide), nI_clamp (by omega), cond_true, hk.2.2.1.2.2.2] at c
    exact kh_r G (Hv_336 _ c) (M_233 I w _ hQ hq)
  · exact kh_x (by decide) G (Hx_336_2 _ ((e126_0 I w k a).trans (bk_x (C_163f I w k G.2.1 h1) (by decide +kernel) (by decide +kernel)))) (M_233f I w _ a h1)
theorem K_30 (G : Gd xs N n I w k) (a : Int32) : KH xs N n I w k 337 234 [.inl a] := by
  obtain ⟨T, hT, hO, hR, hQ, hC, hU, hD, hM⟩ := G.f
  have m := fun k => M_234 I w k hQ a
  by_cases h : 0 ≤ a ∧ a ≤ 9
  · exact kh_r G (Hv_337 _ ((e127_0 I w k a).trans ((bk_n (C_160 I w k h)).trans ((e127_7 I w k _).trans ((bk_v (C_46 I w k G.2.1 hQ a)).trans (e127_15 I w k _ _ _)))))) ((m _).trans (if_pos h))
  · exact kh_x (by decide) G (Hx_337_0 _ ((e127_0 I w k a).trans (bk_x (C_160f I w k h) (by decide +kernel) (by decide +kernel)))) ((m _).trans (if_neg h))
theorem K_37 (G : Gd xs N n I w k) (a : Int32) : KH xs N n I w k 339 252 [.inl a] := by
  obtain ⟨T, hT, hO, hR, hQ, hC, hU, hD, hM⟩ := G.f
  by_cases h1 : gK (I 24 0) a
  · obtain ⟨c, c1, c2, rfl⟩ := gK_un hC h1
    have hC2 := hC.2
    have hk := G.2.1.2.2.2.2.2 c c1 c2
    have d := (e134_0 I w k (nI c)).trans ((bk_n (C_164 I w k G.2.1 hC h1)).trans ((e134_5 I w k _).trans ((bk_v (C_55 I w k (i := 0) (c := c) (by omega))).trans (e134_13 I w k _ _ _))))
    rw [hk.2.1.1] at d
    exact kh_r G (Hv_339 _ d) (M_252 I w _ hC c1 c2)
  · exact kh_x (by decide) G (Hx_339_2 _ ((e134_0 I w k a).trans (bk_x (C_164f I w k G.2.1 hC h1) (by decide +kernel) (by decide +kernel)))) (M_252f I w _ hC a h1)
theorem K_38 (G : Gd xs N n I w k) (a : Int32) : KH xs N n I w k 340 253 [.inl a] := by
  obtain ⟨T, hT, hO, hR, hQ, hC, hU, hD, hM⟩ := G.f
  by_cases h1 : gK (I 24 0) a
  · obtain ⟨c, c1, c2, rfl⟩ := gK_un hC h1
    have hC2 := hC.2
    have hk := G.2.1.2.2.2.2.2 c c1 c2
    have d := (e135_0 I w k (nI c)).trans ((bk_n (C_164 I w k G.2.1 hC h1)).trans ((e135_5 I w k _).trans ((bk_v (C_55 I w k (i := 0) (c := c) (by omega))).trans (e135_13 I w k _ _ _))))
    rw [hk.2.1.2.1] at d
    exact kh_r G (Hv_340 _ d) (M_253 I w _ hC c1 c2)
  · exact kh_x (by decide) G (Hx_340_2 _ ((e135_0 I w k a).trans (bk_x (C_164f I w k G.2.1 hC h1) (by decide +kernel) (by decide +kernel)))) (M_253f I w _ hC a h1)
theorem K_39 (G : Gd xs N n I w k) (a : Int32) : KH xs N n I w k 341 254 [.inl a] := by
  obtain ⟨T, hT, hO, hR, hQ, hC, hU, hD, hM⟩ := G.f
  by_cases h1 : gK (I 24 0) a
  · obtain ⟨c, c1, c2, rfl⟩ := gK_un hC h1
    have hC2 := hC.2
    have hk := G.2.1.2.2.2.2.2 c c1 c2
    have d := (e136_0 I w k (nI c)).trans ((bk_n (C_164 I w k G.2.1 hC h1)).trans ((e136_5 I w k _).trans ((bk_v (C_55 I w k (i := 0) (c := c) (by omega))).trans (e136_13 I w k _ _ _))))
    rw [hk.2.1.2.2.1] at d
    exact kh_r G (Hv_341 _ d) (M_254 I w _ hC c1 c2)
  · exact kh_x (by decide) G (Hx_341_2 _ ((e136_0 I w k a).trans (bk_x (C_164f I w k G.2.1 hC h1) (by decide +kernel) (by decide +kernel)))) (M_254f I w _ hC a h1)
theorem K_40 (G : Gd xs N n I w k) (a : Int32) : KH xs N n I w k 342 255 [.inl a] := by
  obtain ⟨T, hT, hO, hR, hQ, hC, hU, hD, hM⟩ := G.f
  by_cases h1 : gK (I 24 0) a
  · obtain ⟨c, c1, c2, rfl⟩ := gK_un hC h1
    have hC2 := hC.2
    have hk := G.2.1.2.2.2.2.2 c c1 c2
    have d := (e137_0 I w k (nI c)).trans ((bk_n (C_164 I w k G.2.1 hC h1)).trans ((e137_5 I w k _).trans ((bk_v (C_55 I w k (i := 0) (c := c) (by omega))).trans (e137_13 I w k _ _ _))))
    rw [hk.2.1.2.2.2] at d
    exact kh_r G (Hv_342 _ d) (M_255 I w _ hC c1 c2)
  · exact kh_x (by decide) G (Hx_342_2 _ ((e137_0 I w k a).trans (bk_x (C_164f I w k G.2.1 hC h1) (by decide +kernel) (by decide +kernel)))) (M_255f I w _ hC a h1)
theorem K_41 (G : Gd xs N n I w k) (a y b : Int32) : KH xs N n I w k 343 256 [.inl a, .inl y, .inl b] := by
  obtain ⟨T, hT, hO, hR, hQ, hC, hU, hD, hM⟩ := G.f
  by_cases h1 : gK (I 24 0) a
  · obtain ⟨c, c1, c2, rfl⟩ := gK_un hC h1
    have hC2 := hC.2
    have hk := G.2.1.2.2.2.2.2 c c1 c2
    have d := (e138_0 I w k (nI c) y b).trans ((bk_n (C_164 I w k G.2.1 hC h1)).trans (e138_5 I w k _ _ _))
    by_cases h2 : 0 ≤ y ∧ y ≤ I 24 0 4 - 1
    · obtain ⟨q, hq, rfl⟩ := re_un hQ h2
      have h40 := hQ.q40 hq
      have d := d.trans ((bk_n (C_163 I w k G.2.1 h2)).trans ((e138_10 I w k _ _ _).trans ((bk_v (C_55 I w k (i := 0) (c := c) (by omega))).trans (e138_18 I w k _ _ _ _ _))))
      have m := fun k => M_256 I w k hC hQ c1 c2 hq b
      by_cases hb : b = 0
      · have e3 := (e3_0 I w k (60 * 0 + c % 60) b).trans (zc_t hb)
        have d := d.trans ((bk_v e3).trans (e138_22 I w k _ _ _ _ _))
        rw [z_in h40 (by decide), nI_clamp (by omega), cond_true, (hk.2.2 q h40).1, Nat.add_assoc] at d
        rw [if_pos hb] at m
        exact kh_r G (Hv_343 _ _ _ d) (m _)
      · have e3 := (e3_0 I w k (60 * 0 + c % 60) b).trans (zc_f hb)
        have d := d.trans ((bk_v e3).trans (e138_22a I w k _ _ _ _ _))
        rw [z_in h40 (by decide), nI_clamp (by omega), cond_true, (hk.2.2 q h40).2, Nat.add_assoc] at d
        rw [if_neg hb] at m
        exact kh_r G (Hv_343 _ _ _ d) (m _)
    · exact kh_x (by decide) G (Hx_343_2 _ _ _ (d.trans (bk_x (C_163f I w k G.2.1 h2) (by decide +kernel) (by decide +kernel)))) (M_256f I w _ hC (nI c) y b (fun z => h2 z.2))
  · exact kh_x (by decide) G (Hx_343_2 _ _ _ ((e138_0 I w k a y b).trans (bk_x (C_164f I w k G.2.1 hC h1) (by decide +kernel) (by decide +kernel)))) (M_256f I w _ hC a y b (fun z => h1 z.1))
theorem K_42 (G : Gd xs N n I w k) (a b : Int32) : KH xs N n I w k 344 257 [.inl a, .inl b] := by
  obtain ⟨T, hT, hO, hR, hQ, hC, hU, hD, hM⟩ := G.f
  by_cases h1 : gK (I 24 0) a
  · obtain ⟨c, c1, c2, rfl⟩ := gK_un hC h1
    have hC2 := hC.2
    exact kh_r G (Hv_344 _ _ ((e139_0 I w k (nI c) b).trans ((bk_n (C_164 I w k G.2.1 hC h1)).trans ((e139_5 I w k _ _).trans ((bk_v (C_55 I w k (i := 0) (c := c) (by omega))).trans ((e139_13 I w k _ _ _ _).trans ((bk_v (C_4 I w k G.2.1 hQ hO.rz c1 c2 b)).trans (e139_17 I w k _ _ _ _)))))))) (M_257 I w _ hC hQ c1 c2 b)
  · exact kh_x (by decide) G (Hx_344_2 _ _ ((e139_0 I w k a b).trans (bk_x (C_164f I w k G.2.1 hC h1) (by decide +kernel) (by decide +kernel)))) (M_257f I w _ hC a b h1)
theorem K_43 (G : Gd xs N n I w k) (a : Int32) : KH xs N n I w k 345 258 [.inl a] := by
  obtain ⟨T, hT, hO, hR, hQ, hC, hU, hD, hM⟩ := G.f
  by_cases h1 : 0 ≤ a ∧ a ≤ I 24 0 3 - 1
  · obtain ⟨s, hs, rfl⟩ := st_un hR h1
    exact kh_r G (Hv_345 _ ((e140_0 I w k (nI s)).trans ((bk_n (C_162 I w k G.2.1 h1)).trans ((e140_5 I w k _).trans ((bk_v (C_58 I w k G.2.1 hC (nI s))).trans (e140_13 I w k _ _ _)))))) (M_258 I w _ hC hR hs)
  · exact kh_x (by decide) G (Hx_345_2 _ ((e140_0 I w k a).trans (bk_x (C_162f I w k G.2.1 h1) (by decide +kernel) (by decide +kernel)))) (M_258f I w _ a h1)
theorem K_44 (G : Gd xs N n I w k) (a : Int32) : KH xs N n I w k 346 259 [.inl a] := by
  by_cases h : 0 ≤ a ∧ a ≤ 7
  · obtain ⟨j, -, j1, rfl⟩ := z_nI (a := 0) (b := 7) h (by decide) (by decide)
    have c := (e141_0 I w k (nI j)).trans ((bk_n (C_160 I w k h)).trans (e141_7 I w k _))
    rw [z_in (show j < 8 by omega) (by decide), nI_clamp (by omega), cond_true, G.2.1.2.1 j (by omega)] at c
    exact kh_r G (Hv_346 _ c) (M_259 I w _ (by omega))
  · exact kh_x (by decide) G (Hx_346_0 _ ((e141_0 I w k a).trans (bk_x (C_160f I w k h) (by decide +kernel) (by decide +kernel)))) (M_259f I w _ a h)
theorem K_45 (G : Gd xs N n I w k) (a b : Int32) : KH xs N n I w k 347 260 [.inl a, .inl b] := by
  obtain ⟨T, hT, hO, hR, hQ, hC, hU, hD, hM⟩ := G.f
  by_cases h1 : 0 ≤ a ∧ a ≤ I 24 0 3 - 1
  · obtain ⟨s, hs, rfl⟩ := st_un hR h1
    have hs4 := hR.s4 hs
    have c := (e142_0 I w k (nI s) b).trans ((bk_n (C_162 I w k G.2.1 h1)).trans (e142_5 I w k _ _))
    by_cases h2 : 0 ≤ b ∧ b ≤ 4
    · obtain ⟨j, -, j1, rfl⟩ := z_nI (a := 0) (b := 4) h2 (by decide) (by decide)
      have c := c.trans ((bk_n (C_160 I w k h2)).trans (e142_11 I w k _ _))
      rw [z_in hs4 (by decide), z_in (show j < 5 by omega) (by decide), nI_clamp (by omega), nI_clamp (by omega), cond_true, cond_true, (G.2.1.2.2.1 s hs).2.2.2 j (by omega), Nat.add_assoc] at c
      exact kh_r G (Hv_347 _ _ c) (M_260 I w _ hR hs (by omega))
    · exact kh_x (by decide) G (Hx_347_0 _ _ (c.trans (bk_x (C_160f I w k h2) (by decide +kernel) (by decide +kernel)))) (M_260g I w _ hR hs b h2)
  · exact kh_x (by decide) G (Hx_347_2 _ _ ((e142_0 I w k a b).trans (bk_x (C_162f I w k G.2.1 h1) (by decide +kernel) (by decide +kernel)))) (M_260f I w _ a b h1)
/-! setters -/
theorem fr_f {I1 : aI} (h : Fr 0 I I1) : ∀ s q j, ¬ own 0 s q → ¬ scr w s q j → I1 s q j = I s q j := fun s q j g _ => congrFun (h s q g) j
theorem K_0 (G : Gd xs N n I w k) (a b c : Int32) : KH xs N n I w k 310 187 [.inl a, .inl b, .inl c] := by
  obtain ⟨T, hT, hO, hR, hQ, hC, hU, hD, hM⟩ := G.f
  have d := e97_0 I w k a b c
  by_cases h1 : 60 ≤ a ∧ a ≤ 200
  · have d := d.trans ((bk_n (C_160 I w k h1)).trans (e97_9 I w k _ _ _ _))
    by_cases h2 : 0 ≤ b ∧ b ≤ 359
    · have d := d.trans ((bk_n (C_160 I w k h2)).trans (e97_17 I w k _ _ _ _))
      by_cases h3 : 0 ≤ c ∧ c ≤ 359
      · have d := d.trans ((bk_n (C_160 I w k h3)).trans ((e97_25 I w k _ _ _ _).trans ((bk_n (e74_0 I w k _ _ _ _)).trans (e97_50 _ w k _ _ _ _ _))))
        rw [G.2.1.1.1.1] at d
        have o9 : own 0 9 0 := rfl
        exact kh_c G (Hv_310 _ _ _ d) (Sim_orb G.2.1 a b c) (fr_f (((Fr.set o9 I 0 a).trans (Fr.set o9 _ 1 b)).trans (Fr.set o9 _ 2 c))) hT (hO.orb ⟨h1, h2, h3⟩) ((M_187 _ w _ a b c).trans (if_pos ⟨h1, h2, h3⟩))
      · exact kh_x (by decide) G (Hx_310_0 _ _ _ (d.trans (bk_x (C_160f I w k h3) (by decide +kernel) (by decide +kernel)))) ((M_187 I w _ a b c).trans (if_neg (fun z => h3 z.2.2)))
    · exact kh_x (by decide) G (Hx_310_0 _ _ _ (d.trans (bk_x (C_160f I w k h2) (by decide +kernel) (by decide +kernel)))) ((M_187 I w _ a b c).trans (if_neg (fun z => h2 z.2.1)))
  · exact kh_x (by decide) G (Hx_310_0 _ _ _ (d.trans (bk_x (C_160f I w k h1) (by decide +kernel) (by decide +kernel)))) ((M_187 I w _ a b c).trans (if_neg (fun z => h1 z.1)))
theorem K_3 (G : Gd xs N n I w k) (a b : Int32) : KH xs N n I w k 312 191 [.inl a, .inl b] := by
  obtain ⟨T, hT, hO, hR, hQ, hC, hU, hD, hM⟩ := G.f
  by_cases h1 : 0 ≤ a ∧ a ≤ I 24 0 3 - 1
  · obtain ⟨s, hs, rfl⟩ := st_un hR h1
    have hs4 := hR.s4 hs
    have c := (e100_0 I w k (nI s) b).trans ((bk_n (C_162 I w k G.2.1 h1)).trans (e100_5 I w k _ _ _ _))
    by_cases h2 : 0 ≤ b ∧ b ≤ 99
    · have c := c.trans ((bk_n (C_160 I w k h2)).trans (e100_12 I w k _ _ _ _))
      rw [z_in hs4 (by decide), nI_clamp (by omega), cond_true, (G.2.1.2.2.1 s hs).2.1 rfl] at c
      exact kh_c G (Hv_312 _ _ c) (Sim_los G.2.1 hR.1.2 hs b) (fr_f (Fr.set (show own 0 18 (4 * 0 + s) from own_s hs4) I 5 b)) hT (hO.los hs h2) ((M_191 (a_setI I 18 (4 * 0 + s) 5 b) w _ b hR hs).trans (if_pos h2))
    · exact kh_x (by decide) G (Hx_312_0 _ _ (c.trans (bk_x (C_160f I w k h2) (by decide +kernel) (by decide +kernel)))) ((M_191 I w _ b hR hs).trans (if_neg h2))
  · exact kh_x (by decide) G (Hx_312_2 _ _ ((e100_0 I w k a b).trans (bk_x (C_162f I w k G.2.1 h1) (by decide +kernel) (by decide +kernel)))) (M_191f I w _ a b h1)
theorem Rp_1 {r : aR} (h : Rp r) {x v : Nat} (hx : (x = 10 ∧ v ≤ 999) ∨ (x = 11 ∧ 1 ≤ v ∧ v ≤ 9999) ∨ (x = 9 ∧ v ≤ 1) ∨ (x = 8 ∧ 24 ≤ v ∧ v ≤ 960)) : Rp (upd r x (nI v)) := by
  obtain ⟨y1, y2, y3, y4, y5, y6⟩ := h
  rcases hx with ⟨rfl, a⟩ | ⟨rfl, a, b⟩ | ⟨rfl, a⟩ | ⟨rfl, a, b⟩
  · exact ⟨by rw [upd_n _ _ _ (by omega)]; exact y1, by rw [upd_n _ _ _ (by omega)]; exact y2, by rw [upd_n _ _ _ (by omega)]; exact y3, by rw [upd_n _ _ _ (by omega)]; exact y4, ⟨v, a, upd_s _ _ _⟩, by rw [upd_n _ _ _ (by omega)]; exact y6⟩
  · exact ⟨by rw [upd_n _ _ _ (by omega)]; exact y1, by rw [upd_n _ _ _ (by omega)]; exact y2, by rw [upd_n _ _ _ (by omega)]; exact y3, by rw [upd_n _ _ _ (by omega)]; exact y4, by rw [upd_n _ _ _ (by omega)]; exact y5, ⟨v, a, b, upd_s _ _ _⟩⟩
  · exact ⟨by rw [upd_n _ _ _ (by omega)]; exact y1, by rw [upd_n _ _ _ (by omega)]; exact y2, by rw [upd_n _ _ _ (by omega)]; exact y3, ⟨v, a, upd_s _ _ _⟩, by rw [upd_n _ _ _ (by omega)]; exact y5, by rw [upd_n _ _ _ (by omega)]; exact y6⟩
  · exact ⟨by rw [upd_n _ _ _ (by omega)]; exact y1, by rw [upd_n _ _ _ (by omega)]; exact y2, ⟨v, a, b, upd_s _ _ _⟩, by rw [upd_n _ _ _ (by omega)]; exact y4, by rw [upd_n _ _ _ (by omega)]; exact y5, by rw [upd_n _ _ _ (by omega)]; exact y6⟩
theorem K_4 (G : Gd xs N n I w k) (a : Int32) : KH xs N n I w k 313 193 [.inl a] := by
  obtain ⟨T, hT, hO, hR, hQ, hC, hU, hD, hM⟩ := G.f
  have d := e101_0 I w k a
  by_cases h1 : 0 ≤ a ∧ a ≤ 999
  · have d := d.trans ((bk_n (C_160 I w k h1)).trans (e101_8 I w k _ _))
    rw [G.2.1.1.2.1.1] at d
    obtain ⟨v, v1, v2, v3⟩ := z_nI (a := 0) (b := 999) h1 (by decide) (by decide)
    have hp : Rp (upd (I 24 0) 10 a) := by rw [v3]; exact Rp_1 hO.1.2.2.2.2.2.1 (by omega)
    exact kh_c G (Hv_313 _ d) (Sim_ru0 G.2.1 a) (fr_f (Fr.set (show own 0 10 0 from rfl) I 0 a)) hT (hO.par (by omega) (by omega) hp) ((M_193 _ w _ a).trans (if_pos h1))
  · exact kh_x (by decide) G (Hx_313_0 _ (d.trans (bk_x (C_160f I w k h1) (by decide +kernel) (by decide +kernel)))) ((M_193 I w _ a).trans (if_neg h1))
theorem K_5 (G : Gd xs N n I w k) (a : Int32) : KH xs N n I w k 314 194 [.inl a] := by
  obtain ⟨T, hT, hO, hR, hQ, hC, hU, hD, hM⟩ := G.f
  have d := e102_0 I w k a
  by_cases h1 : 1 ≤ a ∧ a ≤ 9999
  · have d := d.trans ((bk_n (C_160 I w k h1)).trans (e102_8 I w k _ _))
    rw [G.2.1.1.2.1.2.1] at d
    obtain ⟨v, v1, v2, v3⟩ := z_nI (a := 1) (b := 9999) h1 (by decide) (by decide)
    have hp : Rp (upd (I 24 0) 11 a) := by rw [v3]; exact Rp_1 hO.1.2.2.2.2.2.1 (by omega)
    exact kh_c G (Hv_314 _ d) (Sim_ru1 G.2.1 a) (fr_f (Fr.set (show own 0 10 0 from rfl) I 1 a)) hT (hO.par (by omega) (by omega) hp) ((M_194 _ w _ a).trans (if_pos h1))
  · exact kh_x (by decide) G (Hx_314_0 _ (d.trans (bk_x (C_160f I w k h1) (by decide +kernel) (by decide +kernel)))) ((M_194 I w _ a).trans (if_neg h1))
theorem K_8 (G : Gd xs N n I w k) (a : Int32) : KH xs N n I w k 317 195 [.inl a] := by
  obtain ⟨T, hT, hO, hR, hQ, hC, hU, hD, hM⟩ := G.f
  have d := e105_0 I w k a
  by_cases h1 : 0 ≤ a ∧ a ≤ 1
  · have d := d.trans ((bk_n (C_160 I w k h1)).trans (e105_6 I w k _ _))
    rw [G.2.1.1.2.1.2.2.2.2.2] at d
    obtain ⟨v, v1, v2, v3⟩ := z_nI (a := 0) (b := 1) h1 (by decide) (by decide)
    have hp : Rp (upd (I 24 0) 9 a) := by rw [v3]; exact Rp_1 hO.1.2.2.2.2.2.1 (by omega)
    exact kh_c G (Hv_317 _ d) (Sim_ru5 G.2.1 a) (fr_f (Fr.set (show own 0 10 0 from rfl) I 5 a)) hT (hO.par (by omega) (by omega) hp) ((M_195 _ w _ a).trans (if_pos h1))
  · exact kh_x (by decide) G (Hx_317_0 _ (d.trans (bk_x (C_160f I w k h1) (by decide +kernel) (by decide +kernel)))) ((M_195 I w _ a).trans (if_neg h1))
theorem K_6 (G : Gd xs N n I w k) (a b : Int32) : KH xs N n I w k 315 196 [.inl a, .inl b] := by
  obtain ⟨T, hT, hO, hR, hQ, hC, hU, hD, hM⟩ := G.f
  have d := e103_0 I w k a b
  by_cases h1 : 0 ≤ a ∧ a ≤ 999
  · have d := d.trans ((bk_n (C_160 I w k h1)).trans (e103_8 I w k _ _ _))
    by_cases h2 : 0 ≤ b ∧ b ≤ 9
    · have d := d.trans ((bk_n (C_160 I w k h2)).trans (e103_15 I w k _ _ _))
      rw [G.2.1.1.2.1.2.2.1, G.2.1.1.2.1.2.2.2.1] at d
      obtain ⟨v, -, v2, v3⟩ := z_nI (a := 0) (b := 999) h1 (by decide) (by decide)
      obtain ⟨u, -, u2, u3⟩ := z_nI (a := 0) (b := 9) h2 (by decide) (by decide)
      have hp := Rp_fre hO.1.2.2.2.2.2.1 v2 u2
      rw [← v3, ← u3] at hp
      exact kh_c G (Hv_315 _ _ d) (Sim_ru3 (Sim_ru2 G.2.1 a) b) (fr_f ((Fr.set (show own 0 10 0 from rfl) I 2 a).trans (Fr.set (show own 0 10 0 from rfl) _ 3 b))) hT ((hO.par (by omega) (by omega) hp.1).par (by omega) (by omega) hp.2) ((M_196 _ w _ a b).trans ((if_pos h1).trans (if_pos h2)))
    · exact kh_x (by decide) G (Hx_315_0 _ _ (d.trans (bk_x (C_160f I w k h2) (by decide +kernel) (by decide +kernel)))) ((M_196 I w _ a b).trans ((if_pos h1).trans (if_neg h2)))
  · exact kh_x (by decide) G (Hx_315_0 _ _ (d.trans (bk_x (C_160f I w k h1) (by decide +kernel) (by decide +kernel)))) ((M_196 I w _ a b).trans (if_neg h1))
theorem K_7 (G : Gd xs N n I w k) (a : Int32) : KH xs N n I w k 316 198 [.inl a] := by
  obtain ⟨T, hT, hO, hR, hQ, hC, hU, hD, hM⟩ := G.f
  have d := e104_0 I w k a
  by_cases h1 : 24 ≤ a ∧ a ≤ 960
  · have d := d.trans ((bk_n (C_160 I w k h1)).trans ((e104_9 I w k _ _).trans ((bk_v (C_45 I w k G.2.1 hQ)).trans (e104_16 I w k _ _ _))))
    by_cases h2 : m_use (I 24 0) ≤ a
    · have d := d.trans (zc_t h2)
      rw [G.2.1.1.2.1.2.2.2.2.1] at d
      obtain ⟨v, v1, v2, v3⟩ := z_nI (a := 24) (b := 960) h1 (by decide) (by decide)
      have hp : Rp (upd (I 24 0) 8 a) := by rw [v3]; exact Rp_1 hO.1.2.2.2.2.2.1 (by omega)
      exact kh_c G (Hv_316 _ d) (Sim_ru4 G.2.1 a) (fr_f (Fr.set (show own 0 10 0 from rfl) I 4 a)) hT (hO.par (by omega) (by omega) hp) ((M_198 (a_setI I 10 0 4 a) w _ a hQ).trans ((if_pos h1).trans (if_pos h2)))
    · exact kh_x (by decide) G (Hx_316_1 _ (d.trans (zc_f h2))) ((M_198 I w _ a hQ).trans ((if_pos h1).trans (if_neg h2)))
  · exact kh_x (by decide) G (Hx_316_0 _ (d.trans (bk_x (C_160f I w k h1) (by decide +kernel) (by decide +kernel)))) ((M_198 I w _ a hQ).trans (if_neg h1))
theorem K_22 (G : Gd xs N n I w k) (a b : Int32) : KH xs N n I w k 330 221 [.inl a, .inl b] := by
  obtain ⟨T, hT, hO, hR, hQ, hC, hU, hD, hM⟩ := G.f
  by_cases h1 : 0 ≤ a ∧ a ≤ I 24 0 4 - 1
  · obtain ⟨q, hq, rfl⟩ := re_un hQ h1
    have h40 := hQ.q40 hq
    have c := (e119_0 I w k (nI q) b).trans ((bk_n (C_163 I w k G.2.1 h1)).trans (e119_5 I w k _ _ _ _))
    by_cases h2 : 0 ≤ b ∧ b ≤ 9
    · have c := c.trans ((bk_n (C_160 I w k h2)).trans (e119_12 I w k _ _ _ _))
      rw [z_in h40 (by decide), nI_clamp (by omega), cond_true, (G.2.1.2.2.2.2.1 q hq).1.2.1] at c
      exact kh_c G (Hv_330 _ _ c) (Sim_pri G.2.1 hQ.2 hR.1.2 hq b) (fr_f (Fr.set (show own 0 14 (40 * 0 + q) from own_q h40) I 1 b)) hT (hO.pri hq h2) ((M_221 (a_setI I 14 (40 * 0 + q) 1 b) w _ hQ hq b).trans (if_pos h2))
    · exact kh_x (by decide) G (Hx_330_0 _ _ (c.trans (bk_x (C_160f I w k h2) (by decide +kernel) (by decide +kernel)))) ((M_221 I w _ hQ hq b).trans (if_neg h2))
  · exact kh_x (by decide) G (Hx_330_2 _ _ ((e119_0 I w k a b).trans (bk_x (C_163f I w k G.2.1 h1) (by decide +kernel) (by decide +kernel)))) (M_221f I w _ a b h1)
end
