/-! ===== stations and records added, minutes, trials, text ===== -/
section
variable {xs : Nat → Int32} {N n : Nat} {I : aI} {w : aW} {k : aQ}
theorem K_1 (G : Gd xs N n I w k) (a b c d e f : Int32) : KH xs N n I w k 311 189 [.inl a, .inl b, .inl c, .inl d, .inl e, .inl f] := by
  obtain ⟨T, hT, hO, hR, hQ, hC, hU, hD, hM⟩ := G.f
  have bad : ∀ (hg : ¬ gSt a b c d e f), rn 98 (a_en 98 [vX, .inl a, .inl b, .inl c, .inl d, .inl e, .inl f] (MM I w k)) = some (.inr 0, MM I w (kx k)) → KH xs N n I w k 311 189 [.inl a, .inl b, .inl c, .inl d, .inl e, .inl f] := fun hg h => kh_x (by decide) G (Hx_311_0 _ _ _ _ _ _ h) (M_189f I w _ a b c d e f hg)
  have o := e98_0 I w k a b c d e f
  by_cases h0 : 0 ≤ a ∧ a ≤ 359
  · have o := o.trans ((bk_n (C_160 I w k h0)).trans (e98_8 I w k _ _ _ _ _ _))
    by_cases h1 : 0 ≤ b ∧ b ≤ 90
    · have o := o.trans ((bk_n (C_160 I w k h1)).trans (e98_15 I w k _ _ _ _ _ _))
      by_cases h2 : 1 ≤ c ∧ c ≤ 30
      · have o := o.trans ((bk_n (C_160 I w k h2)).trans (e98_22 I w k _ _ _ _ _ _))
        by_cases h3 : 0 ≤ d ∧ d ≤ 59
        · have o := o.trans ((bk_n (C_160 I w k h3)).trans (e98_30 I w k _ _ _ _ _ _))
          by_cases h4 : 1 ≤ e ∧ e ≤ 20
          · have o := o.trans ((bk_n (C_160 I w k h4)).trans (e98_38 I w k _ _ _ _ _ _))
            by_cases h5 : 0 ≤ f ∧ f ≤ 99
            · have hg : gSt a b c d e f := ⟨h0, h1, h2, h3, h4, h5⟩
              have o := o.trans ((bk_n (C_160 I w k h5)).trans ((e98_46 I w k _ _ _ _ _ _).trans ((bk_v (C_75 I w k G.2.1 hR)).trans (e98_56 I w k _ _ _ _ _ _ _))))
              by_cases h6 : nS (I 24 0) = 4
              · exact kh_x (by decide) G (Hx_311_1 _ _ _ _ _ _ (o.trans (zc_f (show ¬ tf (nS (I 24 0) = 4) = 0 by rw [tft h6]; decide)))) (M_189e I w _ a b c d e f (by rw [hR.1.1, h6]; rfl) hg)
              · have h4' := hR.1.2
                obtain ⟨D, -, D1, D2⟩ := z_nI (a := 0) (b := 59) h3 (by decide) (by decide)
                obtain ⟨J, j1, j2, j3⟩ := C_76 I w k rfl G.2.1 hR (by omega) hQ.2 hO.1.2.2.2.2.2.2.2 a b c (D := D) (by omega) e f
                rw [← D2] at j1 j2
                have o := o.trans ((zc_t (tff h6)).trans ((bk_v j1).trans (e98_88 J w k _ _ _ _ _ _ _ _)))
                have e24 : J 24 0 = I 24 0 := j3 24 0 (nown (by omega))
                have m := M_189 J w (a_setL k.1 32 0 0 (nI (nS (I 24 0))).toInt64, k.2) a b c d e f (by rw [e24]; exact hR.1.1) (by rw [e24]; omega) hg
                rw [e24] at m
                exact kh_c G (Hv_311 _ _ _ _ _ _ o) j2 (fr_f j3) hT (hO.ast (by omega) hg) m
            · exact bad (fun z => h5 z.2.2.2.2.2) (o.trans (bk_x (C_160f I w k h5) (by decide +kernel) (by decide +kernel)))
          · exact bad (fun z => h4 z.2.2.2.2.1) (o.trans (bk_x (C_160f I w k h4) (by decide +kernel) (by decide +kernel)))
        · exact bad (fun z => h3 z.2.2.2.1) (o.trans (bk_x (C_160f I w k h3) (by decide +kernel) (by decide +kernel)))
      · exact bad (fun z => h2 z.2.2.1) (o.trans (bk_x (C_160f I w k h2) (by decide +kernel) (by decide +kernel)))
    · exact bad (fun z => h1 z.2.1) (o.trans (bk_x (C_160f I w k h1) (by decide +kernel) (by decide +kernel)))
  · exact bad (fun z => h0 z.1) (o.trans (bk_x (C_160f I w k h0) (by decide +kernel) (by decide +kernel)))
theorem K_20 (G : Gd xs N n I w k) (z p : Int32) : KH xs N n I w k 329 219 [.inl z, .inl p] := by
  obtain ⟨T, hT, hO, hR, hQ, hC, hU, hD, hM⟩ := G.f
  have o := e117_0 I w k z p
  by_cases h1 : 1 ≤ z ∧ z ≤ 24
  · have o := o.trans ((bk_n (C_160 I w k h1)).trans (e117_7 I w k _ _))
    by_cases h2 : 0 ≤ p ∧ p ≤ 9
    · have o := o.trans ((bk_n (C_160 I w k h2)).trans ((e117_14 I w k _ _).trans ((bk_v (C_42 I w k G.2.1 hQ)).trans (e117_21 I w k _ _ _))))
      by_cases h3 : nR (I 24 0) = 40
      · exact kh_x (by decide) G (Hx_329_1 _ _ (o.trans (zc_t (show ¬ tf (nR (I 24 0) = 40) = 0 by rw [tft h3]; decide)))) (M_219e I w _ z p (by rw [hQ.1, h3]; rfl) h1 h2)
      · have h40 := hQ.2
        have o := o.trans ((zc_f (fun y => y (tff h3))).trans ((bk_v (C_43 I w k G.2.1 hQ z)).trans (e117_32 I w k _ _ _)))
        by_cases h4 : m_use (I 24 0) + z ≤ I 24 0 8
        · obtain ⟨J, j1, j2, j3⟩ := C_44 I w k G.2.1 hQ hR.1.2 (by omega) z p
          have o := o.trans ((zc_t (show ¬ tf (m_use (I 24 0) + z ≤ I 24 0 8) = 0 by rw [tft h4]; decide)).trans ((bk_v j1).trans (e117_54 J w k _ _ _ _)))
          have e24 : J 24 0 = I 24 0 := j3 24 0 (nown (by omega))
          have m := M_219 J w (a_setL k.1 32 0 0 (nI (nR (I 24 0))).toInt64, k.2) (by rw [e24]; exact hQ) (by rw [e24]; omega) z p h1 h2
          rw [e24] at m
          exact kh_c G (Hv_329 _ _ o) j2 (fr_f j3) hT (hO.arc (by omega) (by omega) h1 h2) (m.trans (if_pos h4))
        · exact kh_x (by decide) G (Hx_329_1 _ _ (o.trans (zc_f (fun y => y (tff h4))))) ((M_219 I w _ hQ (by omega) z p h1 h2).trans (if_neg h4))
    · exact kh_x (by decide) G (Hx_329_0 _ _ (o.trans (bk_x (C_160f I w k h2) (by decide +kernel) (by decide +kernel)))) (M_219f I w _ z p (fun y => h2 y.2))
  · exact kh_x (by decide) G (Hx_329_0 _ _ (o.trans (bk_x (C_160f I w k h1) (by decide +kernel) (by decide +kernel)))) (M_219f I w _ z p (fun y => h1 y.1))
theorem K_9 (G : Gd xs N n I w k) (a : Int32) : KV xs N n I w k 318 199 [.inl a] := by
  obtain ⟨T, hT, hO, hR, hQ, hC, hU, hD, hM⟩ := G.f
  have hmax : a ≤ 2147483647 := by
    rw [fa_le, show (2147483647 : Int32).toInt = 2147483647 from by decide]
    have := Int32.toInt_lt a
    omega
  by_cases h : 0 ≤ a
  · have c := (e106_0 I w k a).trans ((bk_n (C_160 I w k ⟨h, hmax⟩)).trans (e106_7 I w k _))
    have m := (M_199 (a_setI I 20 0 9 a) w k a).trans (if_neg (Int32.not_lt.mpr h))
    refine ⟨0, a_setI I 20 0 9 a, w, k, _, Hv_318 _ c, rfl, rfl, m, rfl, G.row hT (hO.see h) ?_ (fun s q j g1 g2 g3 => ?_) rfl G.rm⟩
    · have hS := Sim_see G.2.1 h
      refine Sim_own hS (hO.see h).rs.1.2 (hO.see h).rq.2 (fun s q ho => ?_)
      funext x
      unfold pR
      have hs8 : s ≠ 24 ∧ s ≠ 31 := by
        refine ⟨?_, ?_⟩ <;> (rintro rfl; exact ho)
      rw [gC, if_neg (by omega), set_n (by omega)]
    · unfold pR
      rw [gC, if_neg g2, set_n (fun z => g3 (Or.inl ⟨z.1, z.2.1, Or.inl z.2.2⟩)), set_n (fun z => g1 (by rw [z.1, z.2.1]; exact (rfl : (0 : Nat) = 0)))]
  · exact kv_x G (Hx_318_0 _ ((e106_0 I w k a).trans (bk_x (C_160f I w k (fun z => h z.1)) (by decide +kernel) (by decide +kernel)))) ((M_199 I w _ a).trans (if_pos (Int32.not_le.mp h)))
/-! minutes -/
theorem C_131L (w : aW) (k : aQ) {m : Nat} (hm : m ≤ 1440) (d : Nat) : ∀ (j T : Nat) (I : aI) (r : aR), j + d = m → T + d < 99998 → Okt T r → Sim 0 0 I r → ∃ J, rn 131 (35, [some (.inr (.inr (some (30, 0)))), some (.inl (nI m)), some (.inl (nI j))], [], MM I w k) = some (.inl (some (.inl (m_it 0 d r 5))), MM J w k) ∧ Sim 0 0 J (m_it 0 d r) ∧ Fr 0 I J := by
  induction d with
  | zero =>
    intro j T I r hj hT hO hS
    refine ⟨I, (e131_35 I w k _ _).trans ?_, hS, Fr.refl 0 I⟩
    rw [hS.1.2.2.1.2.2.2]
    exact zc_t (nI_le (by omega) (by omega))
  | succ d ih =>
    intro j T I r hj hT hO hS
    obtain ⟨J, j1, j2, j3⟩ := C_61 I w k hS (hO.mv (by omega))
    obtain ⟨K, k1, k2, k3⟩ := ih (j + 1) (T + 1) J (m_min 0 r) (by omega) (by omega) (hO.min (by omega) 0) j2
    refine ⟨K, (e131_35 I w k _ _).trans ?_, k2, j3.trans k3⟩
    refine (zc_f (nI_ge (by omega) (by omega))).trans ?_
    refine (bk_n j1).trans ?_
    refine (e131_47 J w k _ _).trans ?_
    rw [nI_1]
    exact k1
theorem K_34 (G : Gd xs N n I w k) (a : Int32) : KH xs N n I w k 338 247 [.inl a] := by
  obtain ⟨T, hT, hO, hR, hQ, hC, hU, hD, hM⟩ := G.f
  have h5 := hO.1.2.2.1
  have o := e131_0 I w k a
  by_cases h1 : 1 ≤ a ∧ a ≤ 1440
  · have o := o.trans ((bk_n (C_160 I w k h1)).trans (e131_8 I w k _ _))
    rw [G.2.1.1.2.2.1.2.2.2] at o
    by_cases h2 : I 24 0 5 + a ≤ 20000
    · obtain ⟨m, m1, m2, rfl⟩ := z_nI (a := 1) (b := 1440) h1 (by decide) (by decide)
      have hTm : T + m ≤ 20000 := by
        rw [h5, nI_add, fa_le, nI_toInt (by omega), show (20000 : Int32).toInt = 20000 from by decide] at h2
        omega
      obtain ⟨J, j1, j2, j3⟩ := C_131L w k m2 m 0 T I (I 24 0) (by omega) (by omega) hO G.2.1
      have o := o.trans ((zc_t h2).trans j1)
      have e24 : J 24 0 = I 24 0 := j3 24 0 (nown (by omega))
      have e8 : J 31 0 8 = 0 := by rw [j3 31 0 (nown (by omega))]; exact G.2.2.1
      have m' := M_247 J w (a_setL k.1 32 0 0 (m_it 0 m (I 24 0) 5).toInt64, k.2) (P := fun d r => ∃ U, U + d ≤ 20000 ∧ Okt U r) (fun d r hp => by
        obtain ⟨U, u1, u2⟩ := hp
        exact ⟨(u2.mv (by omega)).rm, U + 1, by omega, u2.min (by omega) _⟩) m1 m2 (by rw [e24]; exact h2) ⟨T, hTm, by rw [e24]; exact hO⟩
      rw [e8, e24] at m'
      exact kh_c G (Hv_338 _ o) j2 (fr_f j3) hTm (Okt.it m T (I 24 0) hO (by omega)) m'
    · exact kh_x (by decide) G (Hx_338_1 _ (o.trans (zc_f h2))) (M_247g I w _ a h1 h2)
  · exact kh_x (by decide) G (Hx_338_0 _ (o.trans (bk_x (C_160f I w k h1) (by decide +kernel) (by decide +kernel)))) (M_247f I w _ a h1)
/-! the spare simulation -/
theorem own_t {i s q : Nat} (h : own i s q) : s ≠ 24 ∧ s ≠ 31 ∧ s ≠ 25 ∧ s ≠ 23 ∧ s ≠ 8 ∧ s ≠ 21 ∧ s ≠ 11 ∧ s ≠ 12 ∧ s ≠ 16 ∧ s ≠ 26 ∧ s ≠ 27 ∧ s ≠ 28 ∧ s ≠ 7 ∧ s ≠ 0 ∧ s ≠ 1 ∧ s ≠ 2 ∧ s ≠ 29 := by
  refine ⟨?_, ?_, ?_, ?_, ?_, ?_, ?_, ?_, ?_, ?_, ?_, ?_, ?_, ?_, ?_, ?_, ?_⟩ <;> (rintro rfl; exact h)
theorem Gd.fn {I1 : aI} {w1 : aW} {k1 : aQ} (G : Gd xs N n I w k) {m : Nat} (hm : m = 1 + cnt w) (f : Fn m I I1) (hs : ∀ j, j < 2 → sv w1 j = sv w j) (hc : Cn k1.2.1 (m + 1)) (hw : WnO w1) (hcn : cnt w1 = cnt w + 1) (h0 : k1.2.1 0 = k.2.1 0) (c1 : k1.2.2.1 = k.2.2.1 + 276) (c2 : k1.2.2.2 = k.2.2.2 + 6766) : Gd xs N n I1 w1 k1 := by
  obtain ⟨⟨T, hT, hO⟩, hS, h8, ⟨l, l1, l2, l3, l4, l5, l6⟩, hW, ⟨s0, s1⟩, hN, hC, hX, hk, hr⟩ := G
  have F : ∀ s q, s ≠ 9 ∧ s ≠ 10 ∧ s ≠ 13 ∧ s ≠ 17 ∧ s ≠ 20 ∧ s ≠ 14 ∧ s ≠ 6 ∧ s ≠ 15 ∧ s ≠ 4 ∧ s ≠ 5 ∧ s ≠ 18 ∧ s ≠ 19 → s ≠ 11 → s ≠ 12 → s ≠ 16 → I1 s q = I s q := fun s q g a b c => f s q (nown g) a b c
  have e24 : I1 24 0 = I 24 0 := F 24 0 (by omega) (by omega) (by omega) (by omega)
  have sm : ∀ i, i ≠ m → ∀ s q, own i s q → I1 s q = I s q := fun i hi s q ho => by
    have ht := own_t ho
    exact f s q (fun z => hi (own_u ho z)) (by omega) (by omega) (by omega)
  refine ⟨⟨T, hT, by rw [e24]; exact hO⟩, by rw [e24]; exact Sim_own hS hO.rs.1.2 hO.rq.2 (sm 0 (by omega)), by rw [F 31 0 (by omega) (by omega) (by omega) (by omega)]; exact h8, ⟨l, l1, by rw [F 21 0 (by omega) (by omega) (by omega) (by omega)]; exact l2, by rw [F 31 0 (by omega) (by omega) (by omega) (by omega)]; exact l3, fun x hx => by rw [F 7 0 (by omega) (by omega) (by omega) (by omega), F 28 0 (by omega) (by omega) (by omega) (by omega)]; exact l4 x hx, by rw [F 21 0 (by omega) (by omega) (by omega) (by omega), F 31 0 (by omega) (by omega) (by omega) (by omega)]; exact l5, by rw [F 21 0 (by omega) (by omega) (by omega) (by omega), F 31 0 (by omega) (by omega) (by omega) (by omega)]; exact l6⟩, ⟨fun q hq => ⟨by rw [F 1 q (by omega) (by omega) (by omega) (by omega)]; exact (hW.1 q hq).1, fun j hj => by rw [F 2 q (by omega) (by omega) (by omega) (by omega)]; exact (hW.1 q hq).2 j hj⟩, fun x hx => by rw [F 29 0 (by omega) (by omega) (by omega) (by omega)]; exact hW.2 x hx⟩, ?_, hw, by rw [hcn, show 1 + (cnt w + 1) = m + 1 by omega]; exact hc, fun x => by rw [F 0 0 (by omega) (by omega) (by omega) (by omega)]; exact hX x, h0.trans hk, ?_⟩
  · have kp : ∀ j, j < 2 → SvO I w j → SvO I1 w1 j := fun j hj h => by
      have h2 : SvO I1 w j := h.keep hj hN (fun x => by rw [F 26 0 (by omega) (by omega) (by omega) (by omega)]) (by rw [F 27 0 (by omega) (by omega) (by omega) (by omega)]) (fun i hi => sm i (by have := (hN.2.1 j hj i hi).2; omega))
      unfold SvO at h2 ⊢
      rw [hs j hj]; exact h2
    exact ⟨kp 0 (by omega) s0, kp 1 (by omega) s1⟩
  · unfold RmO at hr ⊢
    rw [c1, c2, hcn]; omega
theorem Gd.spr (G : Gd xs N n I w k) : ∃ (I1 : aI) (w1 : aW) (k1 : aQ) (i : Nat), Spr I w k I1 w1 k1 i ∧ i ≠ 0 ∧ w1.1 = some i ∧ Gd xs N n I1 w1 k1 ∧ (∀ s q, 20 < s ∨ s = 7 ∨ s = 0 → I1 s q = I s q) ∧ k1.2.1 0 = k.2.1 0 := by
  cases hw : w.1 with
  | some i => exact ⟨I, w, k, i, Spr_s I w k hw, (G.2.2.2.2.2.2.1.1 i hw).1, hw, G, fun _ _ _ => rfl, rfl⟩
  | none =>
    have hN := G.2.2.2.2.2.2.1
    obtain ⟨I1, k1, a1, a2, a3, a4, a5, a6, a7, a8⟩ := Spr_n I w k hw G.2.2.2.2.2.2.2.1 (fun _ => 0)
    have hc : cnt (some (1 + cnt w), w.2) = cnt w + 1 := by
      unfold cnt
      rw [hw, if_pos rfl]
      show (if (some _ : Option Nat) = none then 0 else 1) + (if w.2.1 = none then 0 else 1) + (if w.2.2.1 = none then 0 else 1) = _
      rw [if_neg (by intro z; cases z)]; omega
    have svw : ∀ j, sv (some (1 + cnt w), w.2) j = sv w j := fun j => rfl
    refine ⟨I1, (some (1 + cnt w), w.2), k1, 1 + cnt w, a1, by omega, rfl, G.fn rfl a3 (fun j _ => rfl) a4 ⟨fun i hi => ?_, fun j hj i hi => ?_, fun i hi j hj z => ?_, fun i hi z => hN.2.2.2 i hi z⟩ hc (a5 0 (by omega)) a7 a8, fun s q hs => a3 s q (nown (by omega)) (by omega) (by omega) (by omega), a5 0 (by omega)⟩
    · obtain rfl := Option.some.inj hi
      rw [hc]; omega
    · rw [svw] at hi
      have := hN.2.1 j hj i hi
      rw [hc]; omega
    · obtain rfl := Option.some.inj hi
      rw [svw] at z
      have := (hN.2.1 j hj _ z).2
      omega
theorem K_53 (G : Gd xs N n I w k) (a : Int32) : KH xs N n I w k 348 273 [.inl a] := by
  obtain ⟨T, hT, hO, hR, hQ, hC, hU, hD, hM⟩ := G.f
  by_cases h1 : 0 ≤ a ∧ a ≤ I 24 0 4 - 1
  · obtain ⟨q, hq, rfl⟩ := re_un hQ h1
    obtain ⟨I1, w1, k1, i, s1, s2, s3, s4, s5, s6⟩ := G.spr
    have e1 : I1 24 0 = I 24 0 := s5 24 0 (by omega)
    have hS1 : Sim 0 0 I1 (I 24 0) := by have := s4.2.1; rw [e1] at this; exact this
    obtain ⟨J, j1, j2⟩ := C_150 s1 s2 G.2.1 hS1 hO (by omega) hq
    have fj : ∀ s q, 20 < s ∨ s = 7 ∨ s = 0 → J s q = I1 s q := fun s q hs => j2 s q (nown (by omega))
    have e24 : J 24 0 = I 24 0 := (fj 24 0 (by omega)).trans e1
    have e8 : J 31 0 8 = 0 := by rw [fj 31 0 (by omega)]; exact s4.2.2.1
    have m := M_273 J w1 (a_setL k1.1 32 0 0 (m_fc q 3000 (I 24 0) (68 + 8 * q + 6)).toInt64, k1.2) (T := T) (q := q) (by rw [e24]; exact hO) (by omega) e8 (by rw [e24]; exact hq)
    rw [e24] at m
    refine ⟨0, _, J, w1, _, _, Hv_348 _ j1, funext (fun q => (fj 0 q (by omega)).trans (s5 0 q (by omega))), s6, m, by rw [kp_31, set_e], fun _ => rfl, s4.keep (fun s q j g => ?_) rfl s4.rm⟩
    have g25 : ¬ (s = 25 ∧ q = 0) := fun z => g (by unfold scr; omega)
    unfold kp
    rw [gC, if_neg g25, set_n (fun z => g (Or.inl ⟨z.1, z.2.1, Or.inl z.2.2⟩))]
    exact congrFun (j2 s q (fun z => g (Or.inr (Or.inr (Or.inr (Or.inr (Or.inr (Or.inr (Or.inr (Or.inr ⟨i, s3, z⟩)))))))))) j
  · exact kh_x (by decide) G (Hx_348_2 _ ((e150_0 I w k a).trans (bk_x (C_163f I w k G.2.1 h1) (by decide +kernel) (by decide +kernel)))) (M_273f I w _ a h1)
theorem K_54 (G : Gd xs N n I w k) (a : Int32) : KH xs N n I w k 349 275 [.inl a] := by
  obtain ⟨T, hT, hO, hR, hQ, hC, hU, hD, hM⟩ := G.f
  by_cases h1 : 1 ≤ a ∧ a ≤ 1440
  · obtain ⟨m, m1, m2, rfl⟩ := z_nI (a := 1) (b := 1440) h1 (by decide) (by decide)
    obtain ⟨I1, w1, k1, i, s1, s2, s3, s4, s5, s6⟩ := G.spr
    have e1 : I1 24 0 = I 24 0 := s5 24 0 (by omega)
    have hS1 : Sim 0 0 I1 (I 24 0) := by have := s4.2.1; rw [e1] at this; exact this
    obtain ⟨J, j1, j2⟩ := C_167 (p := 1) s1 s2 hS1 hO (by omega) m2 (by omega)
    have hS2 : Sim 0 0 J (I 24 0) := Sim_f hS1 (fun z => s2 z.symm) hR.1.2 hQ.2 j2
    obtain ⟨K, k1', k2⟩ := C_167 (p := 0) (Spr_s J w1 k1 s3) s2 hS2 hO (by omega) m2 (by omega)
    have fk : Fr i I1 K := j2.trans k2
    have fj : ∀ s q, 20 < s ∨ s = 7 ∨ s = 0 → K s q = I1 s q := fun s q hs => fk s q (nown (by omega))
    have e24 : K 24 0 = I 24 0 := (fj 24 0 (by omega)).trans e1
    have e8 : K 31 0 8 = 0 := by rw [fj 31 0 (by omega)]; exact s4.2.2.1
    have c : rn 151 (a_en 151 [vX, .inl (nI m)] (MM I w k)) = some (.inl (some (.inl (tf (¬ m_tr 0 m 1 (I 24 0) ≤ m_tr 0 m 0 (I 24 0))))), MM K w1 k1) := by
      refine (e151_0 I w k _).trans ((bk_n (C_160 I w k h1)).trans ((e151_8 I w k _).trans ((bk_v j1).trans ((e151_14 J w1 k1 _ _).trans ((bk_v k1').trans ((e151_20 K w1 k1 _ _ _ _).trans ?_))))))
      by_cases h : m_tr 0 m 1 (I 24 0) ≤ m_tr 0 m 0 (I 24 0)
      · rw [tff (fun z => z h)]; exact zc_t h
      · rw [tft h]; exact zc_f h
    have mm := M_275 K w1 (a_setL k1.1 32 0 0 (tf (¬ m_tr 0 m 1 (I 24 0) ≤ m_tr 0 m 0 (I 24 0))).toInt64, k1.2) (T := T) (by rw [e24]; exact hO) (by omega) m1 m2
    rw [e24, e8] at mm
    refine ⟨0, _, K, w1, _, _, Hv_349 _ c, funext (fun q => (fj 0 q (by omega)).trans (s5 0 q (by omega))), s6, mm, by rw [kp_31, kp_31, set_e], fun _ => rfl, s4.keep (fun s q j g => ?_) rfl s4.rm⟩
    have g25 : ¬ (s = 25 ∧ q = 0) := fun z => g (by unfold scr; omega)
    unfold kp
    rw [gC, if_neg g25, gC, if_neg g25, set_n (fun z => g (Or.inl ⟨z.1, z.2.1, Or.inl z.2.2⟩))]
    exact congrFun (fk s q (fun z => g (Or.inr (Or.inr (Or.inr (Or.inr (Or.inr (Or.inr (Or.inr (Or.inr ⟨i, s3, z⟩)))))))))) j
  · exact kh_x (by decide) G (Hx_349_0 _ ((e151_0 I w k a).trans (bk_x (C_160f I w k h1) (by decide +kernel) (by decide +kernel)))) (M_275f I w _ a h1)
end
