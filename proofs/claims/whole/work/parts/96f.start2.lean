/-! ===== the reference is made; the law stands at its loop ===== -/
theorem N_170 (w : aW) (I : aI) (L : Nat → Nat → Nat → Int64) (c : Nat → Nat) (cl sl : Nat) (hc : ∀ s, 24 ≤ s → s ≤ 29 → c s = 0) (h31 : ∀ j, I 31 0 j = 0) : ∃ I' L' c', rn 170 (a_en 170 [.inr (.inr (some (31, 0)))] (I, Rh (wr w) 31 [], L, c, cl, sl)) = some (.inl none, (I', wr w, L', c', cl + 1 + 1 + 1 + 1 + 1 + 1, sl + 6388 + 6388 + 12776 + 2 + 400 + 70)) ∧ I' 24 0 = m_bg (fun _ => 0) ∧ (∀ x, x < 70 → I' 29 0 x = wZ x) ∧ (∀ j, I' 27 0 j = 0) ∧ (∀ j, j ≠ 16 → I' 31 0 j = 0) ∧ I' 31 0 16 = -1 ∧ (∀ s q, ¬ (24 ≤ s ∧ s ≤ 29) → s ≠ 31 → I' s q = I s q) ∧ ∀ s, (s < 24 ∨ 29 < s) → c' s = c s := by
  obtain ⟨I1, hI1⟩ : ∃ I1, I1 = a_setI (a_clr 0 (a_clr 0 (a_clr 0 (a_clr 0 (a_clr 0 I 24 0) 25 0) 26 0) 27 0) 28 0) 31 0 16 (-1) := ⟨_, rfl⟩
  obtain ⟨c1, hc1⟩ : ∃ c1, c1 = a_inc (a_inc (a_inc (a_inc (a_inc c 24) 25) 26) 27) 28 := ⟨_, rfl⟩
  obtain ⟨L1, hL1⟩ : ∃ L1, L1 = a_clr 0 (a_clr 0 (a_clr 0 (a_clr 0 (a_clr 0 L 24 0) 25 0) 26 0) 27 0) 28 0 := ⟨_, rfl⟩
  have e1 : ∀ s, c1 s = c s + (if s = 24 then 1 else 0) + (if s = 25 then 1 else 0) + (if s = 26 then 1 else 0) + (if s = 27 then 1 else 0) + (if s = 28 then 1 else 0) := fun s => by rw [hc1, gN, gN, gN, gN, gN]
  obtain ⟨I2, hI2⟩ : ∃ I2, I2 = zL 70 (a_clr 0 I1 29 0) := ⟨_, rfl⟩
  have f1 : ∀ s q, ¬ (24 ≤ s ∧ s ≤ 28) → s ≠ 31 → I1 s q = I s q := fun s q g1 g2 => by
    rw [hI1, set_o (by omega)]
    funext j
    rw [gK0, if_neg (by omega), gK0, if_neg (by omega), gK0, if_neg (by omega), gK0, if_neg (by omega), gK0, if_neg (by omega)]
  have f2 : ∀ s q, s ≠ 29 → I2 s q = I1 s q := fun s q g => by
    rw [hI2, zL_o _ _ _ _ (by omega)]
    funext j
    rw [gK0, if_neg (by omega)]
  have z24 : I2 24 0 = fun _ => 0 := by
    rw [f2 24 0 (by omega), hI1, set_o (by omega)]
    funext j
    rw [gK0, if_neg (by omega), gK0, if_neg (by omega), gK0, if_neg (by omega), gK0, if_neg (by omega), gK0, if_pos ⟨rfl, rfl⟩]
  refine ⟨pR I2 (m_bg (I2 24 0)), a_clr 0 L1 29 0, a_inc c1 29, ?_, ?_, fun x hx => ?_, fun j => ?_, fun j hj => ?_, ?_, fun s q g1 g2 => ?_, fun s hs => ?_⟩
  · refine y_t (n_aln 1 rfl rfl rfl) <| y_t (n_ob 4 (g := 0) rfl (by decide +kernel) (by decide +kernel) (by decide +kernel) rfl) <| y_t (n_aln 5 rfl rfl rfl) <| y_t (n_si 8 6388 rfl rfl rfl) <| y_t (n_na 10 (s := 24) rfl (by decide +kernel) (by decide +kernel) rfl) <| y_t (n_pr 13 (s := 31) (q := 0) (j := 1) rfl (by decide +kernel) (by decide +kernel) rfl) ?_
    show rn 170 (13, _, _, (a_clr 0 I 24 (c 24), a_setR (a_clr none (Rh (wr w) 31 []) 24 (c 24)) 31 0 1 (some (24, c 24)), a_clr 0 L 24 (c 24), a_inc c 24, cl + 1, sl + 6388)) = _
    rw [hc 24 (by omega) (by omega), clr_id (fun k => by rw [Rh_o (by decide)]; rfl), Rh_set (show wr w 31 0 1 = some (24, 0) from rfl)]
    refine y_t (n_aln 14 rfl rfl rfl) <| y_t (n_si 17 6388 rfl rfl rfl) <| y_t (n_na 19 (s := 25) rfl (by decide +kernel) (by decide +kernel) rfl) <| y_t (n_pr 22 (s := 31) (q := 0) (j := 2) rfl (by decide +kernel) (by decide +kernel) rfl) ?_
    have e25 : a_inc c 24 25 = 0 := by rw [gN, hc 25 (by omega) (by omega)]; rfl
    show rn 170 (22, _, _, (a_clr 0 (a_clr 0 I 24 0) 25 (a_inc c 24 25), a_setR (a_clr none (Rh (wr w) 31 [1]) 25 (a_inc c 24 25)) 31 0 2 (some (25, a_inc c 24 25)), a_clr 0 (a_clr 0 L 24 0) 25 (a_inc c 24 25), a_inc (a_inc c 24) 25, cl + 1 + 1, sl + 6388 + 6388)) = _
    rw [e25, clr_id (fun k => by rw [Rh_o (by decide)]; rfl), Rh_set (show wr w 31 0 2 = some (25, 0) from rfl)]
    refine y_t (n_aln 23 rfl rfl rfl) <| y_t (n_si 26 12776 rfl rfl rfl) <| y_t (n_na 28 (s := 26) rfl (by decide +kernel) (by decide +kernel) rfl) <| y_t (n_pr 31 (s := 31) (q := 0) (j := 3) rfl (by decide +kernel) (by decide +kernel) rfl) ?_
    have e26 : a_inc (a_inc c 24) 25 26 = 0 := by rw [gN, gN, hc 26 (by omega) (by omega)]; rfl
    show rn 170 (31, _, _, (a_clr 0 (a_clr 0 (a_clr 0 I 24 0) 25 0) 26 (a_inc (a_inc c 24) 25 26), a_setR (a_clr none (Rh (wr w) 31 [2, 1]) 26 (a_inc (a_inc c 24) 25 26)) 31 0 3 (some (26, a_inc (a_inc c 24) 25 26)), a_clr 0 (a_clr 0 (a_clr 0 L 24 0) 25 0) 26 (a_inc (a_inc c 24) 25 26), a_inc (a_inc (a_inc c 24) 25) 26, cl + 1 + 1 + 1, sl + 6388 + 6388 + 12776)) = _
    rw [e26, clr_id (fun k => by rw [Rh_o (by decide)]; rfl), Rh_set (show wr w 31 0 3 = some (26, 0) from rfl)]
    refine y_t (n_aln 32 rfl rfl rfl) <| y_t (n_ic 33 2 rfl rfl rfl) <| y_t (n_na 35 (s := 27) rfl (by decide +kernel) (by decide +kernel) rfl) <| y_t (n_pr 38 (s := 31) (q := 0) (j := 4) rfl (by decide +kernel) (by decide +kernel) rfl) ?_
    have e27 : a_inc (a_inc (a_inc c 24) 25) 26 27 = 0 := by rw [gN, gN, gN, hc 27 (by omega) (by omega)]; rfl
    show rn 170 (38, _, _, (a_clr 0 (a_clr 0 (a_clr 0 (a_clr 0 I 24 0) 25 0) 26 0) 27 (a_inc (a_inc (a_inc c 24) 25) 26 27), a_setR (a_clr none (Rh (wr w) 31 [3, 2, 1]) 27 (a_inc (a_inc (a_inc c 24) 25) 26 27)) 31 0 4 (some (27, a_inc (a_inc (a_inc c 24) 25) 26 27)), a_clr 0 (a_clr 0 (a_clr 0 (a_clr 0 L 24 0) 25 0) 26 0) 27 (a_inc (a_inc (a_inc c 24) 25) 26 27), a_inc (a_inc (a_inc (a_inc c 24) 25) 26) 27, cl + 1 + 1 + 1 + 1, sl + 6388 + 6388 + 12776 + 2)) = _
    rw [e27, clr_id (fun k => by rw [Rh_o (by decide)]; rfl), Rh_set (show wr w 31 0 4 = some (27, 0) from rfl)]
    refine y_t (n_aln 39 rfl rfl rfl) <| y_t (n_si 42 400 rfl rfl rfl) <| y_t (n_na 44 (s := 28) rfl (by decide +kernel) (by decide +kernel) rfl) <| y_t (n_pr 47 (s := 31) (q := 0) (j := 9) rfl (by decide +kernel) (by decide +kernel) rfl) ?_
    have e28 : a_inc (a_inc (a_inc (a_inc c 24) 25) 26) 27 28 = 0 := by rw [gN, gN, gN, gN, hc 28 (by omega) (by omega)]; rfl
    show rn 170 (47, _, _, (a_clr 0 (a_clr 0 (a_clr 0 (a_clr 0 (a_clr 0 I 24 0) 25 0) 26 0) 27 0) 28 (a_inc (a_inc (a_inc (a_inc c 24) 25) 26) 27 28), a_setR (a_clr none (Rh (wr w) 31 [4, 3, 2, 1]) 28 (a_inc (a_inc (a_inc (a_inc c 24) 25) 26) 27 28)) 31 0 9 (some (28, a_inc (a_inc (a_inc (a_inc c 24) 25) 26) 27 28)), a_clr 0 (a_clr 0 (a_clr 0 (a_clr 0 (a_clr 0 L 24 0) 25 0) 26 0) 27 0) 28 (a_inc (a_inc (a_inc (a_inc c 24) 25) 26) 27 28), a_inc (a_inc (a_inc (a_inc (a_inc c 24) 25) 26) 27) 28, cl + 1 + 1 + 1 + 1 + 1, sl + 6388 + 6388 + 12776 + 2 + 400)) = _
    rw [e28, clr_id (fun k => by rw [Rh_o (by decide)]; rfl), Rh_set (show wr w 31 0 9 = some (28, 0) from rfl), ← hc1, ← hL1]
    refine y_t (n_aln 48 rfl rfl rfl) <| y_t (n_ic 49 (-1) rfl rfl rfl) <| y_t (n_pf 52 (s := 31) (q := 0) (j := 16) rfl (by decide +kernel) rfl rfl) ?_
    show rn 170 (52, _, _, (a_setI (a_clr 0 (a_clr 0 (a_clr 0 (a_clr 0 (a_clr 0 I 24 0) 25 0) 26 0) 27 0) 28 0) 31 0 16 (-1), _)) = _
    rw [← hI1]
    refine y_t (n_aln 53 rfl rfl rfl) <| y_t (n_bi 55 70 rfl rfl rfl) <| y_t (n_na 57 (s := 29) rfl (by decide +kernel) (by decide +kernel) rfl) ?_
    have e29 : c1 29 = 0 := by rw [e1, hc 29 (by omega) (by omega)]; rfl
    show rn 170 (57, _, .inr (.inr (some (29, c1 29))) :: _, (a_clr 0 I1 29 (c1 29), a_clr none (Rh (wr w) 31 [9, 4, 3, 2, 1]) 29 (c1 29), a_clr 0 L1 29 (c1 29), a_inc c1 29, cl + 1 + 1 + 1 + 1 + 1 + 1, sl + 6388 + 6388 + 12776 + 2 + 400 + 70)) = _
    rw [e29, clr_id (fun k => by rw [Rh_o (by decide)]; rfl)]
    refine y_t (zw_all _ _ _ _) ?_
    rw [← hI2]
    refine y_t (n_pr 474 (s := 31) (q := 0) (j := 17) rfl (by decide +kernel) (by decide +kernel) rfl) ?_
    show rn 170 (474, _, _, (I2, a_setR (Rh (wr w) 31 [9, 4, 3, 2, 1]) 31 0 17 (some (29, 0)), _)) = _
    rw [Rh_set (show wr w 31 0 17 = some (29, 0) from rfl), Rh_full (fun k hk => wr31 w hk)]
    show rn 170 (474, _, _, MM I2 w (a_clr 0 L1 29 0, a_inc c1 29, cl + 1 + 1 + 1 + 1 + 1 + 1, sl + 6388 + 6388 + 12776 + 2 + 400 + 70)) = _
    refine y_t (y_aln 475 rfl rfl rfl) <| y_t (y_xv [.inr (.inr (some (31, 0)))] [] rfl (g := 172) (kd := 0) (n := 1) (by decide +kernel) rfl rfl rfl rfl rfl (y_rk (by decide +kernel))) ?_
    refine (bk_n (M_172 I2 w _)).trans ?_
    exact y_rv rfl (by decide +kernel)
  · rw [pR_row, z24]
  · rw [show pR I2 (m_bg (I2 24 0)) 29 = I2 29 from rfl, hI2]; exact zL_v _ 70 x hx
  · rw [show pR I2 (m_bg (I2 24 0)) 27 = I2 27 from rfl, f2 27 0 (by omega), hI1, set_n (by omega), gK0, if_neg (by omega), gK0, if_pos ⟨rfl, rfl⟩]
  · rw [show pR I2 (m_bg (I2 24 0)) 31 = I2 31 from rfl, f2 31 0 (by omega), hI1, set_n (by omega), gK0, if_neg (by omega), gK0, if_neg (by omega), gK0, if_neg (by omega), gK0, if_neg (by omega), gK0, if_neg (by omega)]; exact h31 j
  · rw [show pR I2 (m_bg (I2 24 0)) 31 = I2 31 from rfl, f2 31 0 (by omega), hI1, set_e]
  · rw [show pR I2 (m_bg (I2 24 0)) s q = I2 s q from funext (fun j => by unfold pR; rw [gC, if_neg (by omega)]), f2 s q (by omega), f1 s q (by omega) g2]
  · rw [gN, e1, if_neg (by omega), if_neg (by omega), if_neg (by omega), if_neg (by omega), if_neg (by omega), if_neg (by omega)]; rfl
/-- the law has made its objects -/
theorem law_st (N : Nat) (xs : Nat → Int32) (z : Option aN) : ∃ (I : aI) (k : aQ), rn 354 (a_s0 N xs z) = rn 354 (23, [some (.inr (.inr (some (0, 0)))), some (.inr (.inr (some (30, 0)))), some (.inr (.inr (some (31, 0)))), some (.inr (.inr (some (32, 0)))), some (.inl 0), none, none], [], MM I (none, none, none, none, z) k) ∧ Sim 0 0 I (m_bg (fun _ => 0)) ∧ I 24 0 = m_bg (fun _ => 0) ∧ (I 21 0 1 = 0 ∧ I 21 0 2 = 0 ∧ I 21 0 3 = -1) ∧ (∀ j, j ≠ 16 → I 31 0 j = 0) ∧ I 31 0 16 = -1 ∧ (∀ j, I 27 0 j = 0) ∧ Wd I ∧ (∀ x, I 0 0 x = xs x) ∧ Cn k.2.1 1 ∧ k.2.1 0 = N ∧ k.2.2.1 = 290 ∧ k.2.2.2 = 33270 := by
  obtain ⟨w, hw⟩ : ∃ w : aW, w = (none, none, none, none, z) := ⟨_, rfl⟩
  obtain ⟨I1, L1, c1, a1, a2, a3, a4, a5, a6⟩ := N_96 w (by rw [hw]) (by rw [hw]) (by rw [hw]) (a_clr 0 (a_I0 xs) 30 0) (a_clr 0 (fun _ _ _ => 0) 30 0) (a_inc (a_cn0 N) 30) 1 5 (fun s g1 g2 => by
    rw [gN, if_neg (by omega)]
    show (bif Nat.beq s 0 then N else 0) + 0 = 0
    rw [z_beq, decide_eq_false (by omega)]; rfl) (fun _ => 0)
  have c0 : ∀ s, a_inc (a_cn0 N) 30 s = (if s = 0 then N else 0) + (if s = 30 then 1 else 0) := fun s => by
    rw [gN]
    show (bif Nat.beq s 0 then N else 0) + _ = _
    rw [z_beq]
    by_cases h : s = 0 <;> simp [h]
  have c1e : ∀ s, (s < 4 ∨ 23 < s) → c1 s = (if s = 0 then N else 0) + (if s = 30 then 1 else 0) := fun s hs => (a6 s hs).trans (c0 s)
  obtain ⟨I2, L2, c2, b1, b2, b3, b4, b5, b6, b7, b8⟩ := N_170 w (a_clr 0 I1 31 0) (a_clr 0 L1 31 0) (a_inc c1 31) (1 + 281 + 1) (5 + 7222 + 18) (fun s g1 g2 => by rw [gN, c1e s (by omega), if_neg (by omega), if_neg (by omega), if_neg (by omega)]) (fun j => by rw [gK0, if_pos ⟨rfl, rfl⟩])
  have fI : ∀ s q, ¬ (24 ≤ s ∧ s ≤ 29) → s ≠ 31 → s ≠ 32 → a_clr 0 I2 32 0 s q = I1 s q := fun s q g1 g2 g3 => by
    funext j
    rw [gK0, if_neg (by omega), b7 s q g1 g2, gK0, if_neg (by omega)]
  have fL : ∀ s, (s = 0 ∨ s = 2) → ∀ q j, a_clr 0 I2 32 0 s q j = a_I0 xs s q j := fun s hs q j => by
    rw [fI s q (by omega) (by omega) (by omega), a4 s q (by omega), gK0, if_neg (by omega)]
  refine ⟨a_clr 0 I2 32 0, (a_clr 0 L2 32 0, a_inc c2 32, 1 + 281 + 1 + 1 + 1 + 1 + 1 + 1 + 1 + 1, 5 + 7222 + 18 + 6388 + 6388 + 12776 + 2 + 400 + 70 + 1), ?_, ?_, ?_, ⟨?_, ?_, ?_⟩, fun j hj => ?_, ?_, fun j => ?_, ⟨fun q hq => ⟨?_, fun j hj => ?_⟩, fun x hx => ?_⟩, fun x => fL 0 (by omega) 0 x, ?_, ?_, rfl, rfl⟩
  · rw [← hw]
    show rn 354 (0, _, [], a_M0 N xs z) = _
    unfold a_M0
    rw [← hw]
    refine y_t (n_new 3 (s := 30) rfl (by decide +kernel) rfl) <| y_t (n_dupr 4 rfl rfl) ?_
    show rn 354 (4, _, .inr (.inr (some (30, 0))) :: .inr (.inr (some (30, 0))) :: _, (a_clr 0 (a_I0 xs) 30 0, a_clr none (wr w) 30 0, a_clr 0 (fun _ _ _ => 0) 30 0, a_inc (a_cn0 N) 30, 1, 5)) = _
    rw [Rh_clr]
    refine y_t (n_xp [.inr (.inr (some (30, 0)))] [.inr (.inr (some (30, 0)))] rfl (g := 96) (kd := 2) (n := 1) (by decide +kernel) rfl rfl rfl rfl rfl (n_k2 (by decide +kernel))) ?_
    refine (bk_n a1).trans ?_
    refine y_t (n_asn 8 [some (.inr (.inr (some (0, 0)))), some (.inr (.inr (some (30, 0)))), none, none, none, none, none] rfl rfl rfl rfl) <| y_t (n_new 11 (s := 31) rfl (by decide +kernel) rfl) <| y_t (n_dupr 12 rfl rfl) ?_
    have e31 : c1 31 = 0 := by rw [c1e 31 (by omega)]; rfl
    show rn 354 (12, _, .inr (.inr (some (31, c1 31))) :: .inr (.inr (some (31, c1 31))) :: _, (a_clr 0 I1 31 (c1 31), a_clr none (wr w) 31 (c1 31), a_clr 0 L1 31 (c1 31), a_inc c1 31, 1 + 281 + 1, 5 + 7222 + 18)) = _
    rw [e31, Rh_clr]
    refine y_t (n_xp [.inr (.inr (some (31, 0)))] [.inr (.inr (some (31, 0)))] rfl (g := 170) (kd := 2) (n := 1) (by decide +kernel) rfl rfl rfl rfl rfl (n_k2 (by decide +kernel))) ?_
    refine (bk_n b1).trans ?_
    refine y_t (n_asn 16 [some (.inr (.inr (some (0, 0)))), some (.inr (.inr (some (30, 0)))), some (.inr (.inr (some (31, 0)))), none, none, none, none] rfl rfl rfl rfl) <| y_t (n_ic 17 1 rfl rfl rfl) <| y_t (n_na 19 (s := 32) rfl (by decide +kernel) (by decide +kernel) rfl) ?_
    have e32 : c2 32 = 0 := by rw [b8 32 (by omega), gN, c1e 32 (by omega)]; rfl
    show rn 354 (19, _, .inr (.inr (some (32, c2 32))) :: _, (a_clr 0 I2 32 (c2 32), a_clr none (wr w) 32 (c2 32), a_clr 0 L2 32 (c2 32), a_inc c2 32, 1 + 281 + 1 + 1 + 1 + 1 + 1 + 1 + 1 + 1, 5 + 7222 + 18 + 6388 + 6388 + 12776 + 2 + 400 + 70 + 1)) = _
    rw [e32, clr_id (fun k => rfl)]
    exact y_t (n_asn 20 [some (.inr (.inr (some (0, 0)))), some (.inr (.inr (some (30, 0)))), some (.inr (.inr (some (31, 0)))), some (.inr (.inr (some (32, 0)))), none, none, none] rfl rfl rfl rfl) <| y_t (n_ic 21 0 rfl rfl rfl) <| n_is 23 [some (.inr (.inr (some (0, 0)))), some (.inr (.inr (some (30, 0)))), some (.inr (.inr (some (31, 0)))), some (.inr (.inr (some (32, 0)))), some (.inl 0), none, none] rfl rfl rfl rfl
  · obtain ⟨g1, g2, g3, g4, g5, g6⟩ := a2
    refine ⟨?_, ?_, ?_, ?_, ?_, ?_⟩
    · unfold kLow at g1 ⊢; rw [fI 9 0 (by omega) (by omega) (by omega), fI 10 0 (by omega) (by omega) (by omega), fI 20 0 (by omega) (by omega) (by omega)]; exact g1
    · unfold kFig at g2 ⊢; rw [fI 13 0 (by omega) (by omega) (by omega)]; exact g2
    · intro s hs; rw [fI 18 _ (by omega) (by omega) (by omega), fI 19 _ (by omega) (by omega) (by omega)]; exact g3 s hs
    · unfold kPha at g4 ⊢; rw [fI 17 0 (by omega) (by omega) (by omega)]; exact g4
    · intro q hq; rw [fI 14 _ (by omega) (by omega) (by omega), fI 6 _ (by omega) (by omega) (by omega)]; exact g5 q hq
    · intro c c1 c2; rw [fI 15 _ (by omega) (by omega) (by omega), fI 4 _ (by omega) (by omega) (by omega), fI 5 _ (by omega) (by omega) (by omega)]; exact g6 c c1 c2
  · rw [← b2]; funext j; rw [gK0, if_neg (by omega)]
  · rw [fI 21 0 (by omega) (by omega) (by omega)]; exact a3.1
  · rw [fI 21 0 (by omega) (by omega) (by omega)]; exact a3.2.1
  · rw [fI 21 0 (by omega) (by omega) (by omega)]; exact a3.2.2
  · rw [gK0, if_neg (by omega)]; exact b5 j hj
  · rw [gK0, if_neg (by omega)]; exact b6
  · rw [gK0, if_neg (by omega)]; exact b4 j
  · rw [fI 1 q (by omega) (by omega) (by omega), a4 1 q (by omega), gK0, if_neg (by omega)]; rfl
  · rw [fL 2 (by omega)]
    have : ∀ q, q < 10 → ∀ j, j < a_sl q → ((a_sbl []).getD q []).getD j 0 = wC q j := by decide +kernel
    exact this q hq j hj
  · rw [gK0, if_neg (by omega)]; exact b3 x hx
  · obtain ⟨q1, q2, q3, q4, q5, q6, q7, q8⟩ := a5
    have ed : ∀ s, 4 ≤ s → s ≤ 23 → a_inc c2 32 s = c1 s := fun s g1 g2 => by rw [gN, b8 s (by omega), gN, if_neg (by omega), if_neg (by omega)]; rfl
    exact ⟨fun s hs => (ed s (by omega) (by omega)).trans (q1 s hs), (ed _ (by omega) (by omega)).trans q2, (ed _ (by omega) (by omega)).trans q3, (ed _ (by omega) (by omega)).trans q4, (ed _ (by omega) (by omega)).trans q5, (ed _ (by omega) (by omega)).trans q6, (ed _ (by omega) (by omega)).trans q7, (ed _ (by omega) (by omega)).trans q8⟩
  · show a_inc c2 32 0 = N
    rw [gN, b8 0 (by omega), gN, c1e 0 (by omega)]; rfl
