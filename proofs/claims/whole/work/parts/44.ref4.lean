/-! ===== the reference: a minute ===== -/
noncomputable def m_sa (L : aR) (ag c : Int32) : Nat → Nat → Int32 → Int32
  | 0, _, ts => ts
  | d + 1, j, ts => if (ag >>> (nI j &&& 31)) &&& 1 = 1 then (if L j = c then m_sa L ag c d (j + 1) (ts ||| ((1 : Int32) <<< (nI j &&& 31))) else m_sa L ag c d (j + 1) ts) else m_sa L ag c d (j + 1) ts
noncomputable def m_sA (r : aR) (q : Nat) (set c : Int32) : aR := upd r (68 + 8 * q + 3) (m_sa (fun j => r (388 + 24 * q + j)) (set &&& m_uw r q) c 24 0 (r (68 + 8 * q + 3)))
theorem M_238L (I : aI) (w : aW) (k : aQ) {q : Nat} (hq : q < 40) (d2 : Option aV) (r : aR) (ag c : Int32) : ∀ (d j : Nat) (ts : Int32), j + d = 24 → rn 238 (12, [some (.inr (.inr (some (31, 0)))), some (.inl (nI q)), d2, some (.inl c), some (.inl ag), some (.inl (nI j))], [], MM (pR I (upd r (68 + 8 * q + 3) ts)) w k) = some (.inl none, MM (pR I (upd r (68 + 8 * q + 3) (m_sa (fun j => r (388 + 24 * q + j)) ag c d j ts))) w k) := by
  intro d
  induction d with
  | zero =>
    intro j ts hj
    refine (e238_12 _ w k _ _ _ _ _).trans ?_
    rw [zc_t (show (24 : Int32) ≤ nI j from nI_le (a := 24) (by omega) (by omega))]
    rfl
  | succ d ih =>
    intro j ts hj
    refine (e238_12 _ w k _ _ _ _ _).trans ?_
    rw [zc_f (show ¬ (24 : Int32) ≤ nI j from nI_ge (b := 24) (by omega) (by omega))]
    refine (bk_v (M_174 _ w k _ _)).trans ?_
    refine (e238_26 _ w k _ _ _ _ _ _).trans ?_
    by_cases h1 : (ag >>> (nI j &&& 31)) &&& 1 = 1
    · rw [zc_f (by rw [tf0]; exact fun z => z h1), z_se, z_in (by omega) (by decide), nI_clamp (by omega), pR_get, upd_n _ _ _ (by omega), cond_true]
      by_cases h2 : r (388 + 24 * q + j) = c
      · rw [zc_f (fun z => z h2)]
        refine (bk_v (M_181_3 _ w k hq)).trans ?_
        refine (e238_58 _ w k _ _ _ _ _ _ _).trans ?_
        refine (bk_n (M_182_3 _ w k hq _)).trans ?_
        refine (e238_66 _ w k _ _ _ _ _).trans ?_
        rw [pR_row, pR_pR, upd_s, fa_upd_twice, nI_1, ih (j + 1) _ (by omega)]
        rw [show m_sa (fun j => r (388 + 24 * q + j)) ag c (d + 1) j ts = m_sa (fun j => r (388 + 24 * q + j)) ag c d (j + 1) (ts ||| ((1 : Int32) <<< (nI j &&& 31))) from (if_pos h1).trans (if_pos h2)]
      · rw [zc_t h2, nI_1, ih (j + 1) _ (by omega)]
        rw [show m_sa (fun j => r (388 + 24 * q + j)) ag c (d + 1) j ts = m_sa (fun j => r (388 + 24 * q + j)) ag c d (j + 1) ts from (if_pos h1).trans (if_neg h2)]
    · rw [zc_t (by rw [tf0]; exact h1), nI_1, ih (j + 1) _ (by omega)]
      rw [show m_sa (fun j => r (388 + 24 * q + j)) ag c (d + 1) j ts = m_sa (fun j => r (388 + 24 * q + j)) ag c d (j + 1) ts from if_neg h1]
theorem M_238 (I : aI) (w : aW) (k : aQ) {q : Nat} (hq : q < 40) (set c : Int32) : rn 238 (a_en 238 [.inr (.inr (some (31, 0))), .inl (nI q), .inl set, .inl c] (MM I w k)) = some (.inl none, MM (pR I (m_sA (I 24 0) q set c)) w k) := by
  refine (e238_0 I w k _ _ _).trans ?_
  refine (bk_v (M_228 I w k hq)).trans ?_
  refine (e238_6 I w k _ _ _ _ _ _ _).trans ?_
  have h := M_238L I w k hq (some (.inl set)) (I 24 0) (set &&& m_uw (I 24 0) q) c 24 0 (I 24 0 (68 + 8 * q + 3)) (by omega)
  rw [fa_upd_same rfl, pR_self] at h
  exact h
noncomputable def m_gb (c : Int32) : Nat → Nat → aR → aR
  | 0, _, r => r
  | d + 1, j, r => m_gb c d (j + 1) (m_sA r j (m_full r j) c)
theorem M_239L (I : aI) (w : aW) (k : aQ) {n : Nat} (hn : n ≤ 40) (c : Int32) : ∀ (d j : Nat) (r : aR), j + d = n → r 4 = nI n → rn 239 (2, [some (.inr (.inr (some (31, 0)))), some (.inl c), some (.inl (nI j))], [], MM (pR I r) w k) = some (.inl none, MM (pR I (m_gb c d j r)) w k) := by
  intro d
  induction d with
  | zero =>
    intro j r hj hr
    refine (e239_2 _ w k _ _).trans ?_
    rw [pR_get, hr, zc_t (nI_le (by omega) (by omega))]
    rfl
  | succ d ih =>
    intro j r hj hr
    have hq : j < 40 := by omega
    refine (e239_2 _ w k _ _).trans ?_
    rw [pR_get, hr, zc_f (nI_ge (by omega) (by omega))]
    refine (bk_v (M_227 _ w k hq)).trans ?_
    refine (e239_19 _ w k _ _ _ _).trans ?_
    refine (bk_n (M_238 _ w k hq _ _)).trans ?_
    refine (e239_23 _ w k _ _).trans ?_
    rw [pR_row, pR_pR, nI_1]
    exact ih (j + 1) _ (by omega) (by unfold m_sA; rw [upd_n _ _ _ (by omega)]; exact hr)
theorem M_239 (I : aI) (w : aW) (k : aQ) (h : Rq (I 24 0)) (c : Int32) : rn 239 (a_en 239 [.inr (.inr (some (31, 0))), .inl c] (MM I w k)) = some (.inl none, MM (pR I (m_gb c (nR (I 24 0)) 0 (I 24 0))) w k) := by
  have e := M_239L I w k h.2 c (nR (I 24 0)) 0 (I 24 0) (by omega) h.1
  rw [pR_self] at e
  exact (e239_0 I w k c).trans e
def m_g1 (p j : Nat) (r : aR) : aR := upd r (68 + 8 * j + 4) (r (68 + 8 * j + 4) ||| r (1348 + 84 * p + 44 + j))
def m_g2 (p j : Nat) (r : aR) : aR := upd (m_g1 p j r) (68 + 8 * j + 3) (m_g1 p j r (68 + 8 * j + 3) &&& (r (1348 + 84 * p + 44 + j) ^^^ (-1)))
noncomputable def m_g3 (p : Nat) (c : Int32) (j : Nat) (r : aR) : aR := m_sA (m_g2 p j r) j (r (1348 + 84 * p + 4 + j) &&& (r (1348 + 84 * p + 44 + j) ^^^ (-1))) c
def m_g4 (t : Int32) (j : Nat) (r : aR) : aR := upd (upd r (68 + 8 * j + 7) t) 21 (upd r (68 + 8 * j + 7) t 21 + 1)
noncomputable def m_g5 (p : Nat) (c t : Int32) (j : Nat) (r : aR) : aR := if m_g3 p c j r (68 + 8 * j + 7) = -1 then (if m_g3 p c j r (68 + 8 * j + 4) = m_full (m_g3 p c j r) j then m_g4 t j (m_g3 p c j r) else m_g3 p c j r) else m_g3 p c j r
noncomputable def m_gl (p : Nat) (c t : Int32) : Nat → Nat → aR → aR
  | 0, _, r => r
  | d + 1, j, r => m_gl p c t d (j + 1) (m_g5 p c t j r)
def m_g6 (p : Nat) (r : aR) : aR := upd (upd r (1348 + 84 * p + 3) 2) 22 (upd r (1348 + 84 * p + 3) 2 22 + 1)
noncomputable def m_gR (c : Nat) (t : Int32) (nr : Nat) (r : aR) : aR := m_g6 (c % 60) (m_gl (c % 60) (nI c) t nr 0 r)
theorem m_g3_n {p : Nat} {c : Int32} {j : Nat} {r : aR} {x : Nat} (h3 : x ≠ 68 + 8 * j + 3) (h4 : x ≠ 68 + 8 * j + 4) : m_g3 p c j r x = r x := by
  unfold m_g3 m_sA m_g2 m_g1
  rw [upd_n _ _ _ h3, upd_n _ _ _ h3, upd_n _ _ _ h4]
theorem m_g5_n {p : Nat} {c t : Int32} {j : Nat} {r : aR} {x : Nat} (h3 : x ≠ 68 + 8 * j + 3) (h4 : x ≠ 68 + 8 * j + 4) (h7 : x ≠ 68 + 8 * j + 7) (h21 : x ≠ 21) : m_g5 p c t j r x = r x := by
  unfold m_g5
  split
  · split
    · unfold m_g4; rw [upd_n _ _ _ h21, upd_n _ _ _ h7, m_g3_n h3 h4]
    · rw [m_g3_n h3 h4]
  · rw [m_g3_n h3 h4]
theorem z_c4 {c : Nat} (h : c < 2 ^ 31) (a j : Nat) : nI a + nI j = nI (a + j) := nI_add a j
theorem M_240L (I : aI) (w : aW) (k : aQ) {n c : Nat} (hn : n ≤ 40) (hc : c < 2 ^ 31) (t : Int32) : ∀ (d j : Nat) (r : aR) (d4 d5 : Option aV), j + d = n → r 4 = nI n → rn 240 (2, [some (.inr (.inr (some (31, 0)))), some (.inl (nI c)), some (.inl t), some (.inl (nI j)), d4, d5], [], MM (pR I r) w k) = some (.inl none, MM (pR I (m_g6 (c % 60) (m_gl (c % 60) (nI c) t d j r))) w k) := by
  have hm := Nat.mod_lt c (by decide : 0 < 60)
  intro d
  induction d with
  | zero =>
    intro j r d4 d5 hj hr
    refine (e240_2 _ w k _ _ _ _ _).trans ?_
    rw [pR_get, hr, zc_t (nI_le (by omega) (by omega))]
    refine (bk_v (M_183 _ w k hc)).trans ?_
    refine (e240_136 _ w k _ _ _ _ _ _).trans ?_
    rw [show nI (1348 + 84 * (c % 60)) + 3 = nI (1348 + 84 * (c % 60) + 3) from nI_add _ 3, z_in (by omega) (by decide), nI_clamp (by omega)]
    simp only [cond_true, pR_set, pR_row, pR_pR]
    rfl
  | succ d ih =>
    intro j r d4 d5 hj hr
    have hq : j < 40 := by omega
    refine (e240_2 _ w k _ _ _ _ _).trans ?_
    rw [pR_get, hr, zc_f (nI_ge (by omega) (by omega)), show (4 : Int32) + nI j = nI (4 + j) from nI_add 4 j]
    refine (bk_v (M_184 _ w k hc (by omega))).trans ?_
    refine (e240_20 _ w k _ _ _ _ _ _).trans ?_
    rw [show (44 : Int32) + nI j = nI (44 + j) from nI_add 44 j]
    refine (bk_v (M_184 _ w k hc (by omega))).trans ?_
    refine (e240_31 _ w k _ _ _ _ _ _).trans ?_
    refine (bk_v (M_181_4 _ w k hq)).trans ?_
    refine (e240_42 _ w k _ _ _ _ _ _ _).trans ?_
    refine (bk_n (M_182_4 _ w k hq _)).trans ?_
    refine (e240_48 _ w k _ _ _ _ _).trans ?_
    refine (bk_v (M_181_3 _ w k hq)).trans ?_
    refine (e240_57 _ w k _ _ _ _ _ _ _).trans ?_
    refine (bk_n (M_182_3 _ w k hq _)).trans ?_
    refine (e240_65 _ w k _ _ _ _ _).trans ?_
    refine (bk_n (M_238 _ w k hq _ _)).trans ?_
    refine (e240_78 _ w k _ _ _ _ _).trans ?_
    simp only [pR_row, pR_pR, pR_get]
    rw [show 1348 + 84 * (c % 60) + (4 + j) = 1348 + 84 * (c % 60) + 4 + j by omega, show 1348 + 84 * (c % 60) + (44 + j) = 1348 + 84 * (c % 60) + 44 + j by omega]
    have e3 : m_sA (upd (upd r (68 + 8 * j + 4) (r (68 + 8 * j + 4) ||| r (1348 + 84 * (c % 60) + 44 + j))) (68 + 8 * j + 3) (upd r (68 + 8 * j + 4) (r (68 + 8 * j + 4) ||| r (1348 + 84 * (c % 60) + 44 + j)) (68 + 8 * j + 3) &&& (r (1348 + 84 * (c % 60) + 44 + j) ^^^ (-1)))) j (r (1348 + 84 * (c % 60) + 4 + j) &&& (r (1348 + 84 * (c % 60) + 44 + j) ^^^ (-1))) (nI c) = m_g3 (c % 60) (nI c) j r := rfl
    rw [e3]
    refine (bk_v (M_181_7 _ w k hq)).trans ?_
    refine (e240_85 _ w k _ _ _ _ _ _).trans ?_
    rw [pR_row, nI_1]
    have hg : m_gl (c % 60) (nI c) t (d + 1) j r = m_gl (c % 60) (nI c) t d (j + 1) (m_g5 (c % 60) (nI c) t j r) := rfl
    rw [hg]
    have h4 : m_g5 (c % 60) (nI c) t j r 4 = nI n := by rw [m_g5_n (by omega) (by omega) (by omega) (by omega)]; exact hr
    by_cases h1 : m_g3 (c % 60) (nI c) j r (68 + 8 * j + 7) = -1
    · rw [zc_f (fun z => z h1)]
      refine (bk_v (M_181_4 _ w k hq)).trans ?_
      refine (e240_95 _ w k _ _ _ _ _ _).trans ?_
      refine (bk_v (M_227 _ w k hq)).trans ?_
      refine (e240_100 _ w k _ _ _ _ _ _ _).trans ?_
      rw [pR_row, nI_1]
      by_cases h2 : m_g3 (c % 60) (nI c) j r (68 + 8 * j + 4) = m_full (m_g3 (c % 60) (nI c) j r) j
      · rw [zc_f (fun z => z h2)]
        refine (bk_n (M_182_7 _ w k hq _)).trans ?_
        refine (e240_111 _ w k _ _ _ _ _).trans ?_
        have e5 : m_g5 (c % 60) (nI c) t j r = m_g4 t j (m_g3 (c % 60) (nI c) j r) := (if_pos h1).trans (if_pos h2)
        simp only [pR_row, pR_pR, pR_set, nI_1]
        rw [e5] at h4 ⊢
        exact ih (j + 1) _ _ _ (by omega) h4
      · rw [zc_t h2]
        have e5 : m_g5 (c % 60) (nI c) t j r = m_g3 (c % 60) (nI c) j r := (if_pos h1).trans (if_neg h2)
        rw [e5] at h4 ⊢
        exact ih (j + 1) _ _ _ (by omega) h4
    · rw [zc_t h1]
      have e5 : m_g5 (c % 60) (nI c) t j r = m_g3 (c % 60) (nI c) j r := if_neg h1
      rw [e5] at h4 ⊢
      exact ih (j + 1) _ _ _ (by omega) h4
theorem M_240 (I : aI) (w : aW) (k : aQ) (h : Rq (I 24 0)) {c : Nat} (hc : c < 2 ^ 31) (t : Int32) : rn 240 (a_en 240 [.inr (.inr (some (31, 0))), .inl (nI c), .inl t] (MM I w k)) = some (.inl none, MM (pR I (m_gR c t (nR (I 24 0)) (I 24 0))) w k) := by
  have e := M_240L I w k h.2 hc t (nR (I 24 0)) 0 (I 24 0) none none (by omega) h.1
  rw [pR_self] at e
  exact (e240_0 I w k _ _).trans e
theorem M_241 (I : aI) (w : aW) (k : aQ) (h : Rc (I 24 0)) : rn 241 (a_en 241 [.inr (.inr (some (31, 0)))] (MM I w k)) = some (.inl (some (.inl (nI (nC (I 24 0) - 60)))), MM I w k) := by
  have h2 := h.2
  refine (e241_0 I w k).trans ?_
  rw [h.1]
  rcases Nat.lt_or_ge 60 (nC (I 24 0)) with h3 | h3
  · rw [zc_f (show ¬ nI (nC (I 24 0)) ≤ (60 : Int32) from nI_ge (a := 60) h3 (by omega)), show nI (nC (I 24 0)) - 60 = nI (nC (I 24 0) - 60) from z_sub (b := 60) (by omega)]
  · rw [zc_t (show nI (nC (I 24 0)) ≤ (60 : Int32) from nI_le (b := 60) h3 (by decide)), show nC (I 24 0) - 60 = 0 by omega]
    rfl
def m_ct (s j : Nat) (r : aR) : aR := upd r (24 + 11 * s + 6 + j) (r (24 + 11 * s + 6 + j) + 1)
theorem M_ct (I : aI) (w : aW) (k : aQ) {s : Nat} (hs : s < 4) : (rn 180 (a_en 180 [.inr (.inr (some (31, 0))), .inl (nI s), .inl 0] (MM I w k)) = some (.inl none, MM (pR I (m_ct s 0 (I 24 0))) w k)) ∧ (rn 180 (a_en 180 [.inr (.inr (some (31, 0))), .inl (nI s), .inl 1] (MM I w k)) = some (.inl none, MM (pR I (m_ct s 1 (I 24 0))) w k)) ∧ (rn 180 (a_en 180 [.inr (.inr (some (31, 0))), .inl (nI s), .inl 2] (MM I w k)) = some (.inl none, MM (pR I (m_ct s 2 (I 24 0))) w k)) ∧ (rn 180 (a_en 180 [.inr (.inr (some (31, 0))), .inl (nI s), .inl 3] (MM I w k)) = some (.inl none, MM (pR I (m_ct s 3 (I 24 0))) w k)) ∧ (rn 180 (a_en 180 [.inr (.inr (some (31, 0))), .inl (nI s), .inl 4] (MM I w k)) = some (.inl none, MM (pR I (m_ct s 4 (I 24 0))) w k)) := ⟨M_180_0 I w k hs, M_180_1 I w k hs, M_180_2 I w k hs, M_180_3 I w k hs, M_180_4 I w k hs⟩
