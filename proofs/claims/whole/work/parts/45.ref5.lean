/-! ===== the reference: contacts ===== -/
def m_zl (p : Nat) : Nat → Nat → aR → aR
  | 0, _, r => r
  | d + 1, j, r => m_zl p d (j + 1) (upd r (1348 + 84 * p + j) 0)
theorem m_zl_n (p x : Nat) (hx : x < 1348 + 84 * p) : ∀ (d j : Nat) (r : aR), m_zl p d j r x = r x
  | 0, _, _ => rfl
  | d + 1, j, r => by
    show m_zl p d (j + 1) (upd r (1348 + 84 * p + j) 0) x = r x
    rw [m_zl_n p x hx d (j + 1), upd_n _ _ _ (by omega)]
def m_n1 (p : Nat) (s t : Int32) (r : aR) : aR := upd (upd (upd r (1348 + 84 * p + 0) s) (1348 + 84 * p + 1) t) (1348 + 84 * p + 2) (-1)
def m_n2 (c s : Nat) (t : Int32) (r : aR) : aR := m_ct s 0 (upd (upd (m_n1 (c % 60) (nI s) t (m_zl (c % 60) 84 0 r)) 12 (nI (c + 1))) 13 1)
/-- the reports of a contact's beginning -/
noncomputable def m_bq (s nr : Nat) (t : Int32) (c : Nat) (r : aR) : aR := if 2 ≤ r (1348 + 84 * (c % 60) + 3) then r else (if r (1348 + 84 * (c % 60) + 0) = nI s then (if m_gR c t nr r (1348 + 84 * (c % 60) + 0) = nI s then m_gR c t nr r else m_ct s 4 (m_gR c t nr r)) else (if t - r (1348 + 84 * (c % 60) + 2) < r 10 then r else (if m_gR c t nr r (1348 + 84 * (c % 60) + 0) = nI s then m_gR c t nr r else m_ct s 4 (m_gR c t nr r))))
noncomputable def m_bl (s nr : Nat) (t : Int32) : Nat → Nat → aR → aR
  | 0, _, r => r
  | d + 1, c, r => m_bl s nr t d (c + 1) (m_bq s nr t c r)
def m_v0 (c : Nat) (r : aR) : aR := upd (upd r (1348 + 84 * (c % 60) + 3) 1) 23 (upd r (1348 + 84 * (c % 60) + 3) 1 23 + 1)
noncomputable def m_v1 (nr : Nat) (t : Int32) (c : Nat) (r : aR) : aR := if r (1348 + 84 * (c % 60) + 3) = 0 then (if t - r (1348 + 84 * (c % 60) + 2) < r 11 then r else m_v0 c (m_gb (nI c) nr 0 r)) else r
noncomputable def m_vl (nr : Nat) (t : Int32) : Nat → Nat → aR → aR
  | 0, _, r => r
  | d + 1, c, r => m_vl nr t d (c + 1) (m_v1 nr t c r)
noncomputable def m_n0 (c nr : Nat) (r : aR) : aR := if c < 60 then r else m_gb (nI (c - 60)) nr 0 r
/-- a contact begins: number c, station s -/
noncomputable def m_bC (c nr s : Nat) (t : Int32) (r : aR) : aR := m_vl nr t (c - (c + 1 - 60)) (c + 1 - 60) (m_bl s nr t (c - (c + 1 - 60)) (c + 1 - 60) (m_n2 c s t (m_n0 c nr r)))
theorem m_gb_n {c : Int32} {x : Nat} : ∀ (d j : Nat) (r : aR), (∀ q, q < j + d → x ≠ 68 + 8 * q + 3) → m_gb c d j r x = r x
  | 0, _, _, _ => rfl
  | d + 1, j, r, h => by
    show m_gb c d (j + 1) (m_sA r j (m_full r j) c) x = r x
    rw [m_gb_n d (j + 1) _ (fun q hq => h q (by omega))]
    unfold m_sA
    rw [upd_n _ _ _ (h j (by omega))]
theorem m_gl_n {p : Nat} {c t : Int32} {x : Nat} (h21 : x ≠ 21) : ∀ (d j : Nat) (r : aR), (∀ q, q < j + d → x ≠ 68 + 8 * q + 3 ∧ x ≠ 68 + 8 * q + 4 ∧ x ≠ 68 + 8 * q + 7) → m_gl p c t d j r x = r x
  | 0, _, _, _ => rfl
  | d + 1, j, r, h => by
    show m_gl p c t d (j + 1) (m_g5 p c t j r) x = r x
    rw [m_gl_n h21 d (j + 1) _ (fun q hq => h q (by omega)), m_g5_n (h j (by omega)).1 (h j (by omega)).2.1 (h j (by omega)).2.2 h21]
theorem m_gR_lo {c nr : Nat} {t : Int32} {r : aR} {x : Nat} (hx : x < 21) (hn : nr ≤ 40) : m_gR c t nr r x = r x := by
  unfold m_gR m_g6
  rw [upd_n _ _ _ (by omega), upd_n _ _ _ (by omega), m_gl_n (by omega) nr 0 r (fun q hq => ⟨by omega, by omega, by omega⟩)]
theorem m_bq_lo {s nr : Nat} {t : Int32} {c : Nat} {r : aR} {x : Nat} (hx : x < 21) (hn : nr ≤ 40) : m_bq s nr t c r x = r x := by
  have h1 : m_gR c t nr r x = r x := m_gR_lo hx hn
  have h2 : m_ct s 4 (m_gR c t nr r) x = r x := by unfold m_ct; rw [upd_n _ _ _ (by omega), h1]
  unfold m_bq
  repeat' split
  all_goals first | rfl | exact h1 | exact h2
theorem m_v1_lo {nr : Nat} {t : Int32} {c : Nat} {r : aR} {x : Nat} (hx : x < 21) (hn : nr ≤ 40) : m_v1 nr t c r x = r x := by
  unfold m_v1
  repeat' split
  all_goals first | rfl | (unfold m_v0; rw [upd_n _ _ _ (by omega), upd_n _ _ _ (by omega), m_gb_n nr 0 r (fun q hq => by omega)])
theorem M_242Z (I : aI) (w : aW) (k : aQ) {c : Nat} (hc : c < 2 ^ 31) (s t : Int32) : ∀ (d j : Nat) (r : aR), j + d = 84 → rn 242 (25, [some (.inr (.inr (some (31, 0)))), some (.inl s), some (.inl t), some (.inl (nI c)), some (.inl (nI j))], [], MM (pR I r) w k) = rn 242 (25, [some (.inr (.inr (some (31, 0)))), some (.inl s), some (.inl t), some (.inl (nI c)), some (.inl (nI 84))], [], MM (pR I (m_zl (c % 60) d j r)) w k) := by
  have hm := Nat.mod_lt c (by decide : 0 < 60)
  intro d
  induction d with
  | zero =>
    intro j r hj
    have : j = 84 := by omega
    subst this
    rfl
  | succ d ih =>
    intro j r hj
    refine (e242_25 _ w k _ _ _ _).trans ?_
    rw [zc_f (show ¬ (84 : Int32) ≤ nI j from nI_ge (b := 84) (by omega) (by omega))]
    refine (bk_v (M_183 _ w k hc)).trans ?_
    refine (e242_40 _ w k _ _ _ _ _).trans ?_
    rw [nI_add, z_in (by omega) (by decide), nI_clamp (by omega), cond_true, pR_set', nI_1]
    exact ih (j + 1) _ (by omega)
theorem M_242V (I : aI) (w : aW) (k : aQ) {n c : Nat} (hn : n ≤ 40) (hc : c < 2 ^ 31) (d1 : Option aV) (t : Int32) : ∀ (d j : Nat) (r : aR), j + d = c → r 4 = nI n → rn 242 (201, [some (.inr (.inr (some (31, 0)))), d1, some (.inl t), some (.inl (nI c)), some (.inl (nI j))], [], MM (pR I r) w k) = some (.inl none, MM (pR I (m_vl n t d j r)) w k) := by
  intro d
  induction d with
  | zero =>
    intro j r hj hr
    refine (e242_201 _ w k _ _ _ _).trans ?_
    rw [zc_t (nI_le (by omega) (by omega))]
    rfl
  | succ d ih =>
    intro j r hj hr
    have hm := Nat.mod_lt j (by decide : 0 < 60)
    refine (e242_201 _ w k _ _ _ _).trans ?_
    rw [zc_f (nI_ge (by omega) (by omega))]
    refine (bk_v (M_184_3 _ w k (by omega))).trans ?_
    refine (e242_214 _ w k _ _ _ _ _).trans ?_
    have hR : nR r = n := by unfold nR; rw [hr, nI_clamp (by omega)]
    have hq : Rq (pR I r 24 0) := by rw [pR_row]; exact ⟨by rw [hR]; exact hr, by rw [hR]; exact hn⟩
    have hg : m_vl n t (d + 1) j r = m_vl n t d (j + 1) (m_v1 n t j r) := rfl
    have h4 : m_v1 n t j r 4 = nI n := by rw [m_v1_lo (by omega) hn]; exact hr
    rw [hg, pR_row, nI_1]
    by_cases h1 : r (1348 + 84 * (j % 60) + 3) = 0
    · rw [zc_f (fun z => z h1)]
      refine (bk_v (M_184_2 _ w k (by omega))).trans ?_
      refine (e242_225 _ w k _ _ _ _ _ _).trans ?_
      rw [pR_row, nI_1]
      by_cases h2 : t - r (1348 + 84 * (j % 60) + 2) < r 11
      · rw [zc_t h2]
        have e5 : m_v1 n t j r = r := (if_pos h1).trans (if_pos h2)
        rw [e5] at h4 ⊢
        exact ih (j + 1) _ (by omega) h4
      · rw [zc_f h2]
        refine (bk_n (M_239 _ w k hq _)).trans ?_
        refine (e242_242 _ w k _ _ _ _).trans ?_
        refine (bk_v (M_183 _ w k (by omega))).trans ?_
        refine (e242_251 _ w k _ _ _ _ _).trans ?_
        rw [show nI (1348 + 84 * (j % 60)) + 3 = nI (1348 + 84 * (j % 60) + 3) from nI_add _ 3, z_in (by omega) (by decide), nI_clamp (by omega)]
        have e5 : m_v1 n t j r = m_v0 j (m_gb (nI j) n 0 r) := (if_pos h1).trans (if_neg h2)
        rw [e5] at h4 ⊢
        simp only [cond_true, pR_set, pR_row, pR_pR, nI_1, hR]
        exact ih (j + 1) _ (by omega) h4
    · rw [zc_t h1]
      have e5 : m_v1 n t j r = r := if_neg h1
      rw [e5] at h4 ⊢
      exact ih (j + 1) _ (by omega) h4
theorem M_242B (I : aI) (w : aW) (k : aQ) {n c s : Nat} (hn : n ≤ 40) (hc : c < 2 ^ 31) (hs : s < 4) (t : Int32) : ∀ (d j : Nat) (r : aR), j + d = c → r 4 = nI n → rn 242 (118, [some (.inr (.inr (some (31, 0)))), some (.inl (nI s)), some (.inl t), some (.inl (nI c)), some (.inl (nI j))], [], MM (pR I r) w k) = rn 242 (118, [some (.inr (.inr (some (31, 0)))), some (.inl (nI s)), some (.inl t), some (.inl (nI c)), some (.inl (nI c))], [], MM (pR I (m_bl s n t d j r)) w k) := by
  intro d
  induction d with
  | zero =>
    intro j r hj hr
    have : j = c := by omega
    subst this
    rfl
  | succ d ih =>
    intro j r hj hr
    have hm := Nat.mod_lt j (by decide : 0 < 60)
    have hR : nR r = n := by unfold nR; rw [hr, nI_clamp (by omega)]
    have hq : Rq (pR I r 24 0) := by rw [pR_row]; exact ⟨by rw [hR]; exact hr, by rw [hR]; exact hn⟩
    have hg : m_bl s n t (d + 1) j r = m_bl s n t d (j + 1) (m_bq s n t j r) := rfl
    have h4 : m_bq s n t j r 4 = nI n := by rw [m_bq_lo (by omega) hn]; exact hr
    have key : (rn 240 (a_en 240 [.inr (.inr (some (31, 0))), .inl (nI j), .inl t] (MM (pR I r) w k))).bind (fun o => a_bk 242 240 (169, [some (.inr (.inr (some (31, 0)))), some (.inl (nI s)), some (.inl t), some (.inl (nI c)), some (.inl (nI j))], [], MM (pR I r) w k) o (rn 242)) = if m_gR j t n r (1348 + 84 * (j % 60) + 0) = nI s then rn 242 (118, [some (.inr (.inr (some (31, 0)))), some (.inl (nI s)), some (.inl t), some (.inl (nI c)), some (.inl (nI (j + 1)))], [], MM (pR I (m_gR j t n r)) w k) else rn 242 (118, [some (.inr (.inr (some (31, 0)))), some (.inl (nI s)), some (.inl t), some (.inl (nI c)), some (.inl (nI (j + 1)))], [], MM (pR I (m_ct s 4 (m_gR j t n r))) w k) := by
      refine (bk_n (M_240 _ w k hq (by omega) _)).trans ?_
      refine (e242_172 _ w k _ _ _ _).trans ?_
      refine (bk_v (M_184_0 _ w k (by omega))).trans ?_
      refine (e242_179 _ w k _ _ _ _ _).trans ?_
      simp only [pR_row, pR_pR, hR, nI_1]
      by_cases h : m_gR j t n r (1348 + 84 * (j % 60) + 0) = nI s
      · rw [zc_t h, if_pos h]
      · rw [zc_f h, if_neg h]
        refine (bk_n (M_ct _ w k hs).2.2.2.2).trans ?_
        refine (e242_189 _ w k _ _ _ _).trans ?_
        rw [pR_row, pR_pR, nI_1]
    refine (e242_118 _ w k _ _ _ _).trans ?_
    rw [zc_f (nI_ge (by omega) (by omega))]
    refine (bk_v (M_184_3 _ w k (by omega))).trans ?_
    refine (e242_131 _ w k _ _ _ _ _).trans ?_
    rw [hg, pR_row, nI_1]
    by_cases h1 : 2 ≤ r (1348 + 84 * (j % 60) + 3)
    · rw [zc_t h1]
      have e5 : m_bq s n t j r = r := if_pos h1
      rw [e5] at h4 ⊢
      exact ih (j + 1) _ (by omega) h4
    · rw [zc_f h1]
      refine (bk_v (M_184_0 _ w k (by omega))).trans ?_
      refine (e242_142 _ w k _ _ _ _ _).trans ?_
      rw [pR_row]
      by_cases h2 : r (1348 + 84 * (j % 60) + 0) = nI s
      · rw [zc_t h2, key]
        by_cases h3 : m_gR j t n r (1348 + 84 * (j % 60) + 0) = nI s
        · have e5 : m_bq s n t j r = m_gR j t n r := (if_neg h1).trans ((if_pos h2).trans (if_pos h3))
          rw [if_pos h3]
          rw [e5] at h4 ⊢
          exact ih (j + 1) _ (by omega) h4
        · have e5 : m_bq s n t j r = m_ct s 4 (m_gR j t n r) := (if_neg h1).trans ((if_pos h2).trans (if_neg h3))
          rw [if_neg h3]
          rw [e5] at h4 ⊢
          exact ih (j + 1) _ (by omega) h4
      · rw [zc_f h2]
        refine (bk_v (M_184_2 _ w k (by omega))).trans ?_
        refine (e242_154 _ w k _ _ _ _ _ _).trans ?_
        rw [pR_row, nI_1]
        by_cases h6 : t - r (1348 + 84 * (j % 60) + 2) < r 10
        · rw [zc_t h6]
          have e5 : m_bq s n t j r = r := (if_neg h1).trans ((if_neg h2).trans (if_pos h6))
          rw [e5] at h4 ⊢
          exact ih (j + 1) _ (by omega) h4
        · rw [zc_f h6, key]
          by_cases h3 : m_gR j t n r (1348 + 84 * (j % 60) + 0) = nI s
          · have e5 : m_bq s n t j r = m_gR j t n r := (if_neg h1).trans ((if_neg h2).trans ((if_neg h6).trans (if_pos h3)))
            rw [if_pos h3]
            rw [e5] at h4 ⊢
            exact ih (j + 1) _ (by omega) h4
          · have e5 : m_bq s n t j r = m_ct s 4 (m_gR j t n r) := (if_neg h1).trans ((if_neg h2).trans ((if_neg h6).trans (if_neg h3)))
            rw [if_neg h3]
            rw [e5] at h4 ⊢
            exact ih (j + 1) _ (by omega) h4
theorem m_bl_lo {s nr : Nat} {t : Int32} {x : Nat} (hx : x < 21) (hn : nr ≤ 40) : ∀ (d c : Nat) (r : aR), m_bl s nr t d c r x = r x
  | 0, _, _ => rfl
  | d + 1, c, r => by
    show m_bl s nr t d (c + 1) (m_bq s nr t c r) x = r x
    rw [m_bl_lo hx hn d (c + 1), m_bq_lo hx hn]
theorem m_n2_lo {c s : Nat} {t : Int32} {r : aR} {x : Nat} (hx : x < 21) (h12 : x ≠ 12) (h13 : x ≠ 13) : m_n2 c s t r x = r x := by
  unfold m_n2 m_ct m_n1
  rw [upd_n _ _ _ (by omega), upd_n _ _ _ h13, upd_n _ _ _ h12, upd_n _ _ _ (by omega), upd_n _ _ _ (by omega), upd_n _ _ _ (by omega), m_zl_n _ _ (by omega)]
theorem m_n2_12 {c s : Nat} {t : Int32} {r : aR} : m_n2 c s t r 12 = nI (c + 1) := by
  unfold m_n2 m_ct
  rw [upd_n _ _ _ (by omega), upd_n _ _ _ (by omega), upd_s]
theorem M_242 (I : aI) (w : aW) (k : aQ) (hQ : Rq (I 24 0)) (hC : Rc (I 24 0)) (hlt : nC (I 24 0) < 100000) {s : Nat} (hs : s < 4) (t : Int32) : rn 242 (a_en 242 [.inr (.inr (some (31, 0))), .inl (nI s), .inl t] (MM I w k)) = some (.inl none, MM (pR I (m_bC (nC (I 24 0)) (nR (I 24 0)) s t (I 24 0))) w k) := by
  generalize hc : nC (I 24 0) = c at hlt
  generalize hn : nR (I 24 0) = n
  have hn40 : n ≤ 40 := by rw [← hn]; exact hQ.2
  have hr4 : I 24 0 4 = nI n := by rw [← hn]; exact hQ.1
  have hr12 : I 24 0 12 = nI c := by rw [← hc]; exact hC.1
  have hm := Nat.mod_lt c (by decide : 0 < 60)
  have start : rn 242 (a_en 242 [.inr (.inr (some (31, 0))), .inl (nI s), .inl t] (MM I w k)) = rn 242 (25, [some (.inr (.inr (some (31, 0)))), some (.inl (nI s)), some (.inl t), some (.inl (nI c)), some (.inl 0)], [], MM (pR I (m_n0 c n (I 24 0))) w k) := by
    refine (e242_0 I w k _ _).trans ?_
    rw [hr12]
    by_cases h6 : c < 60
    · rw [zc_t (show nI c < (60 : Int32) from nI_lt (b := 60) h6 (by decide)), show m_n0 c n (I 24 0) = I 24 0 from if_pos h6, pR_self]
    · rw [zc_f (show ¬ nI c < (60 : Int32) from nI_nlt (b := 60) (by omega) (by omega)), show nI c - 60 = nI (c - 60) from z_sub (b := 60) (by omega)]
      refine (bk_n (M_239 I w k hQ _)).trans ?_
      refine (e242_22 _ w k _ _ _ _).trans ?_
      rw [hn, show m_n0 c n (I 24 0) = m_gb (nI (c - 60)) n 0 (I 24 0) from if_neg h6]
  rw [start]
  unfold m_bC
  have h04 : m_n0 c n (I 24 0) 4 = nI n := by
    unfold m_n0
    split
    · exact hr4
    · rw [m_gb_n n 0 _ (fun q hq => by omega)]; exact hr4
  have h012 : m_n0 c n (I 24 0) 12 = nI c := by
    unfold m_n0
    split
    · exact hr12
    · rw [m_gb_n n 0 _ (fun q hq => by omega)]; exact hr12
  generalize m_n0 c n (I 24 0) = r0 at h04 h012
  refine (M_242Z I w k (c := c) (by omega) (nI s) t 84 0 r0 (by omega)).trans ?_
  refine (e242_25 _ w k _ _ _ _).trans ?_
  rw [zc_t (show (84 : Int32) ≤ nI 84 from nI_le (a := 84) (by omega) (by omega))]
  refine (bk_v (M_183 _ w k (by omega))).trans ?_
  refine (e242_59 _ w k _ _ _ _ _).trans ?_
  rw [show nI (1348 + 84 * (c % 60)) + 0 = nI (1348 + 84 * (c % 60) + 0) from nI_add _ 0, z_in (by omega) (by decide), nI_clamp (by omega), cond_true]
  refine (bk_v (M_183 _ w k (by omega))).trans ?_
  refine (e242_71 _ w k _ _ _ _ _).trans ?_
  rw [show nI (1348 + 84 * (c % 60)) + 1 = nI (1348 + 84 * (c % 60) + 1) from nI_add _ 1, z_in (by omega) (by decide), nI_clamp (by omega), cond_true]
  refine (bk_v (M_183 _ w k (by omega))).trans ?_
  refine (e242_83 _ w k _ _ _ _ _).trans ?_
  rw [show nI (1348 + 84 * (c % 60)) + 2 = nI (1348 + 84 * (c % 60) + 2) from nI_add _ 2, z_in (by omega) (by decide), nI_clamp (by omega), cond_true]
  refine (bk_n (M_ct _ w k hs).1).trans ?_
  simp only [pR_set, pR_row, pR_pR]
  have h3 : m_n1 (c % 60) (nI s) t (m_zl (c % 60) 84 0 r0) 12 = nI c := by
    unfold m_n1; rw [upd_n _ _ _ (by omega), upd_n _ _ _ (by omega), upd_n _ _ _ (by omega), m_zl_n _ _ (by omega)]; exact h012
  rw [show upd (upd (upd (m_zl (c % 60) 84 0 r0) (1348 + 84 * (c % 60) + 0) (nI s)) (1348 + 84 * (c % 60) + 1) t) (1348 + 84 * (c % 60) + 2) (-1) = m_n1 (c % 60) (nI s) t (m_zl (c % 60) 84 0 r0) from rfl, h3, nI_1]
  rw [show m_ct s 0 (upd (upd (m_n1 (c % 60) (nI s) t (m_zl (c % 60) 84 0 r0)) 12 (nI (c + 1))) 13 1) = m_n2 c s t r0 from rfl]
  have h12 : m_n2 c s t r0 12 = nI (c + 1) := m_n2_12
  have h4' : m_n2 c s t r0 4 = nI n := by rw [m_n2_lo (by omega) (by omega) (by omega)]; exact h04
  generalize m_n2 c s t r0 = r1 at h12 h4'
  refine (e242_112 _ w k _ _ _ _).trans ?_
  have hC1 : nC r1 = c + 1 := by unfold nC; rw [h12, nI_clamp (by omega)]
  have hc1 : Rc (pR I r1 24 0) := by rw [pR_row]; exact ⟨by rw [hC1]; exact h12, by rw [hC1]; omega⟩
  refine (bk_v (M_241 _ w k hc1)).trans ?_
  refine (e242_116 _ w k _ _ _ _ _).trans ?_
  rw [pR_row, hC1]
  refine (M_242B I w k hn40 (by omega) hs t (c - (c + 1 - 60)) (c + 1 - 60) r1 (by omega) h4').trans ?_
  have h12b : m_bl s n t (c - (c + 1 - 60)) (c + 1 - 60) r1 12 = nI (c + 1) := by rw [m_bl_lo (by omega) hn40]; exact h12
  have h4b : m_bl s n t (c - (c + 1 - 60)) (c + 1 - 60) r1 4 = nI n := by rw [m_bl_lo (by omega) hn40]; exact h4'
  generalize m_bl s n t (c - (c + 1 - 60)) (c + 1 - 60) r1 = r2 at h12b h4b
  have hC2 : nC r2 = c + 1 := by unfold nC; rw [h12b, nI_clamp (by omega)]
  have hc2 : Rc (pR I r2 24 0) := by rw [pR_row]; exact ⟨by rw [hC2]; exact h12b, by rw [hC2]; omega⟩
  refine (e242_118 _ w k _ _ _ _).trans ?_
  rw [zc_t (nI_le (Nat.le_refl _) (by omega))]
  refine (bk_v (M_241 _ w k hc2)).trans ?_
  refine (e242_199 _ w k _ _ _ _ _).trans ?_
  rw [pR_row, hC2]
  exact M_242V I w k hn40 (by omega) _ t (c - (c + 1 - 60)) (c + 1 - 60) r2 (by omega) h4b
/-! a frame -/
def m_rc1 (q f : Nat) (r : aR) : aR := upd (upd r (68 + 8 * q + 5) (r (68 + 8 * q + 5) ||| ((1 : Int32) <<< (nI f &&& 31)))) 19 (upd r (68 + 8 * q + 5) (r (68 + 8 * q + 5) ||| ((1 : Int32) <<< (nI f &&& 31))) 19 + 1)
def m_rc2 (q : Nat) (t : Int32) (r : aR) : aR := upd (upd r (68 + 8 * q + 6) t) 20 (upd r (68 + 8 * q + 6) t 20 + 1)
noncomputable def m_rc (q f : Nat) (t : Int32) (r : aR) : aR := if (r (68 + 8 * q + 5) >>> (nI f &&& 31)) &&& 1 = 1 then upd r 18 (r 18 + 1) else (if m_rc1 q f r (68 + 8 * q + 5) = m_full (m_rc1 q f r) q then m_rc2 q t (m_rc1 q f r) else m_rc1 q f r)
theorem M_243 (I : aI) (w : aW) (k : aQ) {q : Nat} (hq : q < 40) (f : Nat) (t : Int32) : rn 243 (a_en 243 [.inr (.inr (some (31, 0))), .inl (nI q), .inl (nI f), .inl t] (MM I w k)) = some (.inl none, MM (pR I (m_rc q f t (I 24 0))) w k) := by
  refine (e243_0 I w k _ _ _).trans ?_
  refine (bk_v (M_181_5 _ w k hq)).trans ?_
  refine (e243_6 _ w k _ _ _ _).trans ?_
  refine (bk_v (M_174 _ w k _ _)).trans ?_
  refine (e243_10 _ w k _ _ _ _).trans ?_
  by_cases h1 : (I 24 0 (68 + 8 * q + 5) >>> (nI f &&& 31)) &&& 1 = 1
  · rw [zc_f (by rw [tf0]; exact fun z => z h1), pR_set, show m_rc q f t (I 24 0) = upd (I 24 0) 18 (I 24 0 18 + 1) from if_pos h1]
  · rw [zc_t (by rw [tf0]; exact h1)]
    refine (bk_v (M_181_5 _ w k hq)).trans ?_
    refine (e243_34 _ w k _ _ _ _ _).trans ?_
    refine (bk_n (M_182_5 _ w k hq _)).trans ?_
    refine (e243_41 _ w k _ _ _).trans ?_
    refine (bk_v (M_181_5 _ w k hq)).trans ?_
    refine (e243_58 _ w k _ _ _ _).trans ?_
    refine (bk_v (M_227 _ w k hq)).trans ?_
    refine (e243_63 _ w k _ _ _ _ _).trans ?_
    simp only [pR_set, pR_row, pR_pR]
    rw [show upd (upd (I 24 0) (68 + 8 * q + 5) (I 24 0 (68 + 8 * q + 5) ||| ((1 : Int32) <<< (nI f &&& 31)))) 19 (upd (I 24 0) (68 + 8 * q + 5) (I 24 0 (68 + 8 * q + 5) ||| ((1 : Int32) <<< (nI f &&& 31))) 19 + 1) = m_rc1 q f (I 24 0) from rfl]
    by_cases h2 : m_rc1 q f (I 24 0) (68 + 8 * q + 5) = m_full (m_rc1 q f (I 24 0)) q
    · rw [zc_f (fun z => z h2), show m_rc q f t (I 24 0) = m_rc2 q t (m_rc1 q f (I 24 0)) from (if_neg h1).trans (if_pos h2)]
      refine (bk_n (M_182_6 _ w k hq _)).trans ?_
      refine (e243_74 _ w k _ _ _).trans ?_
      simp only [pR_set, pR_row, pR_pR]
      rfl
    · rw [zc_t h2, show m_rc q f t (I 24 0) = m_rc1 q f (I 24 0) from (if_neg h1).trans (if_neg h2)]
def m_s1 (q f c : Nat) (r : aR) : aR := upd (upd r (68 + 8 * q + 3) (r (68 + 8 * q + 3) &&& (((1 : Int32) <<< (nI f &&& 31)) ^^^ (-1)))) (388 + 24 * q + f) (nI c)
def m_s2 (q f c : Nat) (r : aR) : aR := upd (m_s1 q f c r) (1348 + 84 * (c % 60) + 4 + q) (m_s1 q f c r (1348 + 84 * (c % 60) + 4 + q) ||| ((1 : Int32) <<< (nI f &&& 31)))
def m_s3 (q f c s : Nat) (r : aR) : aR := m_ct s 2 (upd (m_s2 q f c r) 16 (m_s2 q f c r 16 + 1))
def m_s4 (q f c s : Nat) (r : aR) : aR := m_ct s 3 (upd r (1348 + 84 * (c % 60) + 44 + q) (r (1348 + 84 * (c % 60) + 44 + q) ||| ((1 : Int32) <<< (nI f &&& 31))))
def m_dr (x : Int32) : Int32 := Int64.toInt32 ((((Int32.toInt64 x) * 1103515245) + 12345) - (((Int32.toInt64 x) * 1103515245) + 12345) / 2147483648 * 2147483648)
def m_d100 (x : Int32) : Int32 := (m_dr x / 65536) - (m_dr x / 65536) / 100 * 100
theorem M_237 (I : aI) (w : aW) (k : aQ) : rn 237 (a_en 237 [.inr (.inr (some (31, 0))), .inl 100] (MM I w k)) = some (.inl (some (.inl (m_d100 (I 24 0 14)))), MM (pR I (upd (I 24 0) 14 (m_dr (I 24 0 14)))) w k) := by
  refine (e237_0 I w k _).trans ?_
  rw [zc_t (by decide), pR_set]
  rfl
noncomputable def m_sf (a8 : Int32) (q f s c : Nat) (t : Int32) (r : aR) : aR := if a8 = 0 then (if upd (m_s3 q f c s r) 14 (m_dr (m_s3 q f c s r 14)) (24 + 11 * s + 5) ≤ m_d100 (m_s3 q f c s r 14) then m_rc q f t (m_s4 q f c s (upd (m_s3 q f c s r) 14 (m_dr (m_s3 q f c s r 14)))) else upd (upd (m_s3 q f c s r) 14 (m_dr (m_s3 q f c s r 14))) 17 (upd (m_s3 q f c s r) 14 (m_dr (m_s3 q f c s r 14)) 17 + 1)) else m_rc q f t (m_s4 q f c s (m_s3 q f c s r))
noncomputable def m_snd (a8 : Int32) (q s c : Nat) (t : Int32) (r : aR) : aR := m_sf a8 q (m_lo (r (68 + 8 * q + 3)) 24 0) s c t r
theorem m_lo_lt (x : Int32) : ∀ (d j : Nat), (∃ f, j ≤ f ∧ f < j + d ∧ (x >>> (nI f &&& 31)) &&& 1 = 1) → j ≤ m_lo x d j ∧ m_lo x d j < j + d ∧ (x >>> (nI (m_lo x d j) &&& 31)) &&& 1 = 1
  | 0, j, ⟨f, h1, h2, _⟩ => by omega
  | d + 1, j, ⟨f, h1, h2, h3⟩ => by
    by_cases h : (x >>> (nI j &&& 31)) &&& 1 = 1
    · rw [show m_lo x (d + 1) j = j from if_pos h]
      exact ⟨Nat.le_refl _, by omega, h⟩
    · rw [show m_lo x (d + 1) j = m_lo x d (j + 1) from if_neg h]
      have hf : j + 1 ≤ f := by
        rcases Nat.lt_or_ge j f with h4 | h4
        · omega
        · have : f = j := by omega
          subst this
          exact absurd h3 h
      have := m_lo_lt x d (j + 1) ⟨f, hf, by omega, h3⟩
      exact ⟨by omega, by omega, this.2.2⟩
theorem m_lo_24 {x : Int32} (h : ∃ f, f < 24 ∧ (x >>> (nI f &&& 31)) &&& 1 = 1) : m_lo x 24 0 < 24 ∧ (x >>> (nI (m_lo x 24 0) &&& 31)) &&& 1 = 1 := by
  obtain ⟨f, h1, h2⟩ := h
  have := m_lo_lt x 24 0 ⟨f, by omega, by omega, h2⟩
  exact ⟨by omega, this.2.2⟩
theorem M_244 (I : aI) (w : aW) (k : aQ) {q s c : Nat} (hq : q < 40) (hs : s < 4) (hc : c < 2 ^ 31) (t : Int32) (hx : ∃ f, f < 24 ∧ (I 24 0 (68 + 8 * q + 3) >>> (nI f &&& 31)) &&& 1 = 1) : rn 244 (a_en 244 [.inr (.inr (some (31, 0))), .inl (nI q), .inl (nI s), .inl (nI c), .inl t] (MM I w k)) = some (.inl none, MM (pR I (m_snd (I 31 0 8) q s c t (I 24 0))) w k) := by
  have hm := Nat.mod_lt c (by decide : 0 < 60)
  have hf := (m_lo_24 hx).1
  unfold m_snd
  refine (e244_0 I w k _ _ _ _).trans ?_
  refine (bk_v (M_181_3 _ w k hq)).trans ?_
  refine (e244_6 _ w k _ _ _ _ _ _).trans ?_
  refine (bk_v (M_176 _ w k _ hx)).trans ?_
  generalize m_lo (I 24 0 (68 + 8 * q + 3)) 24 0 = f at hf
  refine (e244_9 _ w k _ _ _ _ _ _).trans ?_
  refine (bk_v (M_181_3 _ w k hq)).trans ?_
  refine (e244_20 _ w k _ _ _ _ _ _ _).trans ?_
  refine (bk_n (M_182_3 _ w k hq _)).trans ?_
  refine (e244_30 _ w k _ _ _ _ _).trans ?_
  rw [z_se, z_in (by omega) (by decide), nI_clamp (by omega), cond_true]
  refine (bk_v (M_183 _ w k hc)).trans ?_
  refine (e244_55 _ w k _ _ _ _ _ _).trans ?_
  rw [show nI (1348 + 84 * (c % 60)) + 4 + nI q = nI (1348 + 84 * (c % 60) + 4 + q) from by rw [show (4 : Int32) = nI 4 from rfl, nI_add, nI_add], z_in (by omega) (by decide), nI_clamp (by omega)]
  simp only [cond_true, pR_set, pR_row, pR_pR]
  refine (bk_n (M_ct _ w k hs).2.2.1).trans ?_
  rw [pR_row, pR_pR]
  rw [show m_ct s 2 (upd (upd (upd (upd (I 24 0) (68 + 8 * q + 3) (I 24 0 (68 + 8 * q + 3) &&& (((1 : Int32) <<< (nI f &&& 31)) ^^^ (-1)))) (388 + 24 * q + f) (nI c)) (1348 + 84 * (c % 60) + 4 + q) (upd (upd (I 24 0) (68 + 8 * q + 3) (I 24 0 (68 + 8 * q + 3) &&& (((1 : Int32) <<< (nI f &&& 31)) ^^^ (-1)))) (388 + 24 * q + f) (nI c) (1348 + 84 * (c % 60) + 4 + q) ||| ((1 : Int32) <<< (nI f &&& 31)))) 16 (upd (upd (upd (I 24 0) (68 + 8 * q + 3) (I 24 0 (68 + 8 * q + 3) &&& (((1 : Int32) <<< (nI f &&& 31)) ^^^ (-1)))) (388 + 24 * q + f) (nI c)) (1348 + 84 * (c % 60) + 4 + q) (upd (upd (I 24 0) (68 + 8 * q + 3) (I 24 0 (68 + 8 * q + 3) &&& (((1 : Int32) <<< (nI f &&& 31)) ^^^ (-1)))) (388 + 24 * q + f) (nI c) (1348 + 84 * (c % 60) + 4 + q) ||| ((1 : Int32) <<< (nI f &&& 31))) 16 + 1)) = m_s3 q f c s (I 24 0) from rfl]
  have got : ∀ x : aR, (rn 183 (a_en 183 [.inl (nI c)] (MM (pR I x) w k))).bind (fun o => a_bk 244 183 (123, [some (.inr (.inr (some (31, 0)))), some (.inl (nI q)), some (.inl (nI s)), some (.inl (nI c)), some (.inl t), some (.inl (nI f))], [.inr (.inr (some (24, 0)))], MM (pR I x) w k) o (rn 244)) = some (.inl none, MM (pR I (m_rc q f t (m_s4 q f c s x))) w k) := by
    intro x
    refine (bk_v (M_183 _ w k hc)).trans ?_
    refine (e244_126 _ w k _ _ _ _ _ _).trans ?_
    rw [show nI (1348 + 84 * (c % 60)) + 44 + nI q = nI (1348 + 84 * (c % 60) + 44 + q) from by rw [show (44 : Int32) = nI 44 from rfl, nI_add, nI_add], z_in (by omega) (by decide), nI_clamp (by omega)]
    simp only [cond_true, pR_set, pR_row, pR_pR]
    refine (bk_n (M_ct _ w k hs).2.2.2.1).trans ?_
    refine (e244_145 _ w k _ _ _ _ _).trans ?_
    refine (bk_n (M_243 _ w k hq f t)).trans ?_
    refine (e244_154 _ w k _ _ _ _ _ _).trans ?_
    simp only [pR_row, pR_pR]
    rfl
  refine (e244_84 _ w k _ _ _ _ _).trans ?_
  rw [show pR I (m_s3 q f c s (I 24 0)) 31 0 8 = I 31 0 8 from rfl]
  by_cases h8 : I 31 0 8 = 0
  · rw [zc_f (fun z => z h8)]
    refine (bk_v (M_237 _ w k)).trans ?_
    refine (e244_97 _ w k _ _ _ _ _ _).trans ?_
    refine (bk_v (M_179_5 _ w k hs)).trans ?_
    refine (e244_103 _ w k _ _ _ _ _ _ _).trans ?_
    rw [z_c]
    simp only [pR_row, pR_pR]
    by_cases h9 : upd (m_s3 q f c s (I 24 0)) 14 (m_dr (m_s3 q f c s (I 24 0) 14)) (24 + 11 * s + 5) ≤ m_d100 (m_s3 q f c s (I 24 0) 14)
    · rw [if_pos h9, got, show m_sf (I 31 0 8) q f s c t (I 24 0) = m_rc q f t (m_s4 q f c s (upd (m_s3 q f c s (I 24 0)) 14 (m_dr (m_s3 q f c s (I 24 0) 14)))) from (if_pos h8).trans (if_pos h9)]
    · rw [if_neg h9, pR_set', show m_sf (I 31 0 8) q f s c t (I 24 0) = upd (upd (m_s3 q f c s (I 24 0)) 14 (m_dr (m_s3 q f c s (I 24 0) 14))) 17 (upd (m_s3 q f c s (I 24 0)) 14 (m_dr (m_s3 q f c s (I 24 0) 14)) 17 + 1) from (if_pos h8).trans (if_neg h9)]
  · rw [zc_t h8, got, show m_sf (I 31 0 8) q f s c t (I 24 0) = m_rc q f t (m_s4 q f c s (m_s3 q f c s (I 24 0))) from if_neg h8]
