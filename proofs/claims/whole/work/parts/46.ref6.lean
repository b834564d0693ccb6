/-! ===== the reference: a minute, and time ===== -/
theorem m_nxL_v {r : aR} {t : Int32} : ∀ (d j : Nat) (b : Int32), (b = -1 ∨ ∃ q, q < j + d ∧ b = nI q ∧ ¬ r (68 + 8 * q + 3) = 0) → m_nxL r t d j b = -1 ∨ ∃ q, q < j + d ∧ m_nxL r t d j b = nI q ∧ ¬ r (68 + 8 * q + 3) = 0
  | 0, _, _, h => h
  | d + 1, j, b, h => by
    have i1 := m_nxL_v (r := r) (t := t) d (j + 1) b (h.imp_right (fun ⟨q, a, e⟩ => ⟨q, by omega, e⟩))
    have fix : ∀ x : Int32, (x = -1 ∨ ∃ q, q < j + 1 + d ∧ x = nI q ∧ ¬ r (68 + 8 * q + 3) = 0) → (x = -1 ∨ ∃ q, q < j + (d + 1) ∧ x = nI q ∧ ¬ r (68 + 8 * q + 3) = 0) := fun x hx => hx.imp_right (fun ⟨q, a, e⟩ => ⟨q, by omega, e⟩)
    by_cases h0 : r (68 + 8 * j + 3) = 0
    · rw [show m_nxL r t (d + 1) j b = m_nxL r t d (j + 1) b from if_pos h0]
      exact fix _ i1
    · have i2 := m_nxL_v (r := r) (t := t) d (j + 1) (nI j) (Or.inr ⟨j, by omega, rfl, h0⟩)
      by_cases h1 : b = -1
      · rw [show m_nxL r t (d + 1) j b = m_nxL r t d (j + 1) (nI j) from (if_neg h0).trans (if_pos h1)]
        exact fix _ i2
      · by_cases h2 : m_ur r j t ≤ m_ur r b.toNatClampNeg t
        · rw [show m_nxL r t (d + 1) j b = m_nxL r t d (j + 1) b from (if_neg h0).trans ((if_neg h1).trans (if_pos h2))]
          exact fix _ i1
        · rw [show m_nxL r t (d + 1) j b = m_nxL r t d (j + 1) (nI j) from (if_neg h0).trans ((if_neg h1).trans (if_neg h2))]
          exact fix _ i2
theorem m_nxt_v (r : aR) (t : Int32) : m_nxt r t = -1 ∨ ∃ q, q < nR r ∧ m_nxt r t = nI q ∧ ¬ r (68 + 8 * q + 3) = 0 := by
  have h := m_nxL_v (r := r) (t := t) (nR r) 0 (-1) (Or.inl rfl)
  rw [Nat.zero_add] at h
  exact h
theorem m_sf_n {a8 : Int32} {q f s c : Nat} {t : Int32} {r : aR} {x : Nat} (h1 : x ≠ 68 + 8 * q + 3) (h2 : x ≠ 388 + 24 * q + f) (h3 : x ≠ 1348 + 84 * (c % 60) + 4 + q) (h4 : x ≠ 16) (h5 : x ≠ 24 + 11 * s + 6 + 2) (h6 : x ≠ 14) (h7 : x ≠ 17) (h8 : x ≠ 1348 + 84 * (c % 60) + 44 + q) (h9 : x ≠ 24 + 11 * s + 6 + 3) (ha : x ≠ 68 + 8 * q + 5) (hb : x ≠ 19) (hc : x ≠ 68 + 8 * q + 6) (hd : x ≠ 20) (he : x ≠ 18) : m_sf a8 q f s c t r x = r x := by
  unfold m_sf m_rc m_rc2 m_rc1 m_s4 m_s3 m_s2 m_s1 m_ct
  repeat' split
  all_goals simp only [upd_n _ _ _ h1, upd_n _ _ _ h2, upd_n _ _ _ h3, upd_n _ _ _ h4, upd_n _ _ _ h5, upd_n _ _ _ h6, upd_n _ _ _ h7, upd_n _ _ _ h8, upd_n _ _ _ h9, upd_n _ _ _ ha, upd_n _ _ _ hb, upd_n _ _ _ hc, upd_n _ _ _ hd, upd_n _ _ _ he]
theorem m_sf_3 {a8 : Int32} {q f s c : Nat} {t : Int32} {r : aR} (hs : s < 4) : m_sf a8 q f s c t r (68 + 8 * q + 3) = r (68 + 8 * q + 3) &&& (((1 : Int32) <<< (nI f &&& 31)) ^^^ (-1)) ∨ 40 ≤ q ∨ 24 ≤ f := by
  rcases Nat.lt_or_ge q 40 with hq | hq
  · rcases Nat.lt_or_ge f 24 with hf | hf
    · refine Or.inl ?_
      unfold m_sf m_rc m_rc2 m_rc1 m_s4 m_s3 m_s2 m_s1 m_ct
      have h2 : 68 + 8 * q + 3 ≠ 388 + 24 * q + f := by omega
      have h3 : 68 + 8 * q + 3 ≠ 1348 + 84 * (c % 60) + 4 + q := by omega
      have h4 : 68 + 8 * q + 3 ≠ 16 := by omega
      have h5 : 68 + 8 * q + 3 ≠ 24 + 11 * s + 6 + 2 := by omega
      have h6 : 68 + 8 * q + 3 ≠ 14 := by omega
      have h7 : 68 + 8 * q + 3 ≠ 17 := by omega
      have h8 : 68 + 8 * q + 3 ≠ 1348 + 84 * (c % 60) + 44 + q := by omega
      have h9 : 68 + 8 * q + 3 ≠ 24 + 11 * s + 6 + 3 := by omega
      have ha : 68 + 8 * q + 3 ≠ 68 + 8 * q + 5 := by omega
      have hb : 68 + 8 * q + 3 ≠ 19 := by omega
      have hc : 68 + 8 * q + 3 ≠ 68 + 8 * q + 6 := by omega
      have hd : 68 + 8 * q + 3 ≠ 20 := by omega
      have he : 68 + 8 * q + 3 ≠ 18 := by omega
      repeat' split
      all_goals simp only [upd_s, upd_n _ _ _ h2, upd_n _ _ _ h3, upd_n _ _ _ h4, upd_n _ _ _ h5, upd_n _ _ _ h6, upd_n _ _ _ h7, upd_n _ _ _ h8, upd_n _ _ _ h9, upd_n _ _ _ ha, upd_n _ _ _ hb, upd_n _ _ _ hc, upd_n _ _ _ hd, upd_n _ _ _ he]
    · exact Or.inr (Or.inr hf)
  · exact Or.inr (Or.inl hq)
/-- what the talk of a minute needs of a row: n records, rate v of the station s, c + 1 contacts -/
def Rk (n s c v : Nat) (r : aR) : Prop := r 4 = nI n ∧ r 12 = nI (c + 1) ∧ r (24 + 11 * s + 4) = nI v ∧ ∀ q, q < n → Lw (r (68 + 8 * q + 3))
theorem Rk.snd {n s c v : Nat} {r : aR} (h : Rk n s c v r) (hs : s < 4) (hn : n ≤ 40) (a8 t : Int32) {q : Nat} (hq : q < n) (hx : ¬ r (68 + 8 * q + 3) = 0) : Rk n s c v (m_snd a8 q s c t r) := by
  obtain ⟨h1, h2, h3, h4⟩ := h
  have hf := (m_lo_24 ((h4 q hq).ex hx)).1
  unfold m_snd
  generalize m_lo (r (68 + 8 * q + 3)) 24 0 = f at hf
  have hm := Nat.mod_lt c (by decide : 0 < 60)
  refine ⟨?_, ?_, ?_, fun p hp => ?_⟩
  · rw [m_sf_n (by omega) (by omega) (by omega) (by omega) (by omega) (by omega) (by omega) (by omega) (by omega) (by omega) (by omega) (by omega) (by omega) (by omega)]; exact h1
  · rw [m_sf_n (by omega) (by omega) (by omega) (by omega) (by omega) (by omega) (by omega) (by omega) (by omega) (by omega) (by omega) (by omega) (by omega) (by omega)]; exact h2
  · rw [m_sf_n (by omega) (by omega) (by omega) (by omega) (by omega) (by omega) (by omega) (by omega) (by omega) (by omega) (by omega) (by omega) (by omega) (by omega)]; exact h3
  · by_cases e : p = q
    · subst e
      rcases m_sf_3 (a8 := a8) (q := p) (f := f) (c := c) (t := t) (r := r) hs with h9 | h9 | h9
      · rw [h9]; exact (h4 p hp).and
      · omega
      · omega
    · rw [m_sf_n (by omega) (by omega) (by omega) (by omega) (by omega) (by omega) (by omega) (by omega) (by omega) (by omega) (by omega) (by omega) (by omega) (by omega)]; exact h4 p hp
noncomputable def m_tl (a8 : Int32) (s c : Nat) (t : Int32) : Nat → Int32 → aR → aR
  | 0, _, r => r
  | d + 1, x, r => if x = -1 then r else m_tl a8 s c t d (m_nxt (m_snd a8 x.toNatClampNeg s c t r) t) (m_snd a8 x.toNatClampNeg s c t r)
def m_tt (r : aR) : aR := upd r 5 (r 5 + 1)
theorem M_245L (I : aI) (w : aW) (k : aQ) {n s c v : Nat} (hn : n ≤ 40) (hs : s < 4) (hc : c < 100000) (hv : v ≤ 20) (t : Int32) (d2 : Option aV) : ∀ (d j : Nat) (r : aR), j + d = v → Rk n s c v r → rn 245 (109, [some (.inr (.inr (some (31, 0)))), some (.inl t), d2, some (.inl (nI s)), some (.inl (m_nxt r t)), some (.inl (nI j))], [], MM (pR I r) w k) = some (.inl none, MM (pR I (m_tt (m_tl (I 31 0 8) s c t d (m_nxt r t) r))) w k) := by
  intro d
  induction d with
  | zero =>
    intro j r hj hr
    refine (e245_109 _ w k _ _ _ _ _).trans ?_
    refine (bk_v (M_179_4 _ w k hs)).trans ?_
    refine (e245_117 _ w k _ _ _ _ _ _ _).trans ?_
    rw [pR_row, hr.2.2.1, zc_t (nI_le (by omega) (by omega)), pR_set']
    rfl
  | succ d ih =>
    intro j r hj hr
    refine (e245_109 _ w k _ _ _ _ _).trans ?_
    refine (bk_v (M_179_4 _ w k hs)).trans ?_
    refine (e245_117 _ w k _ _ _ _ _ _ _).trans ?_
    rw [pR_row, hr.2.2.1, zc_f (nI_ge (by omega) (by omega))]
    have hRn : nR r = n := by unfold nR; rw [hr.1, nI_clamp (by omega)]
    by_cases h1 : m_nxt r t = -1
    · rw [zc_t h1, pR_set', show m_tl (I 31 0 8) s c t (d + 1) (m_nxt r t) r = r from if_pos h1]
      rfl
    · rw [zc_f h1]
      obtain ⟨q, hq, hx, hz⟩ := (m_nxt_v r t).resolve_left h1
      rw [hRn] at hq
      have hq40 : q < 40 := by omega
      have hk := hr.snd hs hn (I 31 0 8) t hq hz
      rw [show m_tl (I 31 0 8) s c t (d + 1) (m_nxt r t) r = m_tl (I 31 0 8) s c t d (m_nxt (m_snd (I 31 0 8) (m_nxt r t).toNatClampNeg s c t r) t) (m_snd (I 31 0 8) (m_nxt r t).toNatClampNeg s c t r) from if_neg h1, hx, nI_clamp (by omega), hr.2.1, nI_pred]
      refine (bk_n (M_244 _ w k hq40 hs (by omega) t (by rw [pR_row]; exact (hr.2.2.2 q hq).ex hz))).trans ?_
      refine (e245_143 _ w k _ _ _ _ _).trans ?_
      rw [pR_row, pR_pR, show pR I r 31 0 8 = I 31 0 8 from rfl]
      have hRn2 : nR (m_snd (I 31 0 8) q s c t r) = n := by unfold nR; rw [hk.1, nI_clamp (by omega)]
      have hQ : Rq (pR I (m_snd (I 31 0 8) q s c t r) 24 0) := by rw [pR_row]; exact ⟨by rw [hRn2]; exact hk.1, by rw [hRn2]; exact hn⟩
      refine (bk_v (M_223 _ w k hQ t)).trans ?_
      refine (e245_148 _ w k _ _ _ _ _ _).trans ?_
      rw [pR_row, nI_1]
      exact ih (j + 1) _ (by omega) hk
/-- the talk of a minute -/
noncomputable def m_tk (a8 : Int32) (s c : Nat) (t : Int32) (r : aR) : aR := m_tl a8 s c t (r (24 + 11 * s + 4)).toNatClampNeg (m_nxt (m_ct s 1 r) t) (m_ct s 1 r)
theorem Rk.ct {n s c v : Nat} {r : aR} (h : Rk n s c v r) (hs : s < 4) (j : Nat) (hj : j < 5) : Rk n s c v (m_ct s j r) := by
  obtain ⟨h1, h2, h3, h4⟩ := h
  unfold m_ct
  refine ⟨?_, ?_, ?_, fun p hp => ?_⟩
  · rw [upd_n _ _ _ (by omega)]; exact h1
  · rw [upd_n _ _ _ (by omega)]; exact h2
  · rw [upd_n _ _ _ (by omega)]; exact h3
  · rw [upd_n _ _ _ (by omega)]; exact h4 p hp
theorem M_245T (I : aI) (w : aW) (k : aQ) {n s c v : Nat} (hn : n ≤ 40) (hs : s < 4) (hc : c < 100000) (hv : v ≤ 20) (t : Int32) (d2 d4 d5 : Option aV) (r : aR) (hr : Rk n s c v r) : (rn 180 (a_en 180 [.inr (.inr (some (31, 0))), .inl (nI s), .inl 1] (MM (pR I r) w k))).bind (fun o => a_bk 245 180 (96, [some (.inr (.inr (some (31, 0)))), some (.inl t), d2, some (.inl (nI s)), d4, d5], [], MM (pR I r) w k) o (rn 245)) = some (.inl none, MM (pR I (m_tt (m_tk (I 31 0 8) s c t r))) w k) := by
  have hk := hr.ct hs 1 (by decide)
  refine (bk_n (M_ct _ w k hs).2.1).trans ?_
  refine (e245_99 _ w k _ _ _ _ _).trans ?_
  rw [pR_row, pR_pR]
  have hRn2 : nR (m_ct s 1 r) = n := by unfold nR; rw [hk.1, nI_clamp (by omega)]
  have hQ : Rq (pR I (m_ct s 1 r) 24 0) := by rw [pR_row]; exact ⟨by rw [hRn2]; exact hk.1, by rw [hRn2]; exact hn⟩
  refine (bk_v (M_223 _ w k hQ t)).trans ?_
  refine (e245_104 _ w k _ _ _ _ _ _).trans ?_
  rw [pR_row]
  have e := M_245L I w k hn hs hc hv t d2 v 0 (m_ct s 1 r) (by omega) hk
  unfold m_tk
  rw [hr.2.2.1, nI_clamp (by omega)]
  exact e
/-- the present contact ends; x: what is added to the handovers -/
def m_en (c : Nat) (t x : Int32) (r : aR) : aR := upd (upd (upd r (1348 + 84 * (c % 60) + 2) t) 13 0) 15 (upd r (1348 + 84 * (c % 60) + 2) t 15 + x)
/-! what a contact's beginning leaves alone -/
theorem m_gR_n {c nr : Nat} {t : Int32} {r : aR} {x : Nat} (hx : x < 68) (h21 : x ≠ 21) (h22 : x ≠ 22) : m_gR c t nr r x = r x := by
  unfold m_gR m_g6
  rw [upd_n _ _ _ h22, upd_n _ _ _ (by omega), m_gl_n h21 nr 0 r (fun q hq => ⟨by omega, by omega, by omega⟩)]
theorem m_bq_n {s nr : Nat} {t : Int32} {c : Nat} {r : aR} {x : Nat} (hx : x < 68) (h21 : x ≠ 21) (h22 : x ≠ 22) (h4 : x ≠ 24 + 11 * s + 6 + 4) : m_bq s nr t c r x = r x := by
  have h1 : m_gR c t nr r x = r x := m_gR_n hx h21 h22
  have h2 : m_ct s 4 (m_gR c t nr r) x = r x := by unfold m_ct; rw [upd_n _ _ _ h4, h1]
  unfold m_bq
  repeat' split
  all_goals first | rfl | exact h1 | exact h2
theorem m_bl_n {s nr : Nat} {t : Int32} {x : Nat} (hx : x < 68) (h21 : x ≠ 21) (h22 : x ≠ 22) (h4 : x ≠ 24 + 11 * s + 6 + 4) : ∀ (d c : Nat) (r : aR), m_bl s nr t d c r x = r x
  | 0, _, _ => rfl
  | d + 1, c, r => by
    show m_bl s nr t d (c + 1) (m_bq s nr t c r) x = r x
    rw [m_bl_n hx h21 h22 h4 d (c + 1), m_bq_n hx h21 h22 h4]
theorem m_v1_n {nr : Nat} {t : Int32} {c : Nat} {r : aR} {x : Nat} (hx : x < 68) (h23 : x ≠ 23) : m_v1 nr t c r x = r x := by
  unfold m_v1
  repeat' split
  all_goals first | rfl | (unfold m_v0; rw [upd_n _ _ _ h23, upd_n _ _ _ (by omega), m_gb_n nr 0 r (fun q hq => by omega)])
theorem m_vl_n {nr : Nat} {t : Int32} {x : Nat} (hx : x < 68) (h23 : x ≠ 23) : ∀ (d c : Nat) (r : aR), m_vl nr t d c r x = r x
  | 0, _, _ => rfl
  | d + 1, c, r => by
    show m_vl nr t d (c + 1) (m_v1 nr t c r) x = r x
    rw [m_vl_n hx h23 d (c + 1), m_v1_n hx h23]
theorem m_n2_n {c s : Nat} {t : Int32} {r : aR} {x : Nat} (hx : x < 68) (h12 : x ≠ 12) (h13 : x ≠ 13) (h6 : x ≠ 24 + 11 * s + 6 + 0) : m_n2 c s t r x = r x := by
  unfold m_n2 m_ct m_n1
  rw [upd_n _ _ _ h6, upd_n _ _ _ h13, upd_n _ _ _ h12, upd_n _ _ _ (by omega), upd_n _ _ _ (by omega), upd_n _ _ _ (by omega), m_zl_n _ _ (by omega)]
theorem m_n0_n {c nr : Nat} {r : aR} {x : Nat} (hx : x < 68) : m_n0 c nr r x = r x := by
  unfold m_n0
  split
  · rfl
  · rw [m_gb_n nr 0 r (fun q hq => by omega)]
theorem m_bC_n {c nr s : Nat} {t : Int32} {r : aR} {x : Nat} (hx : x < 68) (h12 : x ≠ 12) (h13 : x ≠ 13) (h21 : x ≠ 21) (h22 : x ≠ 22) (h23 : x ≠ 23) (h6 : x ≠ 24 + 11 * s + 6 + 0) (h10 : x ≠ 24 + 11 * s + 6 + 4) : m_bC c nr s t r x = r x := by
  unfold m_bC
  rw [m_vl_n hx h23, m_bl_n hx h21 h22 h10, m_n2_n hx h12 h13 h6, m_n0_n hx]
theorem m_bC_12 {c nr s : Nat} {t : Int32} {r : aR} : m_bC c nr s t r 12 = nI (c + 1) := by
  unfold m_bC
  rw [m_vl_n (by omega) (by omega), m_bl_n (by omega) (by omega) (by omega) (by omega), m_n2_12]
theorem m_bC_13 {c nr s : Nat} {t : Int32} {r : aR} : m_bC c nr s t r 13 = 1 := by
  unfold m_bC
  rw [m_vl_n (by omega) (by omega), m_bl_n (by omega) (by omega) (by omega) (by omega)]
  unfold m_n2 m_ct
  rw [upd_n _ _ _ (by omega), upd_s]
/-! frames to send stay below 24 -/
def LwR (n : Nat) (r : aR) : Prop := ∀ q, q < n → Lw (r (68 + 8 * q + 3))
theorem LwR.up {n : Nat} {r : aR} (h : LwR n r) {x : Nat} {v : Int32} (hx : ∀ q, q < n → 68 + 8 * q + 3 ≠ x) : LwR n (upd r x v) := by
  intro q hq
  rw [upd_n _ _ _ (hx q hq)]
  exact h q hq
theorem LwR.up3 {n : Nat} {r : aR} (h : LwR n r) {p : Nat} {v : Int32} (hv : Lw v) : LwR n (upd r (68 + 8 * p + 3) v) := by
  intro q hq
  by_cases e : q = p
  · subst e; rw [upd_s]; exact hv
  · rw [upd_n _ _ _ (by omega)]; exact h q hq
theorem Lw.sa {L : aR} {ag c : Int32} : ∀ (d j : Nat) (ts : Int32), j + d ≤ 24 → Lw ts → Lw (m_sa L ag c d j ts)
  | 0, _, _, _, h => h
  | d + 1, j, ts, hj, h => by
    unfold m_sa
    split
    · split
      · exact Lw.sa d (j + 1) _ (by omega) (h.or (by omega))
      · exact Lw.sa d (j + 1) _ (by omega) h
    · exact Lw.sa d (j + 1) _ (by omega) h
theorem LwR.sA {n : Nat} {r : aR} (h : LwR n r) {q : Nat} (hq : q < n) (set c : Int32) : LwR n (m_sA r q set c) := h.up3 (Lw.sa 24 0 _ (by omega) (h q hq))
theorem LwR.gb {n : Nat} {c : Int32} : ∀ (d j : Nat) (r : aR), j + d ≤ n → LwR n r → LwR n (m_gb c d j r)
  | 0, _, _, _, h => h
  | d + 1, j, r, hj, h => LwR.gb d (j + 1) _ (by omega) (h.sA (by omega) _ _)
theorem LwR.g5 {n : Nat} {r : aR} (h : LwR n r) (hn : n ≤ 40) {p j : Nat} (hj : j < n) (c t : Int32) : LwR n (m_g5 p c t j r) := by
  have h1 : LwR n (m_g1 p j r) := h.up (fun q hq => by omega)
  have h2 : LwR n (m_g2 p j r) := h1.up3 ((h1 j hj).and)
  have h3 : LwR n (m_g3 p c j r) := h2.sA hj _ _
  unfold m_g5
  repeat' split
  all_goals first | exact h3 | exact (h3.up (fun q hq => by omega)).up (fun q hq => by omega)
theorem LwR.gl {n : Nat} (hn : n ≤ 40) {p : Nat} {c t : Int32} : ∀ (d j : Nat) (r : aR), j + d ≤ n → LwR n r → LwR n (m_gl p c t d j r)
  | 0, _, _, _, h => h
  | d + 1, j, r, hj, h => LwR.gl hn d (j + 1) _ (by omega) (h.g5 hn (by omega) c t)
theorem LwR.gR {n : Nat} {r : aR} (h : LwR n r) (hn : n ≤ 40) (c : Nat) (t : Int32) : LwR n (m_gR c t n r) := by
  unfold m_gR m_g6
  exact ((LwR.gl hn n 0 r (by omega) h).up (fun q hq => by omega)).up (fun q hq => by omega)
theorem LwR.bl {n : Nat} (hn : n ≤ 40) {s : Nat} (hs : s < 4) {t : Int32} : ∀ (d c : Nat) (r : aR), LwR n r → LwR n (m_bl s n t d c r)
  | 0, _, _, h => h
  | d + 1, c, r, h => by
    refine LwR.bl hn hs d (c + 1) _ ?_
    have h1 := h.gR hn c t
    have h2 : LwR n (m_ct s 4 (m_gR c t n r)) := h1.up (fun q hq => by omega)
    unfold m_bq
    repeat' split
    all_goals first | exact h | exact h1 | exact h2
theorem LwR.vl {n : Nat} (hn : n ≤ 40) {t : Int32} : ∀ (d c : Nat) (r : aR), LwR n r → LwR n (m_vl n t d c r)
  | 0, _, _, h => h
  | d + 1, c, r, h => by
    refine LwR.vl hn d (c + 1) _ ?_
    unfold m_v1
    repeat' split
    all_goals first | exact h | exact ((LwR.gb n 0 r (by omega) h).up (fun q hq => by omega)).up (fun q hq => by omega)
theorem LwR.zl {n : Nat} (hn : n ≤ 40) {p : Nat} : ∀ (d j : Nat) (r : aR), LwR n r → LwR n (m_zl p d j r)
  | 0, _, _, h => h
  | d + 1, j, r, h => LwR.zl hn d (j + 1) _ (h.up (fun q hq => by omega))
theorem LwR.bC {n : Nat} {r : aR} (h : LwR n r) (hn : n ≤ 40) {s : Nat} (hs : s < 4) (c : Nat) (t : Int32) : LwR n (m_bC c n s t r) := by
  unfold m_bC
  refine LwR.vl hn _ _ _ (LwR.bl hn hs _ _ _ ?_)
  have h0 : LwR n (m_n0 c n r) := by
    unfold m_n0
    split
    · exact h
    · exact LwR.gb n 0 r (by omega) h
  unfold m_n2 m_ct m_n1
  exact ((((((LwR.zl hn 84 0 _ h0).up (fun q hq => by omega)).up (fun q hq => by omega)).up (fun q hq => by omega)).up (fun q hq => by omega)).up (fun q hq => by omega)).up (fun q hq => by omega)
/-! the chosen station -/
theorem m_chL_v {r : aR} {t pr : Int32} : ∀ (d j : Nat) (b l : Int32), (b = -1 ∨ ∃ s, s < j + d ∧ b = nI s) → m_chL r t pr d j b l = -1 ∨ ∃ s, s < j + d ∧ m_chL r t pr d j b l = nI s
  | 0, _, _, _, h => h
  | d + 1, j, b, l, h => by
    have fix : ∀ x : Int32, (x = -1 ∨ ∃ s, s < j + 1 + d ∧ x = nI s) → (x = -1 ∨ ∃ s, s < j + (d + 1) ∧ x = nI s) := fun x hx => hx.imp_right (fun ⟨q, a, e⟩ => ⟨q, by omega, e⟩)
    have i1 := fun l => fix _ (m_chL_v (r := r) (t := t) (pr := pr) d (j + 1) b l (h.imp_right (fun ⟨q, a, e⟩ => ⟨q, by omega, e⟩)))
    have i2 := fun l => fix _ (m_chL_v (r := r) (t := t) (pr := pr) d (j + 1) (nI j) l (Or.inr ⟨j, by omega, rfl⟩))
    unfold m_chL
    repeat' split
    all_goals first | exact i1 _ | exact i2 _
theorem m_cho_v {r : aR} {t pr : Int32} (hp : pr = -1 ∨ ∃ p, p < nS r ∧ pr = nI p) : m_cho r t pr = -1 ∨ ∃ s, s < nS r ∧ m_cho r t pr = nI s := by
  have h := m_chL_v (r := r) (t := t) (pr := pr) (nS r) 0 (-1) (-1) (Or.inl rfl)
  rw [Nat.zero_add] at h
  unfold m_cho
  repeat' split
  all_goals first | exact h | exact hp
theorem nI_n1 {c : Nat} (h : c < 2 ^ 31) : ¬ nI c = -1 := fun z => absurd (congrArg Int32.toInt z) (by rw [nI_toInt h, show (-1 : Int32).toInt = -1 from by decide +kernel]; omega)
/-- what a minute needs of a row -/
def Rm (r : aR) : Prop := Rs r ∧ Rq r ∧ (Rc r ∧ nC r < 99999) ∧ LwR (nR r) r ∧ (m_tk0 r = -1 ∨ ∃ p, p < nS r ∧ m_tk0 r = nI p) ∧ (¬ r 13 = 0 → 1 ≤ nC r)
/-- a minute, present station pr, chosen station x -/
noncomputable def m_m1 (a8 : Int32) (t pr x : Int32) (r : aR) : aR := if x = pr then (if x = -1 then m_tt r else m_tt (m_tk a8 x.toNatClampNeg (nC r - 1) t r)) else (if pr = -1 then m_tt (m_tk a8 x.toNatClampNeg (nC r) t (m_bC (nC r) (nR r) x.toNatClampNeg t r)) else (if x = -1 then m_tt (m_en (nC r - 1) t 0 r) else m_tt (m_tk a8 x.toNatClampNeg (nC r) t (m_bC (nC r) (nR r) x.toNatClampNeg t (m_en (nC r - 1) t 1 r)))))
noncomputable def m_min (a8 : Int32) (r : aR) : aR := m_m1 a8 (r 5) (m_tk0 r) (m_cho r (r 5) (m_tk0 r)) r
theorem M_245 (I : aI) (w : aW) (k : aQ) (h : Rm (I 24 0)) : rn 245 (a_en 245 [.inr (.inr (some (31, 0)))] (MM I w k)) = some (.inl none, MM (pR I (m_min (I 31 0 8) (I 24 0))) w k) := by
  obtain ⟨hR, hQ, ⟨hC, hlt⟩, hL, hp, h13⟩ := h
  unfold m_min
  refine (e245_0 I w k).trans ?_
  refine (bk_v (M_216 I w k hC h13)).trans ?_
  refine (e245_11 _ w k _ _ _ _ _ _).trans ?_
  refine (bk_v (M_215 I w k hR _ _ hp)).trans ?_
  refine (e245_18 _ w k _ _ _ _ _ _).trans ?_
  have hv := m_cho_v (r := I 24 0) (t := I 24 0 5) hp
  have hpc : ¬ m_tk0 (I 24 0) = -1 → 1 ≤ nC (I 24 0) := fun z => h13 (fun e => z (if_pos e))
  generalize m_cho (I 24 0) (I 24 0 5) (m_tk0 (I 24 0)) = x at hv
  generalize m_tk0 (I 24 0) = pr at hp hpc
  generalize ht : I 24 0 5 = t
  have hn40 := hQ.2
  have hs4 := hR.1.2
  have hc2 := hC.2
  by_cases e1 : x = pr
  · rw [zc_t e1]
    by_cases e2 : x = -1
    · rw [zc_t e2, pR_set, show m_m1 (I 31 0 8) t pr x (I 24 0) = m_tt (I 24 0) from (if_pos e1).trans (if_pos e2)]
      unfold m_tt
      rw [ht]
    · rw [zc_f e2, show m_m1 (I 31 0 8) t pr x (I 24 0) = m_tt (m_tk (I 31 0 8) x.toNatClampNeg (nC (I 24 0) - 1) t (I 24 0)) from (if_pos e1).trans (if_neg e2)]
      obtain ⟨s, hs, rfl⟩ := hv.resolve_left e2
      obtain ⟨-, -, -, -, ⟨v, hv1, hv2, hv3⟩, -⟩ := hR.2.2.2.2 s hs
      have h1 := hpc (fun z => e2 (e1.trans z))
      rw [nI_clamp (by omega)]
      have e := M_245T I w k hn40 (show s < 4 by omega) (show nC (I 24 0) - 1 < 100000 by omega) hv2 t (some (.inl pr)) none none (I 24 0) ⟨hQ.1, by rw [show nC (I 24 0) - 1 + 1 = nC (I 24 0) by omega]; exact hC.1, hv3, hL⟩
      rw [pR_self] at e
      exact e
  · rw [zc_f e1]
    by_cases e3 : pr = -1
    · have e2 : ¬ x = -1 := fun z => e1 (z.trans e3.symm)
      rw [zc_t e3, zc_f e2, show m_m1 (I 31 0 8) t pr x (I 24 0) = m_tt (m_tk (I 31 0 8) x.toNatClampNeg (nC (I 24 0)) t (m_bC (nC (I 24 0)) (nR (I 24 0)) x.toNatClampNeg t (I 24 0))) from (if_neg e1).trans (if_pos e3)]
      obtain ⟨s, hs, rfl⟩ := hv.resolve_left e2
      obtain ⟨-, -, -, -, ⟨v, hv1, hv2, hv3⟩, -⟩ := hR.2.2.2.2 s hs
      rw [nI_clamp (by omega)]
      refine (bk_n (M_242 I w k hQ hC (by omega) (show s < 4 by omega) t)).trans ?_
      refine (e245_88 _ w k _ _ _ _ _).trans ?_
      rw [zc_f e2]
      exact M_245T I w k hn40 (show s < 4 by omega) (show nC (I 24 0) < 100000 by omega) hv2 t _ _ _ _ ⟨by rw [m_bC_n (by omega) (by omega) (by omega) (by omega) (by omega) (by omega) (by omega) (by omega)]; exact hQ.1, m_bC_12, by rw [m_bC_n (by omega) (by omega) (by omega) (by omega) (by omega) (by omega) (by omega) (by omega)]; exact hv3, hL.bC hn40 (show s < 4 by omega) _ _⟩
    · rw [zc_f e3, hC.1, show nI (nC (I 24 0)) - 1 = nI (nC (I 24 0) - 1) from by
        obtain ⟨m, hm⟩ : ∃ m, nC (I 24 0) = m + 1 := ⟨nC (I 24 0) - 1, by have := hpc e3; omega⟩
        rw [hm, nI_pred]; rfl]
      have h1 := hpc e3
      have hm := Nat.mod_lt (nC (I 24 0) - 1) (by decide : 0 < 60)
      refine (bk_v (M_183 _ w k (by omega))).trans ?_
      refine (e245_45 _ w k _ _ _ _ _ _).trans ?_
      rw [show nI (1348 + 84 * ((nC (I 24 0) - 1) % 60)) + 2 = nI (1348 + 84 * ((nC (I 24 0) - 1) % 60) + 2) from nI_add _ 2, z_in (by omega) (by decide), nI_clamp (by omega), cond_true]
      by_cases e2 : x = -1
      · rw [zc_t e2, zc_t e2, zc_t e2, show m_m1 (I 31 0 8) t pr x (I 24 0) = m_tt (m_en (nC (I 24 0) - 1) t 0 (I 24 0)) from (if_neg e1).trans ((if_neg e3).trans (if_pos e2))]
        simp only [pR_set, pR_row, pR_pR]
        have h5 : upd (upd (upd (I 24 0) (1348 + 84 * ((nC (I 24 0) - 1) % 60) + 2) t) 13 0) 15 (upd (I 24 0) (1348 + 84 * ((nC (I 24 0) - 1) % 60) + 2) t 15 + 0) 5 = upd (I 24 0) (1348 + 84 * ((nC (I 24 0) - 1) % 60) + 2) t 5 := by rw [upd_n _ _ _ (by omega), upd_n _ _ _ (by omega)]
        rw [← h5]
        rfl
      · rw [zc_f e2, zc_f e2, show m_m1 (I 31 0 8) t pr x (I 24 0) = m_tt (m_tk (I 31 0 8) x.toNatClampNeg (nC (I 24 0)) t (m_bC (nC (I 24 0)) (nR (I 24 0)) x.toNatClampNeg t (m_en (nC (I 24 0) - 1) t 1 (I 24 0)))) from (if_neg e1).trans ((if_neg e3).trans (if_neg e2))]
        obtain ⟨s, hs, rfl⟩ := hv.resolve_left e2
        obtain ⟨-, -, -, -, ⟨v, hv1, hv2, hv3⟩, -⟩ := hR.2.2.2.2 s hs
        rw [nI_clamp (by omega)]
        simp only [pR_set, pR_row, pR_pR]
        rw [show upd (upd (upd (I 24 0) (1348 + 84 * ((nC (I 24 0) - 1) % 60) + 2) t) 13 0) 15 (upd (I 24 0) (1348 + 84 * ((nC (I 24 0) - 1) % 60) + 2) t 15 + 1) = m_en (nC (I 24 0) - 1) t 1 (I 24 0) from rfl]
        have en : ∀ y, y ≠ 1348 + 84 * ((nC (I 24 0) - 1) % 60) + 2 → y ≠ 13 → y ≠ 15 → m_en (nC (I 24 0) - 1) t 1 (I 24 0) y = I 24 0 y := fun y a b c => by unfold m_en; rw [upd_n _ _ _ c, upd_n _ _ _ b, upd_n _ _ _ a]
        have hR2 : nR (m_en (nC (I 24 0) - 1) t 1 (I 24 0)) = nR (I 24 0) := congrArg Int32.toNatClampNeg (en 4 (by omega) (by omega) (by omega))
        have hC2 : nC (m_en (nC (I 24 0) - 1) t 1 (I 24 0)) = nC (I 24 0) := congrArg Int32.toNatClampNeg (en 12 (by omega) (by omega) (by omega))
        have hQ2 : Rq (pR I (m_en (nC (I 24 0) - 1) t 1 (I 24 0)) 24 0) := by rw [pR_row]; exact ⟨by rw [hR2, en 4 (by omega) (by omega) (by omega)]; exact hQ.1, by rw [hR2]; exact hQ.2⟩
        have hCC : Rc (pR I (m_en (nC (I 24 0) - 1) t 1 (I 24 0)) 24 0) := by rw [pR_row]; exact ⟨by rw [hC2, en 12 (by omega) (by omega) (by omega)]; exact hC.1, by rw [hC2]; exact hC.2⟩
        refine (bk_n (M_242 _ w k hQ2 hCC (by rw [pR_row, hC2]; omega) (show s < 4 by omega) t)).trans ?_
        refine (e245_88 _ w k _ _ _ _ _).trans ?_
        rw [zc_f e2, pR_row, pR_pR, hR2, hC2]
        have hL2 : LwR (nR (I 24 0)) (m_en (nC (I 24 0) - 1) t 1 (I 24 0)) := fun q hq => by rw [en _ (by omega) (by omega) (by omega)]; exact hL q hq
        exact M_245T I w k hn40 (show s < 4 by omega) (show nC (I 24 0) < 100000 by omega) hv2 t _ _ _ _ ⟨by rw [m_bC_n (by omega) (by omega) (by omega) (by omega) (by omega) (by omega) (by omega) (by omega), en 4 (by omega) (by omega) (by omega)]; exact hQ.1, m_bC_12, by rw [m_bC_n (by omega) (by omega) (by omega) (by omega) (by omega) (by omega) (by omega) (by omega), en _ (by omega) (by omega) (by omega)]; exact hv3, hL2.bC hn40 (show s < 4 by omega) _ _⟩
