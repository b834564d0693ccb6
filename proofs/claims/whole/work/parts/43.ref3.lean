/-! ===== the reference: records ===== -/
def m_fl (x : Int32) : Int32 := ((1 : Int32) <<< (x &&& 31)) - 1
def m_full (r : aR) (q : Nat) : Int32 := m_fl (r (68 + 8 * q + 0))
def m_uw (r : aR) (q : Nat) : Int32 := (m_full r q &&& (r (68 + 8 * q + 3) ^^^ (-1))) &&& (r (68 + 8 * q + 4) ^^^ (-1))
def m_fill (q : Nat) : Nat → Nat → aR → aR
  | 0, _, r => r
  | d + 1, j, r => m_fill q d (j + 1) (upd r (388 + 24 * q + j) (-1))
def m_r8 (r : aR) (q : Nat) (z p t : Int32) : aR := upd (upd (upd (upd (upd (upd (upd (upd r (68 + 8 * q + 0) z) (68 + 8 * q + 1) p) (68 + 8 * q + 2) t) (68 + 8 * q + 3) (m_fl z)) (68 + 8 * q + 4) 0) (68 + 8 * q + 5) 0) (68 + 8 * q + 6) (-1)) (68 + 8 * q + 7) (-1)
def m_ar (r : aR) (z p : Int32) : aR := upd (m_fill (nR r) 24 0 (m_r8 r (nR r) z p (r 5))) 4 (nI (nR r + 1))
theorem m_fill_n (q x : Nat) (hx : x < 388 + 24 * q) : ∀ (d j : Nat) (r : aR), m_fill q d j r x = r x
  | 0, _, _ => rfl
  | d + 1, j, r => by
    show m_fill q d (j + 1) (upd r (388 + 24 * q + j) (-1)) x = r x
    rw [m_fill_n q x hx d (j + 1), upd_n _ _ _ (by omega)]
theorem M_218L (I : aI) (w : aW) (k : aQ) {q : Nat} (hq : q < 40) (d1 d2 : Option aV) : ∀ (d j : Nat) (r : aR), j + d = 24 → r 4 = nI q → rn 218 (77, [some (.inr (.inr (some (31, 0)))), d1, d2, some (.inl (nI q)), some (.inl (nI j))], [], MM (pR I r) w k) = some (.inl (some (.inl (nI q))), MM (pR I (upd (m_fill q d j r) 4 (nI (q + 1)))) w k) := by
  intro d
  induction d with
  | zero =>
    intro j r hj hr
    refine (e218_77 _ w k _ _ _ _).trans ?_
    rw [zc_t (show (24 : Int32) ≤ nI j from nI_le (a := 24) (by omega) (by omega)), pR_set', pR_get, hr, nI_1]
    rfl
  | succ d ih =>
    intro j r hj hr
    refine (e218_77 _ w k _ _ _ _).trans ?_
    rw [zc_f (show ¬ (24 : Int32) ≤ nI j from nI_ge (b := 24) (by omega) (by omega)), z_se, z_in (by omega) (by decide), nI_clamp (by omega), pR_set', nI_1]
    exact ih (j + 1) _ (by omega) (by rw [upd_n _ _ _ (by omega)]; exact hr)
theorem M_218 (I : aI) (w : aW) (k : aQ) (h : Rq (I 24 0)) (hq : nR (I 24 0) < 40) (z p : Int32) : rn 218 (a_en 218 [.inr (.inr (some (31, 0))), .inl z, .inl p] (MM I w k)) = some (.inl (some (.inl (nI (nR (I 24 0))))), MM (pR I (m_ar (I 24 0) z p)) w k) := by
  have e9 : ∀ d1 d2 : Option aV, rn 218 (77, [some (.inr (.inr (some (31, 0)))), d1, d2, some (.inl (nI (nR (I 24 0)))), some (.inl 0)], [], MM (pR I (m_r8 (I 24 0) (nR (I 24 0)) z p (I 24 0 5))) w k) = some (.inl (some (.inl (nI (nR (I 24 0))))), MM (pR I (m_ar (I 24 0) z p)) w k) := fun d1 d2 => M_218L I w k hq d1 d2 24 0 _ (by omega) (by
      unfold m_r8
      rw [upd_n _ _ _ (by omega), upd_n _ _ _ (by omega), upd_n _ _ _ (by omega), upd_n _ _ _ (by omega), upd_n _ _ _ (by omega), upd_n _ _ _ (by omega), upd_n _ _ _ (by omega), upd_n _ _ _ (by omega)]
      exact h.1)
  refine (e218_0 I w k _ _).trans ?_
  rw [h.1]
  simp only [M_182_0 _ _ _ hq, M_182_1 _ _ _ hq, M_182_2 _ _ _ hq, M_182_3 _ _ _ hq, M_182_4 _ _ _ hq, M_182_5 _ _ _ hq, M_182_6 _ _ _ hq, M_182_7 _ _ _ hq, z_b, z_n, Nat.reduceAdd, e218_0, e218_14, e218_21, e218_33, e218_44, e218_51, e218_58, e218_66, e218_74, pR_row, pR_pR, pR_get]
  rw [upd_n (upd (I 24 0) (68 + 8 * nR (I 24 0) + 0) z) _ _ (show (5 : Nat) ≠ 68 + 8 * nR (I 24 0) + 1 by omega), upd_n (I 24 0) _ _ (show (5 : Nat) ≠ 68 + 8 * nR (I 24 0) + 0 by omega)]
  exact e9 _ _
theorem M_219 (I : aI) (w : aW) (k : aQ) (h : Rq (I 24 0)) (hq : nR (I 24 0) < 40) (z p : Int32) (hz : 1 ≤ z ∧ z ≤ 24) (hp : 0 ≤ p ∧ p ≤ 9) : rn 219 (a_en 219 [.inr (.inr (some (31, 0))), .inl z, .inl p] (MM I w k)) = if m_use (I 24 0) + z ≤ I 24 0 8 then some (.inl (some (.inl (nI (nR (I 24 0))))), MM (pR (a_setI I 31 0 0 0) (m_ar (I 24 0) z p)) w k) else some (.inl (some (.inl 0)), MM (a_setI I 31 0 0 2) w k) := by
  have h9 : ¬ I 24 0 4 = 40 := by
    rw [h.1]; exact fun z => absurd ((nI_eq (by omega) (by decide)).mp (show nI (nR (I 24 0)) = nI 40 from z)) (by omega)
  have e8 : rn 218 (a_en 218 [.inr (.inr (some (31, 0))), .inl z, .inl p] (MM (a_setI I 31 0 0 0) w k)) = some (.inl (some (.inl (nI (nR (I 24 0))))), MM (pR (a_setI I 31 0 0 0) (m_ar (I 24 0) z p)) w k) := M_218 (a_setI I 31 0 0 0) w k h hq z p
  refine (e219_0 I w k _ _).trans ?_
  simp only [M_173, M_197 _ _ _ h, e8, z_b, z_v, z_n, z_c, Nat.reduceAdd, cond_true, cond_false, tf0, tf1, tfb, ite_not, Classical.not_not, z10, z_ff, z00, z_tt, e219_0, e219_8, e219_18, e219_40, e219_77, if_pos hz, if_pos hp, if_neg h9]
theorem M_219e (I : aI) (w : aW) (k : aQ) (z p : Int32) (h9 : I 24 0 4 = 40) (hz : 1 ≤ z ∧ z ≤ 24) (hp : 0 ≤ p ∧ p ≤ 9) : rn 219 (a_en 219 [.inr (.inr (some (31, 0))), .inl z, .inl p] (MM I w k)) = some (.inl (some (.inl 0)), MM (a_setI I 31 0 0 2) w k) := by
  refine (e219_0 I w k _ _).trans ?_
  simp only [M_173, z_b, z_v, z_n, z_c, Nat.reduceAdd, cond_true, cond_false, tf0, tf1, tfb, ite_not, Classical.not_not, z10, z_ff, z00, z_tt, e219_0, e219_8, e219_18, e219_40, e219_77, if_pos hz, if_pos hp, if_pos h9]
theorem M_219f (I : aI) (w : aW) (k : aQ) (z p : Int32) (hz : ¬ ((1 ≤ z ∧ z ≤ 24) ∧ 0 ≤ p ∧ p ≤ 9)) : rn 219 (a_en 219 [.inr (.inr (some (31, 0))), .inl z, .inl p] (MM I w k)) = some (.inl (some (.inl 0)), MM (a_setI I 31 0 0 1) w k) := by
  refine (e219_0 I w k _ _).trans ?_
  by_cases h1 : 1 ≤ z ∧ z ≤ 24
  · have h2 : ¬ (0 ≤ p ∧ p ≤ 9) := fun y => hz ⟨h1, y⟩
    simp only [M_173, z_b, z_v, z_n, z_c, Nat.reduceAdd, cond_true, cond_false, tf0, tf1, tfb, ite_not, Classical.not_not, z10, z_ff, z00, z_tt, e219_0, e219_8, e219_18, e219_40, e219_77, if_pos h1, if_neg h2]
  · simp only [M_173, z_b, z_v, z_n, z_c, Nat.reduceAdd, cond_true, cond_false, tf0, tf1, tfb, ite_not, Classical.not_not, z10, z_ff, z00, z_tt, e219_0, e219_8, e219_18, e219_40, e219_77, if_neg h1]
theorem M_220 (I : aI) (w : aW) (k : aQ) : rn 220 (a_en 220 [.inr (.inr (some (31, 0)))] (MM I w k)) = some (.inl (some (.inl (I 24 0 4))), MM (a_setI I 31 0 0 0) w k) := e220_0 I w k
theorem M_221 (I : aI) (w : aW) (k : aQ) {q : Nat} (hQ : Rq (I 24 0)) (hq : q < nR (I 24 0)) (p : Int32) : rn 221 (a_en 221 [.inr (.inr (some (31, 0))), .inl (nI q), .inl p] (MM I w k)) = if 0 ≤ p ∧ p ≤ 9 then some (.inl (some (.inl (I 24 0 (68 + 8 * q + 1)))), MM (pR (a_setI I 31 0 0 0) (upd (I 24 0) (68 + 8 * q + 1) p)) w k) else some (.inl (some (.inl 0)), MM (a_setI I 31 0 0 2) w k) := by
  have h4 := hQ.q40 hq
  refine (e221_0 I w k _ _).trans ?_
  simp only [M_178, M_173, M_181_1 _ _ _ h4, M_182_1 _ _ _ h4, z_b, z_v, z_n, z_c, Nat.reduceAdd, cond_true, cond_false, tf0, tf1, tfb, ite_not, Classical.not_not, z10, z_ff, z00, z_tt, e221_0, e221_6, e221_20, e221_46, e221_54, if_pos (isQ hQ hq), m31_24]
theorem M_221f (I : aI) (w : aW) (k : aQ) (a p : Int32) (h : ¬ (0 ≤ a ∧ a ≤ I 24 0 4 - 1)) : rn 221 (a_en 221 [.inr (.inr (some (31, 0))), .inl a, .inl p] (MM I w k)) = some (.inl (some (.inl 0)), MM (a_setI I 31 0 0 1) w k) := by
  refine (e221_0 I w k _ _).trans ?_
  simp only [M_178, z_b, z_v, z_n, z_c, Nat.reduceAdd, cond_true, cond_false, tf0, tf1, tfb, ite_not, Classical.not_not, z10, z_ff, z00, z_tt, e221_0, e221_6, e221_20, e221_46, e221_54, if_neg h]
def m_ur (r : aR) (q : Nat) (t : Int32) : Int32 := if r 6 < t - r (68 + 8 * q + 2) then r (68 + 8 * q + 1) + 0 else r (68 + 8 * q + 1) + r 7
theorem M_222 (I : aI) (w : aW) (k : aQ) {q : Nat} (hq : q < 40) (t : Int32) : rn 222 (a_en 222 [.inr (.inr (some (31, 0))), .inl (nI q), .inl t] (MM I w k)) = some (.inl (some (.inl (m_ur (I 24 0) q t))), MM I w k) := by
  refine (e222_0 I w k _ _).trans ?_
  simp only [M_181_1 _ _ _ hq, M_181_2 _ _ _ hq, z_b, z_v, z_n, z_c, Nat.reduceAdd, cond_true, cond_false, tf0, tf1, tfb, ite_not, Classical.not_not, z10, z_ff, z00, z_tt, e222_0, e222_6, e222_13, m_ur, z_ri]
def m_nxL (r : aR) (t : Int32) : Nat → Nat → Int32 → Int32
  | 0, _, b => b
  | d + 1, j, b => if r (68 + 8 * j + 3) = 0 then m_nxL r t d (j + 1) b else (if b = -1 then m_nxL r t d (j + 1) (nI j) else (if m_ur r j t ≤ m_ur r b.toNatClampNeg t then m_nxL r t d (j + 1) b else m_nxL r t d (j + 1) (nI j)))
theorem M_223L (I : aI) (w : aW) (k : aQ) (h : Rq (I 24 0)) (t : Int32) : ∀ (d j : Nat) (b : Int32), j + d = nR (I 24 0) → (b = -1 ∨ ∃ c, c < 40 ∧ b = nI c) → rn 223 (4, [some (.inr (.inr (some (31, 0)))), some (.inl t), some (.inl b), some (.inl (nI j))], [], MM I w k) = some (.inl (some (.inl (m_nxL (I 24 0) t d j b))), MM I w k) := by
  obtain ⟨h1, h2⟩ := h
  intro d
  induction d with
  | zero =>
    intro j b hj hb
    refine (e223_4 I w k _ _ _).trans ?_
    rw [h1, zc_t (nI_le (by omega) (by omega))]
    rfl
  | succ d ih =>
    intro j b hj hb
    have h40 : j < 40 := by omega
    refine (e223_4 I w k _ _ _).trans ?_
    rw [h1, zc_f (nI_ge (by omega) (by omega))]
    have i1 := ih (j + 1) b (by omega) hb
    have i2 := ih (j + 1) (nI j) (by omega) (Or.inr ⟨j, h40, rfl⟩)
    rcases hb with rfl | ⟨c, hc, rfl⟩
    · simp only [M_181_3 _ _ _ h40, z_b, z_v, z_n, z_c, Nat.reduceAdd, cond_true, cond_false, tf0, tf1, tfb, ite_not, Classical.not_not, z10, z_ff, z00, z_tt, e223_20, nI_1, i1, i2, m_nxL, z_ri, if_true]
    · have hn : ¬ nI c = -1 := fun z => absurd (congrArg Int32.toInt z) (by rw [nI_toInt (by omega)]; rw [show (-1 : Int32).toInt = -1 from by decide +kernel]; omega)
      simp only [M_181_3 _ _ _ h40, M_222 _ _ _ h40, M_222 _ _ _ hc, z_b, z_v, z_n, z_c, Nat.reduceAdd, cond_true, cond_false, tf0, tf1, tfb, ite_not, Classical.not_not, z10, z_ff, z00, z_tt, e223_20, e223_34, e223_40, nI_1, i1, i2, m_nxL, z_ri, if_neg hn, nI_clamp (show c < 2 ^ 31 by omega)]
def m_nxt (r : aR) (t : Int32) : Int32 := m_nxL r t (nR r) 0 (-1)
theorem M_223 (I : aI) (w : aW) (k : aQ) (h : Rq (I 24 0)) (t : Int32) : rn 223 (a_en 223 [.inr (.inr (some (31, 0))), .inl t] (MM I w k)) = some (.inl (some (.inl (m_nxt (I 24 0) t))), MM I w k) :=
  (e223_0 I w k t).trans (M_223L I w k h t _ 0 (-1) (by omega) (Or.inl rfl))
theorem M_224 (I : aI) (w : aW) (k : aQ) {q : Nat} (hQ : Rq (I 24 0)) (hq : q < nR (I 24 0)) : rn 224 (a_en 224 [.inr (.inr (some (31, 0))), .inl (nI q)] (MM I w k)) = some (.inl (some (.inl (m_ur (I 24 0) q (I 24 0 5)))), MM (a_setI I 31 0 0 0) w k) := by
  have e8 : rn 222 (a_en 222 [.inr (.inr (some (31, 0))), .inl (nI q), .inl (I 24 0 5)] (MM (a_setI I 31 0 0 0) w k)) = some (.inl (some (.inl (m_ur (I 24 0) q (I 24 0 5)))), MM (a_setI I 31 0 0 0) w k) := M_222 (a_setI I 31 0 0 0) w k (hQ.q40 hq) _
  refine (e224_0 I w k _).trans ?_
  simp only [M_178, e8, z_b, z_v, z_n, z_c, Nat.reduceAdd, cond_true, cond_false, tf0, tf1, tfb, ite_not, Classical.not_not, z10, z_ff, z00, z_tt, e224_0, e224_6, e224_39, if_pos (isQ hQ hq)]
theorem M_224f (I : aI) (w : aW) (k : aQ) (a : Int32) (h : ¬ (0 ≤ a ∧ a ≤ I 24 0 4 - 1)) : rn 224 (a_en 224 [.inr (.inr (some (31, 0))), .inl a] (MM I w k)) = some (.inl (some (.inl 0)), MM (a_setI I 31 0 0 1) w k) := by
  refine (e224_0 I w k _).trans ?_
  simp only [M_178, z_b, z_v, z_n, z_c, Nat.reduceAdd, cond_true, cond_false, tf0, tf1, tfb, ite_not, Classical.not_not, z10, z_ff, z00, z_tt, e224_0, e224_6, e224_39, if_neg h]
theorem M_226f (I : aI) (w : aW) (k : aQ) (a : Int32) (h : ¬ (0 ≤ a ∧ a ≤ I 24 0 4 - 1)) : rn 226 (a_en 226 [.inr (.inr (some (31, 0))), .inl a] (MM I w k)) = some (.inl (some (.inl 0)), MM (a_setI I 31 0 0 1) w k) := by
  refine (e226_0 I w k _).trans ?_
  simp only [M_178, z_b, z_v, z_n, z_c, Nat.reduceAdd, cond_true, cond_false, tf0, tf1, tfb, ite_not, Classical.not_not, z10, z_ff, z00, z_tt, e226_0, e226_6, e226_32, e226_45, e226_48, if_neg h]
theorem M_225 (I : aI) (w : aW) (k : aQ) (hQ : Rq (I 24 0)) : rn 225 (a_en 225 [.inr (.inr (some (31, 0)))] (MM I w k)) = some (.inl (some (.inl (m_nxt (I 24 0) (I 24 0 5)))), MM (a_setI I 31 0 0 0) w k) := by
  have e8 : rn 223 (a_en 223 [.inr (.inr (some (31, 0))), .inl (I 24 0 5)] (MM (a_setI I 31 0 0 0) w k)) = some (.inl (some (.inl (m_nxt (I 24 0) (I 24 0 5)))), MM (a_setI I 31 0 0 0) w k) := M_223 (a_setI I 31 0 0 0) w k hQ _
  refine (e225_0 I w k).trans ?_
  simp only [e8, z_b, z_v, z_n, z_c, Nat.reduceAdd, cond_true, cond_false, tf0, tf1, tfb, ite_not, Classical.not_not, z10, z_ff, z00, z_tt, e225_0, e225_15]
/-- the lowest bit -/
def m_lo (x : Int32) : Nat → Nat → Nat
  | 0, j => j
  | d + 1, j => if (x >>> (nI j &&& 31)) &&& 1 = 1 then j else m_lo x d (j + 1)
theorem M_176L (I : aI) (w : aW) (k : aQ) (x : Int32) : ∀ (d j : Nat), (∃ f, j ≤ f ∧ f < j + d ∧ (x >>> (nI f &&& 31)) &&& 1 = 1) → rn 176 (2, [some (.inl x), some (.inl (nI j))], [], MM I w k) = some (.inl (some (.inl (nI (m_lo x d j)))), MM I w k) := by
  intro d
  induction d with
  | zero =>
    intro j hj
    obtain ⟨f, h1, h2, -⟩ := hj
    omega
  | succ d ih =>
    intro j hj
    refine (e176_2 I w k _ _).trans ?_
    refine (bk_v (M_174 I w k _ _)).trans ?_
    refine (e176_7 I w k _ _ _).trans ?_
    by_cases h : (x >>> (nI j &&& 31)) &&& 1 = 1
    · rw [zc_t (by rw [tf0]; exact fun z => z h), show m_lo x (d + 1) j = j from if_pos h]
    · rw [zc_f (by rw [tf0]; exact fun z => z h), nI_1, show m_lo x (d + 1) j = m_lo x d (j + 1) from if_neg h]
      obtain ⟨f, h1, h2, h3⟩ := hj
      refine ih (j + 1) ⟨f, ?_, by omega, h3⟩
      rcases Nat.lt_or_ge j f with h4 | h4
      · omega
      · have : f = j := by omega
        subst this
        exact absurd h3 h
theorem M_176 (I : aI) (w : aW) (k : aQ) (x : Int32) (h : ∃ f, f < 24 ∧ (x >>> (nI f &&& 31)) &&& 1 = 1) : rn 176 (a_en 176 [.inl x] (MM I w k)) = some (.inl (some (.inl (nI (m_lo x 24 0)))), MM I w k) := by
  obtain ⟨f, h1, h2⟩ := h
  exact (e176_0 I w k x).trans (M_176L I w k x 24 0 ⟨f, by omega, by omega, h2⟩)
theorem M_226 (I : aI) (w : aW) (k : aQ) {q : Nat} (hQ : Rq (I 24 0)) (hq : q < nR (I 24 0)) (h : ¬ I 24 0 (68 + 8 * q + 3) = 0 → ∃ f, f < 24 ∧ (I 24 0 (68 + 8 * q + 3) >>> (nI f &&& 31)) &&& 1 = 1) : rn 226 (a_en 226 [.inr (.inr (some (31, 0))), .inl (nI q)] (MM I w k)) = some (.inl (some (.inl (if I 24 0 (68 + 8 * q + 3) = 0 then -1 else nI (m_lo (I 24 0 (68 + 8 * q + 3)) 24 0)))), MM (a_setI I 31 0 0 0) w k) := by
  have h4 := hQ.q40 hq
  refine (e226_0 I w k _).trans ?_
  by_cases h0 : I 24 0 (68 + 8 * q + 3) = 0
  · simp only [M_178, M_181_3 _ _ _ h4, z_b, z_v, z_n, z_c, Nat.reduceAdd, cond_true, cond_false, tf0, tf1, tfb, ite_not, Classical.not_not, z10, z_ff, z00, z_tt, e226_0, e226_6, e226_32, e226_45, e226_48, if_pos (isQ hQ hq), m31_24, if_pos h0]
  · simp only [M_178, M_181_3 _ _ _ h4, M_176 _ _ _ _ (h h0), z_b, z_v, z_n, z_c, Nat.reduceAdd, cond_true, cond_false, tf0, tf1, tfb, ite_not, Classical.not_not, z10, z_ff, z00, z_tt, e226_0, e226_6, e226_32, e226_45, e226_48, if_pos (isQ hQ hq), m31_24, if_neg h0]
theorem M_227 (I : aI) (w : aW) (k : aQ) {q : Nat} (hq : q < 40) : rn 227 (a_en 227 [.inr (.inr (some (31, 0))), .inl (nI q)] (MM I w k)) = some (.inl (some (.inl (m_full (I 24 0) q))), MM I w k) := by
  refine (e227_0 I w k _).trans ?_
  simp only [M_181_0 _ _ _ hq, z_b, z_v, z_n, z_c, Nat.reduceAdd, cond_true, cond_false, tf0, tf1, tfb, ite_not, Classical.not_not, z10, z_ff, z00, z_tt, e227_0, e227_7]
  rfl
theorem M_228 (I : aI) (w : aW) (k : aQ) {q : Nat} (hq : q < 40) : rn 228 (a_en 228 [.inr (.inr (some (31, 0))), .inl (nI q)] (MM I w k)) = some (.inl (some (.inl (m_uw (I 24 0) q))), MM I w k) := by
  refine (e228_0 I w k _).trans ?_
  simp only [M_227 _ _ _ hq, M_181_3 _ _ _ hq, M_181_4 _ _ _ hq, z_b, z_v, z_n, z_c, Nat.reduceAdd, cond_true, cond_false, tf0, tf1, tfb, ite_not, Classical.not_not, z10, z_ff, z00, z_tt, e228_0, e228_5, e228_11, e228_20]
  rfl
theorem M_229 (I : aI) (w : aW) (k : aQ) {q : Nat} (hQ : Rq (I 24 0)) (hq : q < nR (I 24 0)) (x : Int32) : rn 229 (a_en 229 [.inr (.inr (some (31, 0))), .inl (nI q), .inl x] (MM I w k)) = if 0 ≤ x ∧ x ≤ 3 then some (.inl (some (.inl (if x = 1 then m_uw (I 24 0) q else (if x = 0 then I 24 0 (68 + 8 * q + 3) else (if x = 2 then I 24 0 (68 + 8 * q + 4) else I 24 0 (68 + 8 * q + 5)))))), MM (a_setI I 31 0 0 0) w k) else some (.inl (some (.inl 0)), MM (a_setI I 31 0 0 2) w k) := by
  have h4 := hQ.q40 hq
  refine (e229_0 I w k _ _).trans ?_
  simp only [M_178, M_173, M_181_3 _ _ _ h4, M_181_4 _ _ _ h4, M_181_5 _ _ _ h4, M_228 _ _ _ h4, z_b, z_v, z_n, z_c, Nat.reduceAdd, cond_true, cond_false, tf0, tf1, tfb, ite_not, Classical.not_not, z10, z_ff, z00, z_tt, e229_0, e229_6, e229_19, e229_75, e229_49, if_pos (isQ hQ hq), m31_24, z_ri]
theorem M_229f (I : aI) (w : aW) (k : aQ) (a x : Int32) (h : ¬ (0 ≤ a ∧ a ≤ I 24 0 4 - 1)) : rn 229 (a_en 229 [.inr (.inr (some (31, 0))), .inl a, .inl x] (MM I w k)) = some (.inl (some (.inl 0)), MM (a_setI I 31 0 0 1) w k) := by
  refine (e229_0 I w k _ _).trans ?_
  simp only [M_178, z_b, z_v, z_n, z_c, Nat.reduceAdd, cond_true, cond_false, tf0, tf1, tfb, ite_not, Classical.not_not, z10, z_ff, z00, z_tt, e229_0, e229_6, e229_19, e229_75, e229_49, if_neg h]
theorem M_230 (I : aI) (w : aW) (k : aQ) {q f z : Nat} (hQ : Rq (I 24 0)) (hq : q < nR (I 24 0)) (hz : I 24 0 (68 + 8 * q + 0) = nI z) (hf : f < z) (h24 : z ≤ 24) : rn 230 (a_en 230 [.inr (.inr (some (31, 0))), .inl (nI q), .inl (nI f)] (MM I w k)) = some (.inl (some (.inl (I 24 0 (388 + 24 * q + f)))), MM (a_setI I 31 0 0 0) w k) := by
  have h4 := hQ.q40 hq
  have hf2 : 0 ≤ nI f ∧ nI f ≤ I 24 0 (68 + 8 * q + 0) - 1 := by rw [hz]; exact z_is hf (by omega)
  refine (e230_0 I w k _ _).trans ?_
  simp only [M_178, M_173, M_181_0 _ _ _ h4, z_b, z_v, z_n, z_c, Nat.reduceAdd, cond_true, cond_false, tf0, tf1, tfb, ite_not, Classical.not_not, z10, z_ff, z00, z_tt, e230_0, e230_6, e230_17, e230_22, if_pos (isQ hQ hq), if_pos hf2, z_se, z_in (show 388 + 24 * q + f < 6388 by omega) (by decide), nI_clamp (show 388 + 24 * q + f < 2 ^ 31 by omega)]
theorem M_230g (I : aI) (w : aW) (k : aQ) {q : Nat} (x : Int32) (hQ : Rq (I 24 0)) (hq : q < nR (I 24 0)) (hx : ¬ (0 ≤ x ∧ x ≤ I 24 0 (68 + 8 * q + 0) - 1)) : rn 230 (a_en 230 [.inr (.inr (some (31, 0))), .inl (nI q), .inl x] (MM I w k)) = some (.inl (some (.inl 0)), MM (a_setI I 31 0 0 1) w k) := by
  have h4 := hQ.q40 hq
  refine (e230_0 I w k _ _).trans ?_
  simp only [M_178, M_173, M_181_0 _ _ _ h4, z_b, z_v, z_n, z_c, Nat.reduceAdd, cond_true, cond_false, tf0, tf1, tfb, ite_not, Classical.not_not, z10, z_ff, z00, z_tt, e230_0, e230_6, e230_17, e230_22, if_pos (isQ hQ hq), if_neg hx]
theorem M_230f (I : aI) (w : aW) (k : aQ) (a x : Int32) (h : ¬ (0 ≤ a ∧ a ≤ I 24 0 4 - 1)) : rn 230 (a_en 230 [.inr (.inr (some (31, 0))), .inl a, .inl x] (MM I w k)) = some (.inl (some (.inl 0)), MM (a_setI I 31 0 0 1) w k) := by
  refine (e230_0 I w k _ _).trans ?_
  simp only [M_178, z_b, z_v, z_n, z_c, Nat.reduceAdd, cond_true, cond_false, tf0, tf1, tfb, ite_not, Classical.not_not, z10, z_ff, z00, z_tt, e230_0, e230_6, e230_17, e230_22, if_neg h]
theorem M_232 (I : aI) (w : aW) (k : aQ) {q : Nat} (hQ : Rq (I 24 0)) (hq : q < nR (I 24 0)) : rn 232 (a_en 232 [.inr (.inr (some (31, 0))), .inl (nI q)] (MM I w k)) = some (.inl (some (.inl (I 24 0 (68 + 8 * q + 6)))), MM (a_setI I 31 0 0 0) w k) := by
  have h4 := hQ.q40 hq
  refine (e232_0 I w k _).trans ?_
  have e1 : rn 231 (a_en 231 [.inr (.inr (some (31, 0))), .inl (nI q), .inl 6] (MM I w k)) = some (.inl (some (.inl (I 24 0 (68 + 8 * q + 6)))), MM (a_setI I 31 0 0 0) w k) := by
    refine (e231_0 I w k _ _).trans ?_
    simp only [M_178, M_181_6 _ _ _ h4, z_b, z_v, z_n, z_c, Nat.reduceAdd, cond_true, cond_false, tf0, tf1, tfb, ite_not, Classical.not_not, z10, z_ff, z00, z_tt, e231_0, e231_6, e231_34, if_pos (isQ hQ hq), m31_24]
  simp only [e1, z_b, z_v, z_n, z_c, Nat.reduceAdd, cond_true, cond_false, tf0, tf1, tfb, ite_not, Classical.not_not, z10, z_ff, z00, z_tt, e232_0, e232_7]
theorem M_232f (I : aI) (w : aW) (k : aQ) (a : Int32) (h : ¬ (0 ≤ a ∧ a ≤ I 24 0 4 - 1)) : rn 232 (a_en 232 [.inr (.inr (some (31, 0))), .inl a] (MM I w k)) = some (.inl (some (.inl 0)), MM (a_setI I 31 0 0 1) w k) := by
  refine (e232_0 I w k _).trans ?_
  have e1 : rn 231 (a_en 231 [.inr (.inr (some (31, 0))), .inl a, .inl 6] (MM I w k)) = some (.inl (some (.inl 0)), MM (a_setI I 31 0 0 1) w k) := by
    refine (e231_0 I w k _ _).trans ?_
    simp only [M_178, z_b, z_v, z_n, z_c, Nat.reduceAdd, cond_true, cond_false, tf0, tf1, tfb, ite_not, Classical.not_not, z10, z_ff, z00, z_tt, e231_0, e231_6, e231_34, if_neg h]
  simp only [e1, z_b, z_v, z_n, z_c, Nat.reduceAdd, cond_true, cond_false, tf0, tf1, tfb, ite_not, Classical.not_not, z10, z_ff, z00, z_tt, e232_0, e232_7]
theorem M_233 (I : aI) (w : aW) (k : aQ) {q : Nat} (hQ : Rq (I 24 0)) (hq : q < nR (I 24 0)) : rn 233 (a_en 233 [.inr (.inr (some (31, 0))), .inl (nI q)] (MM I w k)) = some (.inl (some (.inl (I 24 0 (68 + 8 * q + 7)))), MM (a_setI I 31 0 0 0) w k) := by
  have h4 := hQ.q40 hq
  refine (e233_0 I w k _).trans ?_
  have e1 : rn 231 (a_en 231 [.inr (.inr (some (31, 0))), .inl (nI q), .inl 7] (MM I w k)) = some (.inl (some (.inl (I 24 0 (68 + 8 * q + 7)))), MM (a_setI I 31 0 0 0) w k) := by
    refine (e231_0 I w k _ _).trans ?_
    simp only [M_178, M_181_7 _ _ _ h4, z_b, z_v, z_n, z_c, Nat.reduceAdd, cond_true, cond_false, tf0, tf1, tfb, ite_not, Classical.not_not, z10, z_ff, z00, z_tt, e231_0, e231_6, e231_34, if_pos (isQ hQ hq), m31_24]
  simp only [e1, z_b, z_v, z_n, z_c, Nat.reduceAdd, cond_true, cond_false, tf0, tf1, tfb, ite_not, Classical.not_not, z10, z_ff, z00, z_tt, e233_0, e233_7]
theorem M_233f (I : aI) (w : aW) (k : aQ) (a : Int32) (h : ¬ (0 ≤ a ∧ a ≤ I 24 0 4 - 1)) : rn 233 (a_en 233 [.inr (.inr (some (31, 0))), .inl a] (MM I w k)) = some (.inl (some (.inl 0)), MM (a_setI I 31 0 0 1) w k) := by
  refine (e233_0 I w k _).trans ?_
  have e1 : rn 231 (a_en 231 [.inr (.inr (some (31, 0))), .inl a, .inl 7] (MM I w k)) = some (.inl (some (.inl 0)), MM (a_setI I 31 0 0 1) w k) := by
    refine (e231_0 I w k _ _).trans ?_
    simp only [M_178, z_b, z_v, z_n, z_c, Nat.reduceAdd, cond_true, cond_false, tf0, tf1, tfb, ite_not, Classical.not_not, z10, z_ff, z00, z_tt, e231_0, e231_6, e231_34, if_neg h]
  simp only [e1, z_b, z_v, z_n, z_c, Nat.reduceAdd, cond_true, cond_false, tf0, tf1, tfb, ite_not, Classical.not_not, z10, z_ff, z00, z_tt, e233_0, e233_7]
def m_old (r : aR) : Nat → Nat → Int32
  | 0, _ => -1
  | d + 1, j => if r (68 + 8 * j + 7) = -1 then nI j else m_old r d (j + 1)
theorem M_235L (I : aI) (w : aW) (k : aQ) (h : Rq (I 24 0)) : ∀ (d j : Nat), j + d = nR (I 24 0) → rn 235 (7, [some (.inr (.inr (some (31, 0)))), some (.inl (nI j))], [], MM I w k) = some (.inl (some (.inl (m_old (I 24 0) d j))), MM I w k) := by
  obtain ⟨h1, h2⟩ := h
  intro d
  induction d with
  | zero =>
    intro j hj
    refine (e235_7 I w k _).trans ?_
    rw [h1, zc_t (nI_le (by omega) (by omega))]
    rfl
  | succ d ih =>
    intro j hj
    have h40 : j < 40 := by omega
    refine (e235_7 I w k _).trans ?_
    rw [h1, zc_f (nI_ge (by omega) (by omega))]
    simp only [M_181_7 _ _ _ h40, z_b, z_v, z_n, z_c, Nat.reduceAdd, cond_true, cond_false, tf0, tf1, tfb, ite_not, Classical.not_not, z10, z_ff, z00, z_tt, e235_0, e235_24, nI_1, ih (j + 1) (by omega), m_old, z_ri]
theorem M_235 (I : aI) (w : aW) (k : aQ) (h : Rq (I 24 0)) : rn 235 (a_en 235 [.inr (.inr (some (31, 0)))] (MM I w k)) = some (.inl (some (.inl (m_old (I 24 0) (nR (I 24 0)) 0))), MM (a_setI I 31 0 0 0) w k) :=
  (e235_0 I w k).trans (M_235L (a_setI I 31 0 0 0) w k h _ 0 (by show 0 + nR (I 24 0) = nR (I 24 0); omega))
theorem M_236 (I : aI) (w : aW) (k : aQ) (hQ : Rq (I 24 0)) : rn 236 (a_en 236 [.inr (.inr (some (31, 0)))] (MM I w k)) = some (.inl (some (.inl (m_use (I 24 0)))), MM (a_setI I 31 0 0 0) w k) := by
  have e8 : rn 197 (a_en 197 [.inr (.inr (some (31, 0)))] (MM (a_setI I 31 0 0 0) w k)) = some (.inl (some (.inl (m_use (I 24 0)))), MM (a_setI I 31 0 0 0) w k) := M_197 (a_setI I 31 0 0 0) w k hQ
  refine (e236_0 I w k).trans ?_
  simp only [e8, z_b, z_v, z_n, z_c, Nat.reduceAdd, cond_true, cond_false, tf0, tf1, tfb, ite_not, Classical.not_not, z10, z_ff, z00, z_tt, e236_0, e236_9]
