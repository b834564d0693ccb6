/-! ===== the reference: time, contacts, figures, delays ===== -/
theorem M_246 (I : aI) (w : aW) (k : aQ) : rn 246 (a_en 246 [.inr (.inr (some (31, 0)))] (MM I w k)) = some (.inl (some (.inl (I 24 0 5))), MM (a_setI I 31 0 0 0) w k) := e246_0 I w k
theorem M_250 (I : aI) (w : aW) (k : aQ) : rn 250 (a_en 250 [.inr (.inr (some (31, 0)))] (MM I w k)) = some (.inl (some (.inl (I 24 0 12))), MM (a_setI I 31 0 0 0) w k) := e250_0 I w k
theorem M_261 (I : aI) (w : aW) (k : aQ) : rn 261 (a_en 261 [.inr (.inr (some (31, 0)))] (MM I w k)) = some (.inl (some (.inl (I 24 0 15))), MM (a_setI I 31 0 0 0) w k) := e261_0 I w k
theorem M_251 (I : aI) (w : aW) (k : aQ) (hC : Rc (I 24 0)) (h1 : ¬ I 24 0 13 = 0 → 1 ≤ nC (I 24 0)) : rn 251 (a_en 251 [.inr (.inr (some (31, 0)))] (MM I w k)) = some (.inl (some (.inl (m_tk0 (I 24 0)))), MM (a_setI I 31 0 0 0) w k) := by
  have e8 : rn 216 (a_en 216 [.inr (.inr (some (31, 0)))] (MM (a_setI I 31 0 0 0) w k)) = some (.inl (some (.inl (m_tk0 (I 24 0)))), MM (a_setI I 31 0 0 0) w k) := M_216 (a_setI I 31 0 0 0) w k hC h1
  refine (e251_0 I w k).trans ?_
  simp only [e8, z_b, z_v, z_n, z_c, Nat.reduceAdd, cond_true, cond_false, tf0, tf1, tfb, ite_not, Classical.not_not, z10, z_ff, z00, z_tt, e251_0, e251_9]
/-- minutes one after the other -/
noncomputable def m_it (a8 : Int32) : Nat → aR → aR
  | 0, r => r
  | d + 1, r => m_it a8 d (m_min a8 r)
theorem M_247L (I : aI) (w : aW) (k : aQ) {P : Nat → aR → Prop} (hP : ∀ d r, P (d + 1) r → Rm r ∧ P d (m_min (I 31 0 8) r)) {m : Nat} (hm : m ≤ 1440) (h0 : I 31 0 0 = 0) : ∀ (d j : Nat) (r : aR), j + d = m → P d r → rn 247 (40, [some (.inr (.inr (some (31, 0)))), some (.inl (nI m)), some (.inl (nI j))], [], MM (pR I r) w k) = some (.inl (some (.inl (m_it (I 31 0 8) d r 5))), MM (pR I (m_it (I 31 0 8) d r)) w k) := by
  intro d
  induction d with
  | zero =>
    intro j r hj hr
    refine (e247_40 _ w k _ _).trans ?_
    rw [zc_t (nI_le (by omega) (by omega)), zc_t (show pR I r 31 0 0 ≤ 0 from by rw [show pR I r 31 0 0 = I 31 0 0 from rfl, h0]; decide)]
    rfl
  | succ d ih =>
    intro j r hj hr
    refine (e247_40 _ w k _ _).trans ?_
    rw [zc_f (nI_ge (by omega) (by omega)), zc_f (show ¬ ¬ pR I r 31 0 0 = 0 from fun z => z h0)]
    refine (bk_n (M_245 _ w k (by rw [pR_row]; exact (hP d r hr).1))).trans ?_
    refine (e247_56 _ w k _ _).trans ?_
    rw [nI_1, pR_pR, pR_row, show pR I r 31 0 8 = I 31 0 8 from rfl]
    exact ih (j + 1) _ (by omega) (hP d r hr).2
theorem M_247 (I : aI) (w : aW) (k : aQ) {P : Nat → aR → Prop} (hP : ∀ d r, P (d + 1) r → Rm r ∧ P d (m_min (I 31 0 8) r)) {m : Nat} (h1 : 1 ≤ m) (hm : m ≤ 1440) (ht : I 24 0 5 + nI m ≤ 20000) (hr : P m (I 24 0)) : rn 247 (a_en 247 [.inr (.inr (some (31, 0))), .inl (nI m)] (MM I w k)) = some (.inl (some (.inl (m_it (I 31 0 8) m (I 24 0) 5))), MM (pR (a_setI I 31 0 0 0) (m_it (I 31 0 8) m (I 24 0))) w k) := by
  have hb : 1 ≤ nI m ∧ nI m ≤ 1440 := ⟨nI_le h1 (by omega), nI_le (b := 1440) hm (by decide)⟩
  have e9 := M_247L (a_setI I 31 0 0 0) w k (P := P) hP hm rfl m 0 (I 24 0) (by omega) hr
  rw [show pR (a_setI I 31 0 0 0) (I 24 0) = a_setI I 31 0 0 0 from pR_self (a_setI I 31 0 0 0)] at e9
  have e9 : rn 247 (40, [some (.inr (.inr (some (31, 0)))), some (.inl (nI m)), some (.inl 0)], [], MM (a_setI I 31 0 0 0) w k) = some (.inl (some (.inl (m_it (I 31 0 8) m (I 24 0) 5))), MM (pR (a_setI I 31 0 0 0) (m_it (I 31 0 8) m (I 24 0))) w k) := e9
  refine (e247_0 I w k _).trans ?_
  simp only [M_173, z_b, z_v, z_n, z_c, Nat.reduceAdd, cond_true, cond_false, tf0, tf1, tfb, ite_not, Classical.not_not, z10, z_ff, z00, z_tt, e247_0, e247_9, e247_56, if_pos hb, if_pos ht, e9]
theorem M_247z (I : aI) (w : aW) (k : aQ) (m : Int32) (h : ¬ I 31 0 0 = 0) (h2 : ¬ I 31 0 0 ≤ 0) : rn 247 (40, [some (.inr (.inr (some (31, 0)))), some (.inl m), some (.inl 0)], [], MM I w k) = some (.inl (some (.inl 0)), MM I w k) := by
  refine (e247_40 _ w k _ _).trans ?_
  rw [zc_t h, zc_f h2]
  simp only [z_c]
  split <;> rfl
theorem M_247f (I : aI) (w : aW) (k : aQ) (m : Int32) (h : ¬ (1 ≤ m ∧ m ≤ 1440)) : rn 247 (a_en 247 [.inr (.inr (some (31, 0))), .inl m] (MM I w k)) = some (.inl (some (.inl 0)), MM (a_setI I 31 0 0 1) w k) := by
  have e9 : rn 247 (40, [some (.inr (.inr (some (31, 0)))), some (.inl m), some (.inl 0)], [], MM (a_setI I 31 0 0 1) w k) = some (.inl (some (.inl 0)), MM (a_setI I 31 0 0 1) w k) := M_247z (a_setI I 31 0 0 1) w k m (by show ¬ ((1 : Int32) = 0); decide) (by show ¬ ((1 : Int32) ≤ 0); decide)
  refine (e247_0 I w k _).trans ?_
  simp only [M_173, z_b, z_v, z_n, z_c, Nat.reduceAdd, cond_true, cond_false, tf0, tf1, tfb, ite_not, Classical.not_not, z10, z_ff, z00, z_tt, e247_0, e247_9, e247_56, if_neg h, e9]
theorem M_247g (I : aI) (w : aW) (k : aQ) (m : Int32) (h : 1 ≤ m ∧ m ≤ 1440) (ht : ¬ I 24 0 5 + m ≤ 20000) : rn 247 (a_en 247 [.inr (.inr (some (31, 0))), .inl m] (MM I w k)) = some (.inl (some (.inl 0)), MM (a_setI I 31 0 0 2) w k) := by
  have e9 : rn 247 (40, [some (.inr (.inr (some (31, 0)))), some (.inl m), some (.inl 0)], [], MM (a_setI I 31 0 0 2) w k) = some (.inl (some (.inl 0)), MM (a_setI I 31 0 0 2) w k) := M_247z (a_setI I 31 0 0 2) w k m (by show ¬ ((2 : Int32) = 0); decide) (by show ¬ ((2 : Int32) ≤ 0); decide)
  refine (e247_0 I w k _).trans ?_
  simp only [M_173, z_b, z_v, z_n, z_c, Nat.reduceAdd, cond_true, cond_false, tf0, tf1, tfb, ite_not, Classical.not_not, z10, z_ff, z00, z_tt, e247_0, e247_9, e247_56, if_pos h, if_neg ht, e9]
/-- a contact that is kept -/
def gK (r : aR) (x : Int32) : Prop := nI (nC r - 60) ≤ x ∧ x ≤ r 12 - 1
theorem gK_of {r : aR} (hC : Rc r) {c : Nat} (h1 : c < nC r) (h2 : nC r ≤ c + 60) : gK r (nI c) := by
  have := hC.2
  refine ⟨nI_le (by omega) (by omega), ?_⟩
  rw [hC.1]; exact (z_is h1 (by omega)).2
theorem gK_un {r : aR} (hC : Rc r) {x : Int32} (h : gK r x) : ∃ c, c < nC r ∧ nC r ≤ c + 60 ∧ x = nI c := by
  have h2 := hC.2
  obtain ⟨g1, g2⟩ := h
  rw [hC.1] at g2
  have g0 : (0 : Int32) ≤ x := by
    rw [fa_le] at g1 ⊢
    rw [nI_toInt (by omega)] at g1
    rw [show (0 : Int32).toInt = 0 from by decide +kernel]
    omega
  obtain ⟨c, h3, rfl⟩ := z_un ⟨g0, g2⟩ (by omega)
  refine ⟨c, h3, ?_, rfl⟩
  have := (nI_leI (by omega) (by omega)).mp g1
  omega
theorem M_248 (I : aI) (w : aW) (k : aQ) (hC : Rc (I 24 0)) (x : Int32) : rn 248 (a_en 248 [.inr (.inr (some (31, 0))), .inl x] (MM I w k)) = some (.inl (some (.inl (tf (nI (nC (I 24 0) - 60) ≤ x ∧ x ≤ I 24 0 12 - 1)))), MM I w k) := by
  refine (e248_0 I w k _).trans ?_
  simp only [M_241 _ _ _ hC, M_173, z_b, z_v, z_n, z_c, Nat.reduceAdd, cond_true, cond_false, tf0, tf1, tfb, ite_not, Classical.not_not, z10, z_ff, z00, z_tt, e248_0, e248_5, e248_17]
theorem M_252 (I : aI) (w : aW) (k : aQ) (hC : Rc (I 24 0)) {c : Nat} (h1 : c < nC (I 24 0)) (h2 : nC (I 24 0) ≤ c + 60) : rn 252 (a_en 252 [.inr (.inr (some (31, 0))), .inl (nI c)] (MM I w k)) = some (.inl (some (.inl (I 24 0 (1348 + 84 * (c % 60) + 0)))), MM (a_setI I 31 0 0 0) w k) := by
  have hk : nI (nC (I 24 0) - 60) ≤ nI c ∧ nI c ≤ I 24 0 12 - 1 := gK_of hC h1 h2
  have hc : c < 2 ^ 31 := by have := hC.2; omega
  have e1 : rn 249 (a_en 249 [.inr (.inr (some (31, 0))), .inl (nI c), .inl 0] (MM I w k)) = some (.inl (some (.inl (I 24 0 (1348 + 84 * (c % 60) + 0)))), MM (a_setI I 31 0 0 0) w k) := by
    refine (e249_0 I w k _ _).trans ?_
    simp only [M_248 _ _ _ hC, M_184_0 _ _ _ hc, z_b, z_v, z_n, z_c, Nat.reduceAdd, cond_true, cond_false, tf0, tf1, tfb, ite_not, Classical.not_not, z10, z_ff, z00, z_tt, e249_0, e249_6, e249_34, if_pos hk, m31_24]
  refine (e252_0 I w k _).trans ?_
  simp only [e1, z_b, z_v, z_n, z_c, Nat.reduceAdd, cond_true, cond_false, tf0, tf1, tfb, ite_not, Classical.not_not, z10, z_ff, z00, z_tt, e252_0, e252_6]
theorem M_252f (I : aI) (w : aW) (k : aQ) (hC : Rc (I 24 0)) (x : Int32) (h : ¬ gK (I 24 0) x) : rn 252 (a_en 252 [.inr (.inr (some (31, 0))), .inl x] (MM I w k)) = some (.inl (some (.inl 0)), MM (a_setI I 31 0 0 1) w k) := by
  have hk : ¬ (nI (nC (I 24 0) - 60) ≤ x ∧ x ≤ I 24 0 12 - 1) := h
  have e1 : rn 249 (a_en 249 [.inr (.inr (some (31, 0))), .inl x, .inl 0] (MM I w k)) = some (.inl (some (.inl 0)), MM (a_setI I 31 0 0 1) w k) := by
    refine (e249_0 I w k _ _).trans ?_
    simp only [M_248 _ _ _ hC, z_b, z_v, z_n, z_c, Nat.reduceAdd, cond_true, cond_false, tf0, tf1, tfb, ite_not, Classical.not_not, z10, z_ff, z00, z_tt, e249_0, e249_6, e249_34, if_neg hk]
  refine (e252_0 I w k _).trans ?_
  simp only [e1, z_b, z_v, z_n, z_c, Nat.reduceAdd, cond_true, cond_false, tf0, tf1, tfb, ite_not, Classical.not_not, z10, z_ff, z00, z_tt, e252_0, e252_6]
theorem M_253 (I : aI) (w : aW) (k : aQ) (hC : Rc (I 24 0)) {c : Nat} (h1 : c < nC (I 24 0)) (h2 : nC (I 24 0) ≤ c + 60) : rn 253 (a_en 253 [.inr (.inr (some (31, 0))), .inl (nI c)] (MM I w k)) = some (.inl (some (.inl (I 24 0 (1348 + 84 * (c % 60) + 1)))), MM (a_setI I 31 0 0 0) w k) := by
  have hk : nI (nC (I 24 0) - 60) ≤ nI c ∧ nI c ≤ I 24 0 12 - 1 := gK_of hC h1 h2
  have hc : c < 2 ^ 31 := by have := hC.2; omega
  have e1 : rn 249 (a_en 249 [.inr (.inr (some (31, 0))), .inl (nI c), .inl 1] (MM I w k)) = some (.inl (some (.inl (I 24 0 (1348 + 84 * (c % 60) + 1)))), MM (a_setI I 31 0 0 0) w k) := by
    refine (e249_0 I w k _ _).trans ?_
    simp only [M_248 _ _ _ hC, M_184_1 _ _ _ hc, z_b, z_v, z_n, z_c, Nat.reduceAdd, cond_true, cond_false, tf0, tf1, tfb, ite_not, Classical.not_not, z10, z_ff, z00, z_tt, e249_0, e249_6, e249_34, if_pos hk, m31_24]
  refine (e253_0 I w k _).trans ?_
  simp only [e1, z_b, z_v, z_n, z_c, Nat.reduceAdd, cond_true, cond_false, tf0, tf1, tfb, ite_not, Classical.not_not, z10, z_ff, z00, z_tt, e253_0, e253_6]
theorem M_253f (I : aI) (w : aW) (k : aQ) (hC : Rc (I 24 0)) (x : Int32) (h : ¬ gK (I 24 0) x) : rn 253 (a_en 253 [.inr (.inr (some (31, 0))), .inl x] (MM I w k)) = some (.inl (some (.inl 0)), MM (a_setI I 31 0 0 1) w k) := by
  have hk : ¬ (nI (nC (I 24 0) - 60) ≤ x ∧ x ≤ I 24 0 12 - 1) := h
  have e1 : rn 249 (a_en 249 [.inr (.inr (some (31, 0))), .inl x, .inl 1] (MM I w k)) = some (.inl (some (.inl 0)), MM (a_setI I 31 0 0 1) w k) := by
    refine (e249_0 I w k _ _).trans ?_
    simp only [M_248 _ _ _ hC, z_b, z_v, z_n, z_c, Nat.reduceAdd, cond_true, cond_false, tf0, tf1, tfb, ite_not, Classical.not_not, z10, z_ff, z00, z_tt, e249_0, e249_6, e249_34, if_neg hk]
  refine (e253_0 I w k _).trans ?_
  simp only [e1, z_b, z_v, z_n, z_c, Nat.reduceAdd, cond_true, cond_false, tf0, tf1, tfb, ite_not, Classical.not_not, z10, z_ff, z00, z_tt, e253_0, e253_6]
theorem M_254 (I : aI) (w : aW) (k : aQ) (hC : Rc (I 24 0)) {c : Nat} (h1 : c < nC (I 24 0)) (h2 : nC (I 24 0) ≤ c + 60) : rn 254 (a_en 254 [.inr (.inr (some (31, 0))), .inl (nI c)] (MM I w k)) = some (.inl (some (.inl (I 24 0 (1348 + 84 * (c % 60) + 2)))), MM (a_setI I 31 0 0 0) w k) := by
  have hk : nI (nC (I 24 0) - 60) ≤ nI c ∧ nI c ≤ I 24 0 12 - 1 := gK_of hC h1 h2
  have hc : c < 2 ^ 31 := by have := hC.2; omega
  have e1 : rn 249 (a_en 249 [.inr (.inr (some (31, 0))), .inl (nI c), .inl 2] (MM I w k)) = some (.inl (some (.inl (I 24 0 (1348 + 84 * (c % 60) + 2)))), MM (a_setI I 31 0 0 0) w k) := by
    refine (e249_0 I w k _ _).trans ?_
    simp only [M_248 _ _ _ hC, M_184_2 _ _ _ hc, z_b, z_v, z_n, z_c, Nat.reduceAdd, cond_true, cond_false, tf0, tf1, tfb, ite_not, Classical.not_not, z10, z_ff, z00, z_tt, e249_0, e249_6, e249_34, if_pos hk, m31_24]
  refine (e254_0 I w k _).trans ?_
  simp only [e1, z_b, z_v, z_n, z_c, Nat.reduceAdd, cond_true, cond_false, tf0, tf1, tfb, ite_not, Classical.not_not, z10, z_ff, z00, z_tt, e254_0, e254_6]
theorem M_254f (I : aI) (w : aW) (k : aQ) (hC : Rc (I 24 0)) (x : Int32) (h : ¬ gK (I 24 0) x) : rn 254 (a_en 254 [.inr (.inr (some (31, 0))), .inl x] (MM I w k)) = some (.inl (some (.inl 0)), MM (a_setI I 31 0 0 1) w k) := by
  have hk : ¬ (nI (nC (I 24 0) - 60) ≤ x ∧ x ≤ I 24 0 12 - 1) := h
  have e1 : rn 249 (a_en 249 [.inr (.inr (some (31, 0))), .inl x, .inl 2] (MM I w k)) = some (.inl (some (.inl 0)), MM (a_setI I 31 0 0 1) w k) := by
    refine (e249_0 I w k _ _).trans ?_
    simp only [M_248 _ _ _ hC, z_b, z_v, z_n, z_c, Nat.reduceAdd, cond_true, cond_false, tf0, tf1, tfb, ite_not, Classical.not_not, z10, z_ff, z00, z_tt, e249_0, e249_6, e249_34, if_neg hk]
  refine (e254_0 I w k _).trans ?_
  simp only [e1, z_b, z_v, z_n, z_c, Nat.reduceAdd, cond_true, cond_false, tf0, tf1, tfb, ite_not, Classical.not_not, z10, z_ff, z00, z_tt, e254_0, e254_6]
theorem M_255 (I : aI) (w : aW) (k : aQ) (hC : Rc (I 24 0)) {c : Nat} (h1 : c < nC (I 24 0)) (h2 : nC (I 24 0) ≤ c + 60) : rn 255 (a_en 255 [.inr (.inr (some (31, 0))), .inl (nI c)] (MM I w k)) = some (.inl (some (.inl (I 24 0 (1348 + 84 * (c % 60) + 3)))), MM (a_setI I 31 0 0 0) w k) := by
  have hk : nI (nC (I 24 0) - 60) ≤ nI c ∧ nI c ≤ I 24 0 12 - 1 := gK_of hC h1 h2
  have hc : c < 2 ^ 31 := by have := hC.2; omega
  have e1 : rn 249 (a_en 249 [.inr (.inr (some (31, 0))), .inl (nI c), .inl 3] (MM I w k)) = some (.inl (some (.inl (I 24 0 (1348 + 84 * (c % 60) + 3)))), MM (a_setI I 31 0 0 0) w k) := by
    refine (e249_0 I w k _ _).trans ?_
    simp only [M_248 _ _ _ hC, M_184_3 _ _ _ hc, z_b, z_v, z_n, z_c, Nat.reduceAdd, cond_true, cond_false, tf0, tf1, tfb, ite_not, Classical.not_not, z10, z_ff, z00, z_tt, e249_0, e249_6, e249_34, if_pos hk, m31_24]
  refine (e255_0 I w k _).trans ?_
  simp only [e1, z_b, z_v, z_n, z_c, Nat.reduceAdd, cond_true, cond_false, tf0, tf1, tfb, ite_not, Classical.not_not, z10, z_ff, z00, z_tt, e255_0, e255_6]
theorem M_255f (I : aI) (w : aW) (k : aQ) (hC : Rc (I 24 0)) (x : Int32) (h : ¬ gK (I 24 0) x) : rn 255 (a_en 255 [.inr (.inr (some (31, 0))), .inl x] (MM I w k)) = some (.inl (some (.inl 0)), MM (a_setI I 31 0 0 1) w k) := by
  have hk : ¬ (nI (nC (I 24 0) - 60) ≤ x ∧ x ≤ I 24 0 12 - 1) := h
  have e1 : rn 249 (a_en 249 [.inr (.inr (some (31, 0))), .inl x, .inl 3] (MM I w k)) = some (.inl (some (.inl 0)), MM (a_setI I 31 0 0 1) w k) := by
    refine (e249_0 I w k _ _).trans ?_
    simp only [M_248 _ _ _ hC, z_b, z_v, z_n, z_c, Nat.reduceAdd, cond_true, cond_false, tf0, tf1, tfb, ite_not, Classical.not_not, z10, z_ff, z00, z_tt, e249_0, e249_6, e249_34, if_neg hk]
  refine (e255_0 I w k _).trans ?_
  simp only [e1, z_b, z_v, z_n, z_c, Nat.reduceAdd, cond_true, cond_false, tf0, tf1, tfb, ite_not, Classical.not_not, z10, z_ff, z00, z_tt, e255_0, e255_6]
theorem M_256 (I : aI) (w : aW) (k : aQ) (hC : Rc (I 24 0)) (hQ : Rq (I 24 0)) {c q : Nat} (h1 : c < nC (I 24 0)) (h2 : nC (I 24 0) ≤ c + 60) (hq : q < nR (I 24 0)) (b : Int32) : rn 256 (a_en 256 [.inr (.inr (some (31, 0))), .inl (nI c), .inl (nI q), .inl b] (MM I w k)) = some (.inl (some (.inl (if b = 0 then I 24 0 (1348 + 84 * (c % 60) + (4 + q)) else I 24 0 (1348 + 84 * (c % 60) + (44 + q))))), MM (a_setI I 31 0 0 0) w k) := by
  have hk : nI (nC (I 24 0) - 60) ≤ nI c ∧ nI c ≤ I 24 0 12 - 1 := gK_of hC h1 h2
  have hc : c < 2 ^ 31 := by have := hC.2; omega
  have h40 := hQ.q40 hq
  have e4 : (4 : Int32) + nI q = nI (4 + q) := nI_add 4 q
  have e44 : (44 : Int32) + nI q = nI (44 + q) := nI_add 44 q
  refine (e256_0 I w k _ _ _).trans ?_
  simp only [M_248 _ _ _ hC, M_178, e4, e44, M_184 _ _ _ hc (show 4 + q < 84 by omega), M_184 _ _ _ hc (show 44 + q < 84 by omega), z_b, z_v, z_n, z_c, Nat.reduceAdd, cond_true, cond_false, tf0, tf1, tfb, ite_not, Classical.not_not, z10, z_ff, z00, z_tt, e256_0, e256_6, e256_14, e256_53, if_pos hk, if_pos (isQ hQ hq), m31_24, z_ri]
theorem M_256f (I : aI) (w : aW) (k : aQ) (hC : Rc (I 24 0)) (x y b : Int32) (h : ¬ (gK (I 24 0) x ∧ 0 ≤ y ∧ y ≤ I 24 0 4 - 1)) : rn 256 (a_en 256 [.inr (.inr (some (31, 0))), .inl x, .inl y, .inl b] (MM I w k)) = some (.inl (some (.inl 0)), MM (a_setI I 31 0 0 1) w k) := by
  refine (e256_0 I w k _ _ _).trans ?_
  by_cases hk : nI (nC (I 24 0) - 60) ≤ x ∧ x ≤ I 24 0 12 - 1
  · have h3 : ¬ (0 ≤ y ∧ y ≤ I 24 0 4 - 1) := fun z => h ⟨hk, z⟩
    simp only [M_248 _ _ _ hC, M_178, z_b, z_v, z_n, z_c, Nat.reduceAdd, cond_true, cond_false, tf0, tf1, tfb, ite_not, Classical.not_not, z10, z_ff, z00, z_tt, e256_0, e256_6, e256_14, e256_53, if_pos hk, if_neg h3]
  · simp only [M_248 _ _ _ hC, M_178, z_b, z_v, z_n, z_c, Nat.reduceAdd, cond_true, cond_false, tf0, tf1, tfb, ite_not, Classical.not_not, z10, z_ff, z00, z_tt, e256_0, e256_6, e256_14, e256_53, if_neg hk]
/-- the last contact with a station -/
def m_lc (r : aR) (s : Int32) (o : Nat) : Nat → Int32
  | 0 => -1
  | d + 1 => if r (1348 + 84 * ((o + d) % 60) + 0) = s then nI (o + d) else m_lc r s o d
theorem z_m1 (a : Nat) : nI (a + 1) + (-1) = nI a := by
  rw [← nI_pred a, Int32.sub_eq_add_neg]
theorem M_258L (I : aI) (w : aW) (k : aQ) (hC : Rc (I 24 0)) (s : Int32) : ∀ d : Nat, nC (I 24 0) - 60 + d ≤ nC (I 24 0) → rn 258 (36, [some (.inr (.inr (some (31, 0)))), some (.inl s), some (.inl (nI (nC (I 24 0) - 60 + d) - 1))], [], MM I w k) = some (.inl (some (.inl (m_lc (I 24 0) s (nC (I 24 0) - 60) d))), MM I w k) := by
  have h2 := hC.2
  generalize ho : nC (I 24 0) - 60 = o
  intro d
  induction d with
  | zero =>
    intro hd
    refine (e258_36 I w k _ _).trans ?_
    refine (bk_v (M_241 I w k hC)).trans ?_
    refine (e258_41 I w k _ _ _ _).trans ?_
    rw [ho, Nat.add_zero, zc_t (by
      rw [fa_lt]
      rw [fb_subI (x := nI o) (y := 1) (by rw [nI_toInt (by omega), show (1 : Int32).toInt = 1 from by decide +kernel]; omega) (by rw [nI_toInt (by omega), show (1 : Int32).toInt = 1 from by decide +kernel]; omega), nI_toInt (by omega), show (1 : Int32).toInt = 1 from by decide +kernel]
      omega)]
    rfl
  | succ d ih =>
    intro hd
    refine (e258_36 I w k _ _).trans ?_
    refine (bk_v (M_241 I w k hC)).trans ?_
    refine (e258_41 I w k _ _ _ _).trans ?_
    rw [ho, show o + (d + 1) = o + d + 1 by omega, nI_pred, zc_f (nI_nlt (by omega) (by omega))]
    refine (bk_v (M_184_0 I w k (by omega))).trans ?_
    refine (e258_50 I w k _ _ _).trans ?_
    by_cases h : I 24 0 (1348 + 84 * ((o + d) % 60) + 0) = s
    · rw [zc_f (fun z => z h), show m_lc (I 24 0) s o (d + 1) = nI (o + d) from if_pos h]
    · rw [zc_t h, show m_lc (I 24 0) s o (d + 1) = m_lc (I 24 0) s o d from if_neg h, show nI (o + d) + -1 = nI (o + d) - 1 from (Int32.sub_eq_add_neg _ _).symm]
      exact ih (by omega)
def m_last (r : aR) (s : Int32) : Int32 := m_lc r s (nC r - 60) (nC r - (nC r - 60))
theorem M_258 (I : aI) (w : aW) (k : aQ) (hC : Rc (I 24 0)) (hR : Rs (I 24 0)) {s : Nat} (hs : s < nS (I 24 0)) : rn 258 (a_en 258 [.inr (.inr (some (31, 0))), .inl (nI s)] (MM I w k)) = some (.inl (some (.inl (m_last (I 24 0) (nI s)))), MM (a_setI I 31 0 0 0) w k) := by
  have e9 := M_258L (a_setI I 31 0 0 0) w k hC (nI s) (nC (I 24 0) - (nC (I 24 0) - 60)) (by show nC (I 24 0) - 60 + _ ≤ nC (I 24 0); omega)
  have e9 : rn 258 (36, [some (.inr (.inr (some (31, 0)))), some (.inl (nI s)), some (.inl (nI (nC (I 24 0) - 60 + (nC (I 24 0) - (nC (I 24 0) - 60))) - 1))], [], MM (a_setI I 31 0 0 0) w k) = some (.inl (some (.inl (m_last (I 24 0) (nI s)))), MM (a_setI I 31 0 0 0) w k) := e9
  rw [show nC (I 24 0) - 60 + (nC (I 24 0) - (nC (I 24 0) - 60)) = nC (I 24 0) by omega, ← hC.1] at e9
  refine (e258_0 I w k _).trans ?_
  simp only [M_177, z_b, z_v, z_n, z_c, Nat.reduceAdd, cond_true, cond_false, tf0, tf1, tfb, ite_not, Classical.not_not, z10, z_ff, z00, z_tt, e258_0, e258_6, e258_41, e258_50, if_pos (isS hR hs), e9]
theorem M_258f (I : aI) (w : aW) (k : aQ) (a : Int32) (h : ¬ (0 ≤ a ∧ a ≤ I 24 0 3 - 1)) : rn 258 (a_en 258 [.inr (.inr (some (31, 0))), .inl a] (MM I w k)) = some (.inl (some (.inl 0)), MM (a_setI I 31 0 0 1) w k) := by
  refine (e258_0 I w k _).trans ?_
  simp only [M_177, z_b, z_v, z_n, z_c, Nat.reduceAdd, cond_true, cond_false, tf0, tf1, tfb, ite_not, Classical.not_not, z10, z_ff, z00, z_tt, e258_0, e258_6, e258_41, e258_50, if_neg h]
theorem M_259 (I : aI) (w : aW) (k : aQ) {j : Nat} (hj : j < 8) : rn 259 (a_en 259 [.inr (.inr (some (31, 0))), .inl (nI j)] (MM I w k)) = some (.inl (some (.inl (I 24 0 (16 + j)))), MM (a_setI I 31 0 0 0) w k) := by
  have hb : 0 ≤ nI j ∧ nI j ≤ 7 := ⟨nI_pos' (by omega), nI_le (b := 7) (by omega) (by decide)⟩
  have e1 : (16 : Int32) + nI j = nI (16 + j) := nI_add 16 j
  refine (e259_0 I w k _).trans ?_
  simp only [M_173, z_b, z_v, z_n, z_c, Nat.reduceAdd, cond_true, cond_false, tf0, tf1, tfb, ite_not, Classical.not_not, z10, z_ff, z00, z_tt, e259_0, e259_8, if_pos hb, e1, z_in (show 16 + j < 6388 by omega) (by decide), nI_clamp (show 16 + j < 2 ^ 31 by omega)]
theorem M_259f (I : aI) (w : aW) (k : aQ) (x : Int32) (h : ¬ (0 ≤ x ∧ x ≤ 7)) : rn 259 (a_en 259 [.inr (.inr (some (31, 0))), .inl x] (MM I w k)) = some (.inl (some (.inl 0)), MM (a_setI I 31 0 0 1) w k) := by
  refine (e259_0 I w k _).trans ?_
  simp only [M_173, z_b, z_v, z_n, z_c, Nat.reduceAdd, cond_true, cond_false, tf0, tf1, tfb, ite_not, Classical.not_not, z10, z_ff, z00, z_tt, e259_0, e259_8, if_neg h]
theorem M_260 (I : aI) (w : aW) (k : aQ) (hR : Rs (I 24 0)) {s j : Nat} (hs : s < nS (I 24 0)) (hj : j < 5) : rn 260 (a_en 260 [.inr (.inr (some (31, 0))), .inl (nI s), .inl (nI j)] (MM I w k)) = some (.inl (some (.inl (I 24 0 (24 + 11 * s + (6 + j))))), MM (a_setI I 31 0 0 0) w k) := by
  have hb : 0 ≤ nI j ∧ nI j ≤ 4 := ⟨nI_pos' (by omega), nI_le (b := 4) (by omega) (by decide)⟩
  have e1 : (6 : Int32) + nI j = nI (6 + j) := nI_add 6 j
  have h4 := hR.s4 hs
  refine (e260_0 I w k _ _).trans ?_
  simp only [M_177, M_173, e1, M_179 _ _ _ h4 (show 6 + j < 11 by omega), z_b, z_v, z_n, z_c, Nat.reduceAdd, cond_true, cond_false, tf0, tf1, tfb, ite_not, Classical.not_not, z10, z_ff, z00, z_tt, e260_0, e260_6, e260_19, e260_50, if_pos (isS hR hs), if_pos hb, m31_24]
theorem M_260f (I : aI) (w : aW) (k : aQ) (a x : Int32) (h : ¬ (0 ≤ a ∧ a ≤ I 24 0 3 - 1)) : rn 260 (a_en 260 [.inr (.inr (some (31, 0))), .inl a, .inl x] (MM I w k)) = some (.inl (some (.inl 0)), MM (a_setI I 31 0 0 1) w k) := by
  refine (e260_0 I w k _ _).trans ?_
  simp only [M_177, z_b, z_v, z_n, z_c, Nat.reduceAdd, cond_true, cond_false, tf0, tf1, tfb, ite_not, Classical.not_not, z10, z_ff, z00, z_tt, e260_0, e260_6, e260_19, e260_50, if_neg h]
theorem M_260g (I : aI) (w : aW) (k : aQ) (hR : Rs (I 24 0)) {s : Nat} (hs : s < nS (I 24 0)) (x : Int32) (h : ¬ (0 ≤ x ∧ x ≤ 4)) : rn 260 (a_en 260 [.inr (.inr (some (31, 0))), .inl (nI s), .inl x] (MM I w k)) = some (.inl (some (.inl 0)), MM (a_setI I 31 0 0 2) w k) := by
  refine (e260_0 I w k _ _).trans ?_
  simp only [M_177, M_173, z_b, z_v, z_n, z_c, Nat.reduceAdd, cond_true, cond_false, tf0, tf1, tfb, ite_not, Classical.not_not, z10, z_ff, z00, z_tt, e260_0, e260_6, e260_19, e260_50, if_pos (isS hR hs), if_neg h]
/-! delays -/
def m_dl (r : aR) : Nat → Nat → Int32 → Int32
  | 0, _, a => a
  | d + 1, j, a => if r (68 + 8 * j + 6) = -1 then m_dl r d (j + 1) (a + 0) else m_dl r d (j + 1) (a + (r (68 + 8 * j + 6) - r (68 + 8 * j + 2)))
def m_del (r : aR) : Int32 := m_dl r (nR r) 0 0
theorem M_262L (I : aI) (w : aW) (k : aQ) (h : Rq (I 24 0)) : ∀ (d j : Nat) (a : Int32), j + d = nR (I 24 0) → rn 262 (4, [some (.inr (.inr (some (31, 0)))), some (.inl a), some (.inl (nI j))], [], MM I w k) = some (.inl (some (.inl (m_dl (I 24 0) d j a))), MM I w k) := by
  obtain ⟨h1, h2⟩ := h
  intro d
  induction d with
  | zero =>
    intro j a hj
    refine (e262_4 I w k _ _).trans ?_
    rw [h1, zc_t (nI_le (by omega) (by omega))]
    rfl
  | succ d ih =>
    intro j a hj
    have h40 : j < 40 := by omega
    refine (e262_4 I w k _ _).trans ?_
    rw [h1, zc_f (nI_ge (by omega) (by omega))]
    simp only [M_181_6 _ _ _ h40, M_181_2 _ _ _ h40, z_b, z_v, z_n, z_c, Nat.reduceAdd, cond_true, cond_false, tf0, tf1, tfb, ite_not, Classical.not_not, z10, z_ff, z00, z_tt, e262_0, e262_22, e262_37, e262_43, nI_1, ih (j + 1) _ (by omega), m_dl, z_ri]
theorem M_262 (I : aI) (w : aW) (k : aQ) (h : Rq (I 24 0)) : rn 262 (a_en 262 [.inr (.inr (some (31, 0)))] (MM I w k)) = some (.inl (some (.inl (m_del (I 24 0)))), MM I w k) :=
  (e262_0 I w k).trans (M_262L I w k h _ 0 0 (by omega))
theorem M_263L (I : aI) (w : aW) (k : aQ) (d0 d1 : Option aV) : ∀ (y x : Nat) (d4 : Option aV), x < 2 ^ 31 → y < 2 ^ 31 → rn 263 (4, [d0, d1, some (.inl (nI x)), some (.inl (nI y)), d4], [], MM I w k) = some (.inl (some (.inl (nI (Nat.gcd x y)))), MM I w k) := by
  intro y
  induction y using Nat.strongRecOn with
  | ind y ih =>
    intro x d4 hx hy
    refine (e263_4 I w k _ _ _ _ _).trans ?_
    rcases Nat.eq_zero_or_pos y with h0 | h0
    · subst h0
      rw [zc_t (show nI 0 = 0 from rfl), Nat.gcd_zero_right]
    · have hm := Nat.mod_lt x h0
      rw [zc_f (nI_ne0 h0 hy), zc_t (nI_ne0 h0 hy), z_rem hx hy, ih (x % y) hm y _ hy (by omega), Nat.gcd_comm x y, Nat.gcd_rec y x, Nat.gcd_comm]
theorem M_263 (I : aI) (w : aW) (k : aQ) {x y : Nat} (hx : x < 2 ^ 31) (hy : y < 2 ^ 31) : rn 263 (a_en 263 [.inl (nI x), .inl (nI y)] (MM I w k)) = some (.inl (some (.inl (nI (Nat.gcd x y)))), MM I w k) :=
  (e263_0 I w k _ _).trans (M_263L I w k _ _ y x _ hx hy)
theorem M_264 (I : aI) (w : aW) (k : aQ) {D F : Nat} (h1 : D < 2 ^ 31) (h2 : F < 2 ^ 31) (hQ : Rq (I 24 0)) (hD : m_del (I 24 0) = nI D) (hF : I 24 0 20 = nI F) : rn 264 (a_en 264 [.inr (.inr (some (31, 0)))] (MM I w k)) = some (.inl (some (.inl (if D = 0 then 0 else nI (D / Nat.gcd D F)))), MM (a_setI I 31 0 0 0) w k) := by
  have e8 : rn 262 (a_en 262 [.inr (.inr (some (31, 0)))] (MM (a_setI I 31 0 0 0) w k)) = some (.inl (some (.inl (nI D))), MM (a_setI I 31 0 0 0) w k) := by rw [← hD]; exact M_262 (a_setI I 31 0 0 0) w k hQ
  refine (e264_0 I w k).trans ?_
  refine (bk_v e8).trans ?_
  refine (e264_9 _ w k _ _).trans ?_
  rcases Nat.eq_zero_or_pos D with h0 | h0
  · subst h0
    rw [zc_f (show ¬ ¬ nI 0 = 0 from fun z => z rfl), if_pos rfl]
  · rw [zc_t (nI_ne0 h0 h1), if_neg (by omega)]
    rw [show a_setI I 31 0 0 0 24 0 20 = nI F from hF]
    refine (bk_v (M_263 _ w k h1 h2)).trans ?_
    have hg := Nat.gcd_pos_of_pos_left F h0
    have hl := Nat.gcd_le_left F h0
    refine (e264_30 _ w k _ _ _ _).trans ?_
    rw [zc_t (nI_ne0 hg (by omega)), z_div (by omega) (by omega)]
theorem M_265 (I : aI) (w : aW) (k : aQ) {D F : Nat} (h1 : D < 2 ^ 31) (h2 : F < 2 ^ 31) (hQ : Rq (I 24 0)) (hD : m_del (I 24 0) = nI D) (hF : I 24 0 20 = nI F) : rn 265 (a_en 265 [.inr (.inr (some (31, 0)))] (MM I w k)) = some (.inl (some (.inl (if D = 0 then 1 else nI (F / Nat.gcd D F)))), MM (a_setI I 31 0 0 0) w k) := by
  have e8 : rn 262 (a_en 262 [.inr (.inr (some (31, 0)))] (MM (a_setI I 31 0 0 0) w k)) = some (.inl (some (.inl (nI D))), MM (a_setI I 31 0 0 0) w k) := by rw [← hD]; exact M_262 (a_setI I 31 0 0 0) w k hQ
  refine (e265_0 I w k).trans ?_
  refine (bk_v e8).trans ?_
  refine (e265_9 _ w k _ _).trans ?_
  rcases Nat.eq_zero_or_pos D with h0 | h0
  · subst h0
    rw [zc_f (show ¬ ¬ nI 0 = 0 from fun z => z rfl), if_pos rfl]
  · rw [zc_t (nI_ne0 h0 h1), if_neg (by omega)]
    rw [show a_setI I 31 0 0 0 24 0 20 = nI F from hF]
    refine (bk_v (M_263 _ w k h1 h2)).trans ?_
    have hg := Nat.gcd_pos_of_pos_left F h0
    have hl := Nat.gcd_le_left F h0
    refine (e265_36 _ w k _ _ _ _).trans ?_
    rw [zc_t (nI_ne0 hg (by omega)), z_div (by omega) (by omega)]
theorem M_266 (I : aI) (w : aW) (k : aQ) {D F : Nat} (h1 : D < 2 ^ 31) (h2 : F < 2 ^ 31) (hD : I 24 0 19 = nI D) (hF : I 24 0 16 = nI F) : rn 266 (a_en 266 [.inr (.inr (some (31, 0)))] (MM I w k)) = some (.inl (some (.inl (if D = 0 then 0 else nI (D / Nat.gcd D F)))), MM (a_setI I 31 0 0 0) w k) := by
  refine (e266_0 I w k).trans ?_
  rw [hD]
  rcases Nat.eq_zero_or_pos D with h0 | h0
  · subst h0
    rw [zc_f (show ¬ ¬ nI 0 = 0 from fun z => z rfl), if_pos rfl]
  · rw [zc_t (nI_ne0 h0 h1), if_neg (by omega)]
    rw [hF]
    refine (bk_v (M_263 _ w k h1 h2)).trans ?_
    have hg := Nat.gcd_pos_of_pos_left F h0
    have hl := Nat.gcd_le_left F h0
    refine (e266_33 _ w k _ _ _ _).trans ?_
    rw [zc_t (nI_ne0 hg (by omega)), z_div (by omega) (by omega)]
theorem M_267 (I : aI) (w : aW) (k : aQ) {D F : Nat} (h1 : D < 2 ^ 31) (h2 : F < 2 ^ 31) (hD : I 24 0 19 = nI D) (hF : I 24 0 16 = nI F) : rn 267 (a_en 267 [.inr (.inr (some (31, 0)))] (MM I w k)) = some (.inl (some (.inl (if D = 0 then 1 else nI (F / Nat.gcd D F)))), MM (a_setI I 31 0 0 0) w k) := by
  refine (e267_0 I w k).trans ?_
  rw [hD]
  rcases Nat.eq_zero_or_pos D with h0 | h0
  · subst h0
    rw [zc_f (show ¬ ¬ nI 0 = 0 from fun z => z rfl), if_pos rfl]
  · rw [zc_t (nI_ne0 h0 h1), if_neg (by omega)]
    rw [hF]
    refine (bk_v (M_263 _ w k h1 h2)).trans ?_
    have hg := Nat.gcd_pos_of_pos_left F h0
    have hl := Nat.gcd_le_left F h0
    refine (e267_39 _ w k _ _ _ _).trans ?_
    rw [zc_t (nI_ne0 hg (by omega)), z_div (by omega) (by omega)]
def m_dy (r : aR) (q : Nat) : Int32 := if r (68 + 8 * q + 6) = -1 then -1 else r (68 + 8 * q + 6) - r (68 + 8 * q + 2)
theorem M_268 (I : aI) (w : aW) (k : aQ) {q : Nat} (hq : q < 40) : rn 268 (a_en 268 [.inr (.inr (some (31, 0))), .inl (nI q)] (MM I w k)) = some (.inl (some (.inl (m_dy (I 24 0) q))), MM I w k) := by
  refine (e268_0 I w k _).trans ?_
  simp only [M_181_6 _ _ _ hq, M_181_2 _ _ _ hq, z_b, z_v, z_n, z_c, Nat.reduceAdd, cond_true, cond_false, tf0, tf1, tfb, ite_not, Classical.not_not, z10, z_ff, z00, z_tt, e268_0, e268_7, e268_22, e268_28, m_dy, z_ri]
def m_bw (r : aR) (x b : Int32) : Nat → Nat → Int32 → Int32
  | 0, _, n => n
  | d + 1, j, n => if m_dy r j = -1 then m_bw r x b d (j + 1) (n + 0) else (if m_dy r j < x then m_bw r x b d (j + 1) (n + 1) else (if b = 0 then m_bw r x b d (j + 1) (n + 0) else (if m_dy r j = x then m_bw r x b d (j + 1) (n + 1) else m_bw r x b d (j + 1) (n + 0))))
theorem M_269L (I : aI) (w : aW) (k : aQ) (h : Rq (I 24 0)) (x b : Int32) : ∀ (d j : Nat) (n : Int32) (d5 : Option aV), j + d = nR (I 24 0) → rn 269 (5, [some (.inr (.inr (some (31, 0)))), some (.inl x), some (.inl b), some (.inl n), some (.inl (nI j)), d5], [], MM I w k) = some (.inl (some (.inl (m_bw (I 24 0) x b d j n))), MM I w k) := by
  obtain ⟨h1, h2⟩ := h
  intro d
  induction d with
  | zero =>
    intro j n d5 hj
    refine (e269_5 I w k _ _ _ _ _).trans ?_
    rw [h1, zc_t (nI_le (by omega) (by omega))]
    rfl
  | succ d ih =>
    intro j n d5 hj
    have h40 : j < 40 := by omega
    refine (e269_5 I w k _ _ _ _ _).trans ?_
    rw [h1, zc_f (nI_ge (by omega) (by omega))]
    simp only [M_268 _ _ _ h40, z_b, z_v, z_n, z_c, Nat.reduceAdd, cond_true, cond_false, tf0, tf1, tfb, ite_not, Classical.not_not, z10, z_ff, z00, z_tt, e269_0, e269_22, nI_1, ih (j + 1) _ _ (by omega), m_bw, z_ri]
theorem M_269 (I : aI) (w : aW) (k : aQ) (h : Rq (I 24 0)) (x b : Int32) : rn 269 (a_en 269 [.inr (.inr (some (31, 0))), .inl x, .inl b] (MM I w k)) = some (.inl (some (.inl (m_bw (I 24 0) x b (nR (I 24 0)) 0 0))), MM I w k) :=
  (e269_0 I w k _ _).trans (M_269L I w k h x b _ 0 0 _ (by omega))
def m_md (r : aR) (p : Int32) : Nat → Nat → Int32
  | 0, _ => -1
  | d + 1, j => if m_dy r j = -1 then m_md r p d (j + 1) else (if p < m_bw r (m_dy r j) 0 (nR r) 0 0 then m_md r p d (j + 1) else (if m_bw r (m_dy r j) 1 (nR r) 0 0 ≤ p then m_md r p d (j + 1) else m_dy r j))
theorem M_270L (I : aI) (w : aW) (k : aQ) (h : Rq (I 24 0)) (p : Int32) : ∀ (d j : Nat) (d3 : Option aV), j + d = nR (I 24 0) → rn 270 (19, [some (.inr (.inr (some (31, 0)))), some (.inl p), some (.inl (nI j)), d3], [], MM I w k) = some (.inl (some (.inl (m_md (I 24 0) p d j))), MM I w k) := by
  have h1 := h.1
  have h2 := h.2
  intro d
  induction d with
  | zero =>
    intro j d3 hj
    refine (e270_19 I w k _ _ _).trans ?_
    rw [h1, zc_t (nI_le (by omega) (by omega))]
    rfl
  | succ d ih =>
    intro j d3 hj
    have h40 : j < 40 := by omega
    refine (e270_19 I w k _ _ _).trans ?_
    rw [h1, zc_f (nI_ge (by omega) (by omega))]
    simp only [M_268 _ _ _ h40, M_269 _ _ _ h, z_b, z_v, z_n, z_c, Nat.reduceAdd, cond_true, cond_false, tf0, tf1, tfb, ite_not, Classical.not_not, z10, z_ff, z00, z_tt, e270_0, e270_34, e270_46, e270_57, nI_1, ih (j + 1) _ (by omega), m_md, z_ri]
theorem M_270 (I : aI) (w : aW) (k : aQ) (h : Rq (I 24 0)) : rn 270 (a_en 270 [.inr (.inr (some (31, 0)))] (MM I w k)) = some (.inl (some (.inl (m_md (I 24 0) ((I 24 0 20 - 1) / 2) (nR (I 24 0)) 0))), MM (a_setI I 31 0 0 0) w k) :=
  (e270_0 I w k).trans (M_270L (a_setI I 31 0 0 0) w k h _ (nR (I 24 0)) 0 _ (by show 0 + nR (I 24 0) = nR (I 24 0); omega))
def m_sl (r : aR) : Nat → Nat → Int32 → Int32
  | 0, _, b => b
  | d + 1, j, b => if m_dy r j = -1 then m_sl r d (j + 1) b else (if b = -1 then m_sl r d (j + 1) (nI j) else (if m_dy r j ≤ m_dy r b.toNatClampNeg then m_sl r d (j + 1) b else m_sl r d (j + 1) (nI j)))
theorem M_271L (I : aI) (w : aW) (k : aQ) (h : Rq (I 24 0)) : ∀ (d j : Nat) (b : Int32), j + d = nR (I 24 0) → (b = -1 ∨ ∃ c, c < 40 ∧ b = nI c) → rn 271 (9, [some (.inr (.inr (some (31, 0)))), some (.inl b), some (.inl (nI j))], [], MM I w k) = some (.inl (some (.inl (m_sl (I 24 0) d j b))), MM I w k) := by
  have h1 := h.1
  have h2 := h.2
  intro d
  induction d with
  | zero =>
    intro j b hj hb
    refine (e271_9 I w k _ _).trans ?_
    rw [h1, zc_t (nI_le (by omega) (by omega))]
    rfl
  | succ d ih =>
    intro j b hj hb
    have h40 : j < 40 := by omega
    refine (e271_9 I w k _ _).trans ?_
    rw [h1, zc_f (nI_ge (by omega) (by omega))]
    have i1 := ih (j + 1) b (by omega) hb
    have i2 := ih (j + 1) (nI j) (by omega) (Or.inr ⟨j, h40, rfl⟩)
    rcases hb with rfl | ⟨c, hc, rfl⟩
    · simp only [M_268 _ _ _ h40, z_b, z_v, z_n, z_c, Nat.reduceAdd, cond_true, cond_false, tf0, tf1, tfb, ite_not, Classical.not_not, z10, z_ff, z00, z_tt, e271_0, e271_24, e271_38, e271_43, nI_1, i1, i2, m_sl, z_ri, if_true]
    · have hn : ¬ nI c = -1 := nI_n1 (by omega)
      simp only [M_268 _ _ _ h40, M_268 _ _ _ hc, z_b, z_v, z_n, z_c, Nat.reduceAdd, cond_true, cond_false, tf0, tf1, tfb, ite_not, Classical.not_not, z10, z_ff, z00, z_tt, e271_0, e271_24, e271_38, e271_43, nI_1, i1, i2, m_sl, z_ri, if_neg hn, nI_clamp (show c < 2 ^ 31 by omega)]
theorem M_271 (I : aI) (w : aW) (k : aQ) (h : Rq (I 24 0)) : rn 271 (a_en 271 [.inr (.inr (some (31, 0)))] (MM I w k)) = some (.inl (some (.inl (m_sl (I 24 0) (nR (I 24 0)) 0 (-1)))), MM (a_setI I 31 0 0 0) w k) :=
  (e271_0 I w k).trans (M_271L (a_setI I 31 0 0 0) w k h (nR (I 24 0)) 0 _ (by show 0 + nR (I 24 0) = nR (I 24 0); omega) (Or.inl rfl))
/-! copies -/
theorem cI_set (I : aI) (s : Nat) (f : aR) (x : Nat) (v : Int32) : a_setI (a_cpI I s 0 f) s 0 x v = a_cpI I s 0 (upd f x v) := by
  funext s' q j
  rw [gI, gC, gC]
  unfold upd
  by_cases h1 : s' = s <;> by_cases h2 : q = 0 <;> by_cases h3 : j = x <;> simp [h1, h2, h3]
theorem cI_self (I : aI) (s : Nat) : a_cpI I s 0 (I s 0) = I := by
  funext s' q j
  rw [gC]
  by_cases h1 : s' = s <;> by_cases h2 : q = 0 <;> simp [h1, h2]
theorem cI_row (I : aI) (s : Nat) (f : aR) : a_cpI I s 0 f s 0 = f := by
  funext j; rw [gC, if_pos ⟨rfl, rfl⟩]
theorem cI_ne (I : aI) {s s' : Nat} (h : s' ≠ s) (f : aR) : a_cpI I s 0 f s' = I s' := by
  funext q j; rw [gC, if_neg (fun z => h z.1)]
theorem M_272p0 (I : aI) (w : aW) (k : aQ) {a b : Nat} (ha : a + 6388 ≤ 6388) (hb : b + 6388 ≤ 6388) : rn 272 (a_en 272 [.inr (.inr (some (24, 0))), .inl (nI a), .inr (.inr (some (25, 0))), .inl (nI b)] (MM I w k)) = some (.inl none, MM (a_cpI I 25 0 (fb_put (I 25 0) (fun k => I 24 0 (a + k)) b 6388)) w k) := by
  have L : ∀ (d j : Nat), j + d = 6388 → rn 272 (3, [some (.inr (.inr (some (24, 0)))), some (.inl (nI a)), some (.inr (.inr (some (25, 0)))), some (.inl (nI b)), some (.inl (nI j))], [], MM (a_cpI I 25 0 (fb_put (I 25 0) (fun k => I 24 0 (a + k)) b j)) w k) = some (.inl none, MM (a_cpI I 25 0 (fb_put (I 25 0) (fun k => I 24 0 (a + k)) b 6388)) w k) := by
    intro d
    induction d with
    | zero =>
      intro j hj
      have : j = 6388 := by omega
      subst this
      refine (e272p0_3 _ w k _ _ _).trans ?_
      rw [zc_t (show (6388 : Int32) ≤ nI 6388 from nI_le (a := 6388) (by omega) (by omega))]
    | succ d ih =>
      intro j hj
      refine (e272p0_3 _ w k _ _ _).trans ?_
      rw [zc_f (show ¬ (6388 : Int32) ≤ nI j from nI_ge (b := 6388) (by omega) (by omega)), nI_add, nI_add, z_in (by omega) (by decide), z_in (by omega) (by decide), nI_clamp (by omega), nI_clamp (by omega), cond_true, cond_true, cI_set, cI_ne I (show 24 ≠ 25 by decide), nI_1]
      rw [fb_put_succ (I 25 0) (fun k => I 24 0 (a + k)) b j]
      exact ih (j + 1) (by omega)
  have h := L 6388 0 (by omega)
  rw [fb_put_0, cI_self] at h
  exact (e272p0_0 I w k _ _).trans h
theorem M_272p1 (I : aI) (w : aW) (k : aQ) {a b : Nat} (ha : a + 6388 ≤ 6388) (hb : b + 6388 ≤ 6388) : rn 272 (a_en 272 [.inr (.inr (some (25, 0))), .inl (nI a), .inr (.inr (some (24, 0))), .inl (nI b)] (MM I w k)) = some (.inl none, MM (a_cpI I 24 0 (fb_put (I 24 0) (fun k => I 25 0 (a + k)) b 6388)) w k) := by
  have L : ∀ (d j : Nat), j + d = 6388 → rn 272 (3, [some (.inr (.inr (some (25, 0)))), some (.inl (nI a)), some (.inr (.inr (some (24, 0)))), some (.inl (nI b)), some (.inl (nI j))], [], MM (a_cpI I 24 0 (fb_put (I 24 0) (fun k => I 25 0 (a + k)) b j)) w k) = some (.inl none, MM (a_cpI I 24 0 (fb_put (I 24 0) (fun k => I 25 0 (a + k)) b 6388)) w k) := by
    intro d
    induction d with
    | zero =>
      intro j hj
      have : j = 6388 := by omega
      subst this
      refine (e272p1_3 _ w k _ _ _).trans ?_
      rw [zc_t (show (6388 : Int32) ≤ nI 6388 from nI_le (a := 6388) (by omega) (by omega))]
    | succ d ih =>
      intro j hj
      refine (e272p1_3 _ w k _ _ _).trans ?_
      rw [zc_f (show ¬ (6388 : Int32) ≤ nI j from nI_ge (b := 6388) (by omega) (by omega)), nI_add, nI_add, z_in (by omega) (by decide), z_in (by omega) (by decide), nI_clamp (by omega), nI_clamp (by omega), cond_true, cond_true, cI_set, cI_ne I (show 25 ≠ 24 by decide), nI_1]
      rw [fb_put_succ (I 24 0) (fun k => I 25 0 (a + k)) b j]
      exact ih (j + 1) (by omega)
  have h := L 6388 0 (by omega)
  rw [fb_put_0, cI_self] at h
  exact (e272p1_0 I w k _ _).trans h
theorem M_272p2 (I : aI) (w : aW) (k : aQ) {a b : Nat} (ha : a + 6388 ≤ 6388) (hb : b + 6388 ≤ 12776) : rn 272 (a_en 272 [.inr (.inr (some (24, 0))), .inl (nI a), .inr (.inr (some (26, 0))), .inl (nI b)] (MM I w k)) = some (.inl none, MM (a_cpI I 26 0 (fb_put (I 26 0) (fun k => I 24 0 (a + k)) b 6388)) w k) := by
  have L : ∀ (d j : Nat), j + d = 6388 → rn 272 (3, [some (.inr (.inr (some (24, 0)))), some (.inl (nI a)), some (.inr (.inr (some (26, 0)))), some (.inl (nI b)), some (.inl (nI j))], [], MM (a_cpI I 26 0 (fb_put (I 26 0) (fun k => I 24 0 (a + k)) b j)) w k) = some (.inl none, MM (a_cpI I 26 0 (fb_put (I 26 0) (fun k => I 24 0 (a + k)) b 6388)) w k) := by
    intro d
    induction d with
    | zero =>
      intro j hj
      have : j = 6388 := by omega
      subst this
      refine (e272p2_3 _ w k _ _ _).trans ?_
      rw [zc_t (show (6388 : Int32) ≤ nI 6388 from nI_le (a := 6388) (by omega) (by omega))]
    | succ d ih =>
      intro j hj
      refine (e272p2_3 _ w k _ _ _).trans ?_
      rw [zc_f (show ¬ (6388 : Int32) ≤ nI j from nI_ge (b := 6388) (by omega) (by omega)), nI_add, nI_add, z_in (by omega) (by decide), z_in (by omega) (by decide), nI_clamp (by omega), nI_clamp (by omega), cond_true, cond_true, cI_set, cI_ne I (show 24 ≠ 26 by decide), nI_1]
      rw [fb_put_succ (I 26 0) (fun k => I 24 0 (a + k)) b j]
      exact ih (j + 1) (by omega)
  have h := L 6388 0 (by omega)
  rw [fb_put_0, cI_self] at h
  exact (e272p2_0 I w k _ _).trans h
theorem M_272p3 (I : aI) (w : aW) (k : aQ) {a b : Nat} (ha : a + 6388 ≤ 12776) (hb : b + 6388 ≤ 6388) : rn 272 (a_en 272 [.inr (.inr (some (26, 0))), .inl (nI a), .inr (.inr (some (24, 0))), .inl (nI b)] (MM I w k)) = some (.inl none, MM (a_cpI I 24 0 (fb_put (I 24 0) (fun k => I 26 0 (a + k)) b 6388)) w k) := by
  have L : ∀ (d j : Nat), j + d = 6388 → rn 272 (3, [some (.inr (.inr (some (26, 0)))), some (.inl (nI a)), some (.inr (.inr (some (24, 0)))), some (.inl (nI b)), some (.inl (nI j))], [], MM (a_cpI I 24 0 (fb_put (I 24 0) (fun k => I 26 0 (a + k)) b j)) w k) = some (.inl none, MM (a_cpI I 24 0 (fb_put (I 24 0) (fun k => I 26 0 (a + k)) b 6388)) w k) := by
    intro d
    induction d with
    | zero =>
      intro j hj
      have : j = 6388 := by omega
      subst this
      refine (e272p3_3 _ w k _ _ _).trans ?_
      rw [zc_t (show (6388 : Int32) ≤ nI 6388 from nI_le (a := 6388) (by omega) (by omega))]
    | succ d ih =>
      intro j hj
      refine (e272p3_3 _ w k _ _ _).trans ?_
      rw [zc_f (show ¬ (6388 : Int32) ≤ nI j from nI_ge (b := 6388) (by omega) (by omega)), nI_add, nI_add, z_in (by omega) (by decide), z_in (by omega) (by decide), nI_clamp (by omega), nI_clamp (by omega), cond_true, cond_true, cI_set, cI_ne I (show 26 ≠ 24 by decide), nI_1]
      rw [fb_put_succ (I 24 0) (fun k => I 26 0 (a + k)) b j]
      exact ih (j + 1) (by omega)
  have h := L 6388 0 (by omega)
  rw [fb_put_0, cI_self] at h
  exact (e272p3_0 I w k _ _).trans h
