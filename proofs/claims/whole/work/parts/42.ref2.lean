/-! ===== the reference: passes ===== -/
def gSp (a b : Int32) : Prop := (0 ≤ a ∧ a ≤ 99999) ∧ (1 ≤ b ∧ b ≤ 1440)
theorem isS {r : aR} (hR : Rs r) {s : Nat} (hs : s < nS r) : 0 ≤ nI s ∧ nI s ≤ r 3 - 1 := by
  rw [hR.1.1]; exact z_is hs (by have := hR.1.2; omega)
theorem isQ {r : aR} (hR : Rq r) {s : Nat} (hs : s < nR r) : 0 ≤ nI s ∧ nI s ≤ r 4 - 1 := by
  rw [hR.1]; exact z_is hs (by have := hR.2; omega)
theorem M_203 (I : aI) (w : aW) (k : aQ) {s : Nat} (hR : Rs (I 24 0)) (hs : s < nS (I 24 0)) (o : Int32) : rn 203 (a_en 203 [.inr (.inr (some (31, 0))), .inl (nI s), .inl o] (MM I w k)) = if 0 ≤ o ∧ o ≤ 999 then some (.inl (some (.inl 1)), MM (a_setI I 31 0 0 0) w k) else some (.inl (some (.inl 0)), MM (a_setI I 31 0 0 2) w k) := by
  refine (e203_0 I w k _ _).trans ?_
  simp only [M_177, M_173, z_b, z_v, z_n, z_c, Nat.reduceAdd, cond_true, cond_false, tf0, tf1, tfb, ite_not, Classical.not_not, z10, z_ff, z00, z_tt, e203_0, e203_6, e203_21, if_pos (isS hR hs)]
theorem M_203f (I : aI) (w : aW) (k : aQ) (a o : Int32) (h : ¬ (0 ≤ a ∧ a ≤ I 24 0 3 - 1)) : rn 203 (a_en 203 [.inr (.inr (some (31, 0))), .inl a, .inl o] (MM I w k)) = some (.inl (some (.inl 0)), MM (a_setI I 31 0 0 1) w k) := by
  refine (e203_0 I w k _ _).trans ?_
  simp only [M_177, M_173, z_b, z_v, z_n, z_c, Nat.reduceAdd, cond_true, cond_false, tf0, tf1, tfb, ite_not, Classical.not_not, z10, z_ff, z00, z_tt, e203_0, e203_6, e203_21, if_neg h]
theorem M_204 (I : aI) (w : aW) (k : aQ) {s : Nat} (hR : Rs (I 24 0)) (hs : s < nS (I 24 0)) (o : Int32) (ho : 0 ≤ o ∧ o ≤ 999) : rn 204 (a_en 204 [.inr (.inr (some (31, 0))), .inl (nI s), .inl o] (MM I w k)) = some (.inl (some (.inl (if m_lasts (I 24 0) s o = 0 then -1 else m_begin (I 24 0) s o))), MM (a_setI I 31 0 0 0) w k) := by
  have h4 := hR.s4 hs
  have e0 : rn 200 (a_en 200 [.inr (.inr (some (31, 0))), .inl (nI s), .inl o] (MM (a_setI I 31 0 0 0) w k)) = some (.inl (some (.inl (m_lasts (I 24 0) s o))), MM (a_setI I 31 0 0 0) w k) := M_200 (a_setI I 31 0 0 0) w k hR hs o
  have e1 : rn 201 (a_en 201 [.inr (.inr (some (31, 0))), .inl (nI s), .inl o] (MM (a_setI I 31 0 0 0) w k)) = some (.inl (some (.inl (m_begin (I 24 0) s o))), MM (a_setI I 31 0 0 0) w k) := M_201 (a_setI I 31 0 0 0) w k h4 o
  refine (e204_0 I w k _ _).trans ?_
  simp only [M_203 _ _ _ hR hs, if_pos ho, z_b, z_v, z_n, z_c, Nat.reduceAdd, cond_true, cond_false, tf0, tf1, tfb, ite_not, Classical.not_not, z10, z_ff, z00, z_tt, e204_0, e204_6, e204_17, e204_30, e0, e1, M_179_4 _ _ _ h4, m31_24, z_ri]
theorem M_204f (I : aI) (w : aW) (k : aQ) (a o : Int32) (h : ¬ (0 ≤ a ∧ a ≤ I 24 0 3 - 1)) : rn 204 (a_en 204 [.inr (.inr (some (31, 0))), .inl a, .inl o] (MM I w k)) = some (.inl (some (.inl 0)), MM (a_setI I 31 0 0 1) w k) := by
  refine (e204_0 I w k _ _).trans ?_
  simp only [M_203f _ _ _ _ _ h, z_b, z_v, z_n, z_c, Nat.reduceAdd, cond_true, cond_false, tf0, tf1, tfb, ite_not, Classical.not_not, z10, z_ff, z00, z_tt, e204_0, e204_6, e204_17, e204_30]
theorem M_204g (I : aI) (w : aW) (k : aQ) {s : Nat} (hR : Rs (I 24 0)) (hs : s < nS (I 24 0)) (o : Int32) (ho : ¬ (0 ≤ o ∧ o ≤ 999)) : rn 204 (a_en 204 [.inr (.inr (some (31, 0))), .inl (nI s), .inl o] (MM I w k)) = some (.inl (some (.inl 0)), MM (a_setI I 31 0 0 2) w k) := by
  refine (e204_0 I w k _ _).trans ?_
  simp only [M_203 _ _ _ hR hs, if_neg ho, z_b, z_v, z_n, z_c, Nat.reduceAdd, cond_true, cond_false, tf0, tf1, tfb, ite_not, Classical.not_not, z10, z_ff, z00, z_tt, e204_0, e204_6, e204_17, e204_30]
theorem M_205 (I : aI) (w : aW) (k : aQ) {s : Nat} (hR : Rs (I 24 0)) (hs : s < nS (I 24 0)) (o : Int32) (ho : 0 ≤ o ∧ o ≤ 999) : rn 205 (a_en 205 [.inr (.inr (some (31, 0))), .inl (nI s), .inl o] (MM I w k)) = some (.inl (some (.inl (if m_lasts (I 24 0) s o = 0 then -1 else m_begin (I 24 0) s o + m_lasts (I 24 0) s o))), MM (a_setI I 31 0 0 0) w k) := by
  have h4 := hR.s4 hs
  have e0 : rn 200 (a_en 200 [.inr (.inr (some (31, 0))), .inl (nI s), .inl o] (MM (a_setI I 31 0 0 0) w k)) = some (.inl (some (.inl (m_lasts (I 24 0) s o))), MM (a_setI I 31 0 0 0) w k) := M_200 (a_setI I 31 0 0 0) w k hR hs o
  have e1 : rn 201 (a_en 201 [.inr (.inr (some (31, 0))), .inl (nI s), .inl o] (MM (a_setI I 31 0 0 0) w k)) = some (.inl (some (.inl (m_begin (I 24 0) s o))), MM (a_setI I 31 0 0 0) w k) := M_201 (a_setI I 31 0 0 0) w k h4 o
  refine (e205_0 I w k _ _).trans ?_
  simp only [M_203 _ _ _ hR hs, if_pos ho, z_b, z_v, z_n, z_c, Nat.reduceAdd, cond_true, cond_false, tf0, tf1, tfb, ite_not, Classical.not_not, z10, z_ff, z00, z_tt, e205_0, e205_6, e205_17, e205_32, e0, e1, M_179_4 _ _ _ h4, m31_24, z_ri]
theorem M_205f (I : aI) (w : aW) (k : aQ) (a o : Int32) (h : ¬ (0 ≤ a ∧ a ≤ I 24 0 3 - 1)) : rn 205 (a_en 205 [.inr (.inr (some (31, 0))), .inl a, .inl o] (MM I w k)) = some (.inl (some (.inl 0)), MM (a_setI I 31 0 0 1) w k) := by
  refine (e205_0 I w k _ _).trans ?_
  simp only [M_203f _ _ _ _ _ h, z_b, z_v, z_n, z_c, Nat.reduceAdd, cond_true, cond_false, tf0, tf1, tfb, ite_not, Classical.not_not, z10, z_ff, z00, z_tt, e205_0, e205_6, e205_17, e205_32]
theorem M_205g (I : aI) (w : aW) (k : aQ) {s : Nat} (hR : Rs (I 24 0)) (hs : s < nS (I 24 0)) (o : Int32) (ho : ¬ (0 ≤ o ∧ o ≤ 999)) : rn 205 (a_en 205 [.inr (.inr (some (31, 0))), .inl (nI s), .inl o] (MM I w k)) = some (.inl (some (.inl 0)), MM (a_setI I 31 0 0 2) w k) := by
  refine (e205_0 I w k _ _).trans ?_
  simp only [M_203 _ _ _ hR hs, if_neg ho, z_b, z_v, z_n, z_c, Nat.reduceAdd, cond_true, cond_false, tf0, tf1, tfb, ite_not, Classical.not_not, z10, z_ff, z00, z_tt, e205_0, e205_6, e205_17, e205_32]
theorem M_206 (I : aI) (w : aW) (k : aQ) {s : Nat} (hR : Rs (I 24 0)) (hs : s < nS (I 24 0)) (o : Int32) (ho : 0 ≤ o ∧ o ≤ 999) : rn 206 (a_en 206 [.inr (.inr (some (31, 0))), .inl (nI s), .inl o] (MM I w k)) = some (.inl (some (.inl (m_lasts (I 24 0) s o * I 24 0 (24 + 11 * s + 4)))), MM (a_setI I 31 0 0 0) w k) := by
  have h4 := hR.s4 hs
  have e0 : rn 200 (a_en 200 [.inr (.inr (some (31, 0))), .inl (nI s), .inl o] (MM (a_setI I 31 0 0 0) w k)) = some (.inl (some (.inl (m_lasts (I 24 0) s o))), MM (a_setI I 31 0 0 0) w k) := M_200 (a_setI I 31 0 0 0) w k hR hs o
  have e1 : rn 201 (a_en 201 [.inr (.inr (some (31, 0))), .inl (nI s), .inl o] (MM (a_setI I 31 0 0 0) w k)) = some (.inl (some (.inl (m_begin (I 24 0) s o))), MM (a_setI I 31 0 0 0) w k) := M_201 (a_setI I 31 0 0 0) w k h4 o
  refine (e206_0 I w k _ _).trans ?_
  simp only [M_203 _ _ _ hR hs, if_pos ho, z_b, z_v, z_n, z_c, Nat.reduceAdd, cond_true, cond_false, tf0, tf1, tfb, ite_not, Classical.not_not, z10, z_ff, z00, z_tt, e206_0, e206_6, e206_15, e206_21, e0, e1, M_179_4 _ _ _ h4, m31_24, z_ri]
theorem M_206f (I : aI) (w : aW) (k : aQ) (a o : Int32) (h : ¬ (0 ≤ a ∧ a ≤ I 24 0 3 - 1)) : rn 206 (a_en 206 [.inr (.inr (some (31, 0))), .inl a, .inl o] (MM I w k)) = some (.inl (some (.inl 0)), MM (a_setI I 31 0 0 1) w k) := by
  refine (e206_0 I w k _ _).trans ?_
  simp only [M_203f _ _ _ _ _ h, z_b, z_v, z_n, z_c, Nat.reduceAdd, cond_true, cond_false, tf0, tf1, tfb, ite_not, Classical.not_not, z10, z_ff, z00, z_tt, e206_0, e206_6, e206_15, e206_21]
theorem M_206g (I : aI) (w : aW) (k : aQ) {s : Nat} (hR : Rs (I 24 0)) (hs : s < nS (I 24 0)) (o : Int32) (ho : ¬ (0 ≤ o ∧ o ≤ 999)) : rn 206 (a_en 206 [.inr (.inr (some (31, 0))), .inl (nI s), .inl o] (MM I w k)) = some (.inl (some (.inl 0)), MM (a_setI I 31 0 0 2) w k) := by
  refine (e206_0 I w k _ _).trans ?_
  simp only [M_203 _ _ _ hR hs, if_neg ho, z_b, z_v, z_n, z_c, Nat.reduceAdd, cond_true, cond_false, tf0, tf1, tfb, ite_not, Classical.not_not, z10, z_ff, z00, z_tt, e206_0, e206_6, e206_15, e206_21]
theorem M_207 (I : aI) (w : aW) (k : aQ) {s : Nat} (hR : Rs (I 24 0)) (hs : s < nS (I 24 0)) (t : Int32) : rn 207 (a_en 207 [.inr (.inr (some (31, 0))), .inl (nI s), .inl t] (MM I w k)) = if 0 ≤ t ∧ t ≤ 99999 then some (.inl (some (.inl (tf (¬ m_end (I 24 0) s t = -1)))), MM (a_setI I 31 0 0 0) w k) else some (.inl (some (.inl 0)), MM (a_setI I 31 0 0 2) w k) := by
  have e0 : rn 202 (a_en 202 [.inr (.inr (some (31, 0))), .inl (nI s), .inl t] (MM (a_setI I 31 0 0 0) w k)) = some (.inl (some (.inl (m_end (I 24 0) s t))), MM (a_setI I 31 0 0 0) w k) := M_202 (a_setI I 31 0 0 0) w k hR hs t
  refine (e207_0 I w k _ _).trans ?_
  simp only [M_177, M_173, e0, z_b, z_v, z_n, z_c, Nat.reduceAdd, cond_true, cond_false, tf0, tf1, tfb, ite_not, Classical.not_not, z10, z_ff, z00, z_tt, e207_0, e207_6, e207_20, e207_44, if_pos (isS hR hs)]
  simp only [tf, z_ri, ite_not]
theorem M_207f (I : aI) (w : aW) (k : aQ) (a t : Int32) (h : ¬ (0 ≤ a ∧ a ≤ I 24 0 3 - 1)) : rn 207 (a_en 207 [.inr (.inr (some (31, 0))), .inl a, .inl t] (MM I w k)) = some (.inl (some (.inl 0)), MM (a_setI I 31 0 0 1) w k) := by
  refine (e207_0 I w k _ _).trans ?_
  simp only [M_177, z_b, z_v, z_n, z_c, Nat.reduceAdd, cond_true, cond_false, tf0, tf1, tfb, ite_not, Classical.not_not, z10, z_ff, z00, z_tt, e207_0, e207_6, e207_20, e207_44, if_neg h]
/-- is one of the stations (x = -1) or the station x seen -/
def m_sn (x : Int32) (r : aR) (t : Int32) : Nat → Nat → Bool → Bool
  | 0, _, b => b
  | d + 1, j, b => m_sn x r t d (j + 1) (b || decide ((x = -1 ∨ x = nI j) ∧ ¬ m_end r j t = -1))
theorem m_snf {x : Int32} {r : aR} {t : Int32} {d j : Nat} {b : Bool} (h : ¬ ((x = -1 ∨ x = nI j) ∧ ¬ m_end r j t = -1)) : m_sn x r t (d + 1) j b = m_sn x r t d (j + 1) b := by
  show m_sn x r t d (j + 1) (b || decide _) = _
  rw [decide_eq_false h, Bool.or_false]
theorem m_snt {x : Int32} {r : aR} {t : Int32} {d j : Nat} {b : Bool} (h : (x = -1 ∨ x = nI j) ∧ ¬ m_end r j t = -1) : m_sn x r t (d + 1) j b = m_sn x r t d (j + 1) true := by
  show m_sn x r t d (j + 1) (b || decide _) = _
  rw [decide_eq_true h, Bool.or_true]
theorem M_208L (I : aI) (w : aW) (k : aQ) (hR : Rs (I 24 0)) (x t : Int32) : ∀ (d j : Nat) (b : Bool), j + d = nS (I 24 0) → rn 208 (5, [some (.inr (.inr (some (31, 0)))), some (.inl x), some (.inl t), some (.inl (tf (b = true))), some (.inl (nI j))], [], MM I w k) = some (.inl (some (.inl (tf (m_sn x (I 24 0) t d j b = true)))), MM I w k) := by
  have h1 := hR.1.1
  have h2 := hR.1.2
  intro d
  induction d with
  | zero =>
    intro j b hj
    refine (e208_5 I w k _ _ _ _).trans ?_
    rw [h1, zc_t (nI_le (by omega) (by omega)), tfb]
    rfl
  | succ d ih =>
    intro j b hj
    have hjs : j < nS (I 24 0) := by omega
    refine (e208_5 I w k _ _ _ _).trans ?_
    rw [h1, zc_f (nI_ge (by omega) (by omega)), nI_1]
    have i1 := ih (j + 1) true (by omega)
    have i0 := ih (j + 1) false (by omega)
    cases b with
    | true =>
      refine (zc_t (by decide)).trans ?_
      exact i1
    | false =>
      refine (zc_f (by decide)).trans ?_
      have key : (rn 202 (a_en 202 [.inr (.inr (some (31, 0))), .inl (nI j), .inl t] (MM I w k))).bind (fun o => a_bk 208 202 (35, [some (.inr (.inr (some (31, 0)))), some (.inl x), some (.inl t), some (.inl (tf (false = true))), some (.inl (nI j))], [], MM I w k) o (rn 208)) = if m_end (I 24 0) j t = -1 then some (.inl (some (.inl (tf (m_sn x (I 24 0) t d (j + 1) false = true)))), MM I w k) else some (.inl (some (.inl (tf (m_sn x (I 24 0) t d (j + 1) true = true)))), MM I w k) := by
        refine (bk_v (M_202 I w k hR hjs t)).trans ?_
        refine (e208_38 I w k _ _ _ _ _).trans ?_
        rw [nI_1, z_c]
        by_cases h3 : m_end (I 24 0) j t = -1
        · rw [if_pos h3, if_pos h3]; exact i0
        · rw [if_neg h3, if_neg h3]; exact i1
      by_cases h5 : x = -1
      · refine (zc_t h5).trans ?_
        rw [key]
        by_cases h3 : m_end (I 24 0) j t = -1
        · rw [if_pos h3, m_snf (fun z => z.2 h3)]
        · rw [if_neg h3, m_snt ⟨Or.inl h5, h3⟩]
      · refine (zc_f h5).trans ?_
        by_cases h6 : x = nI j
        · refine (zc_f (fun z => z h6)).trans ?_
          rw [key]
          by_cases h3 : m_end (I 24 0) j t = -1
          · rw [if_pos h3, m_snf (fun z => z.2 h3)]
          · rw [if_neg h3, m_snt ⟨Or.inr h6, h3⟩]
        · refine (zc_t h6).trans ?_
          rw [m_snf (fun z => z.1.elim h5 h6)]
          exact i0
def m_see (x : Int32) (r : aR) (t : Int32) : Bool := m_sn x r t (nS r) 0 false
theorem M_208 (I : aI) (w : aW) (k : aQ) (hR : Rs (I 24 0)) (x t : Int32) : rn 208 (a_en 208 [.inr (.inr (some (31, 0))), .inl x, .inl t] (MM I w k)) = some (.inl (some (.inl (tf (m_see x (I 24 0) t = true)))), MM I w k) :=
  (e208_0 I w k x t).trans (M_208L I w k hR x t _ 0 false (by omega))
def m_cov (x : Int32) (r : aR) (f : Int32) : Nat → Nat → Int32 → Int32
  | 0, _, a => a
  | d + 1, j, a => if m_see x r (f + nI j) = true then m_cov x r f d (j + 1) (a + 1) else m_cov x r f d (j + 1) (a + 0)
theorem M_209L (I : aI) (w : aW) (k : aQ) (hR : Rs (I 24 0)) (x f : Int32) {m : Nat} (hm : m ≤ 1440) (h0 : I 31 0 0 = 0) : ∀ (d j : Nat) (a : Int32), j + d = m → rn 209 (53, [some (.inr (.inr (some (31, 0)))), some (.inl x), some (.inl f), some (.inl (nI m)), some (.inl a), some (.inl (nI j))], [], MM I w k) = some (.inl (some (.inl (m_cov x (I 24 0) f d j a))), MM I w k) := by
  intro d
  induction d with
  | zero =>
    intro j a hj
    refine (e209_53 I w k _ _ _ _ _).trans ?_
    rw [zc_t (nI_le (by omega) (by omega))]
    rfl
  | succ d ih =>
    intro j a hj
    refine (e209_53 I w k _ _ _ _ _).trans ?_
    rw [zc_f (nI_ge (by omega) (by omega)), h0]
    simp only [M_208 _ _ _ hR, z_b, z_v, z_n, z_c, Nat.reduceAdd, cond_true, cond_false, tf0, tf1, tfb, ite_not, Classical.not_not, z10, z_ff, z00, z_tt, e209_0, e209_25, e209_11, e209_36, e209_77, nI_1, ih (j + 1) _ (by omega), m_cov, z_ri, if_true]
theorem M_209 (I : aI) (w : aW) (k : aQ) (hR : Rs (I 24 0)) (x f : Int32) (hx : x = -1 ∨ (0 ≤ x ∧ x ≤ I 24 0 3 - 1)) {m : Nat} (h1 : 1 ≤ m) (hm : m ≤ 1440) (hf : 0 ≤ f ∧ f ≤ 99999) : rn 209 (a_en 209 [.inr (.inr (some (31, 0))), .inl x, .inl f, .inl (nI m)] (MM I w k)) = some (.inl (some (.inl (m_cov x (I 24 0) f m 0 0))), MM (a_setI I 31 0 0 0) w k) := by
  have e9 : rn 209 (53, [some (.inr (.inr (some (31, 0)))), some (.inl x), some (.inl f), some (.inl (nI m)), some (.inl 0), some (.inl 0)], [], MM (a_setI I 31 0 0 0) w k) = some (.inl (some (.inl (m_cov x (I 24 0) f m 0 0))), MM (a_setI I 31 0 0 0) w k) := M_209L (a_setI I 31 0 0 0) w k hR x f hm rfl m 0 0 (by omega)
  have hb : 1 ≤ nI m ∧ nI m ≤ 1440 := ⟨nI_le h1 (by omega), nI_le (b := 1440) hm (by decide)⟩
  refine (e209_0 I w k _ _ _).trans ?_
  rcases hx with hx | hx
  · simp only [M_177, M_173, z_b, z_v, z_n, z_c, Nat.reduceAdd, cond_true, cond_false, tf0, tf1, tfb, ite_not, Classical.not_not, z10, z_ff, z00, z_tt, e209_0, e209_25, e209_11, e209_36, e209_77, if_pos hx, if_pos hf, if_pos hb, e9]
  · by_cases hx1 : x = -1
    · simp only [M_177, M_173, z_b, z_v, z_n, z_c, Nat.reduceAdd, cond_true, cond_false, tf0, tf1, tfb, ite_not, Classical.not_not, z10, z_ff, z00, z_tt, e209_0, e209_25, e209_11, e209_36, e209_77, if_pos hx1, if_pos hf, if_pos hb, e9]
    · simp only [M_177, M_173, z_b, z_v, z_n, z_c, Nat.reduceAdd, cond_true, cond_false, tf0, tf1, tfb, ite_not, Classical.not_not, z10, z_ff, z00, z_tt, e209_0, e209_25, e209_11, e209_36, e209_77, if_neg hx1, if_pos hx, if_pos hf, if_pos hb, e9]
theorem M_209z (I : aI) (w : aW) (k : aQ) (x f m : Int32) (h : ¬ I 31 0 0 = 0) : rn 209 (53, [some (.inr (.inr (some (31, 0)))), some (.inl x), some (.inl f), some (.inl m), some (.inl 0), some (.inl 0)], [], MM I w k) = some (.inl (some (.inl 0)), MM I w k) := by
  refine (e209_53 I w k _ _ _ _ _).trans ?_
  rw [zc_t h]
  simp only [z_c]
  split <;> rfl
theorem M_209f (I : aI) (w : aW) (k : aQ) (x f m : Int32) (hx : ¬ x = -1) (h : ¬ (0 ≤ x ∧ x ≤ I 24 0 3 - 1)) : rn 209 (a_en 209 [.inr (.inr (some (31, 0))), .inl x, .inl f, .inl m] (MM I w k)) = some (.inl (some (.inl 0)), MM (a_setI I 31 0 0 1) w k) := by
  have e9 : rn 209 (53, [some (.inr (.inr (some (31, 0)))), some (.inl x), some (.inl f), some (.inl m), some (.inl 0), some (.inl 0)], [], MM (a_setI I 31 0 0 1) w k) = some (.inl (some (.inl 0)), MM (a_setI I 31 0 0 1) w k) := M_209z (a_setI I 31 0 0 1) w k x f m (by show ¬ ((1 : Int32) = 0); decide)
  refine (e209_0 I w k _ _ _).trans ?_
  simp only [M_177, M_173, z_b, z_v, z_n, z_c, Nat.reduceAdd, cond_true, cond_false, tf0, tf1, tfb, ite_not, Classical.not_not, z10, z_ff, z00, z_tt, e209_0, e209_25, e209_11, e209_36, e209_77, if_neg hx, if_neg h, e9]
theorem M_209g (I : aI) (w : aW) (k : aQ) (x f m : Int32) (hx : x = -1 ∨ (0 ≤ x ∧ x ≤ I 24 0 3 - 1)) (h : ¬ gSp f m) : rn 209 (a_en 209 [.inr (.inr (some (31, 0))), .inl x, .inl f, .inl m] (MM I w k)) = some (.inl (some (.inl 0)), MM (a_setI I 31 0 0 2) w k) := by
  have e9 : rn 209 (53, [some (.inr (.inr (some (31, 0)))), some (.inl x), some (.inl f), some (.inl m), some (.inl 0), some (.inl 0)], [], MM (a_setI I 31 0 0 2) w k) = some (.inl (some (.inl 0)), MM (a_setI I 31 0 0 2) w k) := M_209z (a_setI I 31 0 0 2) w k x f m (by show ¬ ((2 : Int32) = 0); decide)
  refine (e209_0 I w k _ _ _).trans ?_
  by_cases hx1 : x = -1
  · by_cases hf : 0 ≤ f ∧ f ≤ 99999
    · have hb : ¬ (1 ≤ m ∧ m ≤ 1440) := fun z => h ⟨hf, z⟩
      simp only [M_177, M_173, z_b, z_v, z_n, z_c, Nat.reduceAdd, cond_true, cond_false, tf0, tf1, tfb, ite_not, Classical.not_not, z10, z_ff, z00, z_tt, e209_0, e209_25, e209_11, e209_36, e209_77, if_pos hx1, if_pos hf, if_neg hb, e9]
    · simp only [M_177, M_173, z_b, z_v, z_n, z_c, Nat.reduceAdd, cond_true, cond_false, tf0, tf1, tfb, ite_not, Classical.not_not, z10, z_ff, z00, z_tt, e209_0, e209_25, e209_11, e209_36, e209_77, if_pos hx1, if_neg hf, e9]
  · have hx := hx.resolve_left hx1
    by_cases hf : 0 ≤ f ∧ f ≤ 99999
    · have hb : ¬ (1 ≤ m ∧ m ≤ 1440) := fun z => h ⟨hf, z⟩
      simp only [M_177, M_173, z_b, z_v, z_n, z_c, Nat.reduceAdd, cond_true, cond_false, tf0, tf1, tfb, ite_not, Classical.not_not, z10, z_ff, z00, z_tt, e209_0, e209_25, e209_11, e209_36, e209_77, if_neg hx1, if_pos hx, if_pos hf, if_neg hb, e9]
    · simp only [M_177, M_173, z_b, z_v, z_n, z_c, Nat.reduceAdd, cond_true, cond_false, tf0, tf1, tfb, ite_not, Classical.not_not, z10, z_ff, z00, z_tt, e209_0, e209_25, e209_11, e209_36, e209_77, if_neg hx1, if_pos hx, if_neg hf, e9]
def m_gap (r : aR) (f : Int32) : Nat → Nat → Int32 → Int32 → Int32
  | 0, _, l, _ => l
  | d + 1, j, l, u => if m_see (-1) r (f + nI j) = true then (if 0 ≤ l then m_gap r f d (j + 1) l 0 else m_gap r f d (j + 1) 0 0) else (if u + 1 ≤ l then m_gap r f d (j + 1) l (u + 1) else m_gap r f d (j + 1) (u + 1) (u + 1))
theorem M_210L (I : aI) (w : aW) (k : aQ) (hR : Rs (I 24 0)) (f : Int32) {m : Nat} (hm : m ≤ 1440) (h0 : I 31 0 0 = 0) : ∀ (d j : Nat) (l u : Int32), j + d = m → rn 210 (38, [some (.inr (.inr (some (31, 0)))), some (.inl f), some (.inl (nI m)), some (.inl l), some (.inl u), some (.inl (nI j))], [], MM I w k) = some (.inl (some (.inl (m_gap (I 24 0) f d j l u))), MM I w k) := by
  intro d
  induction d with
  | zero =>
    intro j l u hj
    refine (e210_38 I w k _ _ _ _ _).trans ?_
    rw [zc_t (nI_le (by omega) (by omega))]
    rfl
  | succ d ih =>
    intro j l u hj
    refine (e210_38 I w k _ _ _ _ _).trans ?_
    rw [zc_f (nI_ge (by omega) (by omega)), h0]
    simp only [M_208 _ _ _ hR, z_b, z_v, z_n, z_c, Nat.reduceAdd, cond_true, cond_false, tf0, tf1, tfb, ite_not, Classical.not_not, z10, z_ff, z00, z_tt, e210_0, e210_8, e210_19, e210_60, nI_1, ih (j + 1) _ _ (by omega), m_gap, z_ri, if_true]
theorem M_210 (I : aI) (w : aW) (k : aQ) (hR : Rs (I 24 0)) (f : Int32) {m : Nat} (h1 : 1 ≤ m) (hm : m ≤ 1440) (hf : 0 ≤ f ∧ f ≤ 99999) : rn 210 (a_en 210 [.inr (.inr (some (31, 0))), .inl f, .inl (nI m)] (MM I w k)) = some (.inl (some (.inl (m_gap (I 24 0) f m 0 0 0))), MM (a_setI I 31 0 0 0) w k) := by
  have e9 : rn 210 (38, [some (.inr (.inr (some (31, 0)))), some (.inl f), some (.inl (nI m)), some (.inl 0), some (.inl 0), some (.inl 0)], [], MM (a_setI I 31 0 0 0) w k) = some (.inl (some (.inl (m_gap (I 24 0) f m 0 0 0))), MM (a_setI I 31 0 0 0) w k) := M_210L (a_setI I 31 0 0 0) w k hR f hm rfl m 0 0 0 (by omega)
  have hb : 1 ≤ nI m ∧ nI m ≤ 1440 := ⟨nI_le h1 (by omega), nI_le (b := 1440) hm (by decide)⟩
  refine (e210_0 I w k _ _).trans ?_
  simp only [M_173, z_b, z_v, z_n, z_c, Nat.reduceAdd, cond_true, cond_false, tf0, tf1, tfb, ite_not, Classical.not_not, z10, z_ff, z00, z_tt, e210_0, e210_8, e210_19, e210_60, if_pos hf, if_pos hb, e9]
theorem M_210f (I : aI) (w : aW) (k : aQ) (f m : Int32) (h : ¬ gSp f m) : rn 210 (a_en 210 [.inr (.inr (some (31, 0))), .inl f, .inl m] (MM I w k)) = some (.inl (some (.inl 0)), MM (a_setI I 31 0 0 1) w k) := by
  have e9 : rn 210 (38, [some (.inr (.inr (some (31, 0)))), some (.inl f), some (.inl m), some (.inl 0), some (.inl 0), some (.inl 0)], [], MM (a_setI I 31 0 0 1) w k) = some (.inl (some (.inl 0)), MM (a_setI I 31 0 0 1) w k) := by
    refine (e210_38 _ w k _ _ _ _ _).trans ?_
    rw [zc_t (show ¬ a_setI I 31 0 0 1 31 0 0 = 0 from by show ¬ ((1 : Int32) = 0); decide)]
    simp only [z_c]
    split <;> rfl
  refine (e210_0 I w k _ _).trans ?_
  by_cases hf : 0 ≤ f ∧ f ≤ 99999
  · have hb : ¬ (1 ≤ m ∧ m ≤ 1440) := fun z => h ⟨hf, z⟩
    simp only [M_173, z_b, z_v, z_n, z_c, Nat.reduceAdd, cond_true, cond_false, tf0, tf1, tfb, ite_not, Classical.not_not, z10, z_ff, z00, z_tt, e210_0, e210_8, e210_19, e210_60, if_pos hf, if_neg hb, e9]
  · simp only [M_173, z_b, z_v, z_n, z_c, Nat.reduceAdd, cond_true, cond_false, tf0, tf1, tfb, ite_not, Classical.not_not, z10, z_ff, z00, z_tt, e210_0, e210_8, e210_19, e210_60, if_neg hf, e9]
def m_b1 (r : aR) (f : Int32) (s : Nat) : Nat → Nat → Int32 → Int32
  | 0, _, a => a
  | d + 1, j, a => if m_see (nI s) r (f + nI j) = true then m_b1 r f s d (j + 1) (a + r (24 + 11 * s + 4)) else m_b1 r f s d (j + 1) (a + 0)
def m_b2 (r : aR) (f : Int32) (m : Nat) : Nat → Nat → Int32 → Int32 → Int32
  | 0, _, b, _ => b
  | d + 1, s, b, l => if m_b1 r f s m 0 0 ≤ l then m_b2 r f m d (s + 1) b l else m_b2 r f m d (s + 1) (nI s) (m_b1 r f s m 0 0)
theorem M_211L (I : aI) (w : aW) (k : aQ) (hR : Rs (I 24 0)) (f : Int32) {m s : Nat} (hm : m ≤ 1440) (hs : s < nS (I 24 0)) (b l : Int32) : ∀ (d j : Nat) (a : Int32), j + d = m → rn 211 (64, [some (.inr (.inr (some (31, 0)))), some (.inl f), some (.inl (nI m)), some (.inl b), some (.inl l), some (.inl (nI s)), some (.inl a), some (.inl (nI j))], [], MM I w k) = if m_b1 (I 24 0) f s d j a ≤ l then rn 211 (47, [some (.inr (.inr (some (31, 0)))), some (.inl f), some (.inl (nI m)), some (.inl b), some (.inl l), some (.inl (nI (s + 1))), some (.inl (m_b1 (I 24 0) f s d j a)), some (.inl (nI m))], [], MM I w k) else rn 211 (47, [some (.inr (.inr (some (31, 0)))), some (.inl f), some (.inl (nI m)), some (.inl (nI s)), some (.inl (m_b1 (I 24 0) f s d j a)), some (.inl (nI (s + 1))), some (.inl (m_b1 (I 24 0) f s d j a)), some (.inl (nI m))], [], MM I w k) := by
  have h4 := hR.s4 hs
  intro d
  induction d with
  | zero =>
    intro j a hj
    have hj : j = m := by omega
    subst hj
    refine (e211_64 I w k _ _ _ _ _ _ _).trans ?_
    rw [zc_t (nI_le (by omega) (by omega)), nI_1, z_c]
    rfl
  | succ d ih =>
    intro j a hj
    refine (e211_64 I w k _ _ _ _ _ _ _).trans ?_
    rw [zc_f (nI_ge (by omega) (by omega))]
    refine (bk_v (M_208 _ _ _ hR _ _)).trans ?_
    refine (e211_82 I w k _ _ _ _ _ _ _ _ _).trans ?_
    by_cases h : m_see (nI s) (I 24 0) (f + nI j) = true
    · rw [zc_f (by rw [tf0]; exact fun z => z h)]
      refine (bk_v (M_179_4 _ _ _ h4)).trans ?_
      refine (e211_92 I w k _ _ _ _ _ _ _ _ _).trans ?_
      rw [nI_1, ih (j + 1) _ (by omega), show m_b1 (I 24 0) f s (d + 1) j a = m_b1 (I 24 0) f s d (j + 1) (a + I 24 0 (24 + 11 * s + 4)) from if_pos h]
    · rw [zc_t (by rw [tf0]; exact h), nI_1, ih (j + 1) _ (by omega), show m_b1 (I 24 0) f s (d + 1) j a = m_b1 (I 24 0) f s d (j + 1) (a + 0) from if_neg h]
theorem M_211M (I : aI) (w : aW) (k : aQ) (hR : Rs (I 24 0)) (f : Int32) {m : Nat} (hm : m ≤ 1440) : ∀ (d s : Nat) (b l : Int32) (d6 d7 : Option aV), s + d = nS (I 24 0) → rn 211 (47, [some (.inr (.inr (some (31, 0)))), some (.inl f), some (.inl (nI m)), some (.inl b), some (.inl l), some (.inl (nI s)), d6, d7], [], MM I w k) = some (.inl (some (.inl (m_b2 (I 24 0) f m d s b l))), MM I w k) := by
  have h1 := hR.1.1
  have h2 := hR.1.2
  intro d
  induction d with
  | zero =>
    intro s b l d6 d7 hj
    refine (e211_47 I w k _ _ _ _ _ _ _).trans ?_
    rw [h1, zc_t (nI_le (by omega) (by omega))]
    rfl
  | succ d ih =>
    intro s b l d6 d7 hj
    refine (e211_47 I w k _ _ _ _ _ _ _).trans ?_
    rw [h1, zc_f (nI_ge (by omega) (by omega))]
    refine (M_211L I w k hR f hm (show s < nS (I 24 0) by omega) b l m 0 0 (by omega)).trans ?_
    rw [ih (s + 1) _ _ _ _ (by omega), ih (s + 1) _ _ _ _ (by omega)]
    simp only [m_b2, z_ri]
theorem M_211 (I : aI) (w : aW) (k : aQ) (hR : Rs (I 24 0)) (f : Int32) {m : Nat} (h1 : 1 ≤ m) (hm : m ≤ 1440) (hf : 0 ≤ f ∧ f ≤ 99999) : rn 211 (a_en 211 [.inr (.inr (some (31, 0))), .inl f, .inl (nI m)] (MM I w k)) = some (.inl (some (.inl (m_b2 (I 24 0) f m (nS (I 24 0)) 0 (-1) 0))), MM (a_setI I 31 0 0 0) w k) := by
  have e9 : ∀ d6 d7 : Option aV, rn 211 (47, [some (.inr (.inr (some (31, 0)))), some (.inl f), some (.inl (nI m)), some (.inl (-1)), some (.inl 0), some (.inl 0), d6, d7], [], MM (a_setI I 31 0 0 0) w k) = some (.inl (some (.inl (m_b2 (I 24 0) f m (nS (I 24 0)) 0 (-1) 0))), MM (a_setI I 31 0 0 0) w k) := fun d6 d7 => M_211M (a_setI I 31 0 0 0) w k hR f hm (nS (I 24 0)) 0 (-1) 0 d6 d7 (by show 0 + _ = _; exact Nat.zero_add _)
  have hb : 1 ≤ nI m ∧ nI m ≤ 1440 := ⟨nI_le h1 (by omega), nI_le (b := 1440) hm (by decide)⟩
  refine (e211_0 I w k _ _).trans ?_
  simp only [M_173, z_b, z_v, z_n, z_c, Nat.reduceAdd, cond_true, cond_false, tf0, tf1, tfb, ite_not, Classical.not_not, z10, z_ff, z00, z_tt, e211_0, e211_8, e211_19, e211_82, e211_92, if_pos hf, if_pos hb, e9]
theorem M_211f (I : aI) (w : aW) (k : aQ) (f m : Int32) (h : ¬ gSp f m) : rn 211 (a_en 211 [.inr (.inr (some (31, 0))), .inl f, .inl m] (MM I w k)) = some (.inl (some (.inl 0)), MM (a_setI I 31 0 0 1) w k) := by
  refine (e211_0 I w k _ _).trans ?_
  by_cases hf : 0 ≤ f ∧ f ≤ 99999
  · have hb : ¬ (1 ≤ m ∧ m ≤ 1440) := fun z => h ⟨hf, z⟩
    simp only [M_173, z_b, z_v, z_n, z_c, Nat.reduceAdd, cond_true, cond_false, tf0, tf1, tfb, ite_not, Classical.not_not, z10, z_ff, z00, z_tt, e211_0, e211_8, e211_19, e211_82, e211_92, if_pos hf, if_neg hb]
  · simp only [M_173, z_b, z_v, z_n, z_c, Nat.reduceAdd, cond_true, cond_false, tf0, tf1, tfb, ite_not, Classical.not_not, z10, z_ff, z00, z_tt, e211_0, e211_8, e211_19, e211_82, e211_92, if_neg hf]
/-- the begin of the next pass since f -/
def m_np (r : aR) (s : Nat) (f : Int32) : Nat → Nat → Int32
  | 0, _ => -1
  | d + 1, o => if m_begin r s (nI o) < f then m_np r s f d (o + 1) else (if m_lasts r s (nI o) ≤ 0 then m_np r s f d (o + 1) else m_begin r s (nI o))
theorem M_212L (I : aI) (w : aW) (k : aQ) (hR : Rs (I 24 0)) {s : Nat} (hs : s < nS (I 24 0)) (f : Int32) : ∀ (d o : Nat), o + d = 1000 → rn 212 (42, [some (.inr (.inr (some (31, 0)))), some (.inl (nI s)), some (.inl f), some (.inl (nI o))], [], MM I w k) = some (.inl (some (.inl (m_np (I 24 0) s f d o))), MM I w k) := by
  have h4 := hR.s4 hs
  intro d
  induction d with
  | zero =>
    intro o hj
    refine (e212_42 I w k _ _ _).trans ?_
    rw [zc_t (show (1000 : Int32) ≤ nI o from nI_le (a := 1000) (by omega) (by omega))]
    rfl
  | succ d ih =>
    intro o hj
    refine (e212_42 I w k _ _ _).trans ?_
    rw [zc_f (show ¬ (1000 : Int32) ≤ nI o from nI_ge (b := 1000) (by omega) (by omega))]
    simp only [M_201 _ _ _ h4, M_200 _ _ _ hR hs, z_b, z_v, z_n, z_c, Nat.reduceAdd, cond_true, cond_false, tf0, tf1, tfb, ite_not, Classical.not_not, z10, z_ff, z00, z_tt, e212_0, e212_6, e212_20, e212_55, e212_65, e212_74, nI_1, ih (o + 1) (by omega), m_np, z_ri]
theorem M_212 (I : aI) (w : aW) (k : aQ) (hR : Rs (I 24 0)) {s : Nat} (hs : s < nS (I 24 0)) (f : Int32) : rn 212 (a_en 212 [.inr (.inr (some (31, 0))), .inl (nI s), .inl f] (MM I w k)) = if 0 ≤ f ∧ f ≤ 99999 then some (.inl (some (.inl (m_np (I 24 0) s f 1000 0))), MM (a_setI I 31 0 0 0) w k) else some (.inl (some (.inl 0)), MM (a_setI I 31 0 0 2) w k) := by
  have e9 : rn 212 (42, [some (.inr (.inr (some (31, 0)))), some (.inl (nI s)), some (.inl f), some (.inl 0)], [], MM (a_setI I 31 0 0 0) w k) = some (.inl (some (.inl (m_np (I 24 0) s f 1000 0))), MM (a_setI I 31 0 0 0) w k) := M_212L (a_setI I 31 0 0 0) w k hR hs f 1000 0 (by omega)
  refine (e212_0 I w k _ _).trans ?_
  simp only [M_177, M_173, z_b, z_v, z_n, z_c, Nat.reduceAdd, cond_true, cond_false, tf0, tf1, tfb, ite_not, Classical.not_not, z10, z_ff, z00, z_tt, e212_0, e212_6, e212_20, e212_55, e212_65, e212_74, if_pos (isS hR hs), e9]
theorem M_212f (I : aI) (w : aW) (k : aQ) (a f : Int32) (h : ¬ (0 ≤ a ∧ a ≤ I 24 0 3 - 1)) : rn 212 (a_en 212 [.inr (.inr (some (31, 0))), .inl a, .inl f] (MM I w k)) = some (.inl (some (.inl 0)), MM (a_setI I 31 0 0 1) w k) := by
  refine (e212_0 I w k _ _).trans ?_
  simp only [M_177, M_173, z_b, z_v, z_n, z_c, Nat.reduceAdd, cond_true, cond_false, tf0, tf1, tfb, ite_not, Classical.not_not, z10, z_ff, z00, z_tt, e212_0, e212_6, e212_20, e212_55, e212_65, e212_74, if_neg h]
/-- the station that is chosen -/
def m_chL (r : aR) (t pr : Int32) : Nat → Nat → Int32 → Int32 → Int32
  | 0, _, b, _ => b
  | d + 1, j, b, l => if l < m_end r j t then m_chL r t pr d (j + 1) (nI j) (m_end r j t) else (if m_end r j t = l then (if m_end r j t = -1 then m_chL r t pr d (j + 1) b l else (if nI j = pr then m_chL r t pr d (j + 1) (nI j) (m_end r j t) else m_chL r t pr d (j + 1) b l)) else m_chL r t pr d (j + 1) b l)
theorem M_215L (I : aI) (w : aW) (k : aQ) (hR : Rs (I 24 0)) (t pr : Int32) : ∀ (d j : Nat) (b l : Int32) (d6 : Option aV), j + d = nS (I 24 0) → rn 215 (35, [some (.inr (.inr (some (31, 0)))), some (.inl t), some (.inl pr), some (.inl b), some (.inl l), some (.inl (nI j)), d6], [], MM I w k) = some (.inl (some (.inl (m_chL (I 24 0) t pr d j b l))), MM I w k) := by
  have h1 := hR.1.1
  have h2 := hR.1.2
  intro d
  induction d with
  | zero =>
    intro j b l d6 hj
    refine (e215_35 I w k _ _ _ _ _ _).trans ?_
    rw [h1, zc_t (nI_le (by omega) (by omega))]
    rfl
  | succ d ih =>
    intro j b l d6 hj
    refine (e215_35 I w k _ _ _ _ _ _).trans ?_
    rw [h1, zc_f (nI_ge (by omega) (by omega))]
    simp only [M_202 _ _ _ hR (show j < nS (I 24 0) by omega), z_b, z_v, z_n, z_c, Nat.reduceAdd, cond_true, cond_false, tf0, tf1, tfb, ite_not, Classical.not_not, z10, z_ff, z00, z_tt, e215_0, e215_21, e215_53, nI_1, ih (j + 1) _ _ _ (by omega), m_chL, z_ri]
def m_cho (r : aR) (t pr : Int32) : Int32 := if r 9 = 0 then (if pr = -1 then m_chL r t pr (nS r) 0 (-1) (-1) else (if m_end r pr.toNatClampNeg t = -1 then m_chL r t pr (nS r) 0 (-1) (-1) else pr)) else m_chL r t pr (nS r) 0 (-1) (-1)
theorem M_215 (I : aI) (w : aW) (k : aQ) (hR : Rs (I 24 0)) (t pr : Int32) (hp : pr = -1 ∨ ∃ p, p < nS (I 24 0) ∧ pr = nI p) : rn 215 (a_en 215 [.inr (.inr (some (31, 0))), .inl t, .inl pr] (MM I w k)) = some (.inl (some (.inl (m_cho (I 24 0) t pr))), MM I w k) := by
  have e9 : ∀ d6 : Option aV, rn 215 (35, [some (.inr (.inr (some (31, 0)))), some (.inl t), some (.inl pr), some (.inl (-1)), some (.inl (-1)), some (.inl 0), d6], [], MM I w k) = some (.inl (some (.inl (m_chL (I 24 0) t pr (nS (I 24 0)) 0 (-1) (-1)))), MM I w k) := fun d6 => M_215L I w k hR t pr (nS (I 24 0)) 0 (-1) (-1) d6 (by omega)
  refine (e215_0 I w k _ _).trans ?_
  rcases hp with hp | ⟨p, hp, rfl⟩
  · simp only [z_b, z_v, z_n, z_c, Nat.reduceAdd, cond_true, cond_false, tf0, tf1, tfb, ite_not, Classical.not_not, z10, z_ff, z00, z_tt, e9, m_cho, z_ri, if_pos hp]
  · have h2 := hR.1.2
    simp only [M_202 _ _ _ hR hp, z_b, z_v, z_n, z_c, Nat.reduceAdd, cond_true, cond_false, tf0, tf1, tfb, ite_not, Classical.not_not, z10, z_ff, z00, z_tt, e215_0, e215_21, e215_53, e9, m_cho, z_ri, nI_clamp (show p < 2 ^ 31 by omega)]
/-- the station that the satellite talks to -/
def m_tk0 (r : aR) : Int32 := if r 13 = 0 then -1 else r (1348 + 84 * ((nC r - 1) % 60) + 0)
theorem M_216 (I : aI) (w : aW) (k : aQ) (hC : Rc (I 24 0)) (h1 : ¬ I 24 0 13 = 0 → 1 ≤ nC (I 24 0)) : rn 216 (a_en 216 [.inr (.inr (some (31, 0)))] (MM I w k)) = some (.inl (some (.inl (m_tk0 (I 24 0)))), MM I w k) := by
  refine (e216_0 I w k).trans ?_
  by_cases h : I 24 0 13 = 0
  · rw [zc_f (fun z => z h), m_tk0, if_pos h]
  · rw [zc_t h, hC.1, show nI (nC (I 24 0)) - 1 = nI (nC (I 24 0) - 1) from by
      obtain ⟨m, hm⟩ : ∃ m, nC (I 24 0) = m + 1 := ⟨nC (I 24 0) - 1, by have := h1 h; omega⟩
      rw [hm, nI_pred]; rfl]
    have hc := hC.2
    refine (bk_v (M_184_0 I w k (c := nC (I 24 0) - 1) (by omega))).trans ?_
    rw [m_tk0, if_neg h]
    exact e216_28 I w k _ _
