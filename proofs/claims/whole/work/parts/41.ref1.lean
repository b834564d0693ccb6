/-! ===== the reference: leaves ===== -/
theorem M_179 (I : aI) (w : aW) (k : aQ) {s j : Nat} (hs : s < 4) (hj : j < 11) : rn 179 (a_en 179 [.inr (.inr (some (31, 0))), .inl (nI s), .inl (nI j)] (MM I w k)) = some (.inl (some (.inl (I 24 0 (24 + 11 * s + j)))), MM I w k) := by
  refine (e179_0 I w k (nI s) (nI j)).trans ?_
  rw [z_st, z_in (by omega) (by decide), nI_clamp (by omega)]
  rfl
theorem M_181 (I : aI) (w : aW) (k : aQ) {s j : Nat} (hs : s < 40) (hj : j < 8) : rn 181 (a_en 181 [.inr (.inr (some (31, 0))), .inl (nI s), .inl (nI j)] (MM I w k)) = some (.inl (some (.inl (I 24 0 (68 + 8 * s + j)))), MM I w k) := by
  refine (e181_0 I w k (nI s) (nI j)).trans ?_
  rw [z_re, z_in (by omega) (by decide), nI_clamp (by omega)]
  rfl
theorem M_180 (I : aI) (w : aW) (k : aQ) {s j : Nat} (hs : s < 4) (hj : j < 5) : rn 180 (a_en 180 [.inr (.inr (some (31, 0))), .inl (nI s), .inl (nI j)] (MM I w k)) = some (.inl none, MM (pR I (upd (I 24 0) (24 + 11 * s + 6 + j) (I 24 0 (24 + 11 * s + 6 + j) + 1))) w k) := by
  refine (e180_0 I w k (nI s) (nI j)).trans ?_
  rw [z_so, z_in (by omega) (by decide), nI_clamp (by omega), pR_set]
  rfl
theorem M_182 (I : aI) (w : aW) (k : aQ) {s j : Nat} (hs : s < 40) (hj : j < 8) (v : Int32) : rn 182 (a_en 182 [.inr (.inr (some (31, 0))), .inl (nI s), .inl (nI j), .inl v] (MM I w k)) = some (.inl none, MM (pR I (upd (I 24 0) (68 + 8 * s + j) v)) w k) := by
  refine (e182_0 I w k (nI s) (nI j) v).trans ?_
  rw [z_re, z_in (by omega) (by decide), nI_clamp (by omega), pR_set]
  rfl
theorem M_183 (I : aI) (w : aW) (k : aQ) {c : Nat} (h : c < 2 ^ 31) : rn 183 (a_en 183 [.inl (nI c)] (MM I w k)) = some (.inl (some (.inl (nI (1348 + 84 * (c % 60))))), MM I w k) := by
  refine (e183_0 I w k (nI c)).trans ?_
  rw [z_m60 h, show (1348 : Int32) = nI 1348 from rfl, show (84 : Int32) = nI 84 from rfl, z_mul, nI_add]
theorem M_184 (I : aI) (w : aW) (k : aQ) {c j : Nat} (h : c < 2 ^ 31) (hj : j < 84) : rn 184 (a_en 184 [.inr (.inr (some (31, 0))), .inl (nI c), .inl (nI j)] (MM I w k)) = some (.inl (some (.inl (I 24 0 (1348 + 84 * (c % 60) + j)))), MM I w k) := by
  have hm := Nat.mod_lt c (by decide : 0 < 60)
  refine (e184_0 I w k (nI c) (nI j)).trans ?_
  refine (bk_v (M_183 I w k h)).trans ?_
  refine (e184_8 I w k _ _ _ _).trans ?_
  rw [nI_add, z_in (by omega) (by decide), nI_clamp (by omega)]
  rfl
theorem M_179_0 (I : aI) (w : aW) (k : aQ) {s : Nat} (hs : s < 4) : rn 179 (a_en 179 [.inr (.inr (some (31, 0))), .inl (nI s), .inl 0] (MM I w k)) = some (.inl (some (.inl (I 24 0 (24 + 11 * s + 0)))), MM I w k) := M_179 I w k (j := 0) hs (by decide)
theorem M_179_1 (I : aI) (w : aW) (k : aQ) {s : Nat} (hs : s < 4) : rn 179 (a_en 179 [.inr (.inr (some (31, 0))), .inl (nI s), .inl 1] (MM I w k)) = some (.inl (some (.inl (I 24 0 (24 + 11 * s + 1)))), MM I w k) := M_179 I w k (j := 1) hs (by decide)
theorem M_179_2 (I : aI) (w : aW) (k : aQ) {s : Nat} (hs : s < 4) : rn 179 (a_en 179 [.inr (.inr (some (31, 0))), .inl (nI s), .inl 2] (MM I w k)) = some (.inl (some (.inl (I 24 0 (24 + 11 * s + 2)))), MM I w k) := M_179 I w k (j := 2) hs (by decide)
theorem M_179_3 (I : aI) (w : aW) (k : aQ) {s : Nat} (hs : s < 4) : rn 179 (a_en 179 [.inr (.inr (some (31, 0))), .inl (nI s), .inl 3] (MM I w k)) = some (.inl (some (.inl (I 24 0 (24 + 11 * s + 3)))), MM I w k) := M_179 I w k (j := 3) hs (by decide)
theorem M_179_4 (I : aI) (w : aW) (k : aQ) {s : Nat} (hs : s < 4) : rn 179 (a_en 179 [.inr (.inr (some (31, 0))), .inl (nI s), .inl 4] (MM I w k)) = some (.inl (some (.inl (I 24 0 (24 + 11 * s + 4)))), MM I w k) := M_179 I w k (j := 4) hs (by decide)
theorem M_179_5 (I : aI) (w : aW) (k : aQ) {s : Nat} (hs : s < 4) : rn 179 (a_en 179 [.inr (.inr (some (31, 0))), .inl (nI s), .inl 5] (MM I w k)) = some (.inl (some (.inl (I 24 0 (24 + 11 * s + 5)))), MM I w k) := M_179 I w k (j := 5) hs (by decide)
theorem M_181_0 (I : aI) (w : aW) (k : aQ) {s : Nat} (hs : s < 40) : rn 181 (a_en 181 [.inr (.inr (some (31, 0))), .inl (nI s), .inl 0] (MM I w k)) = some (.inl (some (.inl (I 24 0 (68 + 8 * s + 0)))), MM I w k) := M_181 I w k (j := 0) hs (by decide)
theorem M_181_1 (I : aI) (w : aW) (k : aQ) {s : Nat} (hs : s < 40) : rn 181 (a_en 181 [.inr (.inr (some (31, 0))), .inl (nI s), .inl 1] (MM I w k)) = some (.inl (some (.inl (I 24 0 (68 + 8 * s + 1)))), MM I w k) := M_181 I w k (j := 1) hs (by decide)
theorem M_181_2 (I : aI) (w : aW) (k : aQ) {s : Nat} (hs : s < 40) : rn 181 (a_en 181 [.inr (.inr (some (31, 0))), .inl (nI s), .inl 2] (MM I w k)) = some (.inl (some (.inl (I 24 0 (68 + 8 * s + 2)))), MM I w k) := M_181 I w k (j := 2) hs (by decide)
theorem M_181_3 (I : aI) (w : aW) (k : aQ) {s : Nat} (hs : s < 40) : rn 181 (a_en 181 [.inr (.inr (some (31, 0))), .inl (nI s), .inl 3] (MM I w k)) = some (.inl (some (.inl (I 24 0 (68 + 8 * s + 3)))), MM I w k) := M_181 I w k (j := 3) hs (by decide)
theorem M_181_4 (I : aI) (w : aW) (k : aQ) {s : Nat} (hs : s < 40) : rn 181 (a_en 181 [.inr (.inr (some (31, 0))), .inl (nI s), .inl 4] (MM I w k)) = some (.inl (some (.inl (I 24 0 (68 + 8 * s + 4)))), MM I w k) := M_181 I w k (j := 4) hs (by decide)
theorem M_181_5 (I : aI) (w : aW) (k : aQ) {s : Nat} (hs : s < 40) : rn 181 (a_en 181 [.inr (.inr (some (31, 0))), .inl (nI s), .inl 5] (MM I w k)) = some (.inl (some (.inl (I 24 0 (68 + 8 * s + 5)))), MM I w k) := M_181 I w k (j := 5) hs (by decide)
theorem M_181_6 (I : aI) (w : aW) (k : aQ) {s : Nat} (hs : s < 40) : rn 181 (a_en 181 [.inr (.inr (some (31, 0))), .inl (nI s), .inl 6] (MM I w k)) = some (.inl (some (.inl (I 24 0 (68 + 8 * s + 6)))), MM I w k) := M_181 I w k (j := 6) hs (by decide)
theorem M_181_7 (I : aI) (w : aW) (k : aQ) {s : Nat} (hs : s < 40) : rn 181 (a_en 181 [.inr (.inr (some (31, 0))), .inl (nI s), .inl 7] (MM I w k)) = some (.inl (some (.inl (I 24 0 (68 + 8 * s + 7)))), MM I w k) := M_181 I w k (j := 7) hs (by decide)
theorem M_180_0 (I : aI) (w : aW) (k : aQ) {s : Nat} (hs : s < 4) : rn 180 (a_en 180 [.inr (.inr (some (31, 0))), .inl (nI s), .inl 0] (MM I w k)) = some (.inl none, MM (pR I (upd (I 24 0) (24 + 11 * s + 6 + 0) (I 24 0 (24 + 11 * s + 6 + 0) + 1))) w k) := M_180 I w k (j := 0) hs (by decide)
theorem M_180_1 (I : aI) (w : aW) (k : aQ) {s : Nat} (hs : s < 4) : rn 180 (a_en 180 [.inr (.inr (some (31, 0))), .inl (nI s), .inl 1] (MM I w k)) = some (.inl none, MM (pR I (upd (I 24 0) (24 + 11 * s + 6 + 1) (I 24 0 (24 + 11 * s + 6 + 1) + 1))) w k) := M_180 I w k (j := 1) hs (by decide)
theorem M_180_2 (I : aI) (w : aW) (k : aQ) {s : Nat} (hs : s < 4) : rn 180 (a_en 180 [.inr (.inr (some (31, 0))), .inl (nI s), .inl 2] (MM I w k)) = some (.inl none, MM (pR I (upd (I 24 0) (24 + 11 * s + 6 + 2) (I 24 0 (24 + 11 * s + 6 + 2) + 1))) w k) := M_180 I w k (j := 2) hs (by decide)
theorem M_180_3 (I : aI) (w : aW) (k : aQ) {s : Nat} (hs : s < 4) : rn 180 (a_en 180 [.inr (.inr (some (31, 0))), .inl (nI s), .inl 3] (MM I w k)) = some (.inl none, MM (pR I (upd (I 24 0) (24 + 11 * s + 6 + 3) (I 24 0 (24 + 11 * s + 6 + 3) + 1))) w k) := M_180 I w k (j := 3) hs (by decide)
theorem M_180_4 (I : aI) (w : aW) (k : aQ) {s : Nat} (hs : s < 4) : rn 180 (a_en 180 [.inr (.inr (some (31, 0))), .inl (nI s), .inl 4] (MM I w k)) = some (.inl none, MM (pR I (upd (I 24 0) (24 + 11 * s + 6 + 4) (I 24 0 (24 + 11 * s + 6 + 4) + 1))) w k) := M_180 I w k (j := 4) hs (by decide)
theorem M_182_0 (I : aI) (w : aW) (k : aQ) {s : Nat} (hs : s < 40) (v : Int32) : rn 182 (a_en 182 [.inr (.inr (some (31, 0))), .inl (nI s), .inl 0, .inl v] (MM I w k)) = some (.inl none, MM (pR I (upd (I 24 0) (68 + 8 * s + 0) v)) w k) := M_182 I w k (j := 0) hs (by decide) v
theorem M_182_1 (I : aI) (w : aW) (k : aQ) {s : Nat} (hs : s < 40) (v : Int32) : rn 182 (a_en 182 [.inr (.inr (some (31, 0))), .inl (nI s), .inl 1, .inl v] (MM I w k)) = some (.inl none, MM (pR I (upd (I 24 0) (68 + 8 * s + 1) v)) w k) := M_182 I w k (j := 1) hs (by decide) v
theorem M_182_2 (I : aI) (w : aW) (k : aQ) {s : Nat} (hs : s < 40) (v : Int32) : rn 182 (a_en 182 [.inr (.inr (some (31, 0))), .inl (nI s), .inl 2, .inl v] (MM I w k)) = some (.inl none, MM (pR I (upd (I 24 0) (68 + 8 * s + 2) v)) w k) := M_182 I w k (j := 2) hs (by decide) v
theorem M_182_3 (I : aI) (w : aW) (k : aQ) {s : Nat} (hs : s < 40) (v : Int32) : rn 182 (a_en 182 [.inr (.inr (some (31, 0))), .inl (nI s), .inl 3, .inl v] (MM I w k)) = some (.inl none, MM (pR I (upd (I 24 0) (68 + 8 * s + 3) v)) w k) := M_182 I w k (j := 3) hs (by decide) v
theorem M_182_4 (I : aI) (w : aW) (k : aQ) {s : Nat} (hs : s < 40) (v : Int32) : rn 182 (a_en 182 [.inr (.inr (some (31, 0))), .inl (nI s), .inl 4, .inl v] (MM I w k)) = some (.inl none, MM (pR I (upd (I 24 0) (68 + 8 * s + 4) v)) w k) := M_182 I w k (j := 4) hs (by decide) v
theorem M_182_5 (I : aI) (w : aW) (k : aQ) {s : Nat} (hs : s < 40) (v : Int32) : rn 182 (a_en 182 [.inr (.inr (some (31, 0))), .inl (nI s), .inl 5, .inl v] (MM I w k)) = some (.inl none, MM (pR I (upd (I 24 0) (68 + 8 * s + 5) v)) w k) := M_182 I w k (j := 5) hs (by decide) v
theorem M_182_6 (I : aI) (w : aW) (k : aQ) {s : Nat} (hs : s < 40) (v : Int32) : rn 182 (a_en 182 [.inr (.inr (some (31, 0))), .inl (nI s), .inl 6, .inl v] (MM I w k)) = some (.inl none, MM (pR I (upd (I 24 0) (68 + 8 * s + 6) v)) w k) := M_182 I w k (j := 6) hs (by decide) v
theorem M_182_7 (I : aI) (w : aW) (k : aQ) {s : Nat} (hs : s < 40) (v : Int32) : rn 182 (a_en 182 [.inr (.inr (some (31, 0))), .inl (nI s), .inl 7, .inl v] (MM I w k)) = some (.inl none, MM (pR I (upd (I 24 0) (68 + 8 * s + 7) v)) w k) := M_182 I w k (j := 7) hs (by decide) v
theorem M_184_0 (I : aI) (w : aW) (k : aQ) {c : Nat} (h : c < 2 ^ 31) : rn 184 (a_en 184 [.inr (.inr (some (31, 0))), .inl (nI c), .inl 0] (MM I w k)) = some (.inl (some (.inl (I 24 0 (1348 + 84 * (c % 60) + 0)))), MM I w k) := M_184 I w k (j := 0) h (by decide)
theorem M_184_1 (I : aI) (w : aW) (k : aQ) {c : Nat} (h : c < 2 ^ 31) : rn 184 (a_en 184 [.inr (.inr (some (31, 0))), .inl (nI c), .inl 1] (MM I w k)) = some (.inl (some (.inl (I 24 0 (1348 + 84 * (c % 60) + 1)))), MM I w k) := M_184 I w k (j := 1) h (by decide)
theorem M_184_2 (I : aI) (w : aW) (k : aQ) {c : Nat} (h : c < 2 ^ 31) : rn 184 (a_en 184 [.inr (.inr (some (31, 0))), .inl (nI c), .inl 2] (MM I w k)) = some (.inl (some (.inl (I 24 0 (1348 + 84 * (c % 60) + 2)))), MM I w k) := M_184 I w k (j := 2) h (by decide)
theorem M_184_3 (I : aI) (w : aW) (k : aQ) {c : Nat} (h : c < 2 ^ 31) : rn 184 (a_en 184 [.inr (.inr (some (31, 0))), .inl (nI c), .inl 3] (MM I w k)) = some (.inl (some (.inl (I 24 0 (1348 + 84 * (c % 60) + 3)))), MM I w k) := M_184 I w k (j := 3) h (by decide)
theorem M_173 (I : aI) (w : aW) (k : aQ) (x a b : Int32) : rn 173 (a_en 173 [.inl x, .inl a, .inl b] (MM I w k)) = some (.inl (some (.inl (tf (a ≤ x ∧ x ≤ b)))), MM I w k) := by
  refine (e173_0 I w k x a b).trans ?_
  simp only [z_c, tf, z_ri]
  by_cases h1 : x < a
  · rw [if_pos h1, if_neg (fun h => (fa_of_lt h1).2.1 h.1)]
  · rw [if_neg h1]
    by_cases h2 : b < x
    · rw [if_pos h2, if_neg (fun h => (fa_of_lt h2).2.1 h.2)]
    · rw [if_neg h2, if_pos ⟨fa_of_nlt h1, fa_of_nlt h2⟩]
theorem M_174 (I : aI) (w : aW) (k : aQ) (x a : Int32) : rn 174 (a_en 174 [.inl x, .inl a] (MM I w k)) = some (.inl (some (.inl (tf ((x >>> (a &&& 31)) &&& 1 = 1)))), MM I w k) := by
  refine (e174_0 I w k x a).trans ?_
  simp only [z_b, z_v, z_n, z_c, Nat.reduceAdd, cond_true, cond_false, tf0, tf1, tfb, ite_not, Classical.not_not, z10, z_ff, z00, z_tt, tf, z_ri]
theorem M_177 (I : aI) (w : aW) (k : aQ) (x : Int32) : rn 177 (a_en 177 [.inr (.inr (some (31, 0))), .inl x] (MM I w k)) = some (.inl (some (.inl (tf (0 ≤ x ∧ x ≤ I 24 0 3 - 1)))), MM I w k) := by
  refine (e177_0 I w k x).trans ?_
  simp only [M_173, z_b, z_v, z_n, z_c, Nat.reduceAdd, cond_true, cond_false, tf0, tf1, tfb, ite_not, Classical.not_not, z10, z_ff, z00, z_tt, e177_13]
theorem M_178 (I : aI) (w : aW) (k : aQ) (x : Int32) : rn 178 (a_en 178 [.inr (.inr (some (31, 0))), .inl x] (MM I w k)) = some (.inl (some (.inl (tf (0 ≤ x ∧ x ≤ I 24 0 4 - 1)))), MM I w k) := by
  refine (e178_0 I w k x).trans ?_
  simp only [M_173, z_b, z_v, z_n, z_c, Nat.reduceAdd, cond_true, cond_false, tf0, tf1, tfb, ite_not, Classical.not_not, z10, z_ff, z00, z_tt, e178_13]
theorem M_185 (I : aI) (w : aW) (k : aQ) (a b c : Int32) : rn 185 (a_en 185 [.inl a, .inl b, .inl c] (MM I w k)) = some (.inl (some (.inl (tf ((60 ≤ a ∧ a ≤ 200) ∧ (0 ≤ b ∧ b ≤ 359) ∧ (0 ≤ c ∧ c ≤ 359))))), MM I w k) := by
  refine (e185_0 I w k a b c).trans ?_
  simp only [M_173, z_b, z_v, z_n, z_c, Nat.reduceAdd, cond_true, cond_false, tf0, tf1, tfb, ite_not, Classical.not_not, z10, z_ff, z00, z_tt, e185_0, e185_9, e185_20, e185_31]
  by_cases h1 : 60 ≤ a ∧ a ≤ 200
  · by_cases h2 : 0 ≤ b ∧ b ≤ 359
    · by_cases h3 : 0 ≤ c ∧ c ≤ 359
      · rw [if_pos h1, if_pos h2, if_pos h3, tft ⟨h1, h2, h3⟩]
      · rw [if_pos h1, if_pos h2, if_neg h3, tff (fun z => h3 z.2.2)]
    · rw [if_pos h1, if_neg h2, tff (fun z => h2 z.2.1)]
  · rw [if_neg h1, tff (fun z => h1 z.1)]
theorem M_186 (I : aI) (w : aW) (k : aQ) (a b c : Int32) : rn 186 (a_en 186 [.inr (.inr (some (31, 0))), .inl a, .inl b, .inl c] (MM I w k)) = some (.inl none, MM (pR I (upd (upd (upd (I 24 0) 0 a) 1 b) 2 c)) w k) := by
  refine (e186_0 I w k a b c).trans ?_
  simp only [pR_set, pR_row, pR_pR]
theorem M_187 (I : aI) (w : aW) (k : aQ) (a b c : Int32) : rn 187 (a_en 187 [.inr (.inr (some (31, 0))), .inl a, .inl b, .inl c] (MM I w k)) = if (60 ≤ a ∧ a ≤ 200) ∧ (0 ≤ b ∧ b ≤ 359) ∧ (0 ≤ c ∧ c ≤ 359) then some (.inl (some (.inl (I 24 0 0))), MM (pR (a_setI I 31 0 0 0) (upd (upd (upd (I 24 0) 0 a) 1 b) 2 c)) w k) else some (.inl (some (.inl 0)), MM (a_setI I 31 0 0 1) w k) := by
  refine (e187_0 I w k a b c).trans ?_
  simp only [M_185, M_186, z_b, z_v, z_n, z_c, Nat.reduceAdd, cond_true, cond_false, tf0, tf1, tfb, ite_not, Classical.not_not, z10, z_ff, z00, z_tt, e187_0, e187_7, e187_42, m31_24]
def m_as (r : aR) (n : Nat) (a b c d e f : Int32) : aR := upd (upd (upd (upd (upd (upd (upd r (24 + 11 * n + 0) a) (24 + 11 * n + 1) b) (24 + 11 * n + 2) c) (24 + 11 * n + 3) d) (24 + 11 * n + 4) e) (24 + 11 * n + 5) f) 3 (nI (n + 1))
theorem M_188 (I : aI) (w : aW) (k : aQ) (a b c d e f : Int32) (h : I 24 0 3 = nI (nS (I 24 0))) (hn : nS (I 24 0) < 4) : rn 188 (a_en 188 [.inr (.inr (some (31, 0))), .inl a, .inl b, .inl c, .inl d, .inl e, .inl f] (MM I w k)) = some (.inl (some (.inl (nI (nS (I 24 0))))), MM (pR I (m_as (I 24 0) (nS (I 24 0)) a b c d e f)) w k) := by
  refine (e188_0 I w k a b c d e f).trans ?_
  have z0 := z_st (nS (I 24 0)) 0
  have z1 := z_st (nS (I 24 0)) 1
  have z2 := z_st (nS (I 24 0)) 2
  have z3 := z_st (nS (I 24 0)) 3
  have z4 := z_st (nS (I 24 0)) 4
  have z5 := z_st (nS (I 24 0)) 5
  rw [show nI 0 = 0 from rfl] at z0
  rw [show nI 1 = 1 from rfl] at z1
  rw [show nI 2 = 2 from rfl] at z2
  rw [show nI 3 = 3 from rfl] at z3
  rw [show nI 4 = 4 from rfl] at z4
  rw [show nI 5 = 5 from rfl] at z5
  rw [h, z0, z1, z2, z3, z4, z5]
  rw [z_in (by omega) (by decide), z_in (by omega) (by decide), z_in (by omega) (by decide), z_in (by omega) (by decide), z_in (by omega) (by decide), z_in (by omega) (by decide)]
  rw [nI_clamp (by omega), nI_clamp (by omega), nI_clamp (by omega), nI_clamp (by omega), nI_clamp (by omega), nI_clamp (by omega)]
  simp only [cond_true, pR_set, pR_row, pR_pR, e188_87, upd_s]
  rw [upd_n _ _ _ (by omega), upd_n _ _ _ (by omega), upd_n _ _ _ (by omega), upd_n _ _ _ (by omega), upd_n _ _ _ (by omega), upd_n _ _ _ (by omega), h, nI_1, nI_pred]
  rfl
def gSt (a b c d e f : Int32) : Prop := (0 ≤ a ∧ a ≤ 359) ∧ (0 ≤ b ∧ b ≤ 90) ∧ (1 ≤ c ∧ c ≤ 30) ∧ (0 ≤ d ∧ d ≤ 59) ∧ (1 ≤ e ∧ e ≤ 20) ∧ (0 ≤ f ∧ f ≤ 99)
theorem M_189 (I : aI) (w : aW) (k : aQ) (a b c d e f : Int32) (h : I 24 0 3 = nI (nS (I 24 0))) (hn : nS (I 24 0) < 4) (hg : gSt a b c d e f) : rn 189 (a_en 189 [.inr (.inr (some (31, 0))), .inl a, .inl b, .inl c, .inl d, .inl e, .inl f] (MM I w k)) = some (.inl (some (.inl (nI (nS (I 24 0))))), MM (pR (a_setI I 31 0 0 0) (m_as (I 24 0) (nS (I 24 0)) a b c d e f)) w k) := by
  obtain ⟨h1, h2, h3, h4, h5, h6⟩ := hg
  have h9 : ¬ I 24 0 3 = 4 := by
    rw [h]; exact fun z => absurd ((nI_eq (by omega) (by decide)).mp (show nI (nS (I 24 0)) = nI 4 from z)) (by omega)
  have e8 : rn 188 (a_en 188 [.inr (.inr (some (31, 0))), .inl a, .inl b, .inl c, .inl d, .inl e, .inl f] (MM (a_setI I 31 0 0 0) w k)) = some (.inl (some (.inl (nI (nS (I 24 0))))), MM (pR (a_setI I 31 0 0 0) (m_as (I 24 0) (nS (I 24 0)) a b c d e f)) w k) := M_188 (a_setI I 31 0 0 0) w k a b c d e f h hn
  refine (e189_0 I w k a b c d e f).trans ?_
  simp only [M_173, e8, z_b, z_v, z_n, z_c, Nat.reduceAdd, cond_true, cond_false, tf0, tf1, tfb, ite_not, Classical.not_not, z10, z_ff, z00, z_tt, e189_0, e189_8, e189_18, e189_28, e189_39, e189_50, e189_61, e189_123, if_pos h1, if_pos h2, if_pos h3, if_pos h4, if_pos h5, if_pos h6, if_neg h9]
theorem M_189f (I : aI) (w : aW) (k : aQ) (a b c d e f : Int32) (hg : ¬ gSt a b c d e f) : rn 189 (a_en 189 [.inr (.inr (some (31, 0))), .inl a, .inl b, .inl c, .inl d, .inl e, .inl f] (MM I w k)) = some (.inl (some (.inl 0)), MM (a_setI I 31 0 0 1) w k) := by
  refine (e189_0 I w k a b c d e f).trans ?_
  simp only [M_173, z_b, z_v, z_n, z_c, Nat.reduceAdd, cond_true, cond_false, tf0, tf1, tfb, ite_not, Classical.not_not, z10, z_ff, z00, z_tt, e189_0, e189_8, e189_18, e189_28, e189_39, e189_50, e189_61, e189_123]
  by_cases h1 : 0 ≤ a ∧ a ≤ 359
  · by_cases h2 : 0 ≤ b ∧ b ≤ 90
    · by_cases h3 : 1 ≤ c ∧ c ≤ 30
      · by_cases h4 : 0 ≤ d ∧ d ≤ 59
        · by_cases h5 : 1 ≤ e ∧ e ≤ 20
          · by_cases h6 : 0 ≤ f ∧ f ≤ 99
            · exact absurd ⟨h1, h2, h3, h4, h5, h6⟩ hg
            · simp only [if_pos h1, if_pos h2, if_pos h3, if_pos h4, if_pos h5, if_neg h6]
          · simp only [if_pos h1, if_pos h2, if_pos h3, if_pos h4, if_neg h5]
        · simp only [if_pos h1, if_pos h2, if_pos h3, if_neg h4]
      · simp only [if_pos h1, if_pos h2, if_neg h3]
    · simp only [if_pos h1, if_neg h2]
  · simp only [if_neg h1]
theorem M_189e (I : aI) (w : aW) (k : aQ) (a b c d e f : Int32) (h : I 24 0 3 = 4) (hg : gSt a b c d e f) : rn 189 (a_en 189 [.inr (.inr (some (31, 0))), .inl a, .inl b, .inl c, .inl d, .inl e, .inl f] (MM I w k)) = some (.inl (some (.inl 0)), MM (a_setI I 31 0 0 2) w k) := by
  obtain ⟨h1, h2, h3, h4, h5, h6⟩ := hg
  refine (e189_0 I w k a b c d e f).trans ?_
  simp only [M_173, z_b, z_v, z_n, z_c, Nat.reduceAdd, cond_true, cond_false, tf0, tf1, tfb, ite_not, Classical.not_not, z10, z_ff, z00, z_tt, e189_0, e189_8, e189_18, e189_28, e189_39, e189_50, e189_61, e189_123, if_pos h1, if_pos h2, if_pos h3, if_pos h4, if_pos h5, if_pos h6, if_pos h]
theorem M_190 (I : aI) (w : aW) (k : aQ) : rn 190 (a_en 190 [.inr (.inr (some (31, 0)))] (MM I w k)) = some (.inl (some (.inl (I 24 0 3))), MM (a_setI I 31 0 0 0) w k) := e190_0 I w k
theorem M_191 (I : aI) (w : aW) (k : aQ) {s : Nat} (b : Int32) (hR : Rs (I 24 0)) (hs : s < nS (I 24 0)) : rn 191 (a_en 191 [.inr (.inr (some (31, 0))), .inl (nI s), .inl b] (MM I w k)) = if 0 ≤ b ∧ b ≤ 99 then some (.inl (some (.inl (I 24 0 (24 + 11 * s + 5)))), MM (pR (a_setI I 31 0 0 0) (upd (I 24 0) (24 + 11 * s + 5) b)) w k) else some (.inl (some (.inl 0)), MM (a_setI I 31 0 0 2) w k) := by
  have h4 := hR.s4 hs
  have hp : 0 ≤ nI s ∧ nI s ≤ I 24 0 3 - 1 := by rw [hR.1.1]; exact z_is hs (by have := hR.1.2; omega)
  have z5 := z_st s 5
  rw [show nI 5 = 5 from rfl] at z5
  refine (e191_0 I w k (nI s) b).trans ?_
  simp only [M_177, M_173, M_179_5 _ _ _ h4, z_b, z_v, z_n, z_c, Nat.reduceAdd, cond_true, cond_false, tf0, tf1, tfb, ite_not, Classical.not_not, z10, z_ff, z00, z_tt, e191_0, e191_6, e191_20, e191_46, if_pos hp, m31_24, z5, z_in (show 24 + 11 * s + 5 < 6388 by omega) (by decide), nI_clamp (show 24 + 11 * s + 5 < 2 ^ 31 by omega), pR_set, pR_row]
theorem M_191f (I : aI) (w : aW) (k : aQ) (a b : Int32) (h : ¬ (0 ≤ a ∧ a ≤ I 24 0 3 - 1)) : rn 191 (a_en 191 [.inr (.inr (some (31, 0))), .inl a, .inl b] (MM I w k)) = some (.inl (some (.inl 0)), MM (a_setI I 31 0 0 1) w k) := by
  refine (e191_0 I w k a b).trans ?_
  simp only [M_177, z_b, z_v, z_n, z_c, Nat.reduceAdd, cond_true, cond_false, tf0, tf1, tfb, ite_not, Classical.not_not, z10, z_ff, z00, z_tt, e191_0, e191_6, e191_20, e191_46, if_neg h]
theorem M_192 (I : aI) (w : aW) (k : aQ) {x : Nat} (hx : x < 6388) (v a b : Int32) : rn 192 (a_en 192 [.inr (.inr (some (31, 0))), .inl (nI x), .inl v, .inl a, .inl b] (MM I w k)) = if a ≤ v ∧ v ≤ b then some (.inl (some (.inl (I 24 0 x))), MM (pR (a_setI I 31 0 0 0) (upd (I 24 0) x v)) w k) else some (.inl (some (.inl 0)), MM (a_setI I 31 0 0 1) w k) := by
  refine (e192_0 I w k (nI x) v a b).trans ?_
  simp only [M_173, z_b, z_v, z_n, z_c, Nat.reduceAdd, cond_true, cond_false, tf0, tf1, tfb, ite_not, Classical.not_not, z10, z_ff, z00, z_tt, e192_0, e192_8, m31_24, z_in hx (by decide), nI_clamp (show x < 2 ^ 31 by omega), pR_set]
theorem M_193 (I : aI) (w : aW) (k : aQ) (v : Int32) : rn 193 (a_en 193 [.inr (.inr (some (31, 0))), .inl v] (MM I w k)) = if 0 ≤ v ∧ v ≤ 999 then some (.inl (some (.inl (I 24 0 10))), MM (pR (a_setI I 31 0 0 0) (upd (I 24 0) 10 v)) w k) else some (.inl (some (.inl 0)), MM (a_setI I 31 0 0 1) w k) := by
  have e : rn 192 (a_en 192 [.inr (.inr (some (31, 0))), .inl 10, .inl v, .inl 0, .inl 999] (MM I w k)) = _ := M_192 I w k (x := 10) (by decide) v 0 999
  refine (e193_0 I w k v).trans ?_
  rw [e]
  by_cases h : 0 ≤ v ∧ v ≤ 999
  · simp only [if_pos h, z_b, z_v, z_n, z_c, Nat.reduceAdd, cond_true, cond_false, tf0, tf1, tfb, ite_not, Classical.not_not, z10, z_ff, z00, z_tt, e193_0, e193_11]
  · simp only [if_neg h, z_b, z_v, z_n, z_c, Nat.reduceAdd, cond_true, cond_false, tf0, tf1, tfb, ite_not, Classical.not_not, z10, z_ff, z00, z_tt, e193_0, e193_11]
theorem M_194 (I : aI) (w : aW) (k : aQ) (v : Int32) : rn 194 (a_en 194 [.inr (.inr (some (31, 0))), .inl v] (MM I w k)) = if 1 ≤ v ∧ v ≤ 9999 then some (.inl (some (.inl (I 24 0 11))), MM (pR (a_setI I 31 0 0 0) (upd (I 24 0) 11 v)) w k) else some (.inl (some (.inl 0)), MM (a_setI I 31 0 0 1) w k) := by
  have e : rn 192 (a_en 192 [.inr (.inr (some (31, 0))), .inl 11, .inl v, .inl 1, .inl 9999] (MM I w k)) = _ := M_192 I w k (x := 11) (by decide) v 1 9999
  refine (e194_0 I w k v).trans ?_
  rw [e]
  by_cases h : 1 ≤ v ∧ v ≤ 9999
  · simp only [if_pos h, z_b, z_v, z_n, z_c, Nat.reduceAdd, cond_true, cond_false, tf0, tf1, tfb, ite_not, Classical.not_not, z10, z_ff, z00, z_tt, e194_0, e194_11]
  · simp only [if_neg h, z_b, z_v, z_n, z_c, Nat.reduceAdd, cond_true, cond_false, tf0, tf1, tfb, ite_not, Classical.not_not, z10, z_ff, z00, z_tt, e194_0, e194_11]
theorem M_195 (I : aI) (w : aW) (k : aQ) (v : Int32) : rn 195 (a_en 195 [.inr (.inr (some (31, 0))), .inl v] (MM I w k)) = if 0 ≤ v ∧ v ≤ 1 then some (.inl (some (.inl (I 24 0 9))), MM (pR (a_setI I 31 0 0 0) (upd (I 24 0) 9 v)) w k) else some (.inl (some (.inl 0)), MM (a_setI I 31 0 0 1) w k) := by
  have e : rn 192 (a_en 192 [.inr (.inr (some (31, 0))), .inl 9, .inl v, .inl 0, .inl 1] (MM I w k)) = _ := M_192 I w k (x := 9) (by decide) v 0 1
  refine (e195_0 I w k v).trans ?_
  rw [e]
  by_cases h : 0 ≤ v ∧ v ≤ 1
  · simp only [if_pos h, z_b, z_v, z_n, z_c, Nat.reduceAdd, cond_true, cond_false, tf0, tf1, tfb, ite_not, Classical.not_not, z10, z_ff, z00, z_tt, e195_0, e195_9]
  · simp only [if_neg h, z_b, z_v, z_n, z_c, Nat.reduceAdd, cond_true, cond_false, tf0, tf1, tfb, ite_not, Classical.not_not, z10, z_ff, z00, z_tt, e195_0, e195_9]
theorem M_196 (I : aI) (w : aW) (k : aQ) (a b : Int32) : rn 196 (a_en 196 [.inr (.inr (some (31, 0))), .inl a, .inl b] (MM I w k)) = if (0 ≤ a ∧ a ≤ 999) then (if 0 ≤ b ∧ b ≤ 9 then some (.inl (some (.inl (10 * I 24 0 6 + I 24 0 7))), MM (pR (a_setI I 31 0 0 0) (upd (upd (I 24 0) 6 a) 7 b)) w k) else some (.inl (some (.inl 0)), MM (a_setI I 31 0 0 1) w k)) else some (.inl (some (.inl 0)), MM (a_setI I 31 0 0 1) w k) := by
  refine (e196_0 I w k a b).trans ?_
  simp only [M_173, z_b, z_v, z_n, z_c, Nat.reduceAdd, cond_true, cond_false, tf0, tf1, tfb, ite_not, Classical.not_not, z10, z_ff, z00, z_tt, e196_0, e196_9, e196_19, m31_24, pR_set, pR_row, pR_pR]
/-- frames on board -/
def m_iu (r : aR) : Nat → Nat → Int32 → Int32
  | 0, _, a => a
  | d + 1, j, a => if r (68 + 8 * j + 7) = -1 then m_iu r d (j + 1) (a + r (68 + 8 * j + 0)) else m_iu r d (j + 1) (a + 0)
def m_use (r : aR) : Int32 := m_iu r (nR r) 0 0
theorem M_197L (I : aI) (w : aW) (k : aQ) (h : Rq (I 24 0)) : ∀ (d j : Nat) (a : Int32), j + d = nR (I 24 0) → rn 197 (4, [some (.inr (.inr (some (31, 0)))), some (.inl a), some (.inl (nI j))], [], MM I w k) = some (.inl (some (.inl (m_iu (I 24 0) d j a))), MM I w k) := by
  obtain ⟨h1, h2⟩ := h
  intro d
  induction d with
  | zero =>
    intro j a hj
    refine (e197_4 I w k _ _).trans ?_
    rw [h1, zc_t (nI_le (by omega) (by omega))]
    rfl
  | succ d ih =>
    intro j a hj
    have h40 : j < 40 := by omega
    refine (e197_4 I w k _ _).trans ?_
    rw [h1, zc_f (nI_ge (by omega) (by omega))]
    simp only [M_181_7 _ _ _ h40, M_181_0 _ _ _ h40, z_b, z_v, z_n, z_c, Nat.reduceAdd, cond_true, cond_false, tf0, tf1, tfb, ite_not, Classical.not_not, z10, z_ff, z00, z_tt, e197_0, e197_22, e197_32, nI_1, ih (j + 1) _ (by omega), m_iu, z_ri]
theorem M_197 (I : aI) (w : aW) (k : aQ) (h : Rq (I 24 0)) : rn 197 (a_en 197 [.inr (.inr (some (31, 0)))] (MM I w k)) = some (.inl (some (.inl (m_use (I 24 0)))), MM I w k) :=
  (e197_0 I w k).trans (M_197L I w k h _ 0 0 (by omega))
theorem M_198 (I : aI) (w : aW) (k : aQ) (a : Int32) (h : Rq (I 24 0)) : rn 198 (a_en 198 [.inr (.inr (some (31, 0))), .inl a] (MM I w k)) = if 24 ≤ a ∧ a ≤ 960 then (if m_use (I 24 0) ≤ a then some (.inl (some (.inl (I 24 0 8))), MM (pR (a_setI I 31 0 0 0) (upd (I 24 0) 8 a)) w k) else some (.inl (some (.inl 0)), MM (a_setI I 31 0 0 2) w k)) else some (.inl (some (.inl 0)), MM (a_setI I 31 0 0 1) w k) := by
  refine (e198_0 I w k a).trans ?_
  simp only [M_173, M_197 _ _ _ h, z_b, z_v, z_n, z_c, Nat.reduceAdd, cond_true, cond_false, tf0, tf1, tfb, ite_not, Classical.not_not, z10, z_ff, z00, z_tt, e198_0, e198_10, e198_21, m31_24, pR_set]
theorem M_199 (I : aI) (w : aW) (k : aQ) (a : Int32) : rn 199 (a_en 199 [.inr (.inr (some (31, 0))), .inl a] (MM I w k)) = if a < 0 then some (.inl none, MM (a_setI I 31 0 0 1) w k) else some (.inl none, MM (pR (a_setI I 31 0 0 0) (upd (I 24 0) 14 a)) w k) := by
  refine (e199_0 I w k a).trans ?_
  simp only [z_b, z_v, z_n, z_c, Nat.reduceAdd, cond_true, cond_false, tf0, tf1, tfb, ite_not, Classical.not_not, z10, z_ff, z00, z_tt, m31_24, pR_set]
/-! passes -/
def m_ab (x : Int32) : Int32 := if 0 ≤ x then x else -x
def m_dg (x : Int32) : Int32 := if m_ab x ≤ 180 then m_ab x else 360 - m_ab x
def m_off (r : aR) (s : Nat) (o : Int32) : Int32 := r (24 + 11 * s + 0) - ((r 2 + o * r 1) - (r 2 + o * r 1) / 360 * 360)
def m_lasts (r : aR) (s : Nat) (o : Int32) : Int32 := if m_dg (m_off r s o) ≤ r (24 + 11 * s + 1) then (r (24 + 11 * s + 2) * ((r (24 + 11 * s + 1) + 1) - m_dg (m_off r s o)) + r (24 + 11 * s + 1)) / (r (24 + 11 * s + 1) + 1) else 0
def m_begin (r : aR) (s : Nat) (o : Int32) : Int32 := r 0 * o + r (24 + 11 * s + 3)
def m_end (r : aR) (s : Nat) (t : Int32) : Int32 := if 0 ≤ t - r (24 + 11 * s + 3) then (if m_begin r s ((t - r (24 + 11 * s + 3)) / r 0) + m_lasts r s ((t - r (24 + 11 * s + 3)) / r 0) ≤ t then -1 else m_begin r s ((t - r (24 + 11 * s + 3)) / r 0) + m_lasts r s ((t - r (24 + 11 * s + 3)) / r 0)) else -1
theorem M_200 (I : aI) (w : aW) (k : aQ) {s : Nat} (hR : Rs (I 24 0)) (hs : s < nS (I 24 0)) (o : Int32) : rn 200 (a_en 200 [.inr (.inr (some (31, 0))), .inl (nI s), .inl o] (MM I w k)) = some (.inl (some (.inl (m_lasts (I 24 0) s o))), MM I w k) := by
  have h4 := hR.s4 hs
  have hr := hR.rch hs
  refine (e200_0 I w k _ _).trans ?_
  simp only [M_179_0 _ _ _ h4, M_179_1 _ _ _ h4, M_179_2 _ _ _ h4, z_b, z_v, z_n, z_c, Nat.reduceAdd, cond_true, cond_false, tf0, tf1, tfb, ite_not, Classical.not_not, z10, z_ff, z00, z_tt, e200_0, e200_6, e200_27, e200_66, e200_85, show I 24 0 (24 + 11 * s + 0) - (I 24 0 2 + o * I 24 0 1 - (I 24 0 2 + o * I 24 0 1) / 360 * 360) = m_off (I 24 0) s o from rfl]
  unfold m_lasts
  generalize m_off (I 24 0) s o = x
  unfold m_dg m_ab
  by_cases h1 : 0 ≤ x
  · simp only [if_pos h1]
    by_cases h2 : x ≤ 180
    · simp only [if_pos h2]
      by_cases h3 : x ≤ I 24 0 (24 + 11 * s + 1)
      · simp only [if_pos h3, if_neg hr]
      · simp only [if_neg h3]
    · simp only [if_neg h2]
      by_cases h3 : 360 - x ≤ I 24 0 (24 + 11 * s + 1)
      · simp only [if_pos h3, if_neg hr]
      · simp only [if_neg h3]
  · simp only [if_neg h1]
    by_cases h2 : -x ≤ 180
    · simp only [if_pos h2]
      by_cases h3 : -x ≤ I 24 0 (24 + 11 * s + 1)
      · simp only [if_pos h3, if_neg hr]
      · simp only [if_neg h3]
    · simp only [if_neg h2]
      by_cases h3 : 360 - -x ≤ I 24 0 (24 + 11 * s + 1)
      · simp only [if_pos h3, if_neg hr]
      · simp only [if_neg h3]
theorem M_201 (I : aI) (w : aW) (k : aQ) {s : Nat} (hs : s < 4) (o : Int32) : rn 201 (a_en 201 [.inr (.inr (some (31, 0))), .inl (nI s), .inl o] (MM I w k)) = some (.inl (some (.inl (m_begin (I 24 0) s o))), MM I w k) := by
  refine (e201_0 I w k _ _).trans ?_
  simp only [M_179_3 _ _ _ hs, z_b, z_v, z_n, z_c, Nat.reduceAdd, cond_true, cond_false, tf0, tf1, tfb, ite_not, Classical.not_not, z10, z_ff, z00, z_tt, e201_0, e201_14, m_begin]
theorem M_202 (I : aI) (w : aW) (k : aQ) {s : Nat} (hR : Rs (I 24 0)) (hs : s < nS (I 24 0)) (t : Int32) : rn 202 (a_en 202 [.inr (.inr (some (31, 0))), .inl (nI s), .inl t] (MM I w k)) = some (.inl (some (.inl (m_end (I 24 0) s t))), MM I w k) := by
  have h4 := hR.s4 hs
  refine (e202_0 I w k _ _).trans ?_
  simp only [M_179_3 _ _ _ h4, M_201 _ _ _ h4, M_200 _ _ _ hR hs, z_b, z_v, z_n, z_c, Nat.reduceAdd, cond_true, cond_false, tf0, tf1, tfb, ite_not, Classical.not_not, z10, z_ff, z00, z_tt, e202_0, e202_7, e202_32, e202_39, m_end, if_neg hR.per, z_ri]
