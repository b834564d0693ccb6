/-! ===== backlog and the sums of a contact, reference and class ===== -/
def m_bk (r : aR) (x : Int32) : Nat → Nat → Int32 → Int32
  | 0, _, a => a
  | d + 1, j, a => if r (68 + 8 * j + 1) < x then m_bk r x d (j + 1) a else m_bk r x d (j + 1) (a + nI (m_on (r (68 + 8 * j + 3))))
theorem M_234L (I : aI) (w : aW) (k : aQ) (hQ : Rq (I 24 0)) (x : Int32) (h0 : I 31 0 0 = 0) : ∀ (d j : Nat) (a : Int32), j + d = nR (I 24 0) → rn 234 (23, [some (.inr (.inr (some (31, 0)))), some (.inl x), some (.inl a), some (.inl (nI j))], [], MM I w k) = some (.inl (some (.inl (m_bk (I 24 0) x d j a))), MM I w k) := by
  obtain ⟨h1, h2⟩ := hQ
  intro d
  induction d with
  | zero =>
    intro j a hj
    refine (e234_23 I w k _ _ _).trans ?_
    rw [h1, zc_t (nI_le (by omega) (by omega))]
    rfl
  | succ d ih =>
    intro j a hj
    have h40 : j < 40 := by omega
    refine (e234_23 I w k _ _ _).trans ?_
    rw [h1, zc_f (nI_ge (by omega) (by omega)), zc_f (fun z => z h0)]
    refine (bk_v (M_181_1 I w k h40)).trans ?_
    refine (e234_47 I w k _ _ _ _ _).trans ?_
    rw [nI_1]
    unfold m_bk
    by_cases h : I 24 0 (68 + 8 * j + 1) < x
    · rw [zc_t h, if_pos h, Int32.add_zero]
      exact ih (j + 1) _ (by omega)
    · rw [zc_f h, if_neg h]
      refine (bk_v (M_181_3 I w k h40)).trans ?_
      refine (e234_57 I w k _ _ _ _ _).trans ?_
      refine (bk_v (M_175 I w k _)).trans ?_
      refine (e234_60 I w k _ _ _ _ _).trans ?_
      rw [nI_1]
      exact ih (j + 1) _ (by omega)
theorem M_234z (I : aI) (w : aW) (k : aQ) (x : Int32) (h : ¬ I 31 0 0 = 0) : rn 234 (23, [some (.inr (.inr (some (31, 0)))), some (.inl x), some (.inl 0), some (.inl 0)], [], MM I w k) = some (.inl (some (.inl 0)), MM I w k) := by
  refine (e234_23 I w k _ _ _).trans ?_
  rw [zc_t h]
  simp only [z_c]
  split <;> rfl
theorem M_234 (I : aI) (w : aW) (k : aQ) (hQ : Rq (I 24 0)) (x : Int32) : rn 234 (a_en 234 [.inr (.inr (some (31, 0))), .inl x] (MM I w k)) = if 0 ≤ x ∧ x ≤ 9 then some (.inl (some (.inl (m_bk (I 24 0) x (nR (I 24 0)) 0 0))), MM (a_setI I 31 0 0 0) w k) else some (.inl (some (.inl 0)), MM (a_setI I 31 0 0 1) w k) := by
  have e1 : rn 234 (23, [some (.inr (.inr (some (31, 0)))), some (.inl x), some (.inl 0), some (.inl 0)], [], MM (a_setI I 31 0 0 0) w k) = some (.inl (some (.inl (m_bk (I 24 0) x (nR (I 24 0)) 0 0))), MM (a_setI I 31 0 0 0) w k) := M_234L (a_setI I 31 0 0 0) w k hQ x rfl _ 0 0 (Nat.zero_add _)
  have e2 : rn 234 (23, [some (.inr (.inr (some (31, 0)))), some (.inl x), some (.inl 0), some (.inl 0)], [], MM (a_setI I 31 0 0 1) w k) = some (.inl (some (.inl 0)), MM (a_setI I 31 0 0 1) w k) := M_234z (a_setI I 31 0 0 1) w k x (by show ¬ ((1 : Int32) = 0); decide)
  refine (e234_0 I w k _).trans ?_
  refine (bk_v (M_173 I w k _ _ _)).trans ?_
  refine (e234_8 I w k _ _ _ _).trans ?_
  by_cases h : 0 ≤ x ∧ x ≤ 9
  · rw [if_pos h]
    exact (zc_f (by rw [tf, if_pos h]; decide)).trans e1
  · rw [if_neg h]
    exact (zc_t (by rw [tf, if_neg h])).trans e2
/-- the sum of set bits over places from x on -/
def m_tot (r : aR) (x : Nat) : Nat → Nat → Int32 → Int32
  | 0, _, a => a
  | d + 1, j, a => m_tot r x d (j + 1) (a + nI (m_on (r (x + j))))
theorem m_tot_z {r : aR} {x : Nat} : ∀ (d j : Nat) (a : Int32), (∀ q, j ≤ q → q < j + d → r (x + q) = 0) → m_tot r x d j a = a
  | 0, _, _, _ => rfl
  | d + 1, j, a, h => by
    show m_tot r x d (j + 1) (a + nI (m_on (r (x + j)))) = a
    rw [h j (by omega) (by omega), show m_on 0 = 0 by rw [m_on_e, show uN 0 = 0 by decide +kernel, pc_0], m_tot_z d (j + 1) _ (fun q a b => h q (by omega) (by omega))]
    exact Int32.add_zero a
theorem m_tot_a {r : aR} {x : Nat} : ∀ (d e j : Nat) (a : Int32), m_tot r x (d + e) j a = m_tot r x e (j + d) (m_tot r x d j a)
  | 0, e, j, a => by rw [Nat.zero_add]; rfl
  | d + 1, e, j, a => by
    rw [show d + 1 + e = d + e + 1 by omega]
    show m_tot r x (d + e) (j + 1) _ = m_tot r x e (j + (d + 1)) (m_tot r x d (j + 1) _)
    rw [m_tot_a d e (j + 1), show j + 1 + d = j + (d + 1) by omega]
def m_wh (b : Int32) : Nat := if b = 0 then 4 else 44
theorem M_257L (I : aI) (w : aW) (k : aQ) (hQ : Rq (I 24 0)) {c : Nat} (hc : c < 2 ^ 31) (b : Int32) (h0 : I 31 0 0 = 0) : ∀ (d j : Nat) (a : Int32), j + d = nR (I 24 0) → rn 257 (22, [some (.inr (.inr (some (31, 0)))), some (.inl (nI c)), some (.inl b), some (.inl a), some (.inl (nI j))], [], MM I w k) = some (.inl (some (.inl (m_tot (I 24 0) (1348 + 84 * (c % 60) + m_wh b) d j a))), MM I w k) := by
  obtain ⟨h1, h2⟩ := hQ
  intro d
  induction d with
  | zero =>
    intro j a hj
    refine (e257_22 I w k _ _ _ _).trans ?_
    rw [h1, zc_t (nI_le (by omega) (by omega))]
    rfl
  | succ d ih =>
    intro j a hj
    refine (e257_22 I w k _ _ _ _).trans ?_
    rw [h1, zc_f (nI_ge (by omega) (by omega)), zc_f (fun z => z h0)]
    have i1 := ih (j + 1) (a + nI (m_on (I 24 0 (1348 + 84 * (c % 60) + m_wh b + j)))) (by omega)
    by_cases hb : b = 0
    · rw [zc_t hb, show (4 : Int32) + nI j = nI (4 + j) from nI_add 4 j]
      refine (bk_v (M_184 I w k hc (show 4 + j < 84 by omega))).trans ?_
      refine (e257_59 I w k _ _ _ _ _ _).trans ?_
      refine (bk_v (M_175 I w k _)).trans ?_
      refine (e257_62 I w k _ _ _ _ _ _).trans ?_
      rw [nI_1, ← Nat.add_assoc]
      rw [show m_wh b = 4 from if_pos hb] at i1 ⊢
      exact i1
    · rw [zc_f hb, show (44 : Int32) + nI j = nI (44 + j) from nI_add 44 j]
      refine (bk_v (M_184 I w k hc (show 44 + j < 84 by omega))).trans ?_
      refine (e257_59 I w k _ _ _ _ _ _).trans ?_
      refine (bk_v (M_175 I w k _)).trans ?_
      refine (e257_62 I w k _ _ _ _ _ _).trans ?_
      rw [nI_1, ← Nat.add_assoc]
      rw [show m_wh b = 44 from if_neg hb] at i1 ⊢
      exact i1
theorem M_257z (I : aI) (w : aW) (k : aQ) (x b : Int32) (h : ¬ I 31 0 0 = 0) : rn 257 (22, [some (.inr (.inr (some (31, 0)))), some (.inl x), some (.inl b), some (.inl 0), some (.inl 0)], [], MM I w k) = some (.inl (some (.inl 0)), MM I w k) := by
  refine (e257_22 I w k _ _ _ _).trans ?_
  rw [zc_t h]
  simp only [z_c]
  split <;> rfl
theorem M_257 (I : aI) (w : aW) (k : aQ) (hC : Rc (I 24 0)) (hQ : Rq (I 24 0)) {c : Nat} (h1 : c < nC (I 24 0)) (h2 : nC (I 24 0) ≤ c + 60) (b : Int32) : rn 257 (a_en 257 [.inr (.inr (some (31, 0))), .inl (nI c), .inl b] (MM I w k)) = some (.inl (some (.inl (m_tot (I 24 0) (1348 + 84 * (c % 60) + m_wh b) (nR (I 24 0)) 0 0))), MM (a_setI I 31 0 0 0) w k) := by
  have hk : nI (nC (I 24 0) - 60) ≤ nI c ∧ nI c ≤ I 24 0 12 - 1 := gK_of hC h1 h2
  have e1 : rn 257 (22, [some (.inr (.inr (some (31, 0)))), some (.inl (nI c)), some (.inl b), some (.inl 0), some (.inl 0)], [], MM (a_setI I 31 0 0 0) w k) = some (.inl (some (.inl (m_tot (I 24 0) (1348 + 84 * (c % 60) + m_wh b) (nR (I 24 0)) 0 0))), MM (a_setI I 31 0 0 0) w k) := M_257L (a_setI I 31 0 0 0) w k hQ (by have := hC.2; omega) b rfl _ 0 0 (Nat.zero_add _)
  refine (e257_0 I w k _ _).trans ?_
  refine (bk_v (M_248 I w k hC _)).trans ?_
  refine (e257_6 I w k _ _ _ _ _).trans ?_
  exact (zc_f (by rw [tf, if_pos hk]; decide)).trans e1
theorem M_257f (I : aI) (w : aW) (k : aQ) (hC : Rc (I 24 0)) (x b : Int32) (h : ¬ gK (I 24 0) x) : rn 257 (a_en 257 [.inr (.inr (some (31, 0))), .inl x, .inl b] (MM I w k)) = some (.inl (some (.inl 0)), MM (a_setI I 31 0 0 1) w k) := by
  have e2 : rn 257 (22, [some (.inr (.inr (some (31, 0)))), some (.inl x), some (.inl b), some (.inl 0), some (.inl 0)], [], MM (a_setI I 31 0 0 1) w k) = some (.inl (some (.inl 0)), MM (a_setI I 31 0 0 1) w k) := M_257z (a_setI I 31 0 0 1) w k x b (by show ¬ ((1 : Int32) = 0); decide)
  refine (e257_0 I w k _ _).trans ?_
  refine (bk_v (M_248 I w k hC _)).trans ?_
  refine (e257_6 I w k _ _ _ _ _).trans ?_
  have h' : ¬ (nI (nC (I 24 0) - 60) ≤ x ∧ x ≤ I 24 0 12 - 1) := h
  exact (zc_t (by rw [tf, if_neg h'])).trans e2
section
variable {a8 : Int32} {i : Nat} {r : aR}
theorem C_46L (I : aI) (w : aW) (k : aQ) (hS : Sim a8 i I r) (hQ : Rq r) (x : Int32) : ∀ (d j : Nat) (a : Int32), j + d = nR r → rn 46 (4, [some (.inr (.inr (some (20, i)))), some (.inl x), some (.inl a), some (.inl (nI j))], [], MM I w k) = some (.inl (some (.inl (m_bk r x d j a))), MM I w k) := by
  obtain ⟨h1, h2⟩ := hQ
  have h3 : I 20 i 3 = nI (nR r) := hS.1.2.2.1.1.trans h1
  intro d
  induction d with
  | zero =>
    intro j a hj
    refine (e46_4 I w k _ _ _ _).trans ?_
    rw [h3, zc_t (nI_le (by omega) (by omega))]
    rfl
  | succ d ih =>
    intro j a hj
    have hk := hS.2.2.2.2.1 j (by omega)
    refine (e46_4 I w k _ _ _ _).trans ?_
    rw [h3, zc_f (nI_ge (by omega) (by omega)), z_in (by omega) (by decide), nI_clamp (by omega), cond_true, cond_true, hk.1.2.1, hk.1.2.2.2, nI_1]
    unfold m_bk
    by_cases h : r (68 + 8 * j + 1) < x
    · rw [zc_t h, if_pos h]
      exact ih (j + 1) _ (by omega)
    · rw [zc_f h, if_neg h]
      refine (bk_v (C_298 I w k _)).trans ?_
      refine (e46_38 I w k _ _ _ _ _ _).trans ?_
      rw [nI_1]
      exact ih (j + 1) _ (by omega)
theorem C_46 (I : aI) (w : aW) (k : aQ) (hS : Sim a8 i I r) (hQ : Rq r) (x : Int32) : rn 46 (a_en 46 [.inr (.inr (some (20, i))), .inl x] (MM I w k)) = some (.inl (some (.inl (m_bk r x (nR r) 0 0))), MM I w k) :=
  (e46_0 I w k _ _).trans (C_46L I w k hS hQ x _ 0 0 (by omega))
theorem C_4L (I : aI) (w : aW) (k : aQ) (p x : Nat) (d0 d1 : Option aV) (h : ∀ q, q < 40 → I 4 p q = r (x + q)) : ∀ (d j : Nat) (a : Int32), j + d = 40 → rn 4 (11, [d0, d1, some (.inr (.inr (some (4, p)))), some (.inl a), some (.inl (nI j))], [], MM I w k) = some (.inl (some (.inl (m_tot r x d j a))), MM I w k) := by
  intro d
  induction d with
  | zero =>
    intro j a hj
    refine (e4_11 I w k _ _ _ _ _).trans ?_
    exact (zc_t (nI_le (a := 40) (by omega) (by omega))).trans rfl
  | succ d ih =>
    intro j a hj
    refine (e4_11 I w k _ _ _ _ _).trans ?_
    refine (zc_f (nI_ge (b := 40) (by omega) (by omega))).trans ?_
    rw [z_in (by omega) (by decide), nI_clamp (by omega), cond_true, h j (by omega)]
    refine (bk_v (C_298 I w k _)).trans ?_
    refine (e4_26 I w k _ _ _ _ _ _ _).trans ?_
    rw [nI_1]
    exact ih (j + 1) _ (by omega)
theorem C_4M (I : aI) (w : aW) (k : aQ) (p x : Nat) (d0 d1 : Option aV) (h : ∀ q, q < 40 → I 5 p q = r (x + q)) : ∀ (d j : Nat) (a : Int32), j + d = 40 → rn 4 (11, [d0, d1, some (.inr (.inr (some (5, p)))), some (.inl a), some (.inl (nI j))], [], MM I w k) = some (.inl (some (.inl (m_tot r x d j a))), MM I w k) := by
  intro d
  induction d with
  | zero =>
    intro j a hj
    refine (e4_11a I w k _ _ _ _ _).trans ?_
    exact (zc_t (nI_le (a := 40) (by omega) (by omega))).trans rfl
  | succ d ih =>
    intro j a hj
    refine (e4_11a I w k _ _ _ _ _).trans ?_
    refine (zc_f (nI_ge (b := 40) (by omega) (by omega))).trans ?_
    rw [z_in (by omega) (by decide), nI_clamp (by omega), cond_true, h j (by omega)]
    refine (bk_v (C_298 I w k _)).trans ?_
    refine (e4_26a I w k _ _ _ _ _ _ _).trans ?_
    rw [nI_1]
    exact ih (j + 1) _ (by omega)
/-- masks are 0 from the records' number on -/
def Rz (r : aR) : Prop := ∀ e, e < nC r → nC r ≤ e + 60 → ∀ q, nR r ≤ q → q < 40 → r (1348 + 84 * (e % 60) + 4 + q) = 0 ∧ r (1348 + 84 * (e % 60) + 44 + q) = 0
theorem C_4 (I : aI) (w : aW) (k : aQ) (hS : Sim a8 i I r) (hQ : Rq r) (hz : Rz r) {c : Nat} (h1 : c < nC r) (h2 : nC r ≤ c + 60) (b : Int32) : rn 4 (a_en 4 [.inr (.inr (some (15, (60 * i + c % 60)))), .inl b] (MM I w k)) = some (.inl (some (.inl (m_tot r (1348 + 84 * (c % 60) + m_wh b) (nR r) 0 0))), MM I w k) := by
  have hn := hQ.2
  have hk := hS.2.2.2.2.2 c h1 h2
  have e : m_tot r (1348 + 84 * (c % 60) + m_wh b) 40 0 0 = m_tot r (1348 + 84 * (c % 60) + m_wh b) (nR r) 0 0 := by
    have y := m_tot_a (r := r) (x := 1348 + 84 * (c % 60) + m_wh b) (nR r) (40 - nR r) 0 0
    rw [show nR r + (40 - nR r) = 40 by omega] at y
    rw [y]
    refine m_tot_z _ _ _ (fun q a d => ?_)
    have z := hz c h1 h2 q (by omega) (by omega)
    unfold m_wh
    split
    · exact z.1
    · exact z.2
  refine (e4_0 I w k _ _).trans ?_
  rw [← e]
  by_cases hb : b = 0
  · refine (bk_v ((e3_0 I w k _ _).trans (zc_t hb))).trans ?_
    refine (e4_5 I w k _ _ _ _ _ _).trans ?_
    rw [show m_wh b = 4 from if_pos hb]
    exact C_4L I w k _ _ _ _ (fun q hq => (hk.2.2 q hq).1) 40 0 0 rfl
  · refine (bk_v ((e3_0 I w k _ _).trans (zc_f hb))).trans ?_
    refine (e4_5a I w k _ _ _ _ _ _).trans ?_
    rw [show m_wh b = 44 from if_neg hb]
    exact C_4M I w k _ _ _ _ (fun q hq => (hk.2.2 q hq).2) 40 0 0 rfl
end
