/-! ===== the order of what a report changes ===== -/
theorem sA_x {r : aR} {q x : Nat} {v set c : Int32} (hq : q < 40) (hx : 1348 ≤ x ∨ x < 68) : m_sA (upd r x v) q set c = upd (m_sA r q set c) x v := by
  have e : ∀ y, 68 ≤ y → y < 1348 → upd r x v y = r y := fun y a b => upd_n _ _ _ (by omega)
  have eu : m_uw (upd r x v) q = m_uw r q := m_uw_c (e _ (by omega) (by omega)) (e _ (by omega) (by omega)) (e _ (by omega) (by omega))
  unfold m_sA
  rw [eu, e _ (by omega) (by omega), (sa_L (L := fun j => upd r x v (388 + 24 * q + j)) (L' := fun j => r (388 + 24 * q + j)) (fun f hf => e _ (by omega) (by omega)) _).1, fa_upd_swap _ (by omega)]
theorem full_x {r : aR} {q x : Nat} {v : Int32} (hq : q < 40) (hx : 1348 ≤ x ∨ x < 68) : m_full (upd r x v) q = m_full r q := by
  unfold m_full; rw [upd_n _ _ _ (by omega)]
theorem gb_x {x : Nat} {v c : Int32} (hx : 1348 ≤ x ∨ x < 68) : ∀ (d j : Nat) (r : aR), j + d ≤ 40 → m_gb c d j (upd r x v) = upd (m_gb c d j r) x v
  | 0, _, _, _ => rfl
  | d + 1, j, r, h => by
    show m_gb c d (j + 1) (m_sA (upd r x v) j (m_full (upd r x v) j) c) = upd (m_gb c d (j + 1) (m_sA r j (m_full r j) c)) x v
    rw [full_x (by omega) hx, sA_x (by omega) hx, gb_x hx d (j + 1) _ (by omega)]
theorem g5_x {r : aR} {p j : Nat} {v c t : Int32} (hj : j < 40) : m_g5 p c t j (upd r (1348 + 84 * p + 3) v) = upd (m_g5 p c t j r) (1348 + 84 * p + 3) v := by
  have e : ∀ y, y ≠ 1348 + 84 * p + 3 → upd r (1348 + 84 * p + 3) v y = r y := fun y a => upd_n _ _ _ a
  have h1 : m_g1 p j (upd r (1348 + 84 * p + 3) v) = upd (m_g1 p j r) (1348 + 84 * p + 3) v := by
    unfold m_g1; rw [e _ (by omega), e _ (by omega), fa_upd_swap _ (by omega)]
  have h2 : m_g2 p j (upd r (1348 + 84 * p + 3) v) = upd (m_g2 p j r) (1348 + 84 * p + 3) v := by
    unfold m_g2; rw [h1, upd_n _ _ _ (show 68 + 8 * j + 3 ≠ 1348 + 84 * p + 3 by omega), e _ (by omega), fa_upd_swap _ (by omega)]
  have h3 : m_g3 p c j (upd r (1348 + 84 * p + 3) v) = upd (m_g3 p c j r) (1348 + 84 * p + 3) v := by
    unfold m_g3; rw [h2, e _ (by omega), e _ (by omega), sA_x hj (by omega)]
  have h4 : m_g4 t j (upd (m_g3 p c j r) (1348 + 84 * p + 3) v) = upd (m_g4 t j (m_g3 p c j r)) (1348 + 84 * p + 3) v := by
    unfold m_g4
    rw [fa_upd_swap _ (show 1348 + 84 * p + 3 ≠ 68 + 8 * j + 7 by omega), upd_n _ _ _ (show 21 ≠ 1348 + 84 * p + 3 by omega), fa_upd_swap _ (show 1348 + 84 * p + 3 ≠ 21 by omega)]
  unfold m_g5
  rw [h3, upd_n _ _ _ (show 68 + 8 * j + 7 ≠ 1348 + 84 * p + 3 by omega), upd_n _ _ _ (show 68 + 8 * j + 4 ≠ 1348 + 84 * p + 3 by omega), full_x hj (by omega), h4]
  split
  · split <;> rfl
  · rfl
theorem gl_x {p : Nat} {v c t : Int32} : ∀ (d j : Nat) (r : aR), j + d ≤ 40 → m_gl p c t d j (upd r (1348 + 84 * p + 3) v) = upd (m_gl p c t d j r) (1348 + 84 * p + 3) v
  | 0, _, _, _ => rfl
  | d + 1, j, r, h => by
    show m_gl p c t d (j + 1) (m_g5 p c t j (upd r (1348 + 84 * p + 3) v)) = upd (m_gl p c t d (j + 1) (m_g5 p c t j r)) (1348 + 84 * p + 3) v
    rw [g5_x (by omega), gl_x d (j + 1) _ (by omega)]
/-! what reports leave alone -/
theorem gR_f {c n : Nat} {t : Int32} {r : aR} {x : Nat} (hn : n ≤ 40) (h1 : ∀ q, q < n → x ≠ 68 + 8 * q + 3 ∧ x ≠ 68 + 8 * q + 4 ∧ x ≠ 68 + 8 * q + 7) (h21 : x ≠ 21) (h22 : x ≠ 22) (h3 : x ≠ 1348 + 84 * (c % 60) + 3) : m_gR c t n r x = r x := by
  unfold m_gR m_g6
  rw [upd_n _ _ _ h22, upd_n _ _ _ h3, m_gl_n h21 n 0 r (fun q hq => h1 q (by omega))]
/-- what the walks over the contacts need: n records, the contact c is the new one -/
def Jv (n c : Nat) (t : Int32) (r : aR) : Prop := r 4 = nI n ∧ nS r ≤ 4 ∧ r 12 = nI (c + 1) ∧ r 5 = t ∧ (∀ e, e < c → c + 1 ≤ e + 60 → ¬ r (1348 + 84 * (e % 60) + 2) = -1 ∧ (r (1348 + 84 * (e % 60) + 3) = 0 ∨ r (1348 + 84 * (e % 60) + 3) = 1 ∨ r (1348 + 84 * (e % 60) + 3) = 2)) ∧ r (1348 + 84 * (c % 60) + 2) = -1 ∧ ∀ e, e ≤ c → c + 1 ≤ e + 60 → Rl r e
theorem Jv.chg {n c : Nat} {t : Int32} {r r' : aR} (h : Jv n c t r) (hn : n ≤ 40) (e0 : ∀ x, x < 16 → r' x = r x) (e2 : ∀ e, e < 60 → r' (1348 + 84 * e + 2) = r (1348 + 84 * e + 2)) (e3 : ∀ e, e < 60 → r' (1348 + 84 * e + 3) = r (1348 + 84 * e + 3) ∨ r' (1348 + 84 * e + 3) = 1 ∨ r' (1348 + 84 * e + 3) = 2) (e4 : ∀ e q, e < 60 → q < n → r' (1348 + 84 * e + 4 + q) = r (1348 + 84 * e + 4 + q)) (e5 : ∀ q f, q < n → f < 24 → r' (388 + 24 * q + f) = r (388 + 24 * q + f)) : Jv n c t r' := by
  obtain ⟨h1, h2, h3, h4, h5, h6, h7⟩ := h
  have hR : nR r = n := by unfold nR; rw [h1, nI_clamp (by omega)]
  have hR' : nR r' = n := by rw [nR_c (e0 4 (by omega))]; exact hR
  refine ⟨by rw [e0 4 (by omega)]; exact h1, by rw [nS_c (e0 3 (by omega))]; exact h2, by rw [e0 12 (by omega)]; exact h3, by rw [e0 5 (by omega)]; exact h4, fun e a b => ?_, by rw [e2 _ (Nat.mod_lt _ (by decide))]; exact h6, fun e a b q f hq hf hx => ?_⟩
  · have hm := Nat.mod_lt e (by decide : 0 < 60)
    obtain ⟨x, y⟩ := h5 e a b
    refine ⟨by rw [e2 _ hm]; exact x, ?_⟩
    rcases e3 (e % 60) hm with z | z | z
    · rw [z]; exact y
    · exact Or.inr (Or.inl z)
    · exact Or.inr (Or.inr z)
  · have hm := Nat.mod_lt e (by decide : 0 < 60)
    rw [hR'] at hq
    rw [e5 q f hq hf] at hx
    rw [e4 _ q hm hq]
    exact h7 e a b q f (by omega) hf hx
theorem Jv.gR {n c : Nat} {t : Int32} {r : aR} (h : Jv n c t r) (hn : n ≤ 40) (e : Nat) (u : Int32) : Jv n c t (m_gR e u n r) := by
  have hm := Nat.mod_lt e (by decide : 0 < 60)
  refine h.chg hn (fun x hx => gR_f hn (fun q hq => ⟨by omega, by omega, by omega⟩) (by omega) (by omega) (by omega)) (fun y hy => gR_f hn (fun q hq => ⟨by omega, by omega, by omega⟩) (by omega) (by omega) (by omega)) (fun y hy => ?_) (fun y q hy hq => gR_f hn (fun q hq => ⟨by omega, by omega, by omega⟩) (by omega) (by omega) (by omega)) (fun q f hq hf => gR_f hn (fun q hq => ⟨by omega, by omega, by omega⟩) (by omega) (by omega) (by omega))
  by_cases z : y = e % 60
  · subst z
    refine Or.inr (Or.inr ?_)
    unfold m_gR m_g6
    rw [upd_n _ _ _ (by omega), upd_s]
  · exact Or.inl (gR_f hn (fun q hq => ⟨by omega, by omega, by omega⟩) (by omega) (by omega) (by omega))
theorem Jv.lo {n c : Nat} {t : Int32} {r : aR} (h : Jv n c t r) (hn : n ≤ 40) {x : Nat} (h1 : 16 ≤ x) (h2 : x < 68) (v : Int32) : Jv n c t (upd r x v) :=
  h.chg hn (fun y hy => upd_n _ _ _ (by omega)) (fun y hy => upd_n _ _ _ (by omega)) (fun y hy => Or.inl (upd_n _ _ _ (by omega))) (fun y q hy hq => upd_n _ _ _ (by omega)) (fun q f hq hf => upd_n _ _ _ (by omega))
theorem Jv.gb {n c : Nat} {t : Int32} {r : aR} (h : Jv n c t r) (hn : n ≤ 40) (v : Int32) : Jv n c t (m_gb v n 0 r) :=
  h.chg hn (fun y hy => m_gb_n n 0 r (fun q hq => by omega)) (fun y hy => m_gb_n n 0 r (fun q hq => by omega)) (fun y hy => Or.inl (m_gb_n n 0 r (fun q hq => by omega))) (fun y q hy hq => m_gb_n n 0 r (fun q hq => by omega)) (fun q f hq hf => m_gb_n n 0 r (fun q hq => by omega))
theorem Jv.v0 {n c : Nat} {t : Int32} {r : aR} (h : Jv n c t r) (hn : n ≤ 40) (e : Nat) : Jv n c t (m_v0 e r) := by
  have hm := Nat.mod_lt e (by decide : 0 < 60)
  unfold m_v0
  refine Jv.lo (h.chg hn (fun y hy => upd_n _ _ _ (by omega)) (fun y hy => upd_n _ _ _ (by omega)) (fun y hy => ?_) (fun y q hy hq => upd_n _ _ _ (by omega)) (fun q f hq hf => upd_n _ _ _ (by omega))) hn (by omega) (by omega) _
  by_cases z : y = e % 60
  · subst z; exact Or.inr (Or.inl (upd_s _ _ _))
  · exact Or.inl (upd_n _ _ _ (by omega))
theorem z_c0 {n c : Nat} {t : Int32} {r : aR} (h : Jv n c t r) (hc : c < 100000) : nC r = c + 1 := by unfold nC; rw [h.2.2.1, nI_clamp (by omega)]
theorem z_2le {x : Int32} (h : x = 0 ∨ x = 1 ∨ x = 2) : (2 ≤ x) ↔ x = 2 := by
  rcases h with rfl | rfl | rfl <;> decide
section
variable {a8 : Int32} {i : Nat}
/-- a report is taken: the figures too -/
theorem C_63T (w : aW) (k : aQ) {n c s e : Nat} {t : Int32} (hn : n ≤ 40) (hc : c < 100000) (hs4 : s < 4) (d4 : Option aV) (I : aI) (r : aR) (hJ : Jv n c t r) (hs : s < nS r) (hS : Sim a8 i I r) (h1 : e < c) (h2 : c + 1 ≤ e + 60) : ∃ I', (rn 64 (a_en 64 [.inr (.inr (some (20, i))), .inr (.inr (some (15, (60 * i + e % 60))))] (MM I w k))).bind (fun o => a_bk 63 64 (75, [some (.inr (.inr (some (20, i)))), some (.inl (nI s)), some (.inl (nI e)), some (.inr (.inr (some (15, 60 * i + e % 60)))), d4], [], MM I w k) o (rn 63)) = rn 63 (5, [some (.inr (.inr (some (20, i)))), some (.inl (nI s)), some (.inl (nI (e + 1))), some (.inr (.inr (some (15, (60 * i + e % 60))))), d4], [], MM I' w k) ∧ Sim a8 i I' (if m_gR e t n r (1348 + 84 * (e % 60) + 0) = nI s then m_gR e t n r else m_ct s 4 (m_gR e t n r)) ∧ Fr i I I' := by
  have hm := Nat.mod_lt e (by decide : 0 < 60)
  have hC := z_c0 hJ hc
  have hR : nR r = n := by unfold nR; rw [hJ.1, nI_clamp (by omega)]
  obtain ⟨I1, g1, g2, g3⟩ := C_64 I w k hS ⟨by rw [hR]; exact hJ.1, by omega⟩ hJ.2.1 (c := e) (by omega) (by omega)
  rw [hJ.2.2.2.1, hR, gl_x n 0 r (by omega)] at g2
  have f6 := g2.2.1 6 (by omega)
  have hS2 := Sim_fig g2 (j := 6) (by omega) (upd (m_gl (e % 60) (nI e) t n 0 r) (1348 + 84 * (e % 60) + 3) 2 22 + 1)
  have hS2 : Sim a8 i (a_setI I1 13 i 6 (upd (m_gl (e % 60) (nI e) t n 0 r) (1348 + 84 * (e % 60) + 3) 2 22 + 1)) (m_gR e t n r) := hS2
  have hgS : nS (m_gR e t n r) = nS r := nS_c (gR_f hn (fun q hq => ⟨by omega, by omega, by omega⟩) (by omega) (by omega) (by omega))
  have hgC : nC (m_gR e t n r) = nC r := nC_c (gR_f hn (fun q hq => ⟨by omega, by omega, by omega⟩) (by omega) (by omega) (by omega))
  have hst := hS2.2.2.2.2.2 e (by omega) (by omega)
  have e19 : I1 19 (4 * i + s) 4 = m_gR e t n r (24 + 11 * s + 6 + 4) := (hS2.2.2.1 s (by omega)).2.2.2 4 (by omega)
  have run : ∀ v : Int32, (rn 64 (a_en 64 [.inr (.inr (some (20, i))), .inr (.inr (some (15, (60 * i + e % 60))))] (MM I w k))).bind (fun o => a_bk 63 64 (75, [some (.inr (.inr (some (20, i)))), some (.inl (nI s)), some (.inl (nI e)), some (.inr (.inr (some (15, 60 * i + e % 60)))), d4], [], MM I w k) o (rn 63)) = if m_gR e t n r (1348 + 84 * (e % 60) + 0) = nI s then rn 63 (5, [some (.inr (.inr (some (20, i)))), some (.inl (nI s)), some (.inl (nI (e + 1))), some (.inr (.inr (some (15, (60 * i + e % 60))))), d4], [], MM (a_setI (a_setI I1 13 i 6 (upd (m_gl (e % 60) (nI e) t n 0 r) (1348 + 84 * (e % 60) + 3) 2 22 + 1)) 19 (4 * i + s) 4 (m_gR e t n r (24 + 11 * s + 6 + 4) + 0)) w k) else rn 63 (5, [some (.inr (.inr (some (20, i)))), some (.inl (nI s)), some (.inl (nI (e + 1))), some (.inr (.inr (some (15, (60 * i + e % 60))))), d4], [], MM (a_setI (a_setI I1 13 i 6 (upd (m_gl (e % 60) (nI e) t n 0 r) (1348 + 84 * (e % 60) + 3) 2 22 + 1)) 19 (4 * i + s) 4 (m_gR e t n r (24 + 11 * s + 6 + 4) + 1)) w k) := by
    intro _
    refine (bk_n g1).trans ?_
    refine (e63_78 _ w k _ _ _ _ _).trans ?_
    rw [z_in hs4 (by decide), nI_clamp (by omega), cond_true, nI_1, f6, e19]
    have e15 : I1 15 (60 * i + e % 60) 1 = m_gR e t n r (1348 + 84 * (e % 60) + 0) := hst.2.1.1
    rw [e15, z_c]
    simp only [ite_not]
  by_cases hw : m_gR e t n r (1348 + 84 * (e % 60) + 0) = nI s
  · have hS3 := Sim_sfg hS2 (by rw [hgS]; exact hJ.2.1) (s := s) (j := 4) (by omega) (by omega) (m_gR e t n r (24 + 11 * s + 6 + 4) + 0)
    rw [Int32.add_zero, fa_upd_same rfl] at hS3
    refine ⟨_, (run 0).trans (if_pos hw), ?_, (g3.trans (Fr.set (show own i 13 i from rfl) _ _ _)).trans (Fr.set (show own i 19 (4 * i + s) from own_s hs4) _ _ _)⟩
    rw [if_pos hw, Int32.add_zero]
    exact hS3
  · have hS3 := Sim_sfg hS2 (by rw [hgS]; exact hJ.2.1) (s := s) (j := 4) (by omega) (by omega) (m_gR e t n r (24 + 11 * s + 6 + 4) + 1)
    refine ⟨_, (run 0).trans (if_neg hw), ?_, (g3.trans (Fr.set (show own i 13 i from rfl) _ _ _)).trans (Fr.set (show own i 19 (4 * i + s) from own_s hs4) _ _ _)⟩
    rw [if_neg hw]
    exact hS3
theorem C_63L (w : aW) (k : aQ) {n c s : Nat} {t : Int32} (hn : n ≤ 40) (hc : c < 100000) (hs4 : s < 4) : ∀ (d e : Nat) (I : aI) (r : aR) (d3 d4 : Option aV), e + d = c → c + 1 ≤ e + 60 → Jv n c t r → s < nS r → Sim a8 i I r → ∃ I', rn 63 (5, [some (.inr (.inr (some (20, i)))), some (.inl (nI s)), some (.inl (nI e)), d3, d4], [], MM I w k) = some (.inl none, MM I' w k) ∧ Sim a8 i I' (m_bl s n t d e r) ∧ Jv n c t (m_bl s n t d e r) ∧ Fr i I I' := by
  intro d
  induction d with
  | zero =>
    intro e I r d3 d4 he he2 hJ hs hS
    have he : e = c := by omega
    subst he
    have hC := z_c0 hJ hc
    have hk := hS.2.2.2.2.2 e (by omega) (by omega)
    refine ⟨I, ?_, hS, hJ, Fr.refl _ _⟩
    have h5 : I 20 i 5 = nI (e + 1) := hS.1.2.2.1.2.1.trans hJ.2.2.1
    have hend : I 15 (60 * i + e % 60) 3 = -1 := hk.2.1.2.2.1.trans hJ.2.2.2.2.2.1
    have last : ∀ d3 d4 : Option aV, rn 63 (5, [some (.inr (.inr (some (20, i)))), some (.inl (nI s)), some (.inl (nI (e + 1))), d3, d4], [], MM I w k) = some (.inl none, MM I w k) := fun d3 d4 => by
      refine (e63_5 I w k _ _ _ _ _).trans ?_
      rw [h5, zc_t (nI_le (by omega) (by omega))]
    refine (e63_5 I w k _ _ _ _ _).trans ?_
    rw [h5, zc_f (nI_ge (by omega) (by omega))]
    refine (bk_v (C_55 I w k (by omega))).trans ?_
    refine (e63_18 I w k _ _ _ _ _ _).trans ?_
    rw [nI_1]
    by_cases h1 : I 15 (60 * i + e % 60) 1 = nI s
    · rw [zc_t h1, zc_t hend]; exact last _ _
    · rw [zc_f h1]
      refine (bk_v (show rn 5 (a_en 5 [.inr (.inr (some (15, (60 * i + e % 60)))), .inl (I 20 i 8), .inl (I 10 i 0)] (MM I w k)) = some (.inl (some (.inl 0)), MM I w k) from (e5_0 I w k _ _ _).trans (zc_t hend))).trans ?_
      refine (e63_42 I w k _ _ _ _ _ _).trans ?_
      rw [nI_1, zc_t rfl, zc_t hend]; exact last _ _
  | succ d ih =>
    intro e I r d3 d4 he he2 hJ hs hS
    have hC := z_c0 hJ hc
    have hR : nR r = n := by unfold nR; rw [hJ.1, nI_clamp (by omega)]
    have hk := hS.2.2.2.2.2 e (by omega) (by omega)
    have h5 : I 20 i 5 = nI (c + 1) := hS.1.2.2.1.2.1.trans hJ.2.2.1
    obtain ⟨q1, q2⟩ := hJ.2.2.2.2.1 e (by omega) (by omega)
    have hend : ¬ I 15 (60 * i + e % 60) 3 = -1 := by rw [hk.2.1.2.2.1]; exact q1
    have hbl : m_bl s n t (d + 1) e r = m_bl s n t d (e + 1) (m_bq s n t e r) := rfl
    have keep : ∀ d3 d4 : Option aV, m_bq s n t e r = r → ∃ I', rn 63 (5, [some (.inr (.inr (some (20, i)))), some (.inl (nI s)), some (.inl (nI (e + 1))), d3, d4], [], MM I w k) = some (.inl none, MM I' w k) ∧ Sim a8 i I' (m_bl s n t (d + 1) e r) ∧ Jv n c t (m_bl s n t (d + 1) e r) ∧ Fr i I I' := by
      intro d3 d4 hb
      rw [hbl, hb]
      exact ih (e + 1) I r d3 d4 (by omega) (by omega) hJ hs hS
    have take : ∀ d4 : Option aV, (m_bq s n t e r = if m_gR e t n r (1348 + 84 * (e % 60) + 0) = nI s then m_gR e t n r else m_ct s 4 (m_gR e t n r)) → ∃ I', (rn 64 (a_en 64 [.inr (.inr (some (20, i))), .inr (.inr (some (15, (60 * i + e % 60))))] (MM I w k))).bind (fun o => a_bk 63 64 (75, [some (.inr (.inr (some (20, i)))), some (.inl (nI s)), some (.inl (nI e)), some (.inr (.inr (some (15, 60 * i + e % 60)))), d4], [], MM I w k) o (rn 63)) = some (.inl none, MM I' w k) ∧ Sim a8 i I' (m_bl s n t (d + 1) e r) ∧ Jv n c t (m_bl s n t (d + 1) e r) ∧ Fr i I I' := by
      intro d4 hb
      obtain ⟨I1, g1, g2, g3⟩ := C_63T w k hn hc hs4 d4 I r hJ hs hS (show e < c by omega) (by omega)
      rw [← hb] at g2
      have hJ2 : Jv n c t (m_bq s n t e r) := by
        rw [hb]
        split
        · exact hJ.gR hn e t
        · exact (hJ.gR hn e t).lo hn (by omega) (by omega) _
      have hs2 : nS (m_bq s n t e r) = nS r := nS_c (m_bq_n (by omega) (by omega) (by omega) (by omega))
      obtain ⟨I2, y1, y2, y3, y4⟩ := ih (e + 1) I1 (m_bq s n t e r) _ d4 (by omega) (by omega) hJ2 (by omega) g2
      exact ⟨I2, g1.trans y1, y2, y3, g3.trans y4⟩
    have h20 : I 20 i 8 = t := hS.1.2.2.1.2.2.2.trans hJ.2.2.2.1
    have st := e63_5 I w k i (nI s) (nI e) d3 d4
    rw [h5, zc_f (nI_ge (by omega) (by omega)), show (rn 55 (a_en 55 [.inr (.inr (some (20, i))), .inl (nI e)] (MM I w k))).bind (fun o => a_bk 63 55 (15, [some (.inr (.inr (some (20, i)))), some (.inl (nI s)), some (.inl (nI e)), d3, d4], [], MM I w k) o (rn 63)) = _ from bk_v (C_55 I w k (by omega)), show rn 63 (15 + 3, [some (.inr (.inr (some (20, i)))), some (.inl (nI s)), some (.inl (nI e)), d3, d4], [.inr (.inr (some (15, 60 * i + e % 60)))], MM I w k) = _ from e63_18 I w k _ _ _ _ _ _, nI_1, hk.2.1.1, hk.2.1.2.2.2, h20, hS.1.2.1.1] at st
    rw [st]
    by_cases h2 : r (1348 + 84 * (e % 60) + 3) = 2
    · have hb : m_bq s n t e r = r := if_pos ((z_2le q2).mpr h2)
      by_cases h1 : r (1348 + 84 * (e % 60) + 0) = nI s
      · rw [zc_t h1, zc_f hend, zc_t h2]; exact keep _ _ hb
      · rw [zc_f h1]
        have ft := e63_42 I w k i (nI s) (nI e) (60 * i + e % 60) d4
        by_cases h6 : t - r (1348 + 84 * (e % 60) + 2) < r 10
        · rw [show (rn 5 (a_en 5 [.inr (.inr (some (15, (60 * i + e % 60)))), .inl t, .inl (r 10)] (MM I w k))).bind (fun o => a_bk 63 5 (39, [some (.inr (.inr (some (20, i)))), some (.inl (nI s)), some (.inl (nI e)), some (.inr (.inr (some (15, 60 * i + e % 60)))), d4], [], MM I w k) o (rn 63)) = _ from bk_v (show rn 5 (a_en 5 [.inr (.inr (some (15, (60 * i + e % 60)))), .inl t, .inl (r 10)] (MM I w k)) = some (.inl (some (.inl 0)), MM I w k) from (e5_0 I w k _ _ _).trans ((zc_f hend).trans (zc_t (by rw [hk.2.1.2.2.1]; exact h6))))]
          rw [show rn 63 (39 + 3, [some (.inr (.inr (some (20, i)))), some (.inl (nI s)), some (.inl (nI e)), some (.inr (.inr (some (15, 60 * i + e % 60)))), d4], [.inl 0], MM I w k) = _ from ft 0, zc_t rfl, zc_f hend, hk.2.1.2.2.2, zc_t h2, nI_1]
          exact keep _ _ hb
        · rw [show (rn 5 (a_en 5 [.inr (.inr (some (15, (60 * i + e % 60)))), .inl t, .inl (r 10)] (MM I w k))).bind (fun o => a_bk 63 5 (39, [some (.inr (.inr (some (20, i)))), some (.inl (nI s)), some (.inl (nI e)), some (.inr (.inr (some (15, 60 * i + e % 60)))), d4], [], MM I w k) o (rn 63)) = _ from bk_v (show rn 5 (a_en 5 [.inr (.inr (some (15, (60 * i + e % 60)))), .inl t, .inl (r 10)] (MM I w k)) = some (.inl (some (.inl 1)), MM I w k) from (e5_0 I w k _ _ _).trans ((zc_f hend).trans (zc_f (by rw [hk.2.1.2.2.1]; exact h6))))]
          rw [show rn 63 (39 + 3, [some (.inr (.inr (some (20, i)))), some (.inl (nI s)), some (.inl (nI e)), some (.inr (.inr (some (15, 60 * i + e % 60)))), d4], [.inl 1], MM I w k) = _ from ft 1, zc_f (by decide), zc_f hend, hk.2.1.2.2.2, zc_t h2, nI_1]
          exact keep _ _ hb
    · have h2' : ¬ 2 ≤ r (1348 + 84 * (e % 60) + 3) := fun z => h2 ((z_2le q2).mp z)
      by_cases h1 : r (1348 + 84 * (e % 60) + 0) = nI s
      · rw [zc_t h1, zc_f hend, zc_f h2]
        exact take _ ((if_neg h2').trans (if_pos h1))
      · rw [zc_f h1]
        have ft := e63_42 I w k i (nI s) (nI e) (60 * i + e % 60) d4
        by_cases h6 : t - r (1348 + 84 * (e % 60) + 2) < r 10
        · rw [show (rn 5 (a_en 5 [.inr (.inr (some (15, (60 * i + e % 60)))), .inl t, .inl (r 10)] (MM I w k))).bind (fun o => a_bk 63 5 (39, [some (.inr (.inr (some (20, i)))), some (.inl (nI s)), some (.inl (nI e)), some (.inr (.inr (some (15, 60 * i + e % 60)))), d4], [], MM I w k) o (rn 63)) = _ from bk_v (show rn 5 (a_en 5 [.inr (.inr (some (15, (60 * i + e % 60)))), .inl t, .inl (r 10)] (MM I w k)) = some (.inl (some (.inl 0)), MM I w k) from (e5_0 I w k _ _ _).trans ((zc_f hend).trans (zc_t (by rw [hk.2.1.2.2.1]; exact h6))))]
          rw [show rn 63 (39 + 3, [some (.inr (.inr (some (20, i)))), some (.inl (nI s)), some (.inl (nI e)), some (.inr (.inr (some (15, 60 * i + e % 60)))), d4], [.inl 0], MM I w k) = _ from ft 0, zc_t rfl, zc_f hend, hk.2.1.2.2.2, zc_f h2, nI_1]
          exact keep _ _ ((if_neg h2').trans ((if_neg h1).trans (if_pos h6)))
        · rw [show (rn 5 (a_en 5 [.inr (.inr (some (15, (60 * i + e % 60)))), .inl t, .inl (r 10)] (MM I w k))).bind (fun o => a_bk 63 5 (39, [some (.inr (.inr (some (20, i)))), some (.inl (nI s)), some (.inl (nI e)), some (.inr (.inr (some (15, 60 * i + e % 60)))), d4], [], MM I w k) o (rn 63)) = _ from bk_v (show rn 5 (a_en 5 [.inr (.inr (some (15, (60 * i + e % 60)))), .inl t, .inl (r 10)] (MM I w k)) = some (.inl (some (.inl 1)), MM I w k) from (e5_0 I w k _ _ _).trans ((zc_f hend).trans (zc_f (by rw [hk.2.1.2.2.1]; exact h6))))]
          rw [show rn 63 (39 + 3, [some (.inr (.inr (some (20, i)))), some (.inl (nI s)), some (.inl (nI e)), some (.inr (.inr (some (15, 60 * i + e % 60)))), d4], [.inl 1], MM I w k) = _ from ft 1, zc_f (by decide), zc_f hend, hk.2.1.2.2.2, zc_f h2]
          exact take _ ((if_neg h2').trans ((if_neg h1).trans (if_neg h6)))
end
