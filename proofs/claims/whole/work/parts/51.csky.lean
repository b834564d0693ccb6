/-! ===== the class: passes ===== -/
def pA (lo m : Nat) : Nat := if m ≤ lo then lo - m else m - lo
def pD (lo m : Nat) : Nat := if pA lo m ≤ 180 then pA lo m else 360 - pA lo m
def pL (lo re le m : Nat) : Nat := if pD lo m ≤ re then (le * (re + 1 - pD lo m) + re) / (re + 1) else 0
theorem pA_le {lo m : Nat} (h1 : lo ≤ 359) (h2 : m ≤ 359) : pA lo m ≤ 359 := by unfold pA; split <;> omega
theorem pL_le (lo re le m : Nat) : pL lo re le m ≤ le := by
  unfold pL
  split
  · have h : le * (re + 1 - pD lo m) ≤ le * (re + 1) := Nat.mul_le_mul_left _ (by omega)
    have h2 : (le * (re + 1) + re) / (re + 1) = le := by
      rw [Nat.mul_comm, Nat.mul_add_div (by omega), Nat.div_eq_of_lt (by omega), Nat.add_zero]
    calc (le * (re + 1 - pD lo m) + re) / (re + 1) ≤ (le * (re + 1) + re) / (re + 1) := Nat.div_le_div_right (by omega)
      _ = le := h2
  · omega
theorem z_neg0 (x : Int32) : 0 - x = -x := by rw [Int32.sub_eq_add_neg, Int32.zero_add]
theorem z_abs {lo m : Nat} (h1 : lo ≤ 359) (h2 : m ≤ 359) : (if 0 ≤ nI lo - nI m then nI lo - nI m else -(nI lo - nI m)) = nI (pA lo m) := by
  unfold pA
  by_cases h : m ≤ lo
  · rw [z_sub h, if_pos (nI_pos' (by omega)), if_pos h]
  · rw [if_neg h]
    have e1 : (nI lo - nI m).toInt = (lo : Int) - m := by
      rw [fb_subI (by rw [nI_toInt (by omega), nI_toInt (by omega)]; omega) (by rw [nI_toInt (by omega), nI_toInt (by omega)]; omega), nI_toInt (by omega), nI_toInt (by omega)]
    rw [if_neg (by rw [fa_le, e1, show (0 : Int32).toInt = 0 from by decide +kernel]; omega)]
    apply Int32.toInt_inj.mp
    rw [fb_negI (by rw [e1]; omega), e1, nI_toInt (by omega)]
    omega
theorem z_360 {a : Nat} (h : a ≤ 359) : 360 - nI a = nI (360 - a) := z_sub (a := 360) (by omega)
theorem m_dg_nat {lo m : Nat} (h1 : lo ≤ 359) (h2 : m ≤ 359) : m_dg (nI lo - nI m) = nI (pD lo m) := by
  have h3 := pA_le h1 h2
  have e : m_ab (nI lo - nI m) = nI (pA lo m) := z_abs h1 h2
  unfold m_dg pD
  rw [e, z_360 h3]
  by_cases h : pA lo m ≤ 180
  · rw [if_pos h, if_pos (show nI (pA lo m) ≤ (180 : Int32) from nI_le (b := 180) h (by decide))]
  · rw [if_neg h, if_neg (show ¬ nI (pA lo m) ≤ (180 : Int32) from nI_ge (a := 180) (by omega) (by omega))]
/-- a pass in numbers -/
theorem pass_nat {r : aR} (hR : Rs r) {s : Nat} (hs : s < nS r) : ∃ lo re le ph p sh nd : Nat, lo ≤ 359 ∧ re ≤ 90 ∧ (1 ≤ le ∧ le ≤ 30) ∧ ph ≤ 59 ∧ (60 ≤ p ∧ p ≤ 200) ∧ sh ≤ 359 ∧ nd ≤ 359 ∧ r (24 + 11 * s + 0) = nI lo ∧ r (24 + 11 * s + 1) = nI re ∧ r (24 + 11 * s + 2) = nI le ∧ r (24 + 11 * s + 3) = nI ph ∧ r 0 = nI p ∧ r 1 = nI sh ∧ r 2 = nI nd := by
  obtain ⟨-, ⟨p, p1, p2, p3⟩, ⟨sh, s1, s2⟩, ⟨nd, n1, n2⟩, hst⟩ := hR
  obtain ⟨⟨lo, a1, a2⟩, ⟨re, b1, b2⟩, ⟨le, c0, c1, c2⟩, ⟨ph, d1, d2⟩, -, -⟩ := hst s hs
  exact ⟨lo, re, le, ph, p, sh, nd, a1, b1, ⟨c0, c1⟩, d1, ⟨p1, p2⟩, s1, n1, a2, b2, c2, d2, p3, s2, n2⟩
theorem z_node {nd O sh : Nat} (h1 : nd ≤ 359) (h2 : O ≤ 2000) (h3 : sh ≤ 359) : (nI nd + nI O * nI sh) - (nI nd + nI O * nI sh) / 360 * 360 = nI ((nd + O * sh) % 360) := by
  have h : O * sh ≤ 2000 * 359 := Nat.mul_le_mul h2 h3
  rw [z_mul, nI_add, show (360 : Int32) = nI 360 from rfl, z_rem (by omega) (by decide)]
theorem m_lasts_nat {r : aR} {s O lo re le sh nd : Nat} (h1 : lo ≤ 359) (h2 : re ≤ 90) (h3 : le ≤ 30) (h4 : sh ≤ 359) (h5 : nd ≤ 359) (hO : O ≤ 2000) (e0 : r (24 + 11 * s + 0) = nI lo) (e1 : r (24 + 11 * s + 1) = nI re) (e2 : r (24 + 11 * s + 2) = nI le) (e5 : r 1 = nI sh) (e6 : r 2 = nI nd) : m_lasts r s (nI O) = nI (pL lo re le ((nd + O * sh) % 360)) := by
  have hm : (nd + O * sh) % 360 ≤ 359 := by have := Nat.mod_lt (nd + O * sh) (by decide : 0 < 360); omega
  have eo : m_off r s (nI O) = nI lo - nI ((nd + O * sh) % 360) := by unfold m_off; rw [e0, e5, e6, z_node h5 hO h4]
  have hd : pD lo ((nd + O * sh) % 360) ≤ 359 := by have := pA_le h1 hm; unfold pD; split <;> omega
  unfold m_lasts
  rw [eo, m_dg_nat h1 hm, e1, e2]
  generalize (nd + O * sh) % 360 = m at hm hd
  unfold pL
  by_cases h : pD lo m ≤ re
  · have hx : le * (re + 1 - pD lo m) ≤ 30 * 91 := Nat.mul_le_mul h3 (by omega)
    rw [if_pos h, if_pos (nI_le h (by omega)), nI_1, z_sub (by omega), z_mul, nI_add, z_div (by omega) (by omega)]
  · rw [if_neg h, if_neg (nI_ge (by omega) (by omega))]
    rfl
theorem m_begin_nat {r : aR} {s O ph p : Nat} (e3 : r (24 + 11 * s + 3) = nI ph) (e4 : r 0 = nI p) : m_begin r s (nI O) = nI (p * O + ph) := by
  unfold m_begin; rw [e3, e4, z_mul, nI_add]
section
variable {a8 : Int32} {i : Nat} {r : aR}
theorem C_79 (I : aI) (w : aW) (k : aQ) (hS : Sim a8 i I r) (hR : Rs r) (t : Int32) : rn 79 (a_en 79 [.inr (.inr (some (9, i))), .inl t] (MM I w k)) = some (.inl (some (.inl (if t < 0 then -1 else t / r 0))), MM I w k) := by
  obtain ⟨-, ⟨p, p1, p2, p3⟩, -⟩ := hR
  refine (e79_0 I w k _ _).trans ?_
  rw [hS.1.1.1, p3, zc_t (show (1 : Int32) ≤ nI p from nI_le (a := 1) (by omega) (by omega)), zc_t (nI_ne0 (by omega) (by omega))]
  simp only [z_c, z_ri]
theorem C_80 (I : aI) (w : aW) (k : aQ) (hS : Sim a8 i I r) {s : Nat} (hs : s < nS r) (o : Int32) : rn 80 (a_en 80 [.inr (.inr (some (9, i))), .inr (.inr (some (18, (4 * i + s)))), .inl o] (MM I w k)) = some (.inl (some (.inl (m_begin r s o))), MM I w k) := by
  refine (e80_0 I w k _ _ _).trans ?_
  rw [hS.1.1.1, (hS.2.2.1 s hs).1 3 (by decide)]
  unfold m_begin
  rw [Int32.mul_comm]
theorem C_81 (I : aI) (w : aW) (k : aQ) (hS : Sim a8 i I r) (hR : Rs r) {s O : Nat} (hs : s < nS r) (hO : O ≤ 2000) : rn 81 (a_en 81 [.inr (.inr (some (9, i))), .inr (.inr (some (18, (4 * i + s)))), .inl (nI O)] (MM I w k)) = some (.inl (some (.inl (m_lasts r s (nI O)))), MM I w k) := by
  obtain ⟨lo, re, le, ph, p, sh, nd, h1, h2, ⟨-, h3⟩, h4, h5, h6, h7, e0, e1, e2, e3, e4, e5, e6⟩ := pass_nat hR hs
  have hst := (hS.2.2.1 s hs).1
  have hm : (nd + O * sh) % 360 ≤ 359 := by have := Nat.mod_lt (nd + O * sh) (by decide : 0 < 360); omega
  rw [m_lasts_nat h1 h2 h3 h6 h7 hO e0 e1 e2 e5 e6]
  refine (e81_0 I w k _ _ _).trans ?_
  rw [hst 0 (by decide), hS.1.1.2.1, hS.1.1.2.2.1, e0, e5, e6, z_node h7 hO h6, z_neg0, z_abs h1 hm]
  generalize (nd + O * sh) % 360 = m at hm
  have hA := pA_le h1 hm
  refine (e81_24 I w k _ _ _ _ _ _).trans ?_
  rw [hst 1 (by decide), hst 2 (by decide), e1, e2, nI_1, z_360 hA]
  rw [zc_f (show ¬ nI (re + 1) < (1 : Int32) from nI_nlt (b := 1) (by omega) (by omega))]
  have ed : (if nI (360 - pA lo m) < nI (pA lo m) then nI (360 - pA lo m) else nI (pA lo m)) = nI (pD lo m) := by
    unfold pD
    by_cases h : pA lo m ≤ 180
    · rw [if_pos h, if_neg (nI_nlt (by omega) (by omega))]
    · rw [if_neg h, if_pos (nI_lt (by omega) (by omega))]
  have hd : pD lo m ≤ 359 := by unfold pD; split <;> omega
  rw [ed]
  unfold pL
  by_cases h : pD lo m ≤ re
  · have hx : le * (re + 1 - pD lo m) ≤ 30 * 91 := Nat.mul_le_mul h3 (by omega)
    rw [if_pos h, zc_t (nI_lt (by omega) (by omega)), zc_t (nI_ne0 (by omega) (by omega)), z_sub (by omega), z_mul, nI_add, ← Nat.add_assoc, nI_pred, z_div (by omega) (by omega)]
  · rw [if_neg h, zc_f (nI_nlt (by omega) (by omega))]
    rfl
/-- the end of a pass in numbers -/
theorem m_end_nat (hR : Rs r) {s T : Nat} (hs : s < nS r) (hT : T ≤ 110000) : m_end r s (nI T) = -1 ∨ ∃ E, T < E ∧ E ≤ T + 30 ∧ m_end r s (nI T) = nI E := by
  obtain ⟨lo, re, le, ph, p, sh, nd, h1, h2, ⟨-, h3⟩, h4, h5, h6, h7, e0, e1, e2, e3, e4, e5, e6⟩ := pass_nat hR hs
  unfold m_end
  rw [e3, e4]
  by_cases h : ph ≤ T
  · rw [z_sub h, if_pos (nI_pos' (by omega)), z_div (by omega) (by omega)]
    have hO : (T - ph) / p ≤ 2000 := by
      have : (T - ph) / p ≤ (T - ph) / 60 := Nat.div_le_div_left h5.1 (by decide)
      omega
    rw [m_lasts_nat h1 h2 h3 h6 h7 hO e0 e1 e2 e5 e6, m_begin_nat e3 e4, nI_add]
    have hb : p * ((T - ph) / p) ≤ T - ph := Nat.mul_div_le _ _
    have hl := pL_le lo re le ((nd + (T - ph) / p * sh) % 360)
    generalize pL lo re le ((nd + (T - ph) / p * sh) % 360) = L at hl
    generalize p * ((T - ph) / p) = B at hb
    by_cases hx : B + ph + L ≤ T
    · rw [if_pos (nI_le hx (by omega))]; exact Or.inl rfl
    · rw [if_neg (nI_ge (by omega) (by omega))]
      exact Or.inr ⟨B + ph + L, by omega, by omega, rfl⟩
  · rw [if_neg (by
      rw [fa_le, fb_subI (by rw [nI_toInt (by omega), nI_toInt (by omega)]; omega) (by rw [nI_toInt (by omega), nI_toInt (by omega)]; omega), nI_toInt (by omega), nI_toInt (by omega), show (0 : Int32).toInt = 0 from by decide +kernel]
      omega)]
    exact Or.inl rfl
theorem C_82 (I : aI) (w : aW) (k : aQ) (hS : Sim a8 i I r) (hR : Rs r) {s T : Nat} (hs : s < nS r) (hT : T ≤ 110000) : rn 82 (a_en 82 [.inr (.inr (some (9, i))), .inr (.inr (some (18, (4 * i + s)))), .inl (nI T)] (MM I w k)) = some (.inl (some (.inl (m_end r s (nI T)))), MM I w k) := by
  obtain ⟨lo, re, le, ph, p, sh, nd, h1, h2, ⟨-, h3⟩, h4, h5, h6, h7, e0, e1, e2, e3, e4, e5, e6⟩ := pass_nat hR hs
  have hst := (hS.2.2.1 s hs).1
  refine (e82_0 I w k _ _ _).trans ?_
  rw [hst 3 (by decide), e3]
  refine (bk_v (C_79 I w k hS hR _)).trans ?_
  refine (e82_10 I w k _ _ _ _ _ _ _).trans ?_
  unfold m_end
  rw [e3, e4]
  by_cases h : ph ≤ T
  · have h0 : ¬ nI (T - ph) < 0 := nI_pos (by omega)
    rw [z_sub h, if_neg h0, if_pos (nI_pos' (by omega)), z_div (by omega) (by omega)]
    have hO : (T - ph) / p ≤ 2000 := by
      have : (T - ph) / p ≤ (T - ph) / 60 := Nat.div_le_div_left h5.1 (by decide)
      omega
    rw [zc_t (nI_n1 (by omega))]
    refine (bk_v (C_80 I w k hS hs _)).trans ?_
    refine (e82_24 I w k _ _ _ _ _ _ _).trans ?_
    rw [hst 2 (by decide), e2, m_begin_nat e3 e4]
    have hb : p * ((T - ph) / p) ≤ T - ph := Nat.mul_div_le _ _
    have el := m_lasts_nat h1 h2 h3 h6 h7 hO e0 e1 e2 e5 e6
    have hl := pL_le lo re le ((nd + (T - ph) / p * sh) % 360)
    rw [z_sub (by omega)]
    by_cases hx : T - (p * ((T - ph) / p) + ph) < le
    · rw [zc_t (nI_lt hx (by omega))]
      refine (bk_v (C_81 I w k hS hR hs hO)).trans ?_
      refine (e82_47 I w k _ _ _ _ _ _ _ _).trans ?_
      simp only [z_c, z_ri]
    · rw [zc_f (nI_nlt (by omega) (by omega)), el, nI_add, if_pos (nI_le (by omega) (by omega))]
  · have hneg : nI T - nI ph < 0 := by
      rw [fa_lt, fb_subI (by rw [nI_toInt (by omega), nI_toInt (by omega)]; omega) (by rw [nI_toInt (by omega), nI_toInt (by omega)]; omega), nI_toInt (by omega), nI_toInt (by omega), show (0 : Int32).toInt = 0 from by decide +kernel]
      omega
    rw [if_pos hneg, if_neg (fun z => (fa_of_lt hneg).2.1 z), zc_f (fun z => z rfl)]
theorem C_83 (I : aI) (w : aW) (k : aQ) (hS : Sim a8 i I r) (hR : Rs r) {s T : Nat} (hs : s < nS r) (hT : T ≤ 110000) : rn 83 (a_en 83 [.inr (.inr (some (9, i))), .inr (.inr (some (18, (4 * i + s)))), .inl (nI T)] (MM I w k)) = some (.inl (some (.inl (tf (¬ m_end r s (nI T) = -1)))), MM I w k) := by
  refine (e83_0 I w k _ _ _).trans ?_
  simp only [C_82 I w k hS hR hs hT, z_b, z_v, z_n, z_c, Nat.reduceAdd, cond_true, cond_false, tf0, tf1, tfb, ite_not, Classical.not_not, z10, z_ff, z00, z_tt, e83_0, e83_6]
  simp only [tf, z_ri, ite_not]
/-! the chosen station -/
theorem C_85L (I : aI) (w : aW) (k : aQ) (hS : Sim a8 i I r) (hR : Rs r) {T : Nat} (hT : T ≤ 110000) (pr : Int32) (hp : ¬ (r 9 = 0 ∧ ∃ p, p < nS r ∧ pr = nI p ∧ ¬ m_end r p (nI T) = -1)) : ∀ (d j : Nat) (b l : Int32) (d7 : Option aV), j + d = nS r → (l = -1 ∨ ∃ e, e < 2 ^ 31 ∧ l = nI e) → rn 85 (9, [some (.inr (.inr (some (9, i)))), some (.inl (nI T)), some (.inl pr), some (.inl (r 9)), some (.inl b), some (.inl l), some (.inl (nI j)), d7], [], MM I w k) = some (.inl (some (.inl (m_chL r (nI T) pr d j b l))), MM I w k) := by
  have h1 := hR.1.1
  have h2 := hR.1.2
  have h3 : I 9 i 3 = nI (nS r) := hS.1.1.2.2.2.trans h1
  intro d
  induction d with
  | zero =>
    intro j b l d7 hj hl
    refine (e85_9 I w k _ _ _ _ _ _ _ _).trans ?_
    rw [h3, zc_t (nI_le (by omega) (by omega))]
    rfl
  | succ d ih =>
    intro j b l d7 hj hl
    have hjs : j < nS r := by omega
    refine (e85_9 I w k _ _ _ _ _ _ _ _).trans ?_
    rw [h3, zc_f (nI_ge (by omega) (by omega)), z_in (by omega) (by decide), nI_clamp (by omega), cond_true]
    refine (bk_v (C_82 I w k hS hR hjs hT)).trans ?_
    refine (e85_30 I w k _ _ _ _ _ _ _ _ _).trans ?_
    rw [nI_1]
    have i1 := fun d7 => ih (j + 1) b l d7 (by omega) hl
    unfold m_chL
    rcases m_end_nat hR hjs hT with he | ⟨E, g1, g2, he⟩
    · have hn : ¬ l < m_end r j (nI T) := by
        rw [he]
        rcases hl with rfl | ⟨e, g, rfl⟩
        · decide
        · rw [fa_lt, nI_toInt g, show (-1 : Int32).toInt = -1 from by decide +kernel]; omega
      rw [zc_f (fun z => z he), i1, if_neg hn]
      by_cases h4 : m_end r j (nI T) = l
      · rw [if_pos h4, if_pos he]
      · rw [if_neg h4]
    · have hne : ¬ m_end r j (nI T) = -1 := by rw [he]; exact nI_n1 (by omega)
      have i2 := fun d7 => ih (j + 1) (nI j) (m_end r j (nI T)) d7 (by omega) (Or.inr ⟨E, by omega, he⟩)
      rw [zc_t hne]
      have core : ∀ d7, (cond (decide (l < m_end r j (nI T))) (rn 85 (9, [some (.inr (.inr (some (9, i)))), some (.inl (nI T)), some (.inl pr), some (.inl (r 9)), some (.inl (nI j)), some (.inl (m_end r j (nI T))), some (.inl (nI (j + 1))), d7], [], MM I w k)) (cond (decide (¬ m_end r j (nI T) = l)) (rn 85 (9, [some (.inr (.inr (some (9, i)))), some (.inl (nI T)), some (.inl pr), some (.inl (r 9)), some (.inl b), some (.inl l), some (.inl (nI (j + 1))), d7], [], MM I w k)) (cond (decide (¬ nI j = pr)) (rn 85 (9, [some (.inr (.inr (some (9, i)))), some (.inl (nI T)), some (.inl pr), some (.inl (r 9)), some (.inl b), some (.inl l), some (.inl (nI (j + 1))), d7], [], MM I w k)) (rn 85 (9, [some (.inr (.inr (some (9, i)))), some (.inl (nI T)), some (.inl pr), some (.inl (r 9)), some (.inl (nI j)), some (.inl (m_end r j (nI T))), some (.inl (nI (j + 1))), d7], [], MM I w k))))) = some (.inl (some (.inl (if l < m_end r j (nI T) then m_chL r (nI T) pr d (j + 1) (nI j) (m_end r j (nI T)) else (if m_end r j (nI T) = l then (if m_end r j (nI T) = -1 then m_chL r (nI T) pr d (j + 1) b l else (if nI j = pr then m_chL r (nI T) pr d (j + 1) (nI j) (m_end r j (nI T)) else m_chL r (nI T) pr d (j + 1) b l)) else m_chL r (nI T) pr d (j + 1) b l)))), MM I w k) := by
        intro d7
        simp only [z_c, i1, i2, z_ri, ite_not, if_neg hne]
      by_cases h9 : r 9 = 0
      · have hjp : ¬ nI j = pr := fun z => hp ⟨h9, j, hjs, z.symm, hne⟩
        rw [zc_f (fun z => z h9), zc_t hjp]
        exact core _
      · rw [zc_t h9]
        exact core _
theorem C_85S (I : aI) (w : aW) (k : aQ) (hS : Sim a8 i I r) (hR : Rs r) {T p : Nat} (hT : T ≤ 110000) (h9 : r 9 = 0) (hp : p < nS r) (hv : ¬ m_end r p (nI T) = -1) : ∀ (d j : Nat) (b l : Int32) (d7 : Option aV), j + d = p → rn 85 (9, [some (.inr (.inr (some (9, i)))), some (.inl (nI T)), some (.inl (nI p)), some (.inl (r 9)), some (.inl b), some (.inl l), some (.inl (nI j)), d7], [], MM I w k) = some (.inl (some (.inl (nI p))), MM I w k) := by
  have h1 := hR.1.1
  have h2 := hR.1.2
  have h3 : I 9 i 3 = nI (nS r) := hS.1.1.2.2.2.trans h1
  intro d
  induction d with
  | zero =>
    intro j b l d7 hj
    have hj : j = p := by omega
    subst hj
    refine (e85_9 I w k _ _ _ _ _ _ _ _).trans ?_
    rw [h3, zc_f (nI_ge (by omega) (by omega)), z_in (by omega) (by decide), nI_clamp (by omega), cond_true]
    refine (bk_v (C_82 I w k hS hR hp hT)).trans ?_
    refine (e85_30 I w k _ _ _ _ _ _ _ _ _).trans ?_
    rw [zc_t hv, zc_f (fun z => z h9), zc_f (fun z => z rfl)]
  | succ d ih =>
    intro j b l d7 hj
    have hjs : j < nS r := by omega
    refine (e85_9 I w k _ _ _ _ _ _ _ _).trans ?_
    rw [h3, zc_f (nI_ge (by omega) (by omega)), z_in (by omega) (by decide), nI_clamp (by omega), cond_true]
    refine (bk_v (C_82 I w k hS hR hjs hT)).trans ?_
    refine (e85_30 I w k _ _ _ _ _ _ _ _ _).trans ?_
    have hjp : ¬ nI j = nI p := fun z => by have := (nI_eq (by omega) (by omega)).mp z; omega
    rw [nI_1]
    simp only [z_c, ih (j + 1) _ _ _ (by omega), ite_not, if_neg hjp, ite_self]
theorem C_85 (I : aI) (w : aW) (k : aQ) (hS : Sim a8 i I r) (hR : Rs r) {T : Nat} (hT : T ≤ 110000) (pr : Int32) (hp : pr = -1 ∨ ∃ p, p < nS r ∧ pr = nI p) : rn 85 (a_en 85 [.inr (.inr (some (9, i))), .inl (nI T), .inl pr, .inl (r 9)] (MM I w k)) = some (.inl (some (.inl (m_cho r (nI T) pr))), MM I w k) := by
  have h2 := hR.1.2
  refine (e85_0 I w k _ _ _ _).trans ?_
  by_cases h : r 9 = 0 ∧ ∃ p, p < nS r ∧ pr = nI p ∧ ¬ m_end r p (nI T) = -1
  · obtain ⟨h9, p, h3, rfl, h4⟩ := h
    rw [show m_cho r (nI T) (nI p) = nI p from by unfold m_cho; rw [if_pos h9, if_neg (nI_n1 (by omega)), nI_clamp (by omega), if_neg h4]]
    exact C_85S I w k hS hR hT h9 h3 h4 p 0 _ _ _ (by omega)
  · have e := C_85L I w k hS hR hT pr h (nS r) 0 (-1) (-1) none (by omega) (Or.inl rfl)
    rw [show m_cho r (nI T) pr = m_chL r (nI T) pr (nS r) 0 (-1) (-1) from by
      unfold m_cho
      by_cases h9 : r 9 = 0
      · rw [if_pos h9]
        by_cases h5 : pr = -1
        · rw [if_pos h5]
        · rw [if_neg h5]
          obtain ⟨p, h3, rfl⟩ := hp.resolve_left h5
          rw [nI_clamp (by omega), if_pos (Classical.byContradiction (fun z => h ⟨h9, p, h3, rfl, z⟩))]
      · rw [if_neg h9]]
    exact e
end
