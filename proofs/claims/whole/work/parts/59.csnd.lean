/-! ===== the class: a frame is sent ===== -/
theorem lN_mu (a b : Nat) : lN a * lN b = lN (a * b) := (Int64.ofNat_mul a b).symm
theorem lN_su {a b : Nat} (h : b ≤ a) : lN a - lN b = lN (a - b) := (Int64.ofNat_sub a b h).symm
theorem lN_div {a b : Nat} (ha : a < 2 ^ 63) (hb : b < 2 ^ 63) : lN a / lN b = lN (a / b) := by
  apply Int64.toInt_inj.mp
  have h1 := Nat.div_le_self a b
  have e : ∀ x, x < 2 ^ 63 → (lN x).toInt = (x : Int) := fun x hx => by
    unfold lN
    exact Int64.toInt_ofNat_of_lt hx
  rw [Int64.toInt_div, e a ha, e b hb, e _ (by omega), ← Int.ofNat_tdiv]
  generalize a / b = z at h1 ⊢
  exact Int.bmod_eq_of_le (by omega) (by omega)
theorem m_dr_nat {n : Nat} (h : n < 2 ^ 31) : m_dr (nI n) = nI ((n * 1103515245 + 12345) % 2147483648) := by
  unfold m_dr
  rw [nI_l h, show (1103515245 : Int64) = lN 1103515245 from rfl, show (12345 : Int64) = lN 12345 from rfl, show (2147483648 : Int64) = lN 2147483648 from rfl, lN_mu, show lN (n * 1103515245) + lN 12345 = lN (n * 1103515245 + 12345) from (Int64.ofNat_add _ _).symm, lN_div (by omega) (by omega), lN_mu, lN_su (Nat.div_mul_le_self _ _), lN_i]
  refine congrArg nI ?_
  have := Nat.div_add_mod (n * 1103515245 + 12345) 2147483648
  omega
theorem m_dr_nn {x : Int32} (h : 0 ≤ x) : 0 ≤ m_dr x ∧ 0 ≤ m_d100 x := by
  obtain ⟨n, hn, rfl⟩ := nI_of (x := x) (fun z => (fa_of_lt z).2.1 h)
  have hm := Nat.mod_lt (n * 1103515245 + 12345) (by decide : 0 < 2147483648)
  unfold m_d100
  rw [m_dr_nat hn]
  generalize (n * 1103515245 + 12345) % 2147483648 = y at hm
  refine ⟨nI_pos' (by omega), ?_⟩
  rw [show (65536 : Int32) = nI 65536 from rfl, show (100 : Int32) = nI 100 from rfl, z_div (by omega) (by omega), z_rem (by omega) (by omega)]
  exact nI_pos' (by omega)
/-- what sending needs of a record -/
def oR (r : aR) (q : Nat) : Prop := (∃ z, z ≤ 24 ∧ r (68 + 8 * q + 0) = nI z ∧ ∀ x, x < 32 → bt (r (68 + 8 * q + 3)) x = true → x < z) ∧ (∀ x, x < 32 → bt (r (68 + 8 * q + 3)) x = true → bt (r (68 + 8 * q + 4)) x = false) ∧ ∃ p, p ≤ 9 ∧ r (68 + 8 * q + 1) = nI p
theorem oR.lw {r : aR} {q : Nat} (h : oR r q) : Lw (r (68 + 8 * q + 3)) := by
  obtain ⟨⟨z, z1, -, z3⟩, -⟩ := h
  intro x h1 h2
  exact Bool.eq_false_iff.mpr (fun y => by have := z3 x h2 y; omega)
theorem uw_s1 {r : aR} {q f c : Nat} (h : oR r q) (hf : f < 24) (hb : bt (r (68 + 8 * q + 3)) f = true) : m_uw (m_s1 q f c r) q = m_uw r q ||| ((1 : Int32) <<< (nI f &&& 31)) := by
  obtain ⟨⟨z, z1, z2, z3⟩, h2, -⟩ := h
  have e0 : m_full (m_s1 q f c r) q = m_full r q := by unfold m_full m_s1; rw [upd_n _ _ _ (by omega), upd_n _ _ _ (by omega)]
  have e3 : m_s1 q f c r (68 + 8 * q + 3) = r (68 + 8 * q + 3) &&& (((1 : Int32) <<< (nI f &&& 31)) ^^^ (-1)) := by unfold m_s1; rw [upd_n _ _ _ (by omega), upd_s]
  have e4 : m_s1 q f c r (68 + 8 * q + 4) = r (68 + 8 * q + 4) := by unfold m_s1; rw [upd_n _ _ _ (by omega), upd_n _ _ _ (by omega)]
  have hfull : bt (m_full r q) f = true := by
    unfold m_full m_fl
    rw [z2, b_fl z (by omega) f (by omega)]
    exact decide_eq_true (z3 f (by omega) hb)
  have hkn := h2 f (by omega) hb
  apply b_ext
  intro i hi
  rw [b_or, bt_uw _ _ hi, bt_uw _ _ hi, e0, e3, e4, b_and, b_not _ hi, b_one f (by omega) i hi]
  by_cases e : i = f
  · subst e
    rw [hfull, hkn, decide_eq_true rfl]
    simp
  · rw [decide_eq_false e]
    cases bt (m_full r q) i <;> cases bt (r (68 + 8 * q + 3)) i <;> cases bt (r (68 + 8 * q + 4)) i <;> rfl
section
variable {a8 : Int32} {i : Nat}
/-- a field of a record that nothing else depends on -/
theorem Sim_rs {I : aI} {r : aR} (hS : Sim a8 i I r) (hn : nR r ≤ 40) (h4 : nS r ≤ 4) {q jc jr : Nat} (hq : q < nR r) (h : (jc = 1 ∧ jr = 1) ∨ (jc = 6 ∧ jr = 5) ∨ (jc = 7 ∧ jr = 6) ∨ (jc = 8 ∧ jr = 7)) (v : Int32) : Sim a8 i (a_setI I 14 (40 * i + q) jc v) (upd r (68 + 8 * q + jr) v) := by
  have e : ∀ x, x ≠ 68 + 8 * q + jr → upd r (68 + 8 * q + jr) v x = r x := fun x hx => upd_n _ _ _ hx
  refine Sim_rec hS hn h4 hq (fun s Q z => ?_) (fun x hx _ => e x (hx jr (by omega))) ?_
  · funext y; rw [gI, if_neg (fun u => z ⟨Or.inl u.1, u.2.2⟩)]
  · obtain ⟨⟨a0, a1, a2, a3⟩, b, ⟨c0, c1, c2, c3⟩, d⟩ := hS.2.2.2.2.1 q hq
    rw [gI_u]
    have fin : ∀ yc yr, (yc = jc ↔ yr = jr) → I 14 (40 * i + q) yc = r (68 + 8 * q + yr) → upd (I 14 (40 * i + q)) jc v yc = upd r (68 + 8 * q + jr) v (68 + 8 * q + yr) := by
      intro yc yr hy hz
      by_cases e1 : yc = jc
      · have e2 := hy.mp e1
        subst e1 e2
        rw [upd_s, upd_s]
      · have e2 : ¬ yr = jr := fun z => e1 (hy.mpr z)
        rw [upd_n _ _ _ e1, e _ (by omega)]; exact hz
    refine ⟨⟨fin 0 0 (by omega) a0, fin 1 1 (by omega) a1, fin 2 2 (by omega) a2, fin 3 3 (by omega) a3⟩, ?_, ⟨fin 5 4 (by omega) c0, fin 6 5 (by omega) c1, fin 7 6 (by omega) c2, fin 8 7 (by omega) c3⟩, fun x hx => ?_⟩
    · rw [upd_n _ _ _ (by omega), m_uw_c (e _ (by omega)) (e _ (by omega)) (e _ (by omega))]; exact b
    · rw [show a_setI I 14 (40 * i + q) jc v 6 = I 6 from rfl, e _ (by omega)]; exact d x hx
theorem Fr_14 {q : Nat} (hq : q < 40) (I : aI) (j : Nat) (v : Int32) : Fr i I (a_setI I 14 (40 * i + q) j v) := Fr.set (show own i 14 (40 * i + q) from own_q hq) _ _ _
theorem Fr_13 (I : aI) (j : Nat) (v : Int32) : Fr i I (a_setI I 13 i j v) := Fr.set (show own i 13 i from rfl) _ _ _
theorem Fr_20 (I : aI) (j : Nat) (v : Int32) : Fr i I (a_setI I 20 i j v) := Fr.set (show own i 20 i from rfl) _ _ _
theorem Fr_19 {s : Nat} (hs : s < 4) (I : aI) (j : Nat) (v : Int32) : Fr i I (a_setI I 19 (4 * i + s) j v) := Fr.set (show own i 19 (4 * i + s) from own_s hs) _ _ _
theorem C_69 (I : aI) (w : aW) (k : aQ) {r : aR} {q f : Nat} {t : Int32} (hS : Sim a8 i I r) (hn : nR r ≤ 40) (h4 : nS r ≤ 4) (hq : q < nR r) (hf : f < 24) (ht : r 5 = t) : ∃ I', rn 69 (a_en 69 [.inr (.inr (some (20, i))), .inr (.inr (some (14, (40 * i + q)))), .inl (nI f)] (MM I w k)) = some (.inl none, MM I' w k) ∧ Sim a8 i I' (m_rc q f t r) ∧ Fr i I I' := by
  have hk := hS.2.2.2.2.1 q hq
  have h6 : I 14 (40 * i + q) 6 = r (68 + 8 * q + 5) := hk.2.2.1.2.1
  have st := e69_0 I w k i (40 * i + q) (nI f)
  by_cases h1 : (r (68 + 8 * q + 5) >>> (nI f &&& 31)) &&& 1 = 1
  · have f2 : I 13 i 2 = r 18 := hS.2.1 2 (by omega)
    refine ⟨_, st.trans ((zc_f (by rw [h6, b_nhas _ (by omega), (b_has _ (by omega)).mp h1]; exact Bool.noConfusion)).trans rfl), ?_, Fr_13 _ _ _⟩
    rw [f2, show m_rc q f t r = upd r 18 (r 18 + 1) from if_pos h1]
    exact Sim_fig hS (j := 2) (by omega) _
  · have hb : bt (r (68 + 8 * q + 5)) f = false := Bool.eq_false_iff.mpr (fun z => h1 ((b_has _ (by omega)).mpr z))
    have hS1 := Sim_rs hS hn h4 hq (jc := 6) (jr := 5) (by omega) (r (68 + 8 * q + 5) ||| ((1 : Int32) <<< (nI f &&& 31)))
    have f3 : I 13 i 3 = upd r (68 + 8 * q + 5) (r (68 + 8 * q + 5) ||| ((1 : Int32) <<< (nI f &&& 31))) 19 := hS1.2.1 3 (by omega)
    have hS2 := Sim_fig hS1 (j := 3) (by omega) (upd r (68 + 8 * q + 5) (r (68 + 8 * q + 5) ||| ((1 : Int32) <<< (nI f &&& 31))) 19 + 1)
    have hS2 : Sim a8 i (a_setI (a_setI I 14 (40 * i + q) 6 (r (68 + 8 * q + 5) ||| ((1 : Int32) <<< (nI f &&& 31)))) 13 i 3 (upd r (68 + 8 * q + 5) (r (68 + 8 * q + 5) ||| ((1 : Int32) <<< (nI f &&& 31))) 19 + 1)) (m_rc1 q f r) := hS2
    have e1 : ∀ x, x ≠ 68 + 8 * q + 5 → x ≠ 19 → m_rc1 q f r x = r x := fun x a b => by unfold m_rc1; rw [upd_n _ _ _ b, upd_n _ _ _ a]
    have hR1 : nR (m_rc1 q f r) = nR r := nR_c (e1 4 (by omega) (by omega))
    have hS1' : nS (m_rc1 q f r) = nS r := nS_c (e1 3 (by omega) (by omega))
    have hk2 := hS2.2.2.2.2.1 q (by omega)
    rw [h6, zc_t ((b_nhas _ (by omega)).mpr hb), f3, gI_u, upd_s] at st
    generalize hI2 : a_setI (a_setI I 14 (40 * i + q) 6 (r (68 + 8 * q + 5) ||| ((1 : Int32) <<< (nI f &&& 31)))) 13 i 3 (upd r (68 + 8 * q + 5) (r (68 + 8 * q + 5) ||| ((1 : Int32) <<< (nI f &&& 31))) 19 + 1) = I2 at st hS2 hk2
    have e5 : m_rc1 q f r (68 + 8 * q + 5) = r (68 + 8 * q + 5) ||| ((1 : Int32) <<< (nI f &&& 31)) := by unfold m_rc1; rw [upd_n _ _ _ (by omega), upd_s]
    have fr2 : Fr i I I2 := by rw [← hI2]; exact (Fr_14 (by omega) _ _ _).trans (Fr_13 _ _ _)
    have go : rn 69 (a_en 69 [.inr (.inr (some (20, i))), .inr (.inr (some (14, (40 * i + q)))), .inl (nI f)] (MM I w k)) = cond (decide (¬ m_rc1 q f r (68 + 8 * q + 5) = m_full (m_rc1 q f r) q)) (some (.inl none, MM I2 w k)) (some (.inl none, MM (a_setI (a_setI I2 14 (40 * i + q) 7 (I2 20 i 8)) 13 i 4 (I2 13 i 4 + 1)) w k)) := by
      refine st.trans ?_
      refine (bk_v (e9_0 I2 w k _)).trans ?_
      refine (e69_52 I2 w k _ _ _ _ _).trans ?_
      rw [e5, hk2.1.1]
      rfl
    by_cases h2 : m_rc1 q f r (68 + 8 * q + 5) = m_full (m_rc1 q f r) q
    · have t8 : I2 20 i 8 = t := by rw [hS2.1.2.2.1.2.2.2, e1 5 (by omega) (by omega)]; exact ht
      have hS3 := Sim_rs hS2 (by omega) (by omega) (q := q) (jc := 7) (jr := 6) (by omega) (by omega) t
      have f4 : I2 13 i 4 = upd (m_rc1 q f r) (68 + 8 * q + 6) t 20 := hS3.2.1 4 (by omega)
      refine ⟨_, go.trans (zc_f (fun z => z h2)), ?_, fr2.trans ((Fr_14 (by omega) _ _ _).trans (Fr_13 _ _ _))⟩
      rw [t8, f4, show m_rc q f t r = m_rc2 q t (m_rc1 q f r) from (if_neg h1).trans (if_pos h2)]
      exact Sim_fig hS3 (j := 4) (by omega) _
    · refine ⟨I2, go.trans (zc_t h2), ?_, fr2⟩
      rw [show m_rc q f t r = m_rc1 q f r from (if_neg h1).trans (if_neg h2)]
      exact hS2
theorem C_68A (w : aW) (k : aQ) {q f s c : Nat} {t : Int32} (hq : q < 40) (hf : f < 24) (hs4 : s < 4) (I5 : aI) (r5 : aR) (h5 : Sim a8 i I5 r5) (h4 : nS r5 ≤ 4) (hn : nR r5 ≤ 40) (hs : s < nS r5) (hqr : q < nR r5) (c1 : c < nC r5) (c2 : nC r5 ≤ c + 60) (ht5 : r5 5 = t) : ∃ I', cond (a_inb (nI q) 40) (cond (a_inb (nI q) 40) ((rn 69 (a_en 69 [.inr (.inr (some (20, i))), .inr (.inr (some (14, (40 * i + q)))), .inl (nI f)] (MM (a_setI (a_setI I5 5 (60 * i + c % 60) q (I5 5 (60 * i + c % 60) q ||| ((1 : Int32) <<< (nI f &&& 31)))) 19 (4 * i + s) 3 (I5 19 (4 * i + s) 3 + 1)) w k))).bind (fun o => a_bk 68 69 (116, [some (.inr (.inr (some (20, i)))), some (.inr (.inr (some (15, 60 * i + c % 60)))), some (.inr (.inr (some (18, 4 * i + s)))), some (.inl (nI q)), some (.inr (.inr (some (14, 40 * i + q)))), some (.inl (nI f))], [], MM (a_setI (a_setI I5 5 (60 * i + c % 60) q (I5 5 (60 * i + c % 60) q ||| ((1 : Int32) <<< (nI f &&& 31)))) 19 (4 * i + s) 3 (I5 19 (4 * i + s) 3 + 1)) w k) o (rn 68))) none) none = some (.inl none, MM I' w k) ∧ Sim a8 i I' (m_rc q f t (m_s4 q f c s r5)) ∧ Fr i I5 I' := by
  have hm := Nat.mod_lt c (by decide : 0 < 60)
  have k5 : I5 5 (60 * i + c % 60) q = r5 (1348 + 84 * (c % 60) + 44 + q) := ((h5.2.2.2.2.2 c (by omega) (by omega)).2.2 q (by omega)).2
  have h6 := Sim_got h5 (by omega) (by omega) (c := c) (q := q) (by omega) (by omega) (by omega) (r5 (1348 + 84 * (c % 60) + 44 + q) ||| ((1 : Int32) <<< (nI f &&& 31)))
  have e6 : ∀ x, x ≠ 1348 + 84 * (c % 60) + 44 + q → upd r5 (1348 + 84 * (c % 60) + 44 + q) (r5 (1348 + 84 * (c % 60) + 44 + q) ||| ((1 : Int32) <<< (nI f &&& 31))) x = r5 x := fun x a => upd_n _ _ _ a
  have hN6 := nS_c (e6 3 (by omega))
  have k19 : I5 19 (4 * i + s) 3 = upd r5 (1348 + 84 * (c % 60) + 44 + q) (r5 (1348 + 84 * (c % 60) + 44 + q) ||| ((1 : Int32) <<< (nI f &&& 31))) (24 + 11 * s + 6 + 3) := (h6.2.2.1 s (by omega)).2.2.2 3 (by omega)
  have h7 := Sim_sfg h6 (by omega) (s := s) (j := 3) (by omega) (by omega) (upd r5 (1348 + 84 * (c % 60) + 44 + q) (r5 (1348 + 84 * (c % 60) + 44 + q) ||| ((1 : Int32) <<< (nI f &&& 31))) (24 + 11 * s + 6 + 3) + 1)
  have h7 : Sim a8 i _ (m_s4 q f c s r5) := h7
  have e7 : ∀ x, x ≠ 1348 + 84 * (c % 60) + 44 + q → x ≠ 24 + 11 * s + 6 + 3 → m_s4 q f c s r5 x = r5 x := fun x a b => by unfold m_s4 m_ct; rw [upd_n _ _ _ b, e6 x a]
  obtain ⟨I', g1, g2, g3⟩ := C_69 _ w k h7 (q := q) (f := f) (t := t) (by rw [nR_c (e7 4 (by omega) (by omega))]; omega) (by rw [nS_c (e7 3 (by omega) (by omega))]; omega) (by rw [nR_c (e7 4 (by omega) (by omega))]; omega) hf (by rw [e7 5 (by omega) (by omega)]; exact ht5)
  refine ⟨I', ?_, g2, ((Fr.set (show own i 5 (60 * i + c % 60) from own_c hm) _ _ _).trans (Fr_19 hs4 _ _ _)).trans g3⟩
  rw [z_in (by omega) (by decide), cond_true, cond_true, k5, k19]
  refine (bk_n g1).trans ?_
  exact e68_119 I' w k _ _ _ _ _ _
theorem C_70 (I : aI) (w : aW) (k : aQ) : rn 70 (a_en 70 [.inr (.inr (some (20, i)))] (MM I w k)) = some (.inl (some (.inl (m_d100 (I 20 i 9)))), MM (a_setI I 20 i 9 (m_dr (I 20 i 9))) w k) := by
  refine (e70_0 I w k _).trans ?_
  rw [gI_u, upd_s]
  rfl
theorem C_68 (I : aI) (w : aW) (k : aQ) {r : aR} {q s c : Nat} {t : Int32} (hS : Sim a8 i I r) (hn : nR r ≤ 40) (h4 : nS r ≤ 4) (hq : q < nR r) (hs : s < nS r) (c1 : c < nC r) (c2 : nC r ≤ c + 60) (ht : r 5 = t) (hx : ¬ r (68 + 8 * q + 3) = 0) (ho : oR r q) : ∃ I', rn 68 (a_en 68 [.inr (.inr (some (20, i))), .inr (.inr (some (15, (60 * i + c % 60)))), .inr (.inr (some (18, (4 * i + s)))), .inl (nI q)] (MM I w k)) = some (.inl none, MM I' w k) ∧ Sim a8 i I' (m_snd a8 q s c t r) ∧ Fr i I I' := by
  have hm := Nat.mod_lt c (by decide : 0 < 60)
  have hs4 : s < 4 := by omega
  have hk := hS.2.2.2.2.1 q hq
  have hc := hS.2.2.2.2.2 c c1 c2
  have hx3 : I 14 (40 * i + q) 3 = r (68 + 8 * q + 3) := hk.1.2.2.2
  obtain ⟨hf, hb⟩ := m_lo_24 (ho.lw.ex hx)
  have c11 := C_11 I w k (Q := 40 * i + q) (by rw [hx3]; exact ho.lw)
  rw [hx3, if_neg hx] at c11
  unfold m_snd
  generalize m_lo (r (68 + 8 * q + 3)) 24 0 = f at hf hb c11
  have hb := (b_has _ (by omega)).mp hb
  -- the frame is noted
  generalize hI1 : a_setI (a_setI (a_setI I 14 (40 * i + q) 3 (I 14 (40 * i + q) 3 &&& (((1 : Int32) <<< (nI f &&& 31)) ^^^ (-1)))) 14 (40 * i + q) 4 (I 14 (40 * i + q) 4 ||| ((1 : Int32) <<< (nI f &&& 31)))) 6 (40 * i + q) f (nI c) = I1
  have n1 : ∀ y Q, ¬ ((y = 14 ∨ y = 6) ∧ Q = 40 * i + q) → I1 y Q = I y Q := by
    intro y Q h
    rw [← hI1]
    funext z
    rw [gI, gI, gI, if_neg (fun u => h ⟨Or.inr u.1, u.2.2⟩), if_neg (fun u => h ⟨Or.inl u.1, u.2.2⟩), if_neg (fun u => h ⟨Or.inl u.1, u.2.2⟩)]
  have es1 : ∀ x, x ≠ 68 + 8 * q + 3 → x ≠ 388 + 24 * q + f → m_s1 q f c r x = r x := fun x a b => by unfold m_s1; rw [upd_n _ _ _ b, upd_n _ _ _ a]
  have k1 : kRe1 (I1 14 (40 * i + q)) (I1 6 (40 * i + q)) (m_s1 q f c r) q := by
    obtain ⟨⟨a0, a1, a2, a3⟩, b, ⟨d0, d1, d2, d3⟩, d⟩ := hk
    have r14 : I1 14 (40 * i + q) = upd (upd (I 14 (40 * i + q)) 3 (I 14 (40 * i + q) 3 &&& (((1 : Int32) <<< (nI f &&& 31)) ^^^ (-1)))) 4 (I 14 (40 * i + q) 4 ||| ((1 : Int32) <<< (nI f &&& 31))) := by
      rw [← hI1, show a_setI (a_setI (a_setI I 14 (40 * i + q) 3 (I 14 (40 * i + q) 3 &&& (((1 : Int32) <<< (nI f &&& 31)) ^^^ (-1)))) 14 (40 * i + q) 4 (I 14 (40 * i + q) 4 ||| ((1 : Int32) <<< (nI f &&& 31)))) 6 (40 * i + q) f (nI c) 14 = a_setI (a_setI I 14 (40 * i + q) 3 (I 14 (40 * i + q) 3 &&& (((1 : Int32) <<< (nI f &&& 31)) ^^^ (-1)))) 14 (40 * i + q) 4 (I 14 (40 * i + q) 4 ||| ((1 : Int32) <<< (nI f &&& 31))) 14 from rfl, gI_u, gI_u]
    have r6 : I1 6 (40 * i + q) = upd (I 6 (40 * i + q)) f (nI c) := by rw [← hI1, gI_u]; rfl
    rw [r14, r6]
    refine ⟨⟨?_, ?_, ?_, ?_⟩, ?_, ⟨?_, ?_, ?_, ?_⟩, fun x hx => ?_⟩
    · rw [upd_n _ _ _ (by omega), upd_n _ _ _ (by omega), es1 _ (by omega) (by omega)]; exact a0
    · rw [upd_n _ _ _ (by omega), upd_n _ _ _ (by omega), es1 _ (by omega) (by omega)]; exact a1
    · rw [upd_n _ _ _ (by omega), upd_n _ _ _ (by omega), es1 _ (by omega) (by omega)]; exact a2
    · rw [upd_n _ _ _ (by omega), upd_s, a3]; unfold m_s1; rw [upd_n _ _ _ (by omega), upd_s]
    · rw [upd_s, b, uw_s1 ho hf hb]
    · rw [upd_n _ _ _ (by omega), upd_n _ _ _ (by omega), es1 _ (by omega) (by omega)]; exact d0
    · rw [upd_n _ _ _ (by omega), upd_n _ _ _ (by omega), es1 _ (by omega) (by omega)]; exact d1
    · rw [upd_n _ _ _ (by omega), upd_n _ _ _ (by omega), es1 _ (by omega) (by omega)]; exact d2
    · rw [upd_n _ _ _ (by omega), upd_n _ _ _ (by omega), es1 _ (by omega) (by omega)]; exact d3
    · by_cases e : x = f
      · subst e; rw [upd_s]; unfold m_s1; rw [upd_s]
      · rw [upd_n _ _ _ e, es1 _ (by omega) (by omega)]; exact d x hx
  have hS1 : Sim a8 i I1 (m_s1 q f c r) := Sim_rec hS hn h4 hq n1 (fun x a b => es1 x (a 3 (by omega)) (b f hf)) k1
  have hC1 : nC (m_s1 q f c r) = nC r := nC_c (es1 12 (by omega) (by omega))
  have hR1 : nR (m_s1 q f c r) = nR r := nR_c (es1 4 (by omega) (by omega))
  have hN1 : nS (m_s1 q f c r) = nS r := nS_c (es1 3 (by omega) (by omega))
  have k4 : I1 4 (60 * i + c % 60) q = m_s1 q f c r (1348 + 84 * (c % 60) + 4 + q) := ((hS1.2.2.2.2.2 c (by omega) (by omega)).2.2 q (by omega)).1
  -- in the contact's row
  have hS2 := Sim_snt hS1 (by omega) (by omega) (c := c) (q := q) (by omega) (by omega) (by omega) (m_s1 q f c r (1348 + 84 * (c % 60) + 4 + q) ||| ((1 : Int32) <<< (nI f &&& 31)))
  have hS2 : Sim a8 i (a_setI I1 4 (60 * i + c % 60) q (m_s1 q f c r (1348 + 84 * (c % 60) + 4 + q) ||| ((1 : Int32) <<< (nI f &&& 31)))) (m_s2 q f c r) := hS2
  have es2 : ∀ x, x ≠ 1348 + 84 * (c % 60) + 4 + q → m_s2 q f c r x = m_s1 q f c r x := fun x a => upd_n _ _ _ a
  have f0 : I1 13 i 0 = m_s2 q f c r 16 := hS2.2.1 0 (by omega)
  have hS3 := Sim_fig hS2 (j := 0) (by omega) (m_s2 q f c r 16 + 1)
  have hS3 : Sim a8 i _ (upd (m_s2 q f c r) 16 (m_s2 q f c r 16 + 1)) := hS3
  have hN3 : nS (upd (m_s2 q f c r) 16 (m_s2 q f c r 16 + 1)) = nS r := by rw [← hN1]; exact nS_c (by rw [upd_n _ _ _ (by omega), es2 _ (by omega)])
  have f19 : I1 19 (4 * i + s) 2 = upd (m_s2 q f c r) 16 (m_s2 q f c r 16 + 1) (24 + 11 * s + 6 + 2) := (hS3.2.2.1 s (by omega)).2.2.2 2 (by omega)
  have hS4 := Sim_sfg hS3 (by omega) (s := s) (j := 2) (by omega) (by omega) (upd (m_s2 q f c r) 16 (m_s2 q f c r 16 + 1) (24 + 11 * s + 6 + 2) + 1)
  have hS4 : Sim a8 i _ (m_s3 q f c s r) := hS4
  generalize hI4 : a_setI (a_setI (a_setI I1 4 (60 * i + c % 60) q (m_s1 q f c r (1348 + 84 * (c % 60) + 4 + q) ||| ((1 : Int32) <<< (nI f &&& 31)))) 13 i 0 (m_s2 q f c r 16 + 1)) 19 (4 * i + s) 2 (upd (m_s2 q f c r) 16 (m_s2 q f c r 16 + 1) (24 + 11 * s + 6 + 2) + 1) = I4 at hS4
  have fr4 : Fr i I I4 := by
    rw [← hI4]
    exact (((Fr_rec (by omega) n1).trans (Fr.set (show own i 4 (60 * i + c % 60) from own_c hm) _ _ _)).trans (Fr_13 _ _ _)).trans (Fr_19 hs4 _ _ _)
  have e3 : ∀ x, x ≠ 68 + 8 * q + 3 → x ≠ 388 + 24 * q + f → x ≠ 1348 + 84 * (c % 60) + 4 + q → x ≠ 16 → x ≠ 24 + 11 * s + 6 + 2 → m_s3 q f c s r x = r x := by
    intro x a b d e g
    unfold m_s3 m_ct
    rw [upd_n _ _ _ g, upd_n _ _ _ e, es2 x d, es1 x a b]
  have t4 : m_s3 q f c s r 5 = t := by rw [e3 5 (by omega) (by omega) (by omega) (by omega) (by omega)]; exact ht
  have hN4 : nS (m_s3 q f c s r) = nS r := nS_c (e3 3 (by omega) (by omega) (by omega) (by omega) (by omega))
  have hR4 : nR (m_s3 q f c s r) = nR r := nR_c (e3 4 (by omega) (by omega) (by omega) (by omega) (by omega))
  have hC4 : nC (m_s3 q f c s r) = nC r := nC_c (e3 12 (by omega) (by omega) (by omega) (by omega) (by omega))
  -- the draw
  have hnn := hS4.1.2.2.2.2
  have h14 := hS4.1.2.2.2.1
  obtain ⟨dv, dd, d1, d2, d3⟩ : ∃ dv dd : Int32, dv = m_dr (I4 20 i 9) ∧ dd = m_d100 (I4 20 i 9) ∧ rn 70 (a_en 70 [.inr (.inr (some (20, i)))] (MM I4 w k)) = some (.inl (some (.inl dd)), MM (a_setI I4 20 i 9 dv) w k) := ⟨_, _, rfl, rfl, C_70 I4 w k⟩
  have hdr : 0 ≤ dv ∧ 0 ≤ dd := by rw [d1, d2]; exact m_dr_nn hnn
  have hS5 := Sim_rnd hS4 hdr.1
  have run : rn 68 (a_en 68 [.inr (.inr (some (20, i))), .inr (.inr (some (15, (60 * i + c % 60)))), .inr (.inr (some (18, (4 * i + s)))), .inl (nI q)] (MM I w k)) = rn 68 (70, [some (.inr (.inr (some (20, i)))), some (.inr (.inr (some (15, (60 * i + c % 60))))), some (.inr (.inr (some (18, (4 * i + s))))), some (.inl (nI q)), some (.inr (.inr (some (14, (40 * i + q))))), some (.inl (nI f))], [.inl dd], MM (a_setI I4 20 i 9 dv) w k) := by
    refine (e68_0 I w k _ _ _ _).trans ?_
    rw [z_in (by omega) (by decide), nI_clamp (by omega), cond_true]
    refine (bk_v c11).trans ?_
    refine (e68_13 I w k _ _ _ _ _ _ _).trans ?_
    rw [zc_t (nI_n1 (by omega)), hc.1]
    refine (bk_n (show rn 12 (a_en 12 [.inr (.inr (some (14, (40 * i + q)))), .inl (nI f), .inl (nI c)] (MM I w k)) = some (.inl none, MM I1 w k) from ?_)).trans ?_
    · refine (e12_0 I w k _ _ _).trans ?_
      rw [z_in hf (by decide), nI_clamp (by omega), cond_true, hI1]
    · refine (e68_33 I1 w k _ _ _ _ _ _).trans ?_
      rw [z_in (by omega) (by decide), nI_clamp (by omega), cond_true, cond_true, k4, f0, f19, hI4]
      exact bk_v d3
  have hst4 := hS4.2.2.1 s (by omega)
  have loss : (a_setI I4 20 i 9 dv) 18 (4 * i + s) 5 = I4 18 (4 * i + s) 5 := rfl
  have go := e68_70 (a_setI I4 20 i 9 dv) w k i (60 * i + c % 60) (4 * i + s) (nI q) (40 * i + q) (nI f) dd
  rw [loss, nI_clamp (show q < 2 ^ 31 by omega)] at go
  by_cases h8 : a8 = 0
  · rw [if_pos h8] at hS5
    rw [h14 h8] at d1 d2
    have hl : I4 18 (4 * i + s) 5 = upd (m_s3 q f c s r) 14 dv (24 + 11 * s + 5) := by rw [upd_n _ _ _ (by omega)]; exact hst4.2.1 h8
    rw [hl] at go
    by_cases h9 : upd (m_s3 q f c s r) 14 dv (24 + 11 * s + 5) ≤ dd
    · rw [zc_t h9] at go
      obtain ⟨I', g1, g2, g3⟩ := C_68A w k (t := t) (show q < 40 by omega) hf hs4 _ _ hS5 (by rw [nS_c (upd_n _ _ _ (by omega))]; omega) (by rw [nR_c (upd_n _ _ _ (by omega))]; omega) (by rw [nS_c (upd_n _ _ _ (by omega))]; omega) (by rw [nR_c (upd_n _ _ _ (by omega))]; omega) (c := c) (by rw [nC_c (upd_n _ _ _ (by omega))]; omega) (by rw [nC_c (upd_n _ _ _ (by omega))]; omega) (by rw [upd_n _ _ _ (by omega)]; exact t4)
      refine ⟨I', run.trans (go.trans g1), ?_, (fr4.trans (Fr_20 _ _ _)).trans g3⟩
      rw [d1, d2] at h9
      rw [d1] at g2
      unfold m_sf
      rw [if_pos h8, if_pos h9]
      exact g2
    · rw [zc_f h9] at go
      have f1 : (a_setI I4 20 i 9 dv) 13 i 1 = upd (m_s3 q f c s r) 14 dv 17 := hS5.2.1 1 (by omega)
      have hS6 := Sim_fig hS5 (j := 1) (by omega) (upd (m_s3 q f c s r) 14 dv 17 + 1)
      refine ⟨_, run.trans go, ?_, (fr4.trans (Fr_20 _ _ _)).trans (Fr_13 _ _ _)⟩
      rw [f1]
      rw [d1, d2] at h9
      unfold m_sf
      rw [if_pos h8, if_neg h9, ← d1]
      exact hS6
  · rw [if_neg h8] at hS5
    rw [hst4.2.2.1 h8, zc_t hdr.2] at go
    obtain ⟨I', g1, g2, g3⟩ := C_68A w k (t := t) (show q < 40 by omega) hf hs4 _ _ hS5 (by omega) (by omega) (by omega) (by omega) (c := c) (by omega) (by omega) t4
    refine ⟨I', run.trans (go.trans g1), ?_, (fr4.trans (Fr_20 _ _ _)).trans g3⟩
    unfold m_sf
    rw [if_neg h8]
    exact g2
end
