/-! ===== the class: frames that are to send again ===== -/
theorem fa_comm2 (f : aR) {x y : Nat} (h : x ≠ y) (u v : Int32) : upd (upd f x u) y v = upd (upd f y v) x u := fa_upd_swap f h u v
def cS (I : aI) (Q : Nat) (ts uw : Int32) : aI := a_cpI I 14 Q (upd (upd (I 14 Q) 4 uw) 3 ts)
theorem cS_self (I : aI) (Q : Nat) : cS I Q (I 14 Q 3) (I 14 Q 4) = I := by
  funext s q j
  unfold cS
  rw [gC, fa_upd_same (f := I 14 Q) (i := 4) rfl, fa_upd_same (f := I 14 Q) (i := 3) rfl]
  by_cases h : s = 14 ∧ q = Q
  · rw [if_pos h, h.1, h.2]
  · rw [if_neg h]
theorem cS_row (I : aI) (Q : Nat) (ts uw : Int32) : cS I Q ts uw 14 Q = upd (upd (I 14 Q) 4 uw) 3 ts := by
  funext j; unfold cS; rw [gC, if_pos ⟨rfl, rfl⟩]
theorem cS_6 (I : aI) (Q : Nat) (ts uw : Int32) : cS I Q ts uw 6 = I 6 := rfl
theorem cS_set (I : aI) (Q : Nat) (ts uw ts' uw' : Int32) : a_setI (a_setI (cS I Q ts uw) 14 Q 4 uw') 14 Q 3 ts' = cS I Q ts' uw' := by
  funext s q j
  rw [gI, gI]
  unfold cS
  rw [gC, gC]
  unfold upd
  by_cases h1 : s = 14 <;> by_cases h2 : q = Q <;> by_cases h3 : j = 3 <;> by_cases h4 : j = 4 <;> simp [h1, h2, h3, h4]
theorem cS_ne (I : aI) (Q : Nat) (ts uw : Int32) (s q : Nat) (h : ¬ (s = 14 ∧ q = Q)) : cS I Q ts uw s q = I s q := by
  funext j; unfold cS; rw [gC, if_neg h]
noncomputable def c_su (L : aR) (ag c : Int32) : Nat → Nat → Int32 → Int32
  | 0, _, u => u
  | d + 1, j, u => if (ag >>> (nI j &&& 31)) &&& 1 = 1 then (if L j = c then c_su L ag c d (j + 1) (u &&& (((1 : Int32) <<< (nI j &&& 31)) ^^^ (-1))) else c_su L ag c d (j + 1) u) else c_su L ag c d (j + 1) u
theorem h_00 {j : Nat} (h : j < 32) : ¬ ((0 : Int32) >>> (nI j &&& 31)) &&& 1 = 1 := fun z => by
  have := (b_has 0 h).mp z
  rw [b_0] at this
  cases this
theorem sa_0 {L : aR} {c : Int32} : ∀ (d j : Nat) (t : Int32), j + d ≤ 32 → m_sa L 0 c d j t = t ∧ c_su L 0 c d j t = t
  | 0, _, _, _ => ⟨rfl, rfl⟩
  | d + 1, j, t, h => by
    have := sa_0 (L := L) (c := c) d (j + 1) t (by omega)
    have h0 := h_00 (j := j) (by omega)
    exact ⟨(if_neg h0).trans this.1, (if_neg h0).trans this.2⟩
theorem C_14L (I : aI) (w : aW) (k : aQ) {Q : Nat} (d1 : Option aV) (ag c : Int32) : ∀ (d j : Nat) (ts uw : Int32), j + d = 24 → rn 14 (10, [some (.inr (.inr (some (14, Q)))), d1, some (.inl c), some (.inl ag), some (.inl (nI j))], [], MM (cS I Q ts uw) w k) = some (.inl none, MM (cS I Q (m_sa (I 6 Q) ag c d j ts) (c_su (I 6 Q) ag c d j uw)) w k) := by
  intro d
  induction d with
  | zero =>
    intro j ts uw hj
    refine (e14_10 _ w k _ _ _ _ _).trans ?_
    rw [zc_t (show (24 : Int32) ≤ nI j from nI_le (a := 24) (by omega) (by omega))]
    rfl
  | succ d ih =>
    intro j ts uw hj
    refine (e14_10 _ w k _ _ _ _ _).trans ?_
    rw [zc_f (show ¬ (24 : Int32) ≤ nI j from nI_ge (b := 24) (by omega) (by omega))]
    by_cases h0 : ag = 0
    · rw [zc_t h0]
      subst h0
      rw [(sa_0 (d + 1) j ts (by omega)).1, (sa_0 (d + 1) j uw (by omega)).2]
    · rw [zc_f h0, nI_1]
      by_cases h1 : (ag >>> (nI j &&& 31)) &&& 1 = 1
      · rw [zc_f (by rw [b_nhas _ (by omega), (b_has _ (by omega)).mp h1]; exact Bool.noConfusion), z_in (by omega) (by decide), nI_clamp (by omega), cond_true, cS_6, cS_set, cS_row, upd_s, upd_n _ _ _ (by omega), upd_s]
        by_cases h2 : I 6 Q j = c
        · rw [zc_f (fun z => z h2), ih (j + 1) _ _ (by omega)]
          rw [show m_sa (I 6 Q) ag c (d + 1) j ts = m_sa (I 6 Q) ag c d (j + 1) (ts ||| ((1 : Int32) <<< (nI j &&& 31))) from (if_pos h1).trans (if_pos h2), show c_su (I 6 Q) ag c (d + 1) j uw = c_su (I 6 Q) ag c d (j + 1) (uw &&& (((1 : Int32) <<< (nI j &&& 31)) ^^^ (-1))) from (if_pos h1).trans (if_pos h2)]
        · rw [zc_t h2, ih (j + 1) _ _ (by omega)]
          rw [show m_sa (I 6 Q) ag c (d + 1) j ts = m_sa (I 6 Q) ag c d (j + 1) ts from (if_pos h1).trans (if_neg h2), show c_su (I 6 Q) ag c (d + 1) j uw = c_su (I 6 Q) ag c d (j + 1) uw from (if_pos h1).trans (if_neg h2)]
      · have hb : bt ag j = false := Bool.eq_false_iff.mpr (fun z => h1 ((b_has _ (by omega)).mpr z))
        rw [zc_t ((b_nhas _ (by omega)).mpr hb), ih (j + 1) _ _ (by omega)]
        rw [show m_sa (I 6 Q) ag c (d + 1) j ts = m_sa (I 6 Q) ag c d (j + 1) ts from if_neg h1, show c_su (I 6 Q) ag c (d + 1) j uw = c_su (I 6 Q) ag c d (j + 1) uw from if_neg h1]
theorem C_14 (I : aI) (w : aW) (k : aQ) {Q : Nat} (set c : Int32) : rn 14 (a_en 14 [.inr (.inr (some (14, Q))), .inl set, .inl c] (MM I w k)) = some (.inl none, MM (cS I Q (m_sa (I 6 Q) (set &&& I 14 Q 4) c 24 0 (I 14 Q 3)) (c_su (I 6 Q) (set &&& I 14 Q 4) c 24 0 (I 14 Q 4))) w k) := by
  have h := C_14L I w k (Q := Q) (some (.inl set)) (set &&& I 14 Q 4) c 24 0 (I 14 Q 3) (I 14 Q 4) (by omega)
  rw [cS_self] at h
  exact (e14_0 I w k _ _ _).trans h
/-! bits -/
theorem bt_sa {L : aR} {ag c : Int32} {i : Nat} (hi : i < 32) : ∀ (d j : Nat) (t : Int32), j + d ≤ 32 → bt (m_sa L ag c d j t) i = (bt t i || (decide (j ≤ i ∧ i < j + d) && (bt ag i && decide (L i = c))))
  | 0, j, t, _ => by
    rw [show decide (j ≤ i ∧ i < j + 0) = false from decide_eq_false (by omega)]
    simp [m_sa]
  | d + 1, j, t, h => by
    have one : bt ((1 : Int32) <<< (nI j &&& 31)) i = decide (i = j) := b_one j (by omega) i hi
    by_cases h1 : (ag >>> (nI j &&& 31)) &&& 1 = 1
    · have hb : bt ag j = true := (b_has _ (by omega)).mp h1
      by_cases h2 : L j = c
      · rw [show m_sa L ag c (d + 1) j t = m_sa L ag c d (j + 1) (t ||| ((1 : Int32) <<< (nI j &&& 31))) from (if_pos h1).trans (if_pos h2), bt_sa hi d (j + 1) _ (by omega), b_or, one]
        by_cases e : i = j
        · subst e
          rw [hb, decide_eq_true h2, decide_eq_true (show i ≤ i ∧ i < i + (d + 1) by omega)]
          simp
        · rw [decide_eq_false e, show decide (j + 1 ≤ i ∧ i < j + 1 + d) = decide (j ≤ i ∧ i < j + (d + 1)) from decide_eq_decide.mpr (by omega)]
          simp
      · rw [show m_sa L ag c (d + 1) j t = m_sa L ag c d (j + 1) t from (if_pos h1).trans (if_neg h2), bt_sa hi d (j + 1) _ (by omega)]
        by_cases e : i = j
        · subst e
          rw [decide_eq_false h2]
          simp
        · rw [show decide (j + 1 ≤ i ∧ i < j + 1 + d) = decide (j ≤ i ∧ i < j + (d + 1)) from decide_eq_decide.mpr (by omega)]
    · have hb : bt ag j = false := Bool.eq_false_iff.mpr (fun z => h1 ((b_has _ (by omega)).mpr z))
      rw [show m_sa L ag c (d + 1) j t = m_sa L ag c d (j + 1) t from if_neg h1, bt_sa hi d (j + 1) _ (by omega)]
      by_cases e : i = j
      · subst e
        rw [hb]
        simp
      · rw [show decide (j + 1 ≤ i ∧ i < j + 1 + d) = decide (j ≤ i ∧ i < j + (d + 1)) from decide_eq_decide.mpr (by omega)]
theorem bt_su {L : aR} {ag c : Int32} {i : Nat} (hi : i < 32) : ∀ (d j : Nat) (t : Int32), j + d ≤ 32 → bt (c_su L ag c d j t) i = (bt t i && !(decide (j ≤ i ∧ i < j + d) && (bt ag i && decide (L i = c))))
  | 0, j, t, _ => by
    rw [show decide (j ≤ i ∧ i < j + 0) = false from decide_eq_false (by omega)]
    simp [c_su]
  | d + 1, j, t, h => by
    have one : bt (((1 : Int32) <<< (nI j &&& 31)) ^^^ (-1)) i = !decide (i = j) := by rw [b_not _ hi, b_one j (by omega) i hi]
    by_cases h1 : (ag >>> (nI j &&& 31)) &&& 1 = 1
    · have hb : bt ag j = true := (b_has _ (by omega)).mp h1
      by_cases h2 : L j = c
      · rw [show c_su L ag c (d + 1) j t = c_su L ag c d (j + 1) (t &&& (((1 : Int32) <<< (nI j &&& 31)) ^^^ (-1))) from (if_pos h1).trans (if_pos h2), bt_su hi d (j + 1) _ (by omega), b_and, one]
        by_cases e : i = j
        · subst e
          rw [hb, decide_eq_true h2, decide_eq_true (show i ≤ i ∧ i < i + (d + 1) by omega)]
          simp
        · rw [decide_eq_false e, show decide (j + 1 ≤ i ∧ i < j + 1 + d) = decide (j ≤ i ∧ i < j + (d + 1)) from decide_eq_decide.mpr (by omega)]
          simp
      · rw [show c_su L ag c (d + 1) j t = c_su L ag c d (j + 1) t from (if_pos h1).trans (if_neg h2), bt_su hi d (j + 1) _ (by omega)]
        by_cases e : i = j
        · subst e
          rw [decide_eq_false h2]
          simp
        · rw [show decide (j + 1 ≤ i ∧ i < j + 1 + d) = decide (j ≤ i ∧ i < j + (d + 1)) from decide_eq_decide.mpr (by omega)]
    · have hb : bt ag j = false := Bool.eq_false_iff.mpr (fun z => h1 ((b_has _ (by omega)).mpr z))
      rw [show c_su L ag c (d + 1) j t = c_su L ag c d (j + 1) t from if_neg h1, bt_su hi d (j + 1) _ (by omega)]
      by_cases e : i = j
      · subst e
        rw [hb]
        simp
      · rw [show decide (j + 1 ≤ i ∧ i < j + 1 + d) = decide (j ≤ i ∧ i < j + (d + 1)) from decide_eq_decide.mpr (by omega)]
theorem sa_L {L L' : aR} {ag c : Int32} (h : ∀ f, f < 24 → L f = L' f) (t : Int32) : m_sa L ag c 24 0 t = m_sa L' ag c 24 0 t ∧ c_su L ag c 24 0 t = c_su L' ag c 24 0 t := by
  constructor
  · apply b_ext
    intro i hi
    rw [bt_sa hi 24 0 t (by omega), bt_sa hi 24 0 t (by omega)]
    by_cases e : i < 24
    · rw [h i e]
    · rw [show decide (0 ≤ i ∧ i < 0 + 24) = false from decide_eq_false (by omega)]; simp
  · apply b_ext
    intro i hi
    rw [bt_su hi 24 0 t (by omega), bt_su hi 24 0 t (by omega)]
    by_cases e : i < 24
    · rw [h i e]
    · rw [show decide (0 ≤ i ∧ i < 0 + 24) = false from decide_eq_false (by omega)]; simp
theorem bt_uw (r : aR) (q : Nat) {i : Nat} (hi : i < 32) : bt (m_uw r q) i = (bt (m_full r q) i && !bt (r (68 + 8 * q + 3)) i && !bt (r (68 + 8 * q + 4)) i) := by
  unfold m_uw; rw [b_and, b_and, b_not _ hi, b_not _ hi]
/-- what is under way behind frames that are to send again -/
theorem uw_sA (r : aR) (q : Nat) (set c : Int32) : m_uw (m_sA r q set c) q = c_su (fun j => r (388 + 24 * q + j)) (set &&& m_uw r q) c 24 0 (m_uw r q) := by
  have e3 : m_sA r q set c (68 + 8 * q + 3) = m_sa (fun j => r (388 + 24 * q + j)) (set &&& m_uw r q) c 24 0 (r (68 + 8 * q + 3)) := upd_s _ _ _
  have e0 : m_full (m_sA r q set c) q = m_full r q := by unfold m_full m_sA; rw [upd_n _ _ _ (by omega)]
  have e4 : m_sA r q set c (68 + 8 * q + 4) = r (68 + 8 * q + 4) := upd_n _ _ _ (by omega)
  apply b_ext
  intro i hi
  rw [bt_su hi 24 0 _ (by omega), bt_uw _ _ hi, e0, e3, e4, bt_sa hi 24 0 _ (by omega), b_and, bt_uw _ _ hi]
  cases bt (m_full r q) i <;> cases bt (r (68 + 8 * q + 3)) i <;> cases bt (r (68 + 8 * q + 4)) i <;> simp
/-- a record behind frames that are to send again -/
theorem kRe1_sA {I : aI} {Q q : Nat} {r : aR} (h : kRe1 (I 14 Q) (I 6 Q) r q) (set c : Int32) : kRe1 (cS I Q (m_sa (I 6 Q) (set &&& I 14 Q 4) c 24 0 (I 14 Q 3)) (c_su (I 6 Q) (set &&& I 14 Q 4) c 24 0 (I 14 Q 4)) 14 Q) (I 6 Q) (m_sA r q set c) q := by
  obtain ⟨⟨a0, a1, a2, a3⟩, b, ⟨c0, c1, c2, c3⟩, d⟩ := h
  have hL := sa_L (L := I 6 Q) (L' := fun j => r (388 + 24 * q + j)) (ag := set &&& m_uw r q) (c := c) d
  have e : ∀ x, x ≠ 68 + 8 * q + 3 → m_sA r q set c x = r x := fun x hx => upd_n _ _ _ hx
  rw [cS_row, a3, b, (hL _).1, (hL _).2]
  refine ⟨⟨?_, ?_, ?_, ?_⟩, ?_, ⟨?_, ?_, ?_, ?_⟩, fun x hx => ?_⟩
  · rw [upd_n _ _ _ (by omega), upd_n _ _ _ (by omega), e _ (by omega)]; exact a0
  · rw [upd_n _ _ _ (by omega), upd_n _ _ _ (by omega), e _ (by omega)]; exact a1
  · rw [upd_n _ _ _ (by omega), upd_n _ _ _ (by omega), e _ (by omega)]; exact a2
  · rw [upd_s]; exact (upd_s _ _ _).symm
  · rw [upd_n _ _ _ (by omega), upd_s, uw_sA]
  · rw [upd_n _ _ _ (by omega), upd_n _ _ _ (by omega), e _ (by omega)]; exact c0
  · rw [upd_n _ _ _ (by omega), upd_n _ _ _ (by omega), e _ (by omega)]; exact c1
  · rw [upd_n _ _ _ (by omega), upd_n _ _ _ (by omega), e _ (by omega)]; exact c2
  · rw [upd_n _ _ _ (by omega), upd_n _ _ _ (by omega), e _ (by omega)]; exact c3
  · rw [e _ (by omega)]; exact d x hx
/-- the set of a contact's frames will do for all frames -/
theorem sA_set {r : aR} {q : Nat} {set c : Int32} (h : ∀ f, f < 24 → r (388 + 24 * q + f) = c → bt set f = true) : m_sA r q set c = m_sA r q (m_full r q) c := by
  unfold m_sA
  congr 1
  apply b_ext
  intro i hi
  rw [bt_sa hi 24 0 _ (by omega), bt_sa hi 24 0 _ (by omega), b_and, b_and, bt_uw _ _ hi]
  by_cases e : 0 ≤ i ∧ i < 0 + 24
  · by_cases e2 : r (388 + 24 * q + i) = c
    · rw [h i (by omega) e2]
      cases bt (m_full r q) i <;> simp
    · rw [decide_eq_false e2]; simp
  · rw [decide_eq_false e]; simp
section
variable {a8 : Int32} {i : Nat}
theorem Fr_rec {I I' : aI} {q : Nat} (hq : q < 40) (hI : ∀ s Q, ¬ ((s = 14 ∨ s = 6) ∧ Q = 40 * i + q) → I' s Q = I s Q) : Fr i I I' := by
  intro s Q h
  apply hI
  rintro ⟨rfl | rfl, rfl⟩
  · exact h (own_q hq)
  · exact h (own_q hq)
/-- what the contact c sent, where the row says that it was last sent there -/
def Rl (r : aR) (c : Nat) : Prop := ∀ q f, q < nR r → f < 24 → r (388 + 24 * q + f) = nI c → bt (r (1348 + 84 * (c % 60) + 4 + q)) f = true
theorem C_66L (w : aW) (k : aQ) {c n : Nat} (hn : n ≤ 40) : ∀ (d j : Nat) (I : aI) (r : aR), j + d = n → r 4 = nI n → nS r ≤ 4 → Sim a8 i I r → c < nC r → nC r ≤ c + 60 → Rl r c → ∃ I', rn 66 (2, [some (.inr (.inr (some (20, i)))), some (.inr (.inr (some (15, (60 * i + c % 60))))), some (.inl (nI j))], [], MM I w k) = some (.inl none, MM I' w k) ∧ Sim a8 i I' (m_gb (nI c) d j r) ∧ Fr i I I' := by
  have hm := Nat.mod_lt c (by decide : 0 < 60)
  intro d
  induction d with
  | zero =>
    intro j I r hj hr h4 hS c1 c2 hl
    refine ⟨I, ?_, hS, Fr.refl _ _⟩
    refine (e66_2 I w k _ _ _).trans ?_
    rw [hS.1.2.2.1.1, hr, zc_t (nI_le (by omega) (by omega))]
  | succ d ih =>
    intro j I r hj hr h4 hS c1 c2 hl
    have hR : nR r = n := by unfold nR; rw [hr, nI_clamp (by omega)]
    have hq : j < nR r := by omega
    have hk := hS.2.2.2.2.1 j hq
    have hc := hS.2.2.2.2.2 c c1 c2
    have es : m_sA r j (r (1348 + 84 * (c % 60) + 4 + j)) (nI c) = m_sA r j (m_full r j) (nI c) := sA_set (fun f hf e => hl j f hq hf e)
    have hI : ∀ s Q, ¬ ((s = 14 ∨ s = 6) ∧ Q = 40 * i + j) → cS I (40 * i + j) (m_sa (I 6 (40 * i + j)) (r (1348 + 84 * (c % 60) + 4 + j) &&& I 14 (40 * i + j) 4) (nI c) 24 0 (I 14 (40 * i + j) 3)) (c_su (I 6 (40 * i + j)) (r (1348 + 84 * (c % 60) + 4 + j) &&& I 14 (40 * i + j) 4) (nI c) 24 0 (I 14 (40 * i + j) 4)) s Q = I s Q := fun s Q h => cS_ne _ _ _ _ _ _ (fun z => h ⟨Or.inl z.1, z.2⟩)
    have hS2 := Sim_rec hS (by omega) h4 hq hI (r' := m_sA r j (m_full r j) (nI c)) (fun x hx _ => upd_n _ _ _ (hx 3 (by omega))) (by rw [← es]; exact kRe1_sA hk _ _)
    have e : ∀ x, x ≠ 68 + 8 * j + 3 → m_sA r j (m_full r j) (nI c) x = r x := fun x hx => upd_n _ _ _ hx
    have eC := nC_c (e 12 (by omega))
    have eR := nR_c (e 4 (by omega))
    obtain ⟨I', g1, g2, g3⟩ := ih (j + 1) _ (m_sA r j (m_full r j) (nI c)) (by omega) (by rw [e 4 (by omega)]; exact hr) (by rw [nS_c (e 3 (by omega))]; exact h4) hS2 (by omega) (by omega) (fun q f hq hf hx => by
      rw [eR] at hq
      rw [e _ (by omega)] at hx ⊢
      exact hl q f hq hf hx)
    refine ⟨I', ?_, g2, (Fr_rec (by omega) hI).trans g3⟩
    refine (e66_2 I w k _ _ _).trans ?_
    rw [hS.1.2.2.1.1, hr, zc_f (nI_ge (by omega) (by omega)), z_in (by omega) (by decide), nI_clamp (by omega), cond_true, cond_true, (hc.2.2 j (by omega)).1, hc.1]
    refine (bk_n (C_14 I w k _ _)).trans ?_
    refine (e66_29 _ w k _ _ _).trans ?_
    rw [nI_1]
    exact g1
theorem C_66 (I : aI) (w : aW) (k : aQ) {r : aR} {c : Nat} (hS : Sim a8 i I r) (hQ : Rq r) (h4 : nS r ≤ 4) (c1 : c < nC r) (c2 : nC r ≤ c + 60) (hl : Rl r c) : ∃ I', rn 66 (a_en 66 [.inr (.inr (some (20, i))), .inr (.inr (some (15, (60 * i + c % 60))))] (MM I w k)) = some (.inl none, MM I' w k) ∧ Sim a8 i I' (m_gb (nI c) (nR r) 0 r) ∧ Fr i I I' := by
  obtain ⟨I', g1, g2, g3⟩ := C_66L w k hQ.2 (nR r) 0 I r (by omega) hQ.1 h4 hS c1 c2 hl
  exact ⟨I', (e66_0 I w k _ _).trans g1, g2, g3⟩
end
