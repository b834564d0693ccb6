/-! ===== the next contact, on both sides ===== -/
def m_fe (r : aR) (s : Int32) : Nat → Nat → Int32
  | 0, j => nI j
  | d + 1, j => if m_cho r (nI j) s = s then m_fe r s d (j + 1) else nI j
def m_sel (x a b c : Int32) : Int32 := if x = 0 then a else (if x = 1 then b else c)
def m_f1 (r : aR) (x : Int32) : Nat → Nat → Int32 → Int32
  | 0, _, _ => -1
  | d + 1, j, pr => if m_cho r (nI j) pr = -1 then m_f1 r x d (j + 1) (m_cho r (nI j) pr) else (if m_cho r (nI j) pr = pr then m_f1 r x d (j + 1) (m_cho r (nI j) pr) else m_sel x (m_cho r (nI j) pr) (nI j) (m_fe r (m_cho r (nI j) pr) d (j + 1)))
theorem z_sel (x a b c : Int32) (M : aM) : (if x = 0 then some (.inl (some (.inl a)), M) else (if x = 1 then some (.inl (some (.inl b)), M) else some (.inl (some (.inl c)), M)) : Option aO) = some (.inl (some (.inl (m_sel x a b c))), M) := by
  unfold m_sel; rw [z_ri, z_ri]
theorem M_217E (I : aI) (w : aW) (k : aQ) (hR : Rs (I 24 0)) (x : Int32) {T : Nat} (hT : I 24 0 5 = nI T) (hT2 : T ≤ 30000) {s : Nat} (hs : s < nS (I 24 0)) (b : Int32) : ∀ (d j : Nat) (d8 : Option aV), j + d = T + 3000 → rn 217 (60, [some (.inr (.inr (some (31, 0)))), some (.inl x), some (.inl (nI s)), some (.inl (nI s)), some (.inl b), some (.inl (nI (T + 3000))), some (.inl 0), some (.inl (nI j)), d8], [], MM I w k) = some (.inl (some (.inl (m_sel x (nI s) b (m_fe (I 24 0) (nI s) d j)))), MM I w k) := by
  have h2 := hR.1.2
  have hn : ¬ nI s = -1 := nI_n1 (by omega)
  have hl : I 24 0 5 + 3000 = nI (T + 3000) := by rw [hT]; exact nI_add T 3000
  have fin : ∀ (c y z u : Int32) (d8 : Option aV), (nI (T + 3000) ≤ u ∨ ¬ z = 0) → rn 217 (60, [some (.inr (.inr (some (31, 0)))), some (.inl x), some (.inl y), some (.inl (nI s)), some (.inl b), some (.inl c), some (.inl z), some (.inl u), d8], [], MM I w k) = some (.inl (some (.inl (m_sel x (nI s) b c))), MM I w k) := by
    intro c y z u d8 h
    refine (e217_60 I w k _ _ _ _ _ _ _ _).trans ?_
    rw [hl, ← z_sel]
    by_cases h1 : nI (T + 3000) ≤ u
    · rw [zc_t h1, zc_t hn]; simp only [z_c, ite_not]
    · rw [zc_f h1, zc_t (h.resolve_left h1), zc_t hn]; simp only [z_c, ite_not]
  intro d
  induction d with
  | zero =>
    intro j d8 hj
    rw [fin _ _ _ _ _ (Or.inl (nI_le (by omega) (by omega)))]
    rw [show m_fe (I 24 0) (nI s) 0 j = nI j from rfl, show T + 3000 = j by omega]
  | succ d ih =>
    intro j d8 hj
    refine (e217_60 I w k _ _ _ _ _ _ _ _).trans ?_
    rw [hl, zc_f (nI_ge (by omega) (by omega)), zc_f (fun z => z rfl)]
    refine (bk_v (M_215 I w k hR _ _ (Or.inr ⟨s, hs, rfl⟩))).trans ?_
    refine (e217_87 I w k _ _ _ _ _ _ _ _ _).trans ?_
    unfold m_fe
    rw [nI_1]
    by_cases h1 : m_cho (I 24 0) (nI j) (nI s) = nI s
    · rw [zc_f (fun z => z h1), if_pos h1]; exact ih (j + 1) _ (by omega)
    · rw [zc_t h1, zc_f hn, zc_t hn, zc_t hn, if_neg h1]
      exact fin _ _ _ _ _ (Or.inr (by decide))
theorem M_217L (I : aI) (w : aW) (k : aQ) (hR : Rs (I 24 0)) (x : Int32) {T : Nat} (hT : I 24 0 5 = nI T) (hT2 : T ≤ 30000) : ∀ (d j : Nat) (pr : Int32) (d8 : Option aV), j + d = T + 3000 → (pr = -1 ∨ ∃ p, p < nS (I 24 0) ∧ pr = nI p) → rn 217 (60, [some (.inr (.inr (some (31, 0)))), some (.inl x), some (.inl pr), some (.inl (-1)), some (.inl (-1)), some (.inl (nI (T + 3000))), some (.inl 0), some (.inl (nI j)), d8], [], MM I w k) = some (.inl (some (.inl (m_f1 (I 24 0) x d j pr))), MM I w k) := by
  have h2 := hR.1.2
  have hl : I 24 0 5 + 3000 = nI (T + 3000) := by rw [hT]; exact nI_add T 3000
  intro d
  induction d with
  | zero =>
    intro j pr d8 hj hp
    refine (e217_60 I w k _ _ _ _ _ _ _ _).trans ?_
    rw [hl, zc_t (nI_le (by omega) (by omega)), zc_f (fun z => z rfl)]
    rfl
  | succ d ih =>
    intro j pr d8 hj hp
    refine (e217_60 I w k _ _ _ _ _ _ _ _).trans ?_
    rw [hl, zc_f (nI_ge (by omega) (by omega)), zc_f (fun z => z rfl)]
    refine (bk_v (M_215 I w k hR _ _ hp)).trans ?_
    refine (e217_87 I w k _ _ _ _ _ _ _ _ _).trans ?_
    have hv := m_cho_v (r := I 24 0) (t := nI j) hp
    unfold m_f1
    rw [nI_1]
    generalize m_cho (I 24 0) (nI j) pr = y at hv
    by_cases h1 : y = pr
    · rw [zc_f (fun z => z h1)]
      by_cases h0 : y = -1
      · rw [if_pos h0, h1]; exact ih (j + 1) _ _ (by omega) hp
      · rw [if_neg h0, if_pos h1, h1]; exact ih (j + 1) _ _ (by omega) hp
    · rw [zc_t h1, zc_t rfl, zc_f (fun z => z rfl)]
      by_cases h0 : y = -1
      · rw [zc_t h0, zc_f (fun z => z rfl), if_pos h0]
        rw [h0]
        exact ih (j + 1) _ _ (by omega) (Or.inl rfl)
      · rw [zc_f h0, zc_f (fun z => z rfl), if_neg h0, if_neg h1]
        obtain ⟨s, hs, rfl⟩ := hv.resolve_left h0
        exact M_217E I w k hR x hT hT2 hs (nI j) d (j + 1) _ (by omega)
theorem M_217 (I : aI) (w : aW) (k : aQ) (hM : Rm (I 24 0)) {T : Nat} (hT : I 24 0 5 = nI T) (hT2 : T ≤ 30000) (x : Int32) (hx : 0 ≤ x ∧ x ≤ 2) : rn 217 (a_en 217 [.inr (.inr (some (31, 0))), .inl x] (MM I w k)) = some (.inl (some (.inl (m_f1 (I 24 0) x 3000 T (m_tk0 (I 24 0))))), MM (a_setI I 31 0 0 0) w k) := by
  obtain ⟨hR, -, ⟨hC, -⟩, -, hp, h13⟩ := hM
  refine (e217_0 I w k _).trans ?_
  refine (bk_v (M_173 I w k _ _ _)).trans ?_
  refine (e217_7 I w k _ _ _ _ _ _ _ _ _).trans ?_
  rw [zc_f (by rw [tf0]; exact fun z => z hx)]
  refine (bk_v (M_216 (a_setI I 31 0 0 0) w k hC h13)).trans ?_
  refine (e217_31 (a_setI I 31 0 0 0) w k _ _ _ _ _ _ _ _ _).trans ?_
  rw [show a_setI I 31 0 0 0 24 0 5 = nI T from hT, show nI T + 3000 = nI (T + 3000) from nI_add T 3000]
  exact M_217L (a_setI I 31 0 0 0) w k hR x hT hT2 3000 T _ _ (by omega) hp
theorem M_217f (I : aI) (w : aW) (k : aQ) (x : Int32) (hx : ¬ (0 ≤ x ∧ x ≤ 2)) : rn 217 (a_en 217 [.inr (.inr (some (31, 0))), .inl x] (MM I w k)) = some (.inl (some (.inl 0)), MM (a_setI I 31 0 0 1) w k) := by
  refine (e217_0 I w k _).trans ?_
  refine (bk_v (M_173 I w k _ _ _)).trans ?_
  refine (e217_7 I w k _ _ _ _ _ _ _ _ _).trans ?_
  rw [zc_t (by rw [tf0]; exact hx)]
section
variable {a8 : Int32} {i : Nat} {r : aR}
theorem C_60L (I : aI) (w : aW) (k : aQ) (hS : Sim a8 i I r) (hR : Rs r) {L s : Nat} (hL : L ≤ 100000) (hs : s < nS r) (d2 : Option aV) : ∀ (d j : Nat), j + d = L → rn 60 (3, [some (.inr (.inr (some (20, i)))), some (.inl (nI s)), d2, some (.inl (nI L)), some (.inl (nI j))], [], MM I w k) = some (.inl (some (.inl (m_fe r (nI s) d j))), MM I w k) := by
  have h9 : I 10 i 5 = r 9 := hS.1.2.1.2.2.2.2.2
  intro d
  induction d with
  | zero =>
    intro j hj
    refine (e60_3 I w k _ _ _ _ _).trans ?_
    rw [zc_t (nI_le (by omega) (by omega)), show L = j by omega]
    rfl
  | succ d ih =>
    intro j hj
    refine (e60_3 I w k _ _ _ _ _).trans ?_
    rw [zc_f (nI_ge (by omega) (by omega)), h9]
    refine (bk_v (C_85 I w k hS hR (by omega) _ (Or.inr ⟨s, hs, rfl⟩))).trans ?_
    refine (e60_26 I w k _ _ _ _ _ _).trans ?_
    unfold m_fe
    rw [nI_1]
    by_cases h : m_cho r (nI j) (nI s) = nI s
    · rw [zc_t h, if_pos h]; exact ih (j + 1) (by omega)
    · rw [zc_f h, if_neg h]
theorem C_59L (I : aI) (w : aW) (k : aQ) (hS : Sim a8 i I r) (hR : Rs r) {L : Nat} (hL : L ≤ 100000) (x : Int32) : ∀ (d j : Nat) (pr : Int32) (d5 : Option aV), j + d = L → (pr = -1 ∨ ∃ p, p < nS r ∧ pr = nI p) → rn 59 (20, [some (.inr (.inr (some (20, i)))), some (.inl x), some (.inl pr), some (.inl (nI L)), some (.inl (nI j)), d5], [], MM I w k) = some (.inl (some (.inl (m_f1 r x d j pr))), MM I w k) := by
  have h9 : I 10 i 5 = r 9 := hS.1.2.1.2.2.2.2.2
  have h2 := hR.1.2
  intro d
  induction d with
  | zero =>
    intro j pr d5 hj hp
    refine (e59_20 I w k _ _ _ _ _ _).trans ?_
    rw [zc_t (nI_le (by omega) (by omega))]
    rfl
  | succ d ih =>
    intro j pr d5 hj hp
    refine (e59_20 I w k _ _ _ _ _ _).trans ?_
    rw [zc_f (nI_ge (by omega) (by omega)), h9]
    refine (bk_v (C_85 I w k hS hR (by omega) _ hp)).trans ?_
    refine (e59_43 I w k _ _ _ _ _ _ _).trans ?_
    have hv := m_cho_v (r := r) (t := nI j) hp
    unfold m_f1
    rw [nI_1]
    generalize m_cho r (nI j) pr = y at hv
    by_cases h0 : y = -1
    · rw [zc_t h0, if_pos h0]; exact ih (j + 1) _ _ (by omega) hv
    · rw [zc_f h0, if_neg h0]
      by_cases h1 : y = pr
      · rw [zc_t h1, if_pos h1]; exact ih (j + 1) _ _ (by omega) hv
      · rw [zc_f h1, if_neg h1]
        obtain ⟨s, hs, rfl⟩ := hv.resolve_left h0
        have e60 : rn 60 (a_en 60 [.inr (.inr (some (20, i))), .inl (nI s), .inl (nI (j + 1)), .inl (nI L)] (MM I w k)) = some (.inl (some (.inl (m_fe r (nI s) d (j + 1)))), MM I w k) := (e60_0 I w k _ _ _ _).trans (C_60L I w k hS hR hL hs _ d (j + 1) (by omega))
        rw [← z_sel, show (rn 60 (a_en 60 [.inr (.inr (some (20, i))), .inl (nI s), .inl (nI (j + 1)), .inl (nI L)] (MM I w k))).bind (fun o => a_bk 59 60 (84, [some (.inr (.inr (some (20, i)))), some (.inl x), some (.inl pr), some (.inl (nI L)), some (.inl (nI j)), some (.inl (nI s))], [], MM I w k) o (rn 59)) = _ from bk_v e60, show rn 59 (84 + 3, [some (.inr (.inr (some (20, i)))), some (.inl x), some (.inl pr), some (.inl (nI L)), some (.inl (nI j)), some (.inl (nI s))], [.inl (m_fe r (nI s) d (j + 1))], MM I w k) = _ from e59_87 I w k _ _ _ _ _ _ _]
        simp only [z_c, ite_not]
theorem C_59 (I : aI) (w : aW) (k : aQ) (hS : Sim a8 i I r) (hM : Mv r) {T : Nat} (hT : r 5 = nI T) (hT2 : T ≤ 30000) (x : Int32) : rn 59 (a_en 59 [.inr (.inr (some (20, i))), .inl x] (MM I w k)) = some (.inl (some (.inl (m_f1 r x 3000 T (m_tk0 r)))), MM I w k) := by
  obtain ⟨hR, -, ⟨hC, -⟩, -, hp, -⟩ := hM.rm
  refine (e59_0 I w k _ _).trans ?_
  refine (bk_v (C_57 I w k hS hC hM.2.2.2.1)).trans ?_
  refine (e59_4 I w k _ _ _ _ _ _ _).trans ?_
  rw [hS.1.2.2.1.2.2.2, hT, show nI T + 3000 = nI (T + 3000) from nI_add T 3000]
  exact C_59L I w k hS hR (by omega) x 3000 T _ _ (by omega) hp
end
