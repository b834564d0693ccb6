/-! ===== the reference's table of passes ===== -/
theorem m_po_lt (r : aR) (t x : Int32) (s : Nat) : ∀ (d o : Nat) (F : Option (Nat × Nat)) (p : Nat × Nat), m_po r t x s d o F = some p → F = some p ∨ (p.1 = s ∧ p.2 < o + d)
  | 0, _, _, _, h => Or.inl h
  | d + 1, o, F, p, h => by
    rcases m_po_lt r t x s d (o + 1) _ p h with y | ⟨y1, y2⟩
    · by_cases g : gF r t x s o F
      · rw [show m_pl r t x s o F = some (s, o) from if_pos g] at y
        cases y
        exact Or.inr ⟨rfl, by show o < _; omega⟩
      · rw [show m_pl r t x s o F = F from if_neg g] at y
        exact Or.inl y
    · exact Or.inr ⟨y1, by omega⟩
theorem m_ps_lt (r : aR) (t x : Int32) : ∀ (d s : Nat) (F : Option (Nat × Nat)) (p : Nat × Nat), m_ps r t x d s F = some p → F = some p ∨ (p.1 < s + d ∧ p.2 < 1000)
  | 0, _, _, _, h => Or.inl h
  | d + 1, s, F, p, h => by
    rcases m_ps_lt r t x d (s + 1) _ p h with y | ⟨y1, y2⟩
    · rcases m_po_lt r t x s 1000 0 F p y with z | ⟨z1, z2⟩
      · exact Or.inl z
      · exact Or.inr ⟨by omega, by omega⟩
    · exact Or.inr ⟨by omega, y2⟩
noncomputable def m_nx (r : aR) (t x : Int32) : Option (Nat × Nat) := m_ps r t x (nS r) 0 none
/-- line n after (t, x) -/
noncomputable def m_tb (r : aR) : Nat → Int32 → Int32 → Option (Nat × Nat)
  | 0, t, x => m_nx r t x
  | n + 1, t, x => match m_nx r t x with
    | none => none
    | some p => m_tb r n (m_begin r p.1 (nI p.2)) (nI p.1)
def m_te (r : aR) (what : Int32) : Option (Nat × Nat) → Int32
  | none => -1
  | some p => if what = 0 then nI p.1 else if what = 1 then m_begin r p.1 (nI p.2) else if what = 2 then m_begin r p.1 (nI p.2) + m_lasts r p.1 (nI p.2) else nI p.2
/-- nothing but the fields of a line changed -/
def Sm (I I' : aI) : Prop := (∀ s, s ≠ 31 → I' s = I s) ∧ ∀ q j, ¬ (q = 0 ∧ (j = 5 ∨ j = 6 ∨ j = 7)) → I' 31 q j = I 31 q j
theorem Sm.refl (I : aI) : Sm I I := ⟨fun _ _ => rfl, fun _ _ _ => rfl⟩
theorem Sm.trans {I J K : aI} (h : Sm I J) (g : Sm J K) : Sm I K := ⟨fun s hs => (g.1 s hs).trans (h.1 s hs), fun q j hj => (g.2 q j hj).trans (h.2 q j hj)⟩
theorem Sm_F (I : aI) (r : aR) (F : Option (Nat × Nat)) : Sm I (sF I r F) := by
  cases F with
  | none => exact Sm.refl I
  | some p =>
    constructor
    · intro s hs
      funext q j
      show a_setI (a_setI (a_setI I 31 0 5 (nI p.1)) 31 0 6 (nI p.2)) 31 0 7 (m_begin r p.1 (nI p.2)) s q j = I s q j
      rw [gI, if_neg (fun z => hs z.1), gI, if_neg (fun z => hs z.1), gI, if_neg (fun z => hs z.1)]
    · intro q j hj
      show a_setI (a_setI (a_setI I 31 0 5 (nI p.1)) 31 0 6 (nI p.2)) 31 0 7 (m_begin r p.1 (nI p.2)) 31 q j = I 31 q j
      rw [gI, if_neg (fun z => hj ⟨z.2.2, by omega⟩), gI, if_neg (fun z => hj ⟨z.2.2, by omega⟩), gI, if_neg (fun z => hj ⟨z.2.2, by omega⟩)]
theorem M_214v (I : aI) (w : aW) (k : aQ) (hR : Rs (I 24 0)) {p : Nat × Nat} (hp : p.1 < nS (I 24 0)) (d1 : Option aV) (what t x : Int32) {N : Nat} (hN : N < 100) : rn 214 (56, [some (.inr (.inr (some (31, 0)))), d1, some (.inl (nI N)), some (.inl what), some (.inl t), some (.inl x), some (.inl (nI (N + 1)))], [], MM (sF I (I 24 0) (some p)) w k) = some (.inl (some (.inl (m_te (I 24 0) what (some p)))), MM (sF I (I 24 0) (some p)) w k) := by
  refine (e214_56 _ w k _ _ _ _ _ _).trans ?_
  refine (zc_t (show nI N < nI (N + 1) by rw [fa_lt, nI_toInt (by omega), nI_toInt (by omega)]; omega)).trans ?_
  rw [show m_te (I 24 0) what (some p) = (if what = 0 then nI p.1 else if what = 1 then m_begin (I 24 0) p.1 (nI p.2) else if what = 2 then m_begin (I 24 0) p.1 (nI p.2) + m_lasts (I 24 0) p.1 (nI p.2) else nI p.2) from rfl]
  by_cases h0 : what = 0
  · rw [if_pos h0]
    exact zc_f (fun z => z h0)
  · refine (zc_t h0).trans ?_
    rw [if_neg h0]
    by_cases h1 : what = 1
    · rw [if_pos h1]
      exact zc_f (fun z => z h1)
    · refine (zc_t h1).trans ?_
      rw [if_neg h1]
      by_cases h2 : what = 2
      · rw [if_pos h2]
        refine (zc_f (fun z => z h2)).trans ?_
        have e2 : rn 200 (a_en 200 [.inr (.inr (some (31, 0))), .inl (nI p.1), .inl (nI p.2)] (MM (sF I (I 24 0) (some p)) w k)) = some (.inl (some (.inl (m_lasts (I 24 0) p.1 (nI p.2)))), MM (sF I (I 24 0) (some p)) w k) := by
          have y := M_200 (sF I (I 24 0) (some p)) w k (s := p.1) (by rw [sF_24]; exact hR) (by rw [sF_24]; exact hp) (nI p.2)
          rw [sF_24] at y; exact y
        refine (bk_v e2).trans ?_
        exact e214_137 _ w k _ _ _ _ _ _ _ _ _
      · rw [if_neg h2]
        exact zc_t h2
theorem M_214L (w : aW) (k : aQ) (r : aR) (hR : Rs r) (d1 : Option aV) (what : Int32) {N : Nat} (hN : N < 100) (n : Nat) : ∀ (I : aI) (j : Nat) (t x : Int32), I 24 0 = r → j + n = N → ∃ I', rn 214 (56, [some (.inr (.inr (some (31, 0)))), d1, some (.inl (nI N)), some (.inl what), some (.inl t), some (.inl x), some (.inl (nI j))], [], MM I w k) = some (.inl (some (.inl (m_te r what (m_tb r n t x)))), MM I' w k) ∧ Sm I I' := by
  induction n with
  | zero =>
    intro I j t x hr hj
    subst hr
    have hjN : j = N := by omega
    subst hjN
    have c : rn 213 (a_en 213 [.inr (.inr (some (31, 0))), .inl t, .inl x] (MM I w k)) = some (.inl (some (.inl (fF (m_nx (I 24 0) t x)))), MM (sF I (I 24 0) (m_nx (I 24 0) t x)) w k) := M_213 I w k hR t x
    have hlt : ∀ p, m_nx (I 24 0) t x = some p → none = some p ∨ (p.1 < 0 + nS (I 24 0) ∧ p.2 < 1000) := m_ps_lt (I 24 0) t x (nS (I 24 0)) 0 none
    refine ⟨sF I (I 24 0) (m_nx (I 24 0) t x), ?_, Sm_F _ _ _⟩
    rw [show m_tb (I 24 0) 0 t x = m_nx (I 24 0) t x from rfl]
    generalize m_nx (I 24 0) t x = F at c hlt
    refine (e214_56 _ w k _ _ _ _ _ _).trans ?_
    refine (zc_f (fun z => by rw [fa_lt] at z; omega)).trans ?_
    refine (bk_v c).trans ?_
    refine (e214_70 _ w k _ _ _ _ _ _ _).trans ?_
    cases F with
    | none => exact zc_f (fun z => z rfl)
    | some p =>
      have hp := (hlt p rfl).resolve_left (fun z => by cases z)
      refine (zc_t (show ¬ (1 : Int32) = 0 by decide)).trans ?_
      rw [nI_1]
      exact M_214v I w k hR (by omega) d1 what _ _ hN
  | succ n ih =>
    intro I j t x hr hj
    subst hr
    have st : ∀ I', rn 214 (56, [some (.inr (.inr (some (31, 0)))), d1, some (.inl (nI N)), some (.inl what), some (.inl t), some (.inl x), some (.inl (nI j))], [], MM I w k) = some (.inl (some (.inl (m_te (I 24 0) what (m_tb (I 24 0) (n + 1) t x)))), MM I' w k) ↔ cond (decide (¬ fF (m_nx (I 24 0) t x) = 0)) (rn 214 (56, [some (.inr (.inr (some (31, 0)))), d1, some (.inl (nI N)), some (.inl what), some (.inl (sF I (I 24 0) (m_nx (I 24 0) t x) 31 0 7)), some (.inl (sF I (I 24 0) (m_nx (I 24 0) t x) 31 0 5)), some (.inl (nI (j + 1)))], [], MM (sF I (I 24 0) (m_nx (I 24 0) t x)) w k)) (some (.inl (some (.inl (-1))), MM (sF I (I 24 0) (m_nx (I 24 0) t x)) w k)) = some (.inl (some (.inl (m_te (I 24 0) what (m_tb (I 24 0) (n + 1) t x)))), MM I' w k) := by
      intro I'
      have y : rn 214 (56, [some (.inr (.inr (some (31, 0)))), d1, some (.inl (nI N)), some (.inl what), some (.inl t), some (.inl x), some (.inl (nI j))], [], MM I w k) = _ := (e214_56 I w k d1 (nI N) what t x (nI j)).trans ((zc_f (fun z => by rw [fa_lt, nI_toInt (by omega), nI_toInt (by omega)] at z; omega)).trans ((bk_v (M_213 I w k hR t x)).trans (e214_70 _ w k _ _ _ _ _ _ _)))
      rw [y, nI_1]
      exact Iff.rfl
    simp only [st]
    cases hF : m_nx (I 24 0) t x with
    | none =>
      refine ⟨sF I (I 24 0) none, ?_, Sm_F _ _ _⟩
      rw [show m_tb (I 24 0) (n + 1) t x = none by unfold m_tb; rw [hF]]
      exact zc_f (fun z => z rfl)
    | some p =>
      obtain ⟨I', h1, h2⟩ := ih (sF I (I 24 0) (some p)) (j + 1) (m_begin (I 24 0) p.1 (nI p.2)) (nI p.1) (by rw [sF_24]) (by omega)
      refine ⟨I', ?_, (Sm_F I (I 24 0) (some p)).trans h2⟩
      rw [show m_tb (I 24 0) (n + 1) t x = m_tb (I 24 0) n (m_begin (I 24 0) p.1 (nI p.2)) (nI p.1) by conv => lhs; unfold m_tb; rw [hF]]
      exact (zc_t (show ¬ (1 : Int32) = 0 by decide)).trans h1
theorem M_214 (I : aI) (w : aW) (k : aQ) (hR : Rs (I 24 0)) {f l e : Nat} (hf : f ≤ 99999) (hl : l ≤ 19) (he : e ≤ 3) : ∃ I', rn 214 (a_en 214 [.inr (.inr (some (31, 0))), .inl (nI f), .inl (nI l), .inl (nI e)] (MM I w k)) = some (.inl (some (.inl (m_te (I 24 0) (nI e) (m_tb (I 24 0) l (nI f) (-1))))), MM I' w k) ∧ Sm (a_setI I 31 0 0 0) I' := by
  obtain ⟨I', h1, h2⟩ := M_214L w k (I 24 0) hR (some (.inl (nI f))) (nI e) (N := l) (by omega) l (a_setI I 31 0 0 0) 0 (nI f) (-1) rfl (by omega)
  refine ⟨I', ?_, h2⟩
  have b1 : 0 ≤ nI f ∧ nI f ≤ 99999 := ⟨nI_le (a := 0) (by omega) (by omega), nI_le (b := 99999) hf (by decide)⟩
  have b2 : 0 ≤ nI l ∧ nI l ≤ 19 := ⟨nI_le (a := 0) (by omega) (by omega), nI_le (b := 19) hl (by decide)⟩
  have b3 : 0 ≤ nI e ∧ nI e ≤ 3 := ⟨nI_le (a := 0) (by omega) (by omega), nI_le (b := 3) he (by decide)⟩
  refine (e214_0 I w k _ _ _).trans ?_
  refine (bk_v (M_173 I w k _ _ _)).trans ?_
  refine (e214_8 I w k _ _ _ _ _ _ _).trans ?_
  refine (zc_f (by rw [tf, if_pos b1]; decide)).trans ?_
  refine (bk_v (M_173 I w k _ _ _)).trans ?_
  refine (e214_18 I w k _ _ _ _ _ _ _).trans ?_
  refine (zc_f (by rw [tf, if_pos b2]; decide)).trans ?_
  refine (bk_v (M_173 I w k _ _ _)).trans ?_
  refine (e214_27 I w k _ _ _ _ _ _ _).trans ?_
  refine (zc_f (by rw [tf, if_pos b3]; decide)).trans ?_
  exact h1
theorem M_214f (I : aI) (w : aW) (k : aQ) (x y z : Int32) (h : ¬ ((0 ≤ x ∧ x ≤ 99999) ∧ (0 ≤ y ∧ y ≤ 19) ∧ 0 ≤ z ∧ z ≤ 3)) : rn 214 (a_en 214 [.inr (.inr (some (31, 0))), .inl x, .inl y, .inl z] (MM I w k)) = some (.inl (some (.inl 0)), MM (a_setI I 31 0 0 1) w k) := by
  refine (e214_0 I w k _ _ _).trans ?_
  refine (bk_v (M_173 I w k _ _ _)).trans ?_
  refine (e214_8 I w k _ _ _ _ _ _ _).trans ?_
  by_cases b1 : 0 ≤ x ∧ x ≤ 99999
  · refine (zc_f (by rw [tf, if_pos b1]; decide)).trans ?_
    refine (bk_v (M_173 I w k _ _ _)).trans ?_
    refine (e214_18 I w k _ _ _ _ _ _ _).trans ?_
    by_cases b2 : 0 ≤ y ∧ y ≤ 19
    · refine (zc_f (by rw [tf, if_pos b2]; decide)).trans ?_
      refine (bk_v (M_173 I w k _ _ _)).trans ?_
      refine (e214_27 I w k _ _ _ _ _ _ _).trans ?_
      exact zc_t (by rw [tf, if_neg (fun b3 => h ⟨b1, b2, b3⟩)])
    · exact zc_t (by rw [tf, if_neg b2])
  · exact zc_t (by rw [tf, if_neg b1])
