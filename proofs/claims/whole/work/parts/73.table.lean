/-! ===== the reference's table of passes: the next line ===== -/
/-- the fields of a line -/
def sF (I : aI) (r : aR) : Option (Nat × Nat) → aI
  | none => I
  | some p => a_setI (a_setI (a_setI I 31 0 5 (nI p.1)) 31 0 6 (nI p.2)) 31 0 7 (m_begin r p.1 (nI p.2))
def fF : Option (Nat × Nat) → Int32
  | none => 0
  | some _ => 1
theorem sF_24 (I : aI) (r : aR) (F : Option (Nat × Nat)) : sF I r F 24 = I 24 := by cases F <;> rfl
theorem sF_some (I : aI) (r : aR) (F : Option (Nat × Nat)) (s o : Nat) : a_setI (a_setI (a_setI (sF I r F) 31 0 5 (nI s)) 31 0 6 (nI o)) 31 0 7 (m_begin r s (nI o)) = sF I r (some (s, o)) := by
  cases F with
  | none => rfl
  | some p =>
    funext c q j
    show a_setI (a_setI (a_setI (a_setI (a_setI (a_setI I 31 0 5 (nI p.1)) 31 0 6 (nI p.2)) 31 0 7 (m_begin r p.1 (nI p.2))) 31 0 5 (nI s)) 31 0 6 (nI o)) 31 0 7 (m_begin r s (nI o)) c q j = a_setI (a_setI (a_setI I 31 0 5 (nI s)) 31 0 6 (nI o)) 31 0 7 (m_begin r s (nI o)) c q j
    simp only [gI]
    by_cases h1 : c = 31 ∧ j = 7 ∧ q = 0
    · rw [if_pos h1, if_pos h1]
    · rw [if_neg h1, if_neg h1, if_neg h1]
      by_cases h2 : c = 31 ∧ j = 6 ∧ q = 0
      · rw [if_pos h2, if_pos h2]
      · rw [if_neg h2, if_neg h2, if_neg h2]
        by_cases h3 : c = 31 ∧ j = 5 ∧ q = 0
        · rw [if_pos h3, if_pos h3]
        · rw [if_neg h3, if_neg h3, if_neg h3]
/-- a pass that comes after (t, x) and before the one found -/
def gF (r : aR) (t x : Int32) (s o : Nat) (F : Option (Nat × Nat)) : Prop := (t < m_begin r s (nI o) ∨ (m_begin r s (nI o) = t ∧ ¬ nI s ≤ x)) ∧ (∀ p, F = some p → ¬ m_begin r p.1 (nI p.2) ≤ m_begin r s (nI o)) ∧ ¬ m_lasts r s (nI o) ≤ 0
noncomputable def m_pl (r : aR) (t x : Int32) (s o : Nat) (F : Option (Nat × Nat)) : Option (Nat × Nat) := @ite _ (gF r t x s o F) (Classical.propDecidable _) (some (s, o)) F
noncomputable def m_po (r : aR) (t x : Int32) (s : Nat) : Nat → Nat → Option (Nat × Nat) → Option (Nat × Nat)
  | 0, _, F => F
  | d + 1, o, F => m_po r t x s d (o + 1) (m_pl r t x s o F)
noncomputable def m_ps (r : aR) (t x : Int32) : Nat → Nat → Option (Nat × Nat) → Option (Nat × Nat)
  | 0, _, F => F
  | d + 1, s, F => m_ps r t x d (s + 1) (m_po r t x s 1000 0 F)
theorem M_213b (I : aI) (w : aW) (k : aQ) (hR : Rs (I 24 0)) (t x : Int32) {s o : Nat} (hs : s < nS (I 24 0)) (ho : o < 1000) (F : Option (Nat × Nat)) (d6 d7 : Option aV) : ∃ d6' d7', rn 213 (19, [some (.inr (.inr (some (31, 0)))), some (.inl t), some (.inl x), some (.inl (fF F)), some (.inl (nI s)), some (.inl (nI o)), d6, d7], [], MM (sF I (I 24 0) F) w k) = rn 213 (19, [some (.inr (.inr (some (31, 0)))), some (.inl t), some (.inl x), some (.inl (fF (m_pl (I 24 0) t x s o F))), some (.inl (nI s)), some (.inl (nI (o + 1))), d6', d7'], [], MM (sF I (I 24 0) (m_pl (I 24 0) t x s o F)) w k) := by
  have hS4 := hR.1.2
  have e1 : rn 201 (a_en 201 [.inr (.inr (some (31, 0))), .inl (nI s), .inl (nI o)] (MM (sF I (I 24 0) F) w k)) = some (.inl (some (.inl (m_begin (I 24 0) s (nI o)))), MM (sF I (I 24 0) F) w k) := by
    have y := M_201 (sF I (I 24 0) F) w k (s := s) (by omega) (nI o)
    rw [sF_24] at y; exact y
  have e2 : rn 200 (a_en 200 [.inr (.inr (some (31, 0))), .inl (nI s), .inl (nI o)] (MM (sF I (I 24 0) F) w k)) = some (.inl (some (.inl (m_lasts (I 24 0) s (nI o)))), MM (sF I (I 24 0) F) w k) := by
    have y := M_200 (sF I (I 24 0) F) w k (s := s) (by rw [sF_24]; exact hR) (by rw [sF_24]; exact hs) (nI o)
    rw [sF_24] at y; exact y
  have no : ¬ gF (I 24 0) t x s o F → m_pl (I 24 0) t x s o F = F := fun h => if_neg h
  have st : rn 213 (19, [some (.inr (.inr (some (31, 0)))), some (.inl t), some (.inl x), some (.inl (fF F)), some (.inl (nI s)), some (.inl (nI o)), d6, d7], [], MM (sF I (I 24 0) F) w k) = rn 213 (35, [some (.inr (.inr (some (31, 0)))), some (.inl t), some (.inl x), some (.inl (fF F)), some (.inl (nI s)), some (.inl (nI o)), d6, d7], [.inl (m_begin (I 24 0) s (nI o))], MM (sF I (I 24 0) F) w k) := by
    refine (e213_19 _ w k _ _ _ _ _ _ _).trans ?_
    refine (zc_f (show ¬ (1000 : Int32) ≤ nI o from nI_ge (b := 1000) ho (by omega))).trans ?_
    exact bk_v e1
  rw [st]
  -- the last question
  have last : ∀ u : Int32, (t < m_begin (I 24 0) s (nI o) ∨ (m_begin (I 24 0) s (nI o) = t ∧ ¬ nI s ≤ x)) → (∀ p, F = some p → ¬ m_begin (I 24 0) p.1 (nI p.2) ≤ m_begin (I 24 0) s (nI o)) → ∃ d6' d7', (rn 200 (a_en 200 [.inr (.inr (some (31, 0))), .inl (nI s), .inl (nI o)] (MM (sF I (I 24 0) F) w k))).bind (fun q => a_bk 213 200 (85, [some (.inr (.inr (some (31, 0)))), some (.inl t), some (.inl x), some (.inl (fF F)), some (.inl (nI s)), some (.inl (nI o)), some (.inl (m_begin (I 24 0) s (nI o))), some (.inl u)], [], MM (sF I (I 24 0) F) w k) q (rn 213)) = rn 213 (19, [some (.inr (.inr (some (31, 0)))), some (.inl t), some (.inl x), some (.inl (fF (m_pl (I 24 0) t x s o F))), some (.inl (nI s)), some (.inl (nI (o + 1))), d6', d7'], [], MM (sF I (I 24 0) (m_pl (I 24 0) t x s o F)) w k) := by
    intro u c1 c2
    by_cases h : m_lasts (I 24 0) s (nI o) ≤ 0
    · refine ⟨some (.inl (m_begin (I 24 0) s (nI o))), some (.inl u), ?_⟩
      rw [no (fun z => z.2.2 h)]
      refine (bk_v e2).trans ?_
      refine (e213_88 _ w k _ _ _ _ _ _ _ _).trans ?_
      rw [nI_1]
      exact zc_t h
    · refine ⟨some (.inl (m_begin (I 24 0) s (nI o))), some (.inl u), ?_⟩
      rw [show m_pl (I 24 0) t x s o F = some (s, o) from if_pos ⟨c1, c2, h⟩]
      refine (bk_v e2).trans ?_
      refine (e213_88 _ w k _ _ _ _ _ _ _ _).trans ?_
      rw [nI_1, sF_some]
      exact zc_f h
  have st2 := e213_35 (sF I (I 24 0) F) w k t x (fF F) (nI s) (nI o) d6 d7 (m_begin (I 24 0) s (nI o))
  rw [st2, nI_1]
  have found : ∀ u : Int32, (t < m_begin (I 24 0) s (nI o) ∨ (m_begin (I 24 0) s (nI o) = t ∧ ¬ nI s ≤ x)) → ∃ d6' d7', cond (decide (fF F = 0)) ((rn 200 (a_en 200 [.inr (.inr (some (31, 0))), .inl (nI s), .inl (nI o)] (MM (sF I (I 24 0) F) w k))).bind (fun q => a_bk 213 200 (85, [some (.inr (.inr (some (31, 0)))), some (.inl t), some (.inl x), some (.inl (fF F)), some (.inl (nI s)), some (.inl (nI o)), some (.inl (m_begin (I 24 0) s (nI o))), some (.inl u)], [], MM (sF I (I 24 0) F) w k) q (rn 213))) (cond (decide (sF I (I 24 0) F 31 0 7 ≤ m_begin (I 24 0) s (nI o))) (rn 213 (19, [some (.inr (.inr (some (31, 0)))), some (.inl t), some (.inl x), some (.inl (fF F)), some (.inl (nI s)), some (.inl (nI (o + 1))), some (.inl (m_begin (I 24 0) s (nI o))), some (.inl u)], [], MM (sF I (I 24 0) F) w k)) ((rn 200 (a_en 200 [.inr (.inr (some (31, 0))), .inl (nI s), .inl (nI o)] (MM (sF I (I 24 0) F) w k))).bind (fun q => a_bk 213 200 (85, [some (.inr (.inr (some (31, 0)))), some (.inl t), some (.inl x), some (.inl (fF F)), some (.inl (nI s)), some (.inl (nI o)), some (.inl (m_begin (I 24 0) s (nI o))), some (.inl u)], [], MM (sF I (I 24 0) F) w k) q (rn 213)))) = rn 213 (19, [some (.inr (.inr (some (31, 0)))), some (.inl t), some (.inl x), some (.inl (fF (m_pl (I 24 0) t x s o F))), some (.inl (nI s)), some (.inl (nI (o + 1))), d6', d7'], [], MM (sF I (I 24 0) (m_pl (I 24 0) t x s o F)) w k) := by
    intro u c1
    cases F with
    | none =>
      obtain ⟨a, b, h⟩ := last u c1 (fun p z => by cases z)
      exact ⟨a, b, (zc_t rfl).trans h⟩
    | some p =>
      have h7 : sF I (I 24 0) (some p) 31 0 7 = m_begin (I 24 0) p.1 (nI p.2) := rfl
      by_cases h : m_begin (I 24 0) p.1 (nI p.2) ≤ m_begin (I 24 0) s (nI o)
      · refine ⟨some (.inl (m_begin (I 24 0) s (nI o))), some (.inl u), (zc_f (show ¬ (1 : Int32) = 0 by decide)).trans ((zc_t (by rw [h7]; exact h)).trans ?_)⟩
        rw [no (fun z => z.2.1 p rfl h)]
      · obtain ⟨a, b, hh⟩ := last u c1 (fun p' z => by cases z; exact h)
        exact ⟨a, b, (zc_f (show ¬ (1 : Int32) = 0 by decide)).trans ((zc_f (by rw [h7]; exact h)).trans hh)⟩
  by_cases c1 : t < m_begin (I 24 0) s (nI o)
  · obtain ⟨a, b, h⟩ := found 1 (Or.inl c1)
    exact ⟨a, b, (zc_t c1).trans h⟩
  · by_cases c2 : m_begin (I 24 0) s (nI o) = t
    · by_cases c3 : nI s ≤ x
      · refine ⟨some (.inl (m_begin (I 24 0) s (nI o))), some (.inl 0), (zc_f c1).trans ((zc_f (fun z => z c2)).trans ((zc_t c3).trans ?_))⟩
        rw [no (fun z => z.1.elim c1 (fun y => y.2 c3))]
      · obtain ⟨a, b, h⟩ := found 1 (Or.inr ⟨c2, c3⟩)
        exact ⟨a, b, (zc_f c1).trans ((zc_f (fun z => z c2)).trans ((zc_f c3).trans h))⟩
    · refine ⟨some (.inl (m_begin (I 24 0) s (nI o))), some (.inl 0), (zc_f c1).trans ((zc_t c2).trans ?_)⟩
      rw [no (fun z => z.1.elim c1 (fun y => c2 y.1))]
theorem M_213o (I : aI) (w : aW) (k : aQ) (hR : Rs (I 24 0)) (t x : Int32) {s : Nat} (hs : s < nS (I 24 0)) (d : Nat) : ∀ (o : Nat) (F : Option (Nat × Nat)) (d6 d7 : Option aV), o + d = 1000 → ∃ d5' d6' d7', rn 213 (19, [some (.inr (.inr (some (31, 0)))), some (.inl t), some (.inl x), some (.inl (fF F)), some (.inl (nI s)), some (.inl (nI o)), d6, d7], [], MM (sF I (I 24 0) F) w k) = rn 213 (5, [some (.inr (.inr (some (31, 0)))), some (.inl t), some (.inl x), some (.inl (fF (m_po (I 24 0) t x s d o F))), some (.inl (nI (s + 1))), d5', d6', d7'], [], MM (sF I (I 24 0) (m_po (I 24 0) t x s d o F)) w k) := by
  induction d with
  | zero =>
    intro o F d6 d7 ho
    refine ⟨some (.inl (nI o)), d6, d7, ?_⟩
    refine (e213_19 _ w k _ _ _ _ _ _ _).trans ?_
    rw [nI_1]
    exact zc_t (show (1000 : Int32) ≤ nI o from nI_le (a := 1000) (by omega) (by omega))
  | succ d ih =>
    intro o F d6 d7 ho
    obtain ⟨a, b, h⟩ := M_213b I w k hR t x hs (show o < 1000 by omega) F d6 d7
    obtain ⟨e, f, g, h2⟩ := ih (o + 1) (m_pl (I 24 0) t x s o F) a b (by omega)
    exact ⟨e, f, g, h.trans h2⟩
theorem fF_b (F : Option (Nat × Nat)) : a_bz (fF F) = true := by cases F <;> rfl
theorem M_213s (I : aI) (w : aW) (k : aQ) (hR : Rs (I 24 0)) (t x : Int32) (d : Nat) : ∀ (s : Nat) (F : Option (Nat × Nat)) (d5 d6 d7 : Option aV), s + d = nS (I 24 0) → rn 213 (5, [some (.inr (.inr (some (31, 0)))), some (.inl t), some (.inl x), some (.inl (fF F)), some (.inl (nI s)), d5, d6, d7], [], MM (sF I (I 24 0) F) w k) = some (.inl (some (.inl (fF (m_ps (I 24 0) t x d s F)))), MM (sF I (I 24 0) (m_ps (I 24 0) t x d s F)) w k) := by
  obtain ⟨⟨h3, h4⟩, -⟩ := id hR
  induction d with
  | zero =>
    intro s F d5 d6 d7 hs
    refine (e213_5 _ w k _ _ _ _ _ _ _).trans ?_
    rw [sF_24, h3]
    refine (zc_t (nI_le (by omega) (by omega))).trans ?_
    rw [fF_b, cond_true]
    rfl
  | succ d ih =>
    intro s F d5 d6 d7 hs
    refine (e213_5 _ w k _ _ _ _ _ _ _).trans ?_
    rw [sF_24, h3]
    refine (zc_f (nI_ge (by omega) (by omega))).trans ?_
    obtain ⟨a, b, c, h⟩ := M_213o I w k hR t x (show s < nS (I 24 0) by omega) 1000 0 F d6 d7 (by omega)
    refine h.trans ?_
    exact ih (s + 1) _ a b c (by omega)
theorem M_213 (I : aI) (w : aW) (k : aQ) (hR : Rs (I 24 0)) (t x : Int32) : rn 213 (a_en 213 [.inr (.inr (some (31, 0))), .inl t, .inl x] (MM I w k)) = some (.inl (some (.inl (fF (m_ps (I 24 0) t x (nS (I 24 0)) 0 none)))), MM (sF I (I 24 0) (m_ps (I 24 0) t x (nS (I 24 0)) 0 none)) w k) :=
  (e213_0 I w k _ _).trans (M_213s I w k hR t x _ 0 none _ _ _ (by omega))
