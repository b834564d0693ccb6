/-! ===== trials of the reference ===== -/
/-- the copy that a trial leaves -/
def kp (I : aI) : aI := a_cpI I 25 0 (fb_put (I 25 0) (I 24 0) 0 6388)
theorem kp_24 (I : aI) : kp I 24 = I 24 := cI_ne I (by decide) _
theorem kp_31 (I : aI) : kp I 31 = I 31 := cI_ne I (by decide) _
theorem kp_25 (I : aI) {x : Nat} (h : x < 6388) : kp I 25 0 x = I 24 0 x := by
  unfold kp
  rw [cI_row, fb_put_in (by omega) (by omega), Nat.sub_zero]
theorem back (I : aI) (J : aI) (r : aR) (h : ∀ x, x < 6388 → J 25 0 x = I 24 0 x) (h2 : ∀ x, 6388 ≤ x → r x = I 24 0 x) : fb_put r (fun k => J 25 0 (0 + k)) 0 6388 = I 24 0 := by
  funext x
  rcases Nat.lt_or_ge x 6388 with y | y
  · rw [fb_put_in (by omega) (by omega), Nat.zero_add, Nat.sub_zero]; exact h x y
  · rw [fb_put_out (by omega)]; exact h2 x y
theorem M_273X (I : aI) (w : aW) (k : aQ) {q : Nat} (hq : q < 40) (r : aR) (x2 : Int32) : (rn 181 (a_en 181 [.inr (.inr (some (31, 0))), .inl (nI q), .inl 6] (MM (a_setI (pR I r) 31 0 8 0) w k))).bind (fun o => a_bk 273 181 (83, [some (.inr (.inr (some (31, 0)))), some (.inl (nI q)), some (.inl x2)], [], MM (a_setI (pR I r) 31 0 8 0) w k) o (rn 273)) = some (.inl (some (.inl (r (68 + 8 * q + 6)))), MM (a_cpI (a_setI (pR I r) 31 0 8 0) 24 0 (fb_put r (fun k => I 25 0 (0 + k)) 0 6388)) w k) := by
  refine (bk_v (M_181_6 _ w k hq)).trans ?_
  refine (e273_86 _ w k _ _ _).trans ?_
  refine (bk_n (M_272p1 _ w k (a := 0) (b := 0) (by omega) (by omega))).trans ?_
  exact e273_100 _ w k _ _ _
theorem M_273L (I : aI) (w : aW) (k : aQ) {q : Nat} (hq : q < 40) (h8 : I 31 0 8 = 1) : ∀ (d j T : Nat) (r : aR), j + d = 3000 → T + d < 99998 → Okt T r → rn 273 (46, [some (.inr (.inr (some (31, 0)))), some (.inl (nI q)), some (.inl (nI j))], [], MM (pR I r) w k) = some (.inl (some (.inl (m_fc q d r (68 + 8 * q + 6)))), MM (a_cpI (a_setI (pR I (m_fc q d r)) 31 0 8 0) 24 0 (fb_put (m_fc q d r) (fun k => I 25 0 (0 + k)) 0 6388)) w k) := by
  intro d
  induction d with
  | zero =>
    intro j T r hj hT hO
    refine (e273_46 _ w k _ _).trans ?_
    refine (zc_t (show (3000 : Int32) ≤ nI j from nI_le (a := 3000) (by omega) (by omega))).trans ?_
    exact M_273X I w k hq r _
  | succ d ih =>
    intro j T r hj hT hO
    refine (e273_46 _ w k _ _).trans ?_
    refine (zc_f (show ¬ (3000 : Int32) ≤ nI j from nI_ge (b := 3000) (by omega) (by omega))).trans ?_
    refine (bk_v (M_181_6 (pR I r) w k hq)).trans ?_
    refine (e273_60 _ w k _ _ _).trans ?_
    rw [pR_row]
    by_cases h : r (68 + 8 * q + 6) = -1
    · refine (zc_f (fun z => z h)).trans ?_
      have hm : rn 245 (a_en 245 [.inr (.inr (some (31, 0)))] (MM (pR I r) w k)) = some (.inl none, MM (pR I (m_min 1 r)) w k) := by
        have y := M_245 (pR I r) w k (by rw [pR_row]; exact (hO.mv (by omega)).rm)
        rw [pR_row, pR_m, h8, pR_pR] at y
        exact y
      refine (bk_n hm).trans ?_
      refine (e273_68 _ w k _ _).trans ?_
      rw [nI_1, show m_fc q (d + 1) r = m_fc q d (m_min 1 r) from if_neg (fun z => z h)]
      exact ih (j + 1) (T + 1) _ (by omega) (by omega) (hO.min (by omega) 1)
    · refine (zc_t h).trans ?_
      rw [show m_fc q (d + 1) r = r from if_pos h]
      exact M_273X I w k hq r _
