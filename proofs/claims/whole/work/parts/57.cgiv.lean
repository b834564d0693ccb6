/-! ===== the class: contacts are given up, a contact begins ===== -/
section
variable {a8 : Int32} {i : Nat}
theorem C_65L (w : aW) (k : aQ) {n c : Nat} {t : Int32} (hn : n ≤ 40) (hc : c < 100000) : ∀ (d e : Nat) (I : aI) (r : aR) (d2 : Option aV), e + d = c → c + 1 ≤ e + 60 → Jv n c t r → Sim a8 i I r → ∃ I', rn 65 (5, [some (.inr (.inr (some (20, i)))), some (.inl (nI e)), d2], [], MM I w k) = some (.inl none, MM I' w k) ∧ Sim a8 i I' (m_vl n t d e r) ∧ Jv n c t (m_vl n t d e r) ∧ Fr i I I' := by
  intro d
  induction d with
  | zero =>
    intro e I r d2 he he2 hJ hS
    have he : e = c := by omega
    subst he
    have hC := z_c0 hJ hc
    have hk := hS.2.2.2.2.2 e (by omega) (by omega)
    refine ⟨I, ?_, hS, hJ, Fr.refl _ _⟩
    have h5 : I 20 i 5 = nI (e + 1) := hS.1.2.2.1.2.1.trans hJ.2.2.1
    have hend : I 15 (60 * i + e % 60) 3 = -1 := hk.2.1.2.2.1.trans hJ.2.2.2.2.2.1
    have last : ∀ d2 : Option aV, rn 65 (5, [some (.inr (.inr (some (20, i)))), some (.inl (nI (e + 1))), d2], [], MM I w k) = some (.inl none, MM I w k) := fun d2 => by
      refine (e65_5 I w k _ _ _).trans ?_
      rw [h5, zc_t (nI_le (by omega) (by omega))]
    refine (e65_5 I w k _ _ _).trans ?_
    rw [h5, zc_f (nI_ge (by omega) (by omega))]
    refine (bk_v (C_55 I w k (by omega))).trans ?_
    refine (e65_18 I w k _ _ _ _).trans ?_
    rw [nI_1]
    by_cases h1 : I 15 (60 * i + e % 60) 4 = 0
    · rw [zc_f (fun z => z h1)]
      refine (bk_v (show rn 5 (a_en 5 [.inr (.inr (some (15, (60 * i + e % 60)))), .inl (I 20 i 8), .inl (I 10 i 1)] (MM I w k)) = some (.inl (some (.inl 0)), MM I w k) from (e5_0 I w k _ _ _).trans (zc_t hend))).trans ?_
      refine (e65_41 I w k _ _ _ _).trans ?_
      rw [nI_1, zc_t rfl]; exact last _
    · rw [zc_t h1]; exact last _
  | succ d ih =>
    intro e I r d2 he he2 hJ hS
    have hm := Nat.mod_lt e (by decide : 0 < 60)
    have hC := z_c0 hJ hc
    have hR : nR r = n := by unfold nR; rw [hJ.1, nI_clamp (by omega)]
    have hk := hS.2.2.2.2.2 e (by omega) (by omega)
    have h5 : I 20 i 5 = nI (c + 1) := hS.1.2.2.1.2.1.trans hJ.2.2.1
    obtain ⟨q1, q2⟩ := hJ.2.2.2.2.1 e (by omega) (by omega)
    have hend : ¬ I 15 (60 * i + e % 60) 3 = -1 := by rw [hk.2.1.2.2.1]; exact q1
    have hvl : m_vl n t (d + 1) e r = m_vl n t d (e + 1) (m_v1 n t e r) := rfl
    have keep : ∀ d2 : Option aV, m_v1 n t e r = r → ∃ I', rn 65 (5, [some (.inr (.inr (some (20, i)))), some (.inl (nI (e + 1))), d2], [], MM I w k) = some (.inl none, MM I' w k) ∧ Sim a8 i I' (m_vl n t (d + 1) e r) ∧ Jv n c t (m_vl n t (d + 1) e r) ∧ Fr i I I' := by
      intro d2 hb
      rw [hvl, hb]
      exact ih (e + 1) I r d2 (by omega) (by omega) hJ hS
    have h20 : I 20 i 8 = t := hS.1.2.2.1.2.2.2.trans hJ.2.2.2.1
    have st := e65_5 I w k i (nI e) d2
    rw [h5, zc_f (nI_ge (by omega) (by omega)), show (rn 55 (a_en 55 [.inr (.inr (some (20, i))), .inl (nI e)] (MM I w k))).bind (fun o => a_bk 65 55 (15, [some (.inr (.inr (some (20, i)))), some (.inl (nI e)), d2], [], MM I w k) o (rn 65)) = _ from bk_v (C_55 I w k (by omega)), show rn 65 (15 + 3, [some (.inr (.inr (some (20, i)))), some (.inl (nI e)), d2], [.inr (.inr (some (15, 60 * i + e % 60)))], MM I w k) = _ from e65_18 I w k _ _ _ _, nI_1, hk.2.1.2.2.2, h20, hS.1.2.1.2.1] at st
    rw [st]
    by_cases h1 : r (1348 + 84 * (e % 60) + 3) = 0
    · rw [zc_f (fun z => z h1)]
      have ft := e65_41 I w k i (nI e) (60 * i + e % 60)
      by_cases h6 : t - r (1348 + 84 * (e % 60) + 2) < r 11
      · rw [show (rn 5 (a_en 5 [.inr (.inr (some (15, (60 * i + e % 60)))), .inl t, .inl (r 11)] (MM I w k))).bind (fun o => a_bk 65 5 (38, [some (.inr (.inr (some (20, i)))), some (.inl (nI e)), some (.inr (.inr (some (15, 60 * i + e % 60))))], [], MM I w k) o (rn 65)) = _ from bk_v (show rn 5 (a_en 5 [.inr (.inr (some (15, (60 * i + e % 60)))), .inl t, .inl (r 11)] (MM I w k)) = some (.inl (some (.inl 0)), MM I w k) from (e5_0 I w k _ _ _).trans ((zc_f hend).trans (zc_t (by rw [hk.2.1.2.2.1]; exact h6))))]
        rw [show rn 65 (38 + 3, [some (.inr (.inr (some (20, i)))), some (.inl (nI e)), some (.inr (.inr (some (15, 60 * i + e % 60))))], [.inl 0], MM I w k) = _ from ft 0, zc_t rfl, nI_1]
        exact keep _ ((if_pos h1).trans (if_pos h6))
      · rw [show (rn 5 (a_en 5 [.inr (.inr (some (15, (60 * i + e % 60)))), .inl t, .inl (r 11)] (MM I w k))).bind (fun o => a_bk 65 5 (38, [some (.inr (.inr (some (20, i)))), some (.inl (nI e)), some (.inr (.inr (some (15, 60 * i + e % 60))))], [], MM I w k) o (rn 65)) = _ from bk_v (show rn 5 (a_en 5 [.inr (.inr (some (15, (60 * i + e % 60)))), .inl t, .inl (r 11)] (MM I w k)) = some (.inl (some (.inl 1)), MM I w k) from (e5_0 I w k _ _ _).trans ((zc_f hend).trans (zc_f (by rw [hk.2.1.2.2.1]; exact h6))))]
        rw [show rn 65 (38 + 3, [some (.inr (.inr (some (20, i)))), some (.inl (nI e)), some (.inr (.inr (some (15, 60 * i + e % 60))))], [.inl 1], MM I w k) = _ from ft 1, zc_f (by decide)]
        have hv : m_v1 n t e r = m_v0 e (m_gb (nI e) n 0 r) := (if_pos h1).trans (if_neg h6)
        -- the class notes it first
        have hS1 := Sim_cf hS hJ.2.1 (by omega) (c := e) (by omega) (by omega) (j := 3) (by omega) 1
        have f7 : I 13 i 7 = upd r (1348 + 84 * (e % 60) + 3) 1 23 := hS1.2.1 7 (by omega)
        have hS2 := Sim_fig hS1 (j := 7) (by omega) (upd r (1348 + 84 * (e % 60) + 3) 1 23 + 1)
        have hS2 : Sim a8 i (a_setI (a_setI I 15 (60 * i + e % 60) 4 1) 13 i 7 (upd r (1348 + 84 * (e % 60) + 3) 1 23 + 1)) (m_v0 e r) := hS2
        have hJ2 := hJ.v0 hn e
        have hR2 : nR (m_v0 e r) = n := by unfold nR; rw [hJ2.1, nI_clamp (by omega)]
        have hC2 := z_c0 hJ2 hc
        obtain ⟨I1, g1, g2, g3⟩ := C_66 _ w k hS2 ⟨by rw [hR2]; exact hJ2.1, by omega⟩ hJ2.2.1 (c := e) (by omega) (by omega) (hJ2.2.2.2.2.2.2 e (by omega) (by omega))
        have ev : m_gb (nI e) (nR (m_v0 e r)) 0 (m_v0 e r) = m_v1 n t e r := by
          rw [hv, hR2]
          unfold m_v0
          rw [gb_x (by omega) n 0 _ (by omega), gb_x (by omega) n 0 _ (by omega)]
          congr 1
          congr 1
          rw [upd_n _ _ _ (show 23 ≠ 1348 + 84 * (e % 60) + 3 by omega), upd_n _ _ _ (show 23 ≠ 1348 + 84 * (e % 60) + 3 by omega), m_gb_n n 0 r (fun q hq => by omega)]
        rw [ev] at g2
        have hJ3 : Jv n c t (m_v1 n t e r) := by rw [hv]; exact (hJ.gb hn _).v0 hn e
        obtain ⟨I2, y1, y2, y3, y4⟩ := ih (e + 1) I1 (m_v1 n t e r) (some (.inr (.inr (some (15, 60 * i + e % 60))))) (by omega) (by omega) hJ3 g2
        refine ⟨I2, ?_, y2, y3, (((Fr.set (show own i 15 (60 * i + e % 60) from own_c hm) _ _ _).trans (Fr.set (show own i 13 i from rfl) _ _ _)).trans g3).trans y4⟩
        rw [f7]
        refine (bk_n g1).trans ?_
        refine (e65_65 _ w k _ _ _).trans ?_
        rw [nI_1]
        exact y1
    · rw [zc_t h1]
      exact keep _ (if_neg h1)
end
/-! a row of masks is cleared -/
theorem C_308s4 (I : aI) (w : aW) (k : aQ) (q : Nat) (v : Int32) : rn 308 (a_en 308 [.inr (.inr (some (4, q))), .inl v] (MM I w k)) = some (.inl none, MM (a_cpI I 4 q (fa_fill (fun _ => v) (I 4 q) 40)) w k) := by
  have cset : ∀ (f : aR) (x : Nat) (u : Int32), a_setI (a_cpI I 4 q f) 4 q x u = a_cpI I 4 q (upd f x u) := by
    intro f x u
    funext s' q' j
    rw [gI, gC, gC]
    unfold upd
    by_cases h1 : s' = 4 <;> by_cases h2 : q' = q <;> by_cases h3 : j = x <;> simp [h1, h2, h3]
  have cself : a_cpI I 4 q (I 4 q) = I := by
    funext s' q' j
    rw [gC]
    by_cases h1 : s' = 4 <;> by_cases h2 : q' = q <;> simp [h1, h2]
  have L : ∀ (d j : Nat), j + d = 40 → rn 308 (5, [some (.inr (.inr (some (4, q)))), some (.inl v), some (.inl (nI j)), some (.inl 40)], [], MM (a_cpI I 4 q (fa_fill (fun _ => v) (I 4 q) j)) w k) = some (.inl none, MM (a_cpI I 4 q (fa_fill (fun _ => v) (I 4 q) 40)) w k) := by
    intro d
    induction d with
    | zero =>
      intro j hj
      have : j = 40 := by omega
      subst this
      refine (e308s4_5 _ w k _ _ _ _).trans ?_
      rw [zc_t (show (40 : Int32) ≤ nI 40 from nI_le (a := 40) (by omega) (by omega))]
    | succ d ih =>
      intro j hj
      refine (e308s4_5 _ w k _ _ _ _).trans ?_
      rw [zc_f (show ¬ (40 : Int32) ≤ nI j from nI_ge (b := 40) (by omega) (by omega)), z_in (by omega) (by decide), nI_clamp (by omega), cond_true, cset, nI_1, fa_fill_succ (fun _ => v) (I 4 q) j]
      exact ih (j + 1) (by omega)
  have h := L 40 0 (by omega)
  rw [fa_fill_0, cself] at h
  exact (e308s4_0 I w k _ _).trans h
theorem C_308s5 (I : aI) (w : aW) (k : aQ) (q : Nat) (v : Int32) : rn 308 (a_en 308 [.inr (.inr (some (5, q))), .inl v] (MM I w k)) = some (.inl none, MM (a_cpI I 5 q (fa_fill (fun _ => v) (I 5 q) 40)) w k) := by
  have cset : ∀ (f : aR) (x : Nat) (u : Int32), a_setI (a_cpI I 5 q f) 5 q x u = a_cpI I 5 q (upd f x u) := by
    intro f x u
    funext s' q' j
    rw [gI, gC, gC]
    unfold upd
    by_cases h1 : s' = 5 <;> by_cases h2 : q' = q <;> by_cases h3 : j = x <;> simp [h1, h2, h3]
  have cself : a_cpI I 5 q (I 5 q) = I := by
    funext s' q' j
    rw [gC]
    by_cases h1 : s' = 5 <;> by_cases h2 : q' = q <;> simp [h1, h2]
  have L : ∀ (d j : Nat), j + d = 40 → rn 308 (5, [some (.inr (.inr (some (5, q)))), some (.inl v), some (.inl (nI j)), some (.inl 40)], [], MM (a_cpI I 5 q (fa_fill (fun _ => v) (I 5 q) j)) w k) = some (.inl none, MM (a_cpI I 5 q (fa_fill (fun _ => v) (I 5 q) 40)) w k) := by
    intro d
    induction d with
    | zero =>
      intro j hj
      have : j = 40 := by omega
      subst this
      refine (e308s5_5 _ w k _ _ _ _).trans ?_
      rw [zc_t (show (40 : Int32) ≤ nI 40 from nI_le (a := 40) (by omega) (by omega))]
    | succ d ih =>
      intro j hj
      refine (e308s5_5 _ w k _ _ _ _).trans ?_
      rw [zc_f (show ¬ (40 : Int32) ≤ nI j from nI_ge (b := 40) (by omega) (by omega)), z_in (by omega) (by decide), nI_clamp (by omega), cond_true, cset, nI_1, fa_fill_succ (fun _ => v) (I 5 q) j]
      exact ih (j + 1) (by omega)
  have h := L 40 0 (by omega)
  rw [fa_fill_0, cself] at h
  exact (e308s5_0 I w k _ _).trans h
theorem C_308s6 (I : aI) (w : aW) (k : aQ) (q : Nat) (v : Int32) : rn 308 (a_en 308 [.inr (.inr (some (6, q))), .inl v] (MM I w k)) = some (.inl none, MM (a_cpI I 6 q (fa_fill (fun _ => v) (I 6 q) 24)) w k) := by
  have cset : ∀ (f : aR) (x : Nat) (u : Int32), a_setI (a_cpI I 6 q f) 6 q x u = a_cpI I 6 q (upd f x u) := by
    intro f x u
    funext s' q' j
    rw [gI, gC, gC]
    unfold upd
    by_cases h1 : s' = 6 <;> by_cases h2 : q' = q <;> by_cases h3 : j = x <;> simp [h1, h2, h3]
  have cself : a_cpI I 6 q (I 6 q) = I := by
    funext s' q' j
    rw [gC]
    by_cases h1 : s' = 6 <;> by_cases h2 : q' = q <;> simp [h1, h2]
  have L : ∀ (d j : Nat), j + d = 24 → rn 308 (5, [some (.inr (.inr (some (6, q)))), some (.inl v), some (.inl (nI j)), some (.inl 24)], [], MM (a_cpI I 6 q (fa_fill (fun _ => v) (I 6 q) j)) w k) = some (.inl none, MM (a_cpI I 6 q (fa_fill (fun _ => v) (I 6 q) 24)) w k) := by
    intro d
    induction d with
    | zero =>
      intro j hj
      have : j = 24 := by omega
      subst this
      refine (e308s6_5 _ w k _ _ _ _).trans ?_
      rw [zc_t (show (24 : Int32) ≤ nI 24 from nI_le (a := 24) (by omega) (by omega))]
    | succ d ih =>
      intro j hj
      refine (e308s6_5 _ w k _ _ _ _).trans ?_
      rw [zc_f (show ¬ (24 : Int32) ≤ nI j from nI_ge (b := 24) (by omega) (by omega)), z_in (by omega) (by decide), nI_clamp (by omega), cond_true, cset, nI_1, fa_fill_succ (fun _ => v) (I 6 q) j]
      exact ih (j + 1) (by omega)
  have h := L 24 0 (by omega)
  rw [fa_fill_0, cself] at h
  exact (e308s6_0 I w k _ _).trans h
theorem C_308s13 (I : aI) (w : aW) (k : aQ) (q : Nat) (v : Int32) : rn 308 (a_en 308 [.inr (.inr (some (13, q))), .inl v] (MM I w k)) = some (.inl none, MM (a_cpI I 13 q (fa_fill (fun _ => v) (I 13 q) 8)) w k) := by
  have cset : ∀ (f : aR) (x : Nat) (u : Int32), a_setI (a_cpI I 13 q f) 13 q x u = a_cpI I 13 q (upd f x u) := by
    intro f x u
    funext s' q' j
    rw [gI, gC, gC]
    unfold upd
    by_cases h1 : s' = 13 <;> by_cases h2 : q' = q <;> by_cases h3 : j = x <;> simp [h1, h2, h3]
  have cself : a_cpI I 13 q (I 13 q) = I := by
    funext s' q' j
    rw [gC]
    by_cases h1 : s' = 13 <;> by_cases h2 : q' = q <;> simp [h1, h2]
  have L : ∀ (d j : Nat), j + d = 8 → rn 308 (5, [some (.inr (.inr (some (13, q)))), some (.inl v), some (.inl (nI j)), some (.inl 8)], [], MM (a_cpI I 13 q (fa_fill (fun _ => v) (I 13 q) j)) w k) = some (.inl none, MM (a_cpI I 13 q (fa_fill (fun _ => v) (I 13 q) 8)) w k) := by
    intro d
    induction d with
    | zero =>
      intro j hj
      have : j = 8 := by omega
      subst this
      refine (e308s13_5 _ w k _ _ _ _).trans ?_
      rw [zc_t (show (8 : Int32) ≤ nI 8 from nI_le (a := 8) (by omega) (by omega))]
    | succ d ih =>
      intro j hj
      refine (e308s13_5 _ w k _ _ _ _).trans ?_
      rw [zc_f (show ¬ (8 : Int32) ≤ nI j from nI_ge (b := 8) (by omega) (by omega)), z_in (by omega) (by decide), nI_clamp (by omega), cond_true, cset, nI_1, fa_fill_succ (fun _ => v) (I 13 q) j]
      exact ih (j + 1) (by omega)
  have h := L 8 0 (by omega)
  rw [fa_fill_0, cself] at h
  exact (e308s13_0 I w k _ _).trans h
theorem C_308s19 (I : aI) (w : aW) (k : aQ) (q : Nat) (v : Int32) : rn 308 (a_en 308 [.inr (.inr (some (19, q))), .inl v] (MM I w k)) = some (.inl none, MM (a_cpI I 19 q (fa_fill (fun _ => v) (I 19 q) 5)) w k) := by
  have cset : ∀ (f : aR) (x : Nat) (u : Int32), a_setI (a_cpI I 19 q f) 19 q x u = a_cpI I 19 q (upd f x u) := by
    intro f x u
    funext s' q' j
    rw [gI, gC, gC]
    unfold upd
    by_cases h1 : s' = 19 <;> by_cases h2 : q' = q <;> by_cases h3 : j = x <;> simp [h1, h2, h3]
  have cself : a_cpI I 19 q (I 19 q) = I := by
    funext s' q' j
    rw [gC]
    by_cases h1 : s' = 19 <;> by_cases h2 : q' = q <;> simp [h1, h2]
  have L : ∀ (d j : Nat), j + d = 5 → rn 308 (5, [some (.inr (.inr (some (19, q)))), some (.inl v), some (.inl (nI j)), some (.inl 5)], [], MM (a_cpI I 19 q (fa_fill (fun _ => v) (I 19 q) j)) w k) = some (.inl none, MM (a_cpI I 19 q (fa_fill (fun _ => v) (I 19 q) 5)) w k) := by
    intro d
    induction d with
    | zero =>
      intro j hj
      have : j = 5 := by omega
      subst this
      refine (e308s19_5 _ w k _ _ _ _).trans ?_
      rw [zc_t (show (5 : Int32) ≤ nI 5 from nI_le (a := 5) (by omega) (by omega))]
    | succ d ih =>
      intro j hj
      refine (e308s19_5 _ w k _ _ _ _).trans ?_
      rw [zc_f (show ¬ (5 : Int32) ≤ nI j from nI_ge (b := 5) (by omega) (by omega)), z_in (by omega) (by decide), nI_clamp (by omega), cond_true, cset, nI_1, fa_fill_succ (fun _ => v) (I 19 q) j]
      exact ih (j + 1) (by omega)
  have h := L 5 0 (by omega)
  rw [fa_fill_0, cself] at h
  exact (e308s19_0 I w k _ _).trans h
