/-! ===== the class: a contact begins ===== -/
theorem zl_v (p : Nat) : ∀ (d j : Nat) (r : aR) (x : Nat), m_zl p d j r x = if 1348 + 84 * p + j ≤ x ∧ x < 1348 + 84 * p + j + d then 0 else r x
  | 0, j, r, x => by rw [if_neg (by omega)]; rfl
  | d + 1, j, r, x => by
    show m_zl p d (j + 1) (upd r (1348 + 84 * p + j) 0) x = _
    rw [zl_v p d (j + 1)]
    by_cases h : x = 1348 + 84 * p + j
    · subst h; rw [upd_s, if_pos (show 1348 + 84 * p + j ≤ 1348 + 84 * p + j ∧ 1348 + 84 * p + j < 1348 + 84 * p + j + (d + 1) by omega)]; split <;> rfl
    · rw [upd_n _ _ _ h]
      by_cases h2 : 1348 + 84 * p + (j + 1) ≤ x ∧ x < 1348 + 84 * p + (j + 1) + d
      · rw [if_pos h2, if_pos (by omega)]
      · rw [if_neg h2, if_neg (by omega)]
section
variable {a8 : Int32} {i : Nat}
theorem Sim_new {I I' : aI} {r : aR} (hS : Sim a8 i I r) (h4 : nS r ≤ 4) (hn : nR r ≤ 40) {c s : Nat} {t : Int32} (hC : nC r = c) (hc : c < 100000) (h15 : I' 15 (60 * i + c % 60) 0 = nI c ∧ I' 15 (60 * i + c % 60) 1 = nI s ∧ I' 15 (60 * i + c % 60) 2 = t ∧ I' 15 (60 * i + c % 60) 3 = -1 ∧ I' 15 (60 * i + c % 60) 4 = 0) (hz : ∀ q, q < 40 → I' 4 (60 * i + c % 60) q = 0 ∧ I' 5 (60 * i + c % 60) q = 0) (h20 : I' 20 i = upd (I 20 i) 5 (nI (c + 1))) (hI : ∀ y Q, ¬ (y = 20 ∧ Q = i) → ¬ ((y = 15 ∨ y = 4 ∨ y = 5) ∧ Q = 60 * i + c % 60) → I' y Q = I y Q) : Sim a8 i I' (upd (upd (m_n1 (c % 60) (nI s) t (m_zl (c % 60) 84 0 r)) 12 (nI (c + 1))) 13 1) := by
  have hm := Nat.mod_lt c (by decide : 0 < 60)
  have v12 : upd (upd (m_n1 (c % 60) (nI s) t (m_zl (c % 60) 84 0 r)) 12 (nI (c + 1))) 13 1 12 = nI (c + 1) := by rw [upd_n _ _ _ (by omega), upd_s]
  have hin : ∀ j, j < 84 → upd (upd (m_n1 (c % 60) (nI s) t (m_zl (c % 60) 84 0 r)) 12 (nI (c + 1))) 13 1 (1348 + 84 * (c % 60) + j) = if j = 0 then nI s else if j = 1 then t else if j = 2 then -1 else 0 := by
    intro j hj
    rw [upd_n _ _ _ (by omega), upd_n _ _ _ (by omega)]
    unfold m_n1
    by_cases j2 : j = 2
    · subst j2; rw [upd_s]; rfl
    · rw [upd_n _ _ _ (by omega)]
      by_cases j1 : j = 1
      · subst j1; rw [upd_s]; rfl
      · rw [upd_n _ _ _ (by omega)]
        by_cases j0 : j = 0
        · subst j0; rw [upd_s]; rfl
        · rw [upd_n _ _ _ (by omega), zl_v, if_pos (by omega), if_neg j0, if_neg j1, if_neg j2]
  have e : ∀ x, x ≠ 12 → x ≠ 13 → (x < 1348 + 84 * (c % 60) ∨ 1348 + 84 * (c % 60) + 84 ≤ x) → upd (upd (m_n1 (c % 60) (nI s) t (m_zl (c % 60) 84 0 r)) 12 (nI (c + 1))) 13 1 x = r x := by
    intro x a b y
    rw [upd_n _ _ _ b, upd_n _ _ _ a]
    unfold m_n1
    rw [upd_n _ _ _ (by omega), upd_n _ _ _ (by omega), upd_n _ _ _ (by omega), zl_v, if_neg (by omega)]
  generalize upd (upd (m_n1 (c % 60) (nI s) t (m_zl (c % 60) 84 0 r)) 12 (nI (c + 1))) 13 1 = r' at v12 hin e
  obtain ⟨⟨a, b, ⟨c0, c1, c2, c3⟩, d, d2⟩, h2, h3, hp, h5, h6⟩ := hS
  have eS := nS_c (e 3 (by omega) (by omega) (by omega))
  have eR := nR_c (e 4 (by omega) (by omega) (by omega))
  have eC : nC r' = c + 1 := by unfold nC; rw [v12, nI_clamp (by omega)]
  have b2 := kFig_r h2 (r' := r') (fun x hx hy => e x (by omega) (by omega) (by omega))
  have b3 := kSta_r h3 (r' := r') eS (fun s j hs hj => e _ (by omega) (by omega) (by omega))
  have b4 := kPha_r hp (r' := r') eS (fun s hs => e _ (by omega) (by omega) (by omega))
  have b5 := kRec_r h5 (r' := r') eR (fun q j hq hj => e _ (by omega) (by omega) (by omega)) (fun q x hq hx => e _ (by omega) (by omega) (by omega))
  refine ⟨⟨?_, ?_, ?_, ?_, ?_⟩, ?_, ?_, ?_, ?_, ?_⟩
  · rw [hI 9 i (by omega) (by omega), e 0 (by omega) (by omega) (by omega), e 1 (by omega) (by omega) (by omega), e 2 (by omega) (by omega) (by omega), e 3 (by omega) (by omega) (by omega)]; exact a
  · rw [hI 10 i (by omega) (by omega), e 10 (by omega) (by omega) (by omega), e 11 (by omega) (by omega) (by omega), e 6 (by omega) (by omega) (by omega), e 7 (by omega) (by omega) (by omega), e 8 (by omega) (by omega) (by omega), e 9 (by omega) (by omega) (by omega)]; exact b
  · rw [h20]
    exact ⟨by rw [upd_n _ _ _ (by omega), e 4 (by omega) (by omega) (by omega)]; exact c0, by rw [upd_s, v12], by rw [upd_n _ _ _ (by omega), e 15 (by omega) (by omega) (by omega)]; exact c2, by rw [upd_n _ _ _ (by omega), e 5 (by omega) (by omega) (by omega)]; exact c3⟩
  · intro z; rw [h20, upd_n _ _ _ (by omega), e 14 (by omega) (by omega) (by omega)]; exact d z
  · rw [h20, upd_n _ _ _ (by omega)]; exact d2
  · unfold kFig at b2 ⊢; rw [hI 13 i (by omega) (by omega)]; exact b2
  · intro p hp; rw [hI 18 _ (by omega) (by omega), hI 19 _ (by omega) (by omega)]; exact b3 p hp
  · unfold kPha at b4 ⊢; rw [hI 17 i (by omega) (by omega)]; exact b4
  · intro p hp; rw [hI 14 _ (by omega) (by omega), hI 6 _ (by omega) (by omega)]; exact b5 p hp
  · intro x x1 x2
    rw [eC] at x1 x2
    by_cases hx : x = c
    · subst hx
      refine ⟨h15.1, ⟨?_, ?_, ?_, ?_⟩, fun q hq => ⟨?_, ?_⟩⟩
      · rw [hin 0 (by omega)]; exact h15.2.1
      · rw [hin 1 (by omega)]; exact h15.2.2.1
      · rw [hin 2 (by omega)]; exact h15.2.2.2.1
      · rw [hin 3 (by omega)]; exact h15.2.2.2.2
      · rw [show 1348 + 84 * (x % 60) + 4 + q = 1348 + 84 * (x % 60) + (4 + q) by omega, hin (4 + q) (by omega), if_neg (by omega), if_neg (by omega), if_neg (by omega)]; exact (hz q hq).1
      · rw [show 1348 + 84 * (x % 60) + 44 + q = 1348 + 84 * (x % 60) + (44 + q) by omega, hin (44 + q) (by omega), if_neg (by omega), if_neg (by omega), if_neg (by omega)]; exact (hz q hq).2
    · have hne : x % 60 ≠ c % 60 := by omega
      rw [hI 15 _ (by omega) (by omega), hI 4 _ (by omega) (by omega), hI 5 _ (by omega) (by omega)]
      exact kCo1_r (h6 x (by omega) (by omega)) (fun j hj => e _ (by omega) (by omega) (by omega))
/-- what a contact's beginning needs -/
def Kv (n c : Nat) (r : aR) : Prop := (∀ e, e < c → c ≤ e + 60 → ¬ r (1348 + 84 * (e % 60) + 2) = -1 ∧ (r (1348 + 84 * (e % 60) + 3) = 0 ∨ r (1348 + 84 * (e % 60) + 3) = 1 ∨ r (1348 + 84 * (e % 60) + 3) = 2)) ∧ (∀ e, e < c → c ≤ e + 60 → Rl r e) ∧ ∀ q f, q < n → f < 24 → ¬ r (388 + 24 * q + f) = nI c
theorem Kv.jv {n c s : Nat} {t : Int32} {r : aR} (h : Kv n c r) (hr : r 4 = nI n) (hn : n ≤ 40) (h4 : nS r ≤ 4) (ht : r 5 = t) (hs : s < 4) : Jv n c t (m_n2 c s t r) := by
  obtain ⟨h1, h2, h3⟩ := h
  have hm := Nat.mod_lt c (by decide : 0 < 60)
  have hR : nR r = n := by unfold nR; rw [hr, nI_clamp (by omega)]
  have e : ∀ x, x ≠ 12 → x ≠ 13 → x ≠ 24 + 11 * s + 6 + 0 → (x < 1348 + 84 * (c % 60) ∨ 1348 + 84 * (c % 60) + 84 ≤ x) → m_n2 c s t r x = r x := by
    intro x a b y z
    unfold m_n2 m_ct m_n1
    rw [upd_n _ _ _ y, upd_n _ _ _ b, upd_n _ _ _ a, upd_n _ _ _ (by omega), upd_n _ _ _ (by omega), upd_n _ _ _ (by omega), zl_v, if_neg (by omega)]
  have e2 : m_n2 c s t r (1348 + 84 * (c % 60) + 2) = -1 := by
    unfold m_n2 m_ct m_n1
    rw [upd_n _ _ _ (by omega), upd_n _ _ _ (by omega), upd_n _ _ _ (by omega), upd_s]
  have hR' : nR (m_n2 c s t r) = n := by rw [nR_c (e 4 (by omega) (by omega) (by omega) (by omega))]; exact hR
  refine ⟨by rw [e 4 (by omega) (by omega) (by omega) (by omega)]; exact hr, by rw [nS_c (e 3 (by omega) (by omega) (by omega) (by omega))]; exact h4, m_n2_12, by rw [e 5 (by omega) (by omega) (by omega) (by omega)]; exact ht, fun x a b => ?_, e2, fun x a b q f hq hf hx => ?_⟩
  · have hne : x % 60 ≠ c % 60 := by omega
    have hmx := Nat.mod_lt x (by decide : 0 < 60)
    rw [e _ (by omega) (by omega) (by omega) (by omega), e _ (by omega) (by omega) (by omega) (by omega)]
    exact h1 x a (by omega)
  · rw [hR'] at hq
    rw [e _ (by omega) (by omega) (by omega) (by omega)] at hx
    rcases Nat.lt_or_ge x c with hl | hl
    · have hne : x % 60 ≠ c % 60 := by omega
      have hmx := Nat.mod_lt x (by decide : 0 < 60)
      rw [e _ (by omega) (by omega) (by omega) (by omega)]
      exact h2 x hl (by omega) q f (by omega) hf hx
    · have : x = c := by omega
      subst this
      exact absurd hx (h3 q f hq hf)
theorem Jv.bl {n c s : Nat} {t : Int32} (hn : n ≤ 40) (hs : s < 4) : ∀ (d e : Nat) (r : aR), Jv n c t r → Jv n c t (m_bl s n t d e r)
  | 0, _, _, h => h
  | d + 1, e, r, h => by
    refine Jv.bl hn hs d (e + 1) _ ?_
    have h1 := h.gR hn e t
    have h2 : Jv n c t (m_ct s 4 (m_gR e t n r)) := h1.lo hn (by omega) (by omega) _
    unfold m_bq
    repeat' split
    all_goals first | exact h | exact h1 | exact h2
theorem C_62 (I : aI) (w : aW) (k : aQ) {r : aR} {n c s : Nat} {t : Int32} (hS : Sim a8 i I r) (hr : r 4 = nI n) (hn : n ≤ 40) (h4 : nS r ≤ 4) (h12 : r 12 = nI c) (hc : c < 99999) (ht : r 5 = t) (hs : s < nS r) (hK : Kv n c r) : ∃ I', rn 62 (a_en 62 [.inr (.inr (some (20, i))), .inl (nI s)] (MM I w k)) = some (.inl none, MM I' w k) ∧ Sim a8 i I' (m_bC c n s t r) ∧ Jv n c t (m_bC c n s t r) ∧ Fr i I I' := by
  have hm := Nat.mod_lt c (by decide : 0 < 60)
  have hs4 : s < 4 := by omega
  have hR : nR r = n := by unfold nR; rw [hr, nI_clamp (by omega)]
  have hC : nC r = c := by unfold nC; rw [h12, nI_clamp (by omega)]
  have h5 : I 20 i 5 = nI c := hS.1.2.2.1.2.1.trans h12
  have h8 : I 20 i 8 = t := hS.1.2.2.1.2.2.2.trans ht
  -- the oldest contact gives way
  have first : ∃ I0, rn 62 (a_en 62 [.inr (.inr (some (20, i))), .inl (nI s)] (MM I w k)) = (rn 1 (a_en 1 [.inr (.inr (some (15, (60 * i + c % 60)))), .inl (I0 20 i 5), .inl (nI s), .inl (I0 20 i 8)] (MM I0 w k))).bind (fun o => a_bk 62 1 (33, [some (.inr (.inr (some (20, i)))), some (.inl (nI s)), some (.inr (.inr (some (15, 60 * i + c % 60))))], [], MM I0 w k) o (rn 62)) ∧ Sim a8 i I0 (m_n0 c n r) ∧ Fr i I I0 := by
    by_cases h6 : c < 60
    · refine ⟨I, ?_, by rw [show m_n0 c n r = r from if_pos h6]; exact hS, Fr.refl _ _⟩
      refine (e62_0 I w k _ _).trans ?_
      rw [h5]
      refine (bk_v (C_55 I w k (by omega))).trans ?_
      refine (e62_8 I w k _ _ _ _).trans ?_
      rw [h5, zc_t (show nI c < (60 : Int32) from nI_lt (b := 60) h6 (by decide))]
    · obtain ⟨I0, g1, g2, g3⟩ := C_66 I w k hS ⟨by rw [hR]; exact hr, by omega⟩ h4 (c := c - 60) (by omega) (by omega) (hK.2.1 (c - 60) (by omega) (by omega))
      rw [show (c - 60) % 60 = c % 60 by omega] at g1
      refine ⟨I0, ?_, by rw [show m_n0 c n r = m_gb (nI (c - 60)) n 0 r from if_neg h6, ← hR]; exact g2, g3⟩
      refine (e62_0 I w k _ _).trans ?_
      rw [h5]
      refine (bk_v (C_55 I w k (by omega))).trans ?_
      refine (e62_8 I w k _ _ _ _).trans ?_
      rw [h5, zc_f (show ¬ nI c < (60 : Int32) from nI_nlt (b := 60) (by omega) (by omega))]
      refine (bk_n g1).trans ?_
      exact e62_23 I0 w k _ _ _
  obtain ⟨I0, f1, f2, f3⟩ := first
  have e0 : ∀ x, (∀ q, q < n → x ≠ 68 + 8 * q + 3) → m_n0 c n r x = r x := by
    intro x hx
    unfold m_n0
    split
    · rfl
    · exact m_gb_n n 0 r (fun q hq => hx q (by omega))
  have hr0 : m_n0 c n r 4 = nI n := by rw [e0 4 (fun q hq => by omega)]; exact hr
  have h40 : nS (m_n0 c n r) = nS r := nS_c (e0 3 (fun q hq => by omega))
  have h120 : m_n0 c n r 12 = nI c := by rw [e0 12 (fun q hq => by omega)]; exact h12
  have ht0 : m_n0 c n r 5 = t := by rw [e0 5 (fun q hq => by omega)]; exact ht
  have hR0 : nR (m_n0 c n r) = n := by rw [nR_c (e0 4 (fun q hq => by omega))]; exact hR
  have hK0 : Kv n c (m_n0 c n r) := by
    refine ⟨fun e a b => ?_, fun e a b q f hq hf hx => ?_, fun q f hq hf => ?_⟩
    · rw [e0 _ (fun q hq => by omega), e0 _ (fun q hq => by omega)]; exact hK.1 e a b
    · rw [hR0] at hq
      rw [e0 _ (fun q hq => by omega)] at hx ⊢
      exact hK.2.1 e a b q f (by omega) hf hx
    · rw [e0 _ (fun q hq => by omega)]; exact hK.2.2 q f hq hf
  have hJ1 := hK0.jv (s := s) hr0 hn (by omega) ht0 hs4
  unfold m_bC
  generalize m_n0 c n r = r0 at *
  have h50 : I0 20 i 5 = nI c := f2.1.2.2.1.2.1.trans h120
  have h80 : I0 20 i 8 = t := f2.1.2.2.1.2.2.2.trans ht0
  rw [h50, h80] at f1
  -- the new contact
  generalize hI1 : a_setI (a_setI (a_setI (a_setI (a_setI I0 15 (60 * i + c % 60) 0 (nI c)) 15 (60 * i + c % 60) 1 (nI s)) 15 (60 * i + c % 60) 2 t) 15 (60 * i + c % 60) 3 (-1)) 15 (60 * i + c % 60) 4 0 = I1
  generalize hI2 : a_cpI I1 4 (60 * i + c % 60) (fa_fill (fun _ => 0) (I1 4 (60 * i + c % 60)) 40) = I2
  generalize hI3 : a_cpI I2 5 (60 * i + c % 60) (fa_fill (fun _ => 0) (I2 5 (60 * i + c % 60)) 40) = I3
  have run1 : rn 1 (a_en 1 [.inr (.inr (some (15, (60 * i + c % 60)))), .inl (nI c), .inl (nI s), .inl t] (MM I0 w k)) = some (.inl none, MM I3 w k) := by
    refine (e1_0 I0 w k _ _ _ _).trans ?_
    rw [hI1]
    refine (bk_n (C_308s4 I1 w k _ _)).trans ?_
    rw [hI2]
    refine (e1_33 I2 w k _ _ _ _).trans ?_
    refine (bk_n (C_308s5 I2 w k _ _)).trans ?_
    rw [hI3]
    exact e1_41 I3 w k _ _ _ _
  have o1 : ∀ y Q, ¬ (y = 15 ∧ Q = 60 * i + c % 60) → I1 y Q = I0 y Q := by
    intro y Q h
    rw [← hI1]
    funext z
    rw [gI, gI, gI, gI, gI]
    rw [if_neg (fun u => h ⟨u.1, u.2.2⟩), if_neg (fun u => h ⟨u.1, u.2.2⟩), if_neg (fun u => h ⟨u.1, u.2.2⟩), if_neg (fun u => h ⟨u.1, u.2.2⟩), if_neg (fun u => h ⟨u.1, u.2.2⟩)]
  have o2 : ∀ y Q, ¬ (y = 4 ∧ Q = 60 * i + c % 60) → I2 y Q = I1 y Q := by
    intro y Q h
    rw [← hI2]; funext z; rw [gC, if_neg h]
  have o3 : ∀ y Q, ¬ (y = 5 ∧ Q = 60 * i + c % 60) → I3 y Q = I2 y Q := by
    intro y Q h
    rw [← hI3]; funext z; rw [gC, if_neg h]
  have v15 : I3 15 (60 * i + c % 60) = upd (upd (upd (upd (upd (I0 15 (60 * i + c % 60)) 0 (nI c)) 1 (nI s)) 2 t) 3 (-1)) 4 0 := by
    rw [o3 _ _ (by omega), o2 _ _ (by omega), ← hI1, gI_u, gI_u, gI_u, gI_u, gI_u]
  have v4 : ∀ q, q < 40 → I3 4 (60 * i + c % 60) q = 0 := by
    intro q hq
    rw [o3 _ _ (by omega), ← hI2, gC, if_pos ⟨rfl, rfl⟩, fa_fill_in hq]
  have v5 : ∀ q, q < 40 → I3 5 (60 * i + c % 60) q = 0 := by
    intro q hq
    rw [← hI3, gC, if_pos ⟨rfl, rfl⟩, fa_fill_in hq]
  have o20 : I3 20 i = I0 20 i := by rw [o3 _ _ (by omega), o2 _ _ (by omega), o1 _ _ (by omega)]
  have hS3 : Sim a8 i (a_setI I3 20 i 5 (nI (c + 1))) (upd (upd (m_n1 (c % 60) (nI s) t (m_zl (c % 60) 84 0 r0)) 12 (nI (c + 1))) 13 1) := by
    refine Sim_new f2 (by omega) (by omega) (by unfold nC; rw [h120, nI_clamp (by omega)]) (by omega) ?_ ?_ ?_ ?_
    · rw [show a_setI I3 20 i 5 (nI (c + 1)) 15 = I3 15 from rfl, v15]
      refine ⟨?_, ?_, ?_, ?_, ?_⟩
      · rw [upd_n _ _ _ (by omega), upd_n _ _ _ (by omega), upd_n _ _ _ (by omega), upd_n _ _ _ (by omega), upd_s]
      · rw [upd_n _ _ _ (by omega), upd_n _ _ _ (by omega), upd_n _ _ _ (by omega), upd_s]
      · rw [upd_n _ _ _ (by omega), upd_n _ _ _ (by omega), upd_s]
      · rw [upd_n _ _ _ (by omega), upd_s]
      · rw [upd_s]
    · intro q hq
      exact ⟨v4 q hq, v5 q hq⟩
    · rw [gI_u, o20]
    · intro y Q a b
      have : a_setI I3 20 i 5 (nI (c + 1)) y Q = I3 y Q := by funext z; rw [gI, if_neg (fun u => a ⟨u.1, u.2.2⟩)]
      rw [this, o3 _ _ (fun z => b ⟨Or.inr (Or.inr z.1), z.2⟩), o2 _ _ (fun z => b ⟨Or.inr (Or.inl z.1), z.2⟩), o1 _ _ (fun z => b ⟨Or.inl z.1, z.2⟩)]
  have hnS3 : nS (upd (upd (m_n1 (c % 60) (nI s) t (m_zl (c % 60) 84 0 r0)) 12 (nI (c + 1))) 13 1) = nS r := by
    rw [← h40]
    apply nS_c
    unfold m_n1
    rw [upd_n _ _ _ (by omega), upd_n _ _ _ (by omega), upd_n _ _ _ (by omega), upd_n _ _ _ (by omega), upd_n _ _ _ (by omega), m_zl_n _ _ (by omega)]
  have e19 : I3 19 (4 * i + s) 0 = upd (upd (m_n1 (c % 60) (nI s) t (m_zl (c % 60) 84 0 r0)) 12 (nI (c + 1))) 13 1 (24 + 11 * s + 6 + 0) := (hS3.2.2.1 s (by omega)).2.2.2 0 (by omega)
  have hS4 := Sim_sfg hS3 (by omega) (s := s) (j := 0) (by omega) (by omega) (upd (upd (m_n1 (c % 60) (nI s) t (m_zl (c % 60) 84 0 r0)) 12 (nI (c + 1))) 13 1 (24 + 11 * s + 6 + 0) + 1)
  have hS4 : Sim a8 i (a_setI (a_setI I3 20 i 5 (nI (c + 1))) 19 (4 * i + s) 0 (upd (upd (m_n1 (c % 60) (nI s) t (m_zl (c % 60) 84 0 r0)) 12 (nI (c + 1))) 13 1 (24 + 11 * s + 6 + 0) + 1)) (m_n2 c s t r0) := hS4
  have hnS4 : nS (m_n2 c s t r0) = nS r := by rw [← h40]; exact nS_c (m_n2_n (by omega) (by omega) (by omega) (by omega))
  have hC4 : nC (m_n2 c s t r0) = c + 1 := z_c0 hJ1 (by omega)
  generalize hI4 : a_setI (a_setI I3 20 i 5 (nI (c + 1))) 19 (4 * i + s) 0 (upd (upd (m_n1 (c % 60) (nI s) t (m_zl (c % 60) 84 0 r0)) 12 (nI (c + 1))) 13 1 (24 + 11 * s + 6 + 0) + 1) = I4 at hS4
  have fr4 : Fr i I0 I4 := by
    intro y Q h
    rw [← hI4]
    rw [Fr.set (show own i 19 (4 * i + s) from own_s hs4) _ _ _ y Q h, Fr.set (show own i 20 i from rfl) _ _ _ y Q h, o3 _ _ (fun z => h (by rw [z.1, z.2]; exact own_c hm)), o2 _ _ (fun z => h (by rw [z.1, z.2]; exact own_c hm)), o1 _ _ (fun z => h (by rw [z.1, z.2]; exact own_c hm))]
  -- the walks
  have hRc4 : Rc (m_n2 c s t r0) := ⟨by rw [hC4]; exact hJ1.2.2.1, by omega⟩
  obtain ⟨I5, a1, a2, a3, a4⟩ := C_63L w k hn (show c < 100000 by omega) hs4 (c - (c + 1 - 60)) (c + 1 - 60) I4 (m_n2 c s t r0) none none (by omega) (by omega) hJ1 (by omega) hS4
  have hC5 := z_c0 a3 (show c < 100000 by omega)
  have hRc5 : Rc (m_bl s n t (c - (c + 1 - 60)) (c + 1 - 60) (m_n2 c s t r0)) := ⟨by rw [hC5]; exact a3.2.2.1, by omega⟩
  obtain ⟨I6, b1, b2, b3, b4⟩ := C_65L w k hn (show c < 100000 by omega) (c - (c + 1 - 60)) (c + 1 - 60) I5 _ none (by omega) (by omega) a3 a2
  refine ⟨I6, ?_, b2, b3, (f3.trans fr4).trans (a4.trans b4)⟩
  rw [f1]
  refine (bk_n run1).trans ?_
  refine (e62_36 I3 w k _ _ _).trans ?_
  rw [z_in hs4 (by decide), nI_clamp (by omega), cond_true, e19, o20, h50, nI_1, hI4]
  refine (bk_n (show rn 63 (a_en 63 [.inr (.inr (some (20, i))), .inl (nI s)] (MM I4 w k)) = some (.inl none, MM I5 w k) from ?_)).trans ?_
  · refine (e63_0 I4 w k _ _).trans ?_
    refine (bk_v (C_56 I4 w k hS4 hRc4)).trans ?_
    refine (e63_4 I4 w k _ _ _ _ _ _).trans ?_
    rw [hC4]
    exact a1
  · refine (e62_69 I5 w k _ _ _).trans ?_
    refine (bk_n (show rn 65 (a_en 65 [.inr (.inr (some (20, i)))] (MM I5 w k)) = some (.inl none, MM I6 w k) from ?_)).trans ?_
    · refine (e65_0 I5 w k _).trans ?_
      refine (bk_v (C_56 I5 w k a2 hRc5)).trans ?_
      refine (e65_4 I5 w k _ _ _ _).trans ?_
      rw [hC5]
      exact b1
    · exact e62_73 I6 w k _ _ _
end
