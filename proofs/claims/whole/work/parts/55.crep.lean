/-! ===== the class: reports ===== -/
/-- a record whose frames are known -/
theorem kRe1_ack {f g r r' : aR} {q : Nat} {m : Int32} (h : kRe1 f g r q) (e3 : r' (68 + 8 * q + 3) = r (68 + 8 * q + 3) &&& (m ^^^ (-1))) (e4 : r' (68 + 8 * q + 4) = r (68 + 8 * q + 4) ||| m) (e : ∀ x, x ≠ 68 + 8 * q + 3 → x ≠ 68 + 8 * q + 4 → r' x = r x) : kRe1 (upd (upd (upd f 3 (f 3 &&& (m ^^^ (-1)))) 4 (f 4 &&& (m ^^^ (-1)))) 5 (f 5 ||| m)) g r' q := by
  obtain ⟨⟨a0, a1, a2, a3⟩, b, ⟨c0, c1, c2, c3⟩, d⟩ := h
  refine ⟨⟨?_, ?_, ?_, ?_⟩, ?_, ⟨?_, ?_, ?_, ?_⟩, fun x hx => ?_⟩
  · rw [upd_n _ _ _ (by omega), upd_n _ _ _ (by omega), upd_n _ _ _ (by omega), e _ (by omega) (by omega)]; exact a0
  · rw [upd_n _ _ _ (by omega), upd_n _ _ _ (by omega), upd_n _ _ _ (by omega), e _ (by omega) (by omega)]; exact a1
  · rw [upd_n _ _ _ (by omega), upd_n _ _ _ (by omega), upd_n _ _ _ (by omega), e _ (by omega) (by omega)]; exact a2
  · rw [upd_n _ _ _ (by omega), upd_n _ _ _ (by omega), upd_s, e3, a3]
  · rw [upd_n _ _ _ (by omega), upd_s, b]
    apply b_ext
    intro i hi
    have e0 : m_full r' q = m_full r q := by unfold m_full; rw [e _ (by omega) (by omega)]
    rw [b_and, b_not _ hi, bt_uw _ _ hi, bt_uw _ _ hi, e0, e3, e4, b_and, b_or, b_not _ hi]
    cases bt (m_full r q) i <;> cases bt (r (68 + 8 * q + 3)) i <;> cases bt (r (68 + 8 * q + 4)) i <;> cases bt m i <;> rfl
  · rw [upd_s, e4, c0]
  · rw [upd_n _ _ _ (by omega), upd_n _ _ _ (by omega), upd_n _ _ _ (by omega), e _ (by omega) (by omega)]; exact c1
  · rw [upd_n _ _ _ (by omega), upd_n _ _ _ (by omega), upd_n _ _ _ (by omega), e _ (by omega) (by omega)]; exact c2
  · rw [upd_n _ _ _ (by omega), upd_n _ _ _ (by omega), upd_n _ _ _ (by omega), e _ (by omega) (by omega)]; exact c3
  · rw [e _ (by omega) (by omega)]; exact d x hx
section
variable {a8 : Int32} {i : Nat}
theorem C_64L (w : aW) (k : aQ) {c n : Nat} {t : Int32} (hn : n ≤ 40) : ∀ (d j : Nat) (I : aI) (r : aR) (d3 : Option aV), j + d = n → r 4 = nI n → nS r ≤ 4 → r 5 = t → Sim a8 i I r → c < nC r → nC r ≤ c + 60 → ∃ I', rn 64 (7, [some (.inr (.inr (some (20, i)))), some (.inr (.inr (some (15, (60 * i + c % 60))))), some (.inl (nI j)), d3], [], MM I w k) = some (.inl none, MM I' w k) ∧ Sim a8 i I' (m_gl (c % 60) (nI c) t d j r) ∧ Fr i I I' := by
  have hm := Nat.mod_lt c (by decide : 0 < 60)
  intro d
  induction d with
  | zero =>
    intro j I r d3 hj hr h4 ht hS c1 c2
    refine ⟨I, ?_, hS, Fr.refl _ _⟩
    refine (e64_7 I w k _ _ _ _).trans ?_
    rw [hS.1.2.2.1.1, hr, zc_t (nI_le (by omega) (by omega))]
  | succ d ih =>
    intro j I r d3 hj hr h4 ht hS c1 c2
    have hR : nR r = n := by unfold nR; rw [hr, nI_clamp (by omega)]
    have hq : j < nR r := by omega
    have hk := hS.2.2.2.2.1 j hq
    have hc := hS.2.2.2.2.2 c c1 c2
    -- the frames that are known
    generalize hg : r (1348 + 84 * (c % 60) + 44 + j) = g
    generalize hsn : r (1348 + 84 * (c % 60) + 4 + j) = sn
    have x1 : m_g2 (c % 60) j r (68 + 8 * j + 3) = r (68 + 8 * j + 3) &&& (g ^^^ (-1)) := by unfold m_g2 m_g1; rw [upd_s, upd_n _ _ _ (by omega), hg]
    have x2 : m_g2 (c % 60) j r (68 + 8 * j + 4) = r (68 + 8 * j + 4) ||| g := by unfold m_g2 m_g1; rw [upd_n _ _ _ (by omega), upd_s, hg]
    have x3 : ∀ x, x ≠ 68 + 8 * j + 3 → x ≠ 68 + 8 * j + 4 → m_g2 (c % 60) j r x = r x := fun x y z => by unfold m_g2 m_g1; rw [upd_n _ _ _ y, upd_n _ _ _ z]
    generalize hI1 : a_setI (a_setI (a_setI I 14 (40 * i + j) 3 (I 14 (40 * i + j) 3 &&& (g ^^^ (-1)))) 14 (40 * i + j) 4 (I 14 (40 * i + j) 4 &&& (g ^^^ (-1)))) 14 (40 * i + j) 5 (I 14 (40 * i + j) 5 ||| g) = I1
    have r1 : I1 14 (40 * i + j) = upd (upd (upd (I 14 (40 * i + j)) 3 (I 14 (40 * i + j) 3 &&& (g ^^^ (-1)))) 4 (I 14 (40 * i + j) 4 &&& (g ^^^ (-1)))) 5 (I 14 (40 * i + j) 5 ||| g) := by rw [← hI1, gI_u, gI_u, gI_u]
    have r6 : I1 6 = I 6 := by rw [← hI1]; rfl
    have n1 : ∀ s Q, ¬ (s = 14 ∧ Q = 40 * i + j) → I1 s Q = I s Q := by
      intro s Q h
      rw [← hI1]
      funext y
      rw [gI, gI, gI, if_neg (fun z => h ⟨z.1, z.2.2⟩), if_neg (fun z => h ⟨z.1, z.2.2⟩), if_neg (fun z => h ⟨z.1, z.2.2⟩)]
    have k1 : kRe1 (I1 14 (40 * i + j)) (I1 6 (40 * i + j)) (m_g2 (c % 60) j r) j := by
      rw [r1, r6]; exact kRe1_ack hk x1 x2 x3
    have k2 := kRe1_sA k1 (sn &&& (g ^^^ (-1))) (nI c)
    have eg3 : m_sA (m_g2 (c % 60) j r) j (sn &&& (g ^^^ (-1))) (nI c) = m_g3 (c % 60) (nI c) j r := by unfold m_g3; rw [hg, hsn]
    rw [eg3] at k2
    generalize hI2 : cS I1 (40 * i + j) (m_sa (I1 6 (40 * i + j)) ((sn &&& (g ^^^ (-1))) &&& I1 14 (40 * i + j) 4) (nI c) 24 0 (I1 14 (40 * i + j) 3)) (c_su (I1 6 (40 * i + j)) ((sn &&& (g ^^^ (-1))) &&& I1 14 (40 * i + j) 4) (nI c) 24 0 (I1 14 (40 * i + j) 4)) = I2 at k2
    have n2 : ∀ s Q, ¬ ((s = 14 ∨ s = 6) ∧ Q = 40 * i + j) → I2 s Q = I s Q := by
      intro s Q h
      rw [← hI2, cS_ne _ _ _ _ _ _ (fun z => h ⟨Or.inl z.1, z.2⟩), n1 s Q (fun z => h ⟨Or.inl z.1, z.2⟩)]
    have e6 : I2 6 = I 6 := by rw [← hI2, cS_6, r6]
    have k2' : kRe1 (I2 14 (40 * i + j)) (I2 6 (40 * i + j)) (m_g3 (c % 60) (nI c) j r) j := by rw [e6, ← r6]; exact k2
    have hS2 : Sim a8 i I2 (m_g3 (c % 60) (nI c) j r) := Sim_rec hS (by omega) h4 hq n2 (fun x hx _ => m_g3_n (hx 3 (by omega)) (hx 4 (by omega))) k2'
    have f2 : Fr i I I2 := Fr_rec (by omega) n2
    -- the run up to there
    have run : rn 64 (7, [some (.inr (.inr (some (20, i)))), some (.inr (.inr (some (15, (60 * i + c % 60))))), some (.inl (nI j)), d3], [], MM I w k) = rn 64 (55, [some (.inr (.inr (some (20, i)))), some (.inr (.inr (some (15, (60 * i + c % 60))))), some (.inl (nI j)), some (.inr (.inr (some (14, (40 * i + j)))))], [], MM I2 w k) := by
      refine (e64_7 I w k _ _ _ _).trans ?_
      rw [hS.1.2.2.1.1, hr, zc_f (nI_ge (by omega) (by omega)), z_in (by omega) (by decide), nI_clamp (by omega), cond_true, cond_true, (hc.2.2 j (by omega)).2, hg]
      refine (bk_n (e13_0 I w k _ _)).trans ?_
      rw [hI1]
      refine (e64_32 _ w k _ _ _ _).trans ?_
      rw [z_in (by omega) (by decide), nI_clamp (by omega), cond_true, cond_true, n1 4 _ (by omega), n1 5 _ (by omega), n1 15 _ (by omega), (hc.2.2 j (by omega)).1, (hc.2.2 j (by omega)).2, hc.1, hg, hsn]
      refine (bk_n (C_14 _ w k _ _)).trans ?_
      rw [hI2]
    rw [run]
    have e5 : ∀ x, x ≠ 68 + 8 * j + 3 → x ≠ 68 + 8 * j + 4 → m_g3 (c % 60) (nI c) j r x = r x := fun x a b => m_g3_n a b
    have hgl : m_gl (c % 60) (nI c) t (d + 1) j r = m_gl (c % 60) (nI c) t d (j + 1) (m_g5 (c % 60) (nI c) t j r) := rfl
    have st := e64_55 I2 w k i (60 * i + c % 60) (nI j) (40 * i + j)
    rw [nI_1, k2'.2.2.1.2.2.2] at st
    have plain : m_g5 (c % 60) (nI c) t j r = m_g3 (c % 60) (nI c) j r → ∃ I', rn 64 (7, [some (.inr (.inr (some (20, i)))), some (.inr (.inr (some (15, (60 * i + c % 60))))), some (.inl (nI (j + 1))), some (.inr (.inr (some (14, (40 * i + j)))))], [], MM I2 w k) = some (.inl none, MM I' w k) ∧ Sim a8 i I' (m_gl (c % 60) (nI c) t (d + 1) j r) ∧ Fr i I I' := by
      intro e
      obtain ⟨I', g1, g2, g3⟩ := ih (j + 1) I2 (m_g3 (c % 60) (nI c) j r) (some (.inr (.inr (some (14, 40 * i + j))))) (by omega) (by rw [e5 _ (by omega) (by omega)]; exact hr) (by rw [nS_c (e5 3 (by omega) (by omega))]; exact h4) (by rw [e5 _ (by omega) (by omega)]; exact ht) hS2 (by rw [nC_c (e5 12 (by omega) (by omega))]; exact c1) (by rw [nC_c (e5 12 (by omega) (by omega))]; exact c2)
      exact ⟨I', g1, by rw [hgl, e]; exact g2, f2.trans g3⟩
    by_cases h1 : m_g3 (c % 60) (nI c) j r (68 + 8 * j + 7) = -1
    · rw [st, zc_f (fun z => z h1), show (rn 9 (a_en 9 [.inr (.inr (some (14, (40 * i + j))))] (MM I2 w k))).bind (fun o => a_bk 64 9 (68, [some (.inr (.inr (some (20, i)))), some (.inr (.inr (some (15, 60 * i + c % 60)))), some (.inl (nI j)), some (.inr (.inr (some (14, 40 * i + j))))], [.inl (I2 14 (40 * i + j) 5)], MM I2 w k) o (rn 64)) = _ from bk_v (e9_0 I2 w k _)]
      rw [show rn 64 (68 + 3, [some (.inr (.inr (some (20, i)))), some (.inr (.inr (some (15, 60 * i + c % 60)))), some (.inl (nI j)), some (.inr (.inr (some (14, 40 * i + j))))], [.inl ((1 <<< (I2 14 (40 * i + j) 0 &&& 31)) - 1), .inl (I2 14 (40 * i + j) 5)], MM I2 w k) = _ from e64_71 I2 w k _ _ _ _ _ _, nI_1, k2'.1.1, k2'.2.2.1.1]
      by_cases h2 : m_g3 (c % 60) (nI c) j r (68 + 8 * j + 4) = m_full (m_g3 (c % 60) (nI c) j r) j
      · rw [zc_f (fun z => z h2)]
        have e : m_g5 (c % 60) (nI c) t j r = m_g4 t j (m_g3 (c % 60) (nI c) j r) := (if_pos h1).trans (if_pos h2)
        have t2 : I2 20 i 8 = t := by rw [hS2.1.2.2.1.2.2.2, e5 5 (by omega) (by omega)]; exact ht
        rw [t2]
        have hr3 : nR (m_g3 (c % 60) (nI c) j r) = nR r := nR_c (e5 4 (by omega) (by omega))
        have hs3 : nS (m_g3 (c % 60) (nI c) j r) = nS r := nS_c (e5 3 (by omega) (by omega))
        have n3 : ∀ s Q, ¬ ((s = 14 ∨ s = 6) ∧ Q = 40 * i + j) → a_setI I2 14 (40 * i + j) 8 t s Q = I2 s Q := by
          intro s Q h
          funext y
          rw [gI, if_neg (fun z => h ⟨Or.inl z.1, z.2.2⟩)]
        have hS3 : Sim a8 i (a_setI I2 14 (40 * i + j) 8 t) (upd (m_g3 (c % 60) (nI c) j r) (68 + 8 * j + 7) t) := by
          refine Sim_rec hS2 (by omega) (by omega) (by omega) n3 (fun x hx _ => upd_n _ _ _ (hx 7 (by omega))) ?_
          obtain ⟨⟨a0, a1, a2, a3⟩, b, ⟨q0, q1, q2, q3⟩, dd⟩ := k2'
          rw [gI_u]
          have e9 : ∀ x, x ≠ 68 + 8 * j + 7 → upd (m_g3 (c % 60) (nI c) j r) (68 + 8 * j + 7) t x = m_g3 (c % 60) (nI c) j r x := fun x hx => upd_n _ _ _ hx
          refine ⟨⟨?_, ?_, ?_, ?_⟩, ?_, ⟨?_, ?_, ?_, ?_⟩, fun x hx => ?_⟩
          · rw [upd_n _ _ _ (by omega), e9 _ (by omega)]; exact a0
          · rw [upd_n _ _ _ (by omega), e9 _ (by omega)]; exact a1
          · rw [upd_n _ _ _ (by omega), e9 _ (by omega)]; exact a2
          · rw [upd_n _ _ _ (by omega), e9 _ (by omega)]; exact a3
          · rw [upd_n _ _ _ (by omega), m_uw_c (e9 _ (by omega)) (e9 _ (by omega)) (e9 _ (by omega))]; exact b
          · rw [upd_n _ _ _ (by omega), e9 _ (by omega)]; exact q0
          · rw [upd_n _ _ _ (by omega), e9 _ (by omega)]; exact q1
          · rw [upd_n _ _ _ (by omega), e9 _ (by omega)]; exact q2
          · rw [upd_s, upd_s]
          · rw [e9 _ (by omega)]; exact dd x hx
        have f5 : I2 13 i 5 = upd (m_g3 (c % 60) (nI c) j r) (68 + 8 * j + 7) t 21 := hS3.2.1 5 (by omega)
        have hS4 := Sim_fig hS3 (j := 5) (by omega) (upd (m_g3 (c % 60) (nI c) j r) (68 + 8 * j + 7) t 21 + 1)
        have hS4 : Sim a8 i (a_setI (a_setI I2 14 (40 * i + j) 8 t) 13 i 5 (upd (m_g3 (c % 60) (nI c) j r) (68 + 8 * j + 7) t 21 + 1)) (m_g4 t j (m_g3 (c % 60) (nI c) j r)) := hS4
        rw [f5]
        have e7 : ∀ x, x ≠ 68 + 8 * j + 3 → x ≠ 68 + 8 * j + 4 → x ≠ 68 + 8 * j + 7 → x ≠ 21 → m_g4 t j (m_g3 (c % 60) (nI c) j r) x = r x := fun x a b y z => by unfold m_g4; rw [upd_n _ _ _ z, upd_n _ _ _ y, e5 x a b]
        obtain ⟨I', g1, g2, g3⟩ := ih (j + 1) _ (m_g4 t j (m_g3 (c % 60) (nI c) j r)) (some (.inr (.inr (some (14, 40 * i + j))))) (by omega) (by rw [e7 _ (by omega) (by omega) (by omega) (by omega)]; exact hr) (by rw [nS_c (e7 3 (by omega) (by omega) (by omega) (by omega))]; exact h4) (by rw [e7 _ (by omega) (by omega) (by omega) (by omega)]; exact ht) hS4 (by rw [nC_c (e7 12 (by omega) (by omega) (by omega) (by omega))]; exact c1) (by rw [nC_c (e7 12 (by omega) (by omega) (by omega) (by omega))]; exact c2)
        refine ⟨I', g1, by rw [hgl, e]; exact g2, f2.trans (((Fr_rec (by omega) n3).trans (Fr.set (show own i 13 i from rfl) _ _ _)).trans g3)⟩
      · rw [zc_t (show ¬ m_g3 (c % 60) (nI c) j r (68 + 8 * j + 4) = ((1 : Int32) <<< (m_g3 (c % 60) (nI c) j r (68 + 8 * j + 0) &&& 31)) - 1 from h2)]
        exact plain ((if_pos h1).trans (if_neg h2))
    · rw [st, zc_t h1]
      exact plain (if_neg h1)
theorem C_64 (I : aI) (w : aW) (k : aQ) {r : aR} {c : Nat} (hS : Sim a8 i I r) (hQ : Rq r) (h4 : nS r ≤ 4) (c1 : c < nC r) (c2 : nC r ≤ c + 60) : ∃ I', rn 64 (a_en 64 [.inr (.inr (some (20, i))), .inr (.inr (some (15, (60 * i + c % 60))))] (MM I w k)) = some (.inl none, MM I' w k) ∧ Sim a8 i I' (m_gl (c % 60) (nI c) (r 5) (nR r) 0 (upd r (1348 + 84 * (c % 60) + 3) 2)) ∧ Fr i I I' := by
  have hm := Nat.mod_lt c (by decide : 0 < 60)
  have hS1 := Sim_cf hS h4 hQ.2 c1 c2 (j := 3) (by omega) 2
  have e : ∀ x, x ≠ 1348 + 84 * (c % 60) + 3 → upd r (1348 + 84 * (c % 60) + 3) 2 x = r x := fun x hx => upd_n _ _ _ hx
  obtain ⟨I', g1, g2, g3⟩ := C_64L w k (t := r 5) hQ.2 (nR r) 0 _ _ none (by omega) (by rw [e 4 (by omega)]; exact hQ.1) (by rw [nS_c (e 3 (by omega))]; exact h4) (e 5 (by omega)) hS1 (by rw [nC_c (e 12 (by omega))]; exact c1) (by rw [nC_c (e 12 (by omega))]; exact c2)
  exact ⟨I', (e64_0 I w k _ _).trans g1, g2, (Fr.set (show own i 15 (60 * i + c % 60) from own_c hm) _ _ _).trans g3⟩
end
