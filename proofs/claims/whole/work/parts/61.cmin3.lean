/-! ===== the class: a minute passes ===== -/
/-- the contacts of a row -/
def oC (r : aR) : Prop := (∀ e, e < nC r → nC r ≤ e + 60 → ∃ p, p < nS r ∧ r (1348 + 84 * (e % 60) + 0) = nI p) ∧ (∀ e, e < nC r → nC r ≤ e + 60 → (r (1348 + 84 * (e % 60) + 3) = 0 ∨ r (1348 + 84 * (e % 60) + 3) = 1 ∨ r (1348 + 84 * (e % 60) + 3) = 2) ∧ (e + 1 < nC r → ¬ r (1348 + 84 * (e % 60) + 2) = -1)) ∧ (∀ e, e < nC r → nC r ≤ e + 60 → Rl r e) ∧ ∀ q f, q < nR r → f < 24 → ¬ r (388 + 24 * q + f) = nI (nC r)
/-- what a minute needs, of class and reference -/
def Mv (r : aR) : Prop := Rs r ∧ Rq r ∧ (Rc r ∧ nC r < 99998) ∧ Rf r ∧ (∃ T, T ≤ 100000 ∧ r 5 = nI T) ∧ (∃ b, b ≤ 9 ∧ r 7 = nI b) ∧ oRR (nR r) r ∧ oC r
theorem tk_v {r : aR} (hF : Rf r) (hw : ∀ e, e < nC r → nC r ≤ e + 60 → ∃ p, p < nS r ∧ r (1348 + 84 * (e % 60) + 0) = nI p) (h4 : nS r ≤ 4) : (r 13 = 0 ∧ m_tk0 r = -1 ∧ (nC r = 0 ∨ ¬ r (1348 + 84 * ((nC r - 1) % 60) + 2) = -1)) ∨ (¬ r 13 = 0 ∧ 1 ≤ nC r ∧ r (1348 + 84 * ((nC r - 1) % 60) + 2) = -1 ∧ ∃ p, p < nS r ∧ m_tk0 r = nI p) := by
  by_cases h : r 13 = 0
  · exact Or.inl ⟨h, if_pos h, hF.mp h⟩
  · right
    have hh : ¬ (nC r = 0 ∨ ¬ r (1348 + 84 * ((nC r - 1) % 60) + 2) = -1) := fun e => h (hF.mpr e)
    have h1 : 1 ≤ nC r := by
      rcases Nat.eq_zero_or_pos (nC r) with h0 | h0
      · exact absurd (Or.inl h0) hh
      · exact h0
    obtain ⟨p, p1, p2⟩ := hw (nC r - 1) (by omega) (by omega)
    refine ⟨h, h1, Classical.byContradiction (fun y => hh (Or.inr y)), p, p1, ?_⟩
    unfold m_tk0
    rw [if_neg h]
    exact p2
theorem Mv.rm {r : aR} (h : Mv r) : Rm r := by
  obtain ⟨hR, hQ, ⟨hC, hlt⟩, hF, -, -, ho, hw, -⟩ := h
  refine ⟨hR, hQ, ⟨hC, by omega⟩, fun q hq => (ho q hq).lw, ?_, ?_⟩
  · rcases tk_v hF hw hR.1.2 with ⟨-, z, -⟩ | ⟨-, -, -, z⟩
    · exact Or.inl z
    · exact Or.inr z
  · intro z
    rcases tk_v hF hw hR.1.2 with ⟨y, -⟩ | ⟨-, y, -⟩
    · exact absurd y z
    · exact y
section
variable {a8 : Int32} {i : Nat}
/-- the talk of a minute and its end -/
theorem C_61T (w : aW) (k : aQ) {n s c v : Nat} {t : Int32} (hn : n ≤ 40) (hc : c < 100000) (hv : v ≤ 20) (I : aI) (r : aR) (d1 : Option aV) (hT : Tv n s c v t r) (hS : Sim a8 i I r) : ∃ I', (rn 55 (a_en 55 [.inr (.inr (some (20, i))), .inl (I 20 i 5 - 1)] (MM I w k))).bind (fun o => a_bk 61 55 (94, [some (.inr (.inr (some (20, i)))), d1, some (.inl (nI s))], [.inr (.inr (some (20, i)))], MM I w k) o (rn 61)) = some (.inl none, MM I' w k) ∧ Sim a8 i I' (m_tt (m_tk a8 s c t r)) ∧ Fr i I I' := by
  have hs4 : s < 4 := by have := hT.2.2.1; have := hT.2.2.2.1; omega
  obtain ⟨I1, g1, g2, g3⟩ := C_67 I w k hn hc hv hT hS
  have h5 : I 20 i 5 = nI (c + 1) := hS.1.2.2.1.2.1.trans hT.1.2.1
  have h8 : I1 20 i 8 = m_tk a8 s c t r 5 := g2.1.2.2.1.2.2.2
  refine ⟨_, ?_, Sim_now g2 (m_tk a8 s c t r 5 + 1), g3.trans (Fr_20 _ _ _)⟩
  rw [h5, nI_pred]
  refine (bk_v (C_55 I w k (by omega))).trans ?_
  refine (e61_97 I w k _ _ _ _ _).trans ?_
  rw [z_in hs4 (by decide), nI_clamp (by omega), cond_true]
  refine (bk_n g1).trans ?_
  refine (e61_109 I1 w k _ _ _).trans ?_
  rw [h8]
theorem Tv_of {n s c v : Nat} {t u : Int32} {r : aR} (hJ : Jv n c t r) (hn : n ≤ 40) (hs : s < nS r) (hv : r (24 + 11 * s + 4) = nI v) (h7 : ∃ b, b ≤ 9 ∧ r 7 = nI b) (ho : oRR n r) : Tv n s c v t (upd r 15 u) := by
  have e : ∀ x, x ≠ 15 → upd r 15 u x = r x := fun x hx => upd_n _ _ _ hx
  have eS := nS_c (e 3 (by omega))
  have h4 := hJ.2.1
  refine ⟨⟨by rw [e 4 (by omega)]; exact hJ.1, by rw [e 12 (by omega)]; exact hJ.2.2.1, by rw [e _ (by omega)]; exact hv, fun q hq => by rw [e _ (by omega)]; exact (ho q hq).lw⟩, by rw [e 5 (by omega)]; exact hJ.2.2.2.1, by omega, by omega, by rw [e 7 (by omega)]; exact h7, ho.up (fun q j hq hj => by omega)⟩
/-- a contact begins, handovers are counted, the talk -/
theorem C_61B (w : aW) (k : aQ) {n s c v : Nat} {t : Int32} (hn : n ≤ 40) (hc : c < 99999) (hv : v ≤ 20) (I : aI) (r : aR) (pr : Int32) (hS : Sim a8 i I r) (hr : r 4 = nI n) (h4 : nS r ≤ 4) (h12 : r 12 = nI c) (ht : r 5 = t) (hs : s < nS r) (hvr : r (24 + 11 * s + 4) = nI v) (h7 : ∃ b, b ≤ 9 ∧ r 7 = nI b) (ho : oRR n r) (hK : Kv n c r) : ∃ I', (rn 62 (a_en 62 [.inr (.inr (some (20, i))), .inl (nI s)] (MM I w k))).bind (fun o => a_bk 61 62 (64, [some (.inr (.inr (some (20, i)))), some (.inl pr), some (.inl (nI s))], [], MM I w k) o (rn 61)) = some (.inl none, MM I' w k) ∧ Sim a8 i I' (m_tt (m_tk a8 s c t (m_bC c n s t (upd r 15 (r 15 + (if pr = -1 then 0 else 1)))))) ∧ Fr i I I' := by
  have hs4 : s < 4 := by omega
  obtain ⟨I1, g1, g2, g3, g4⟩ := C_62 I w k hS hr hn h4 h12 hc ht hs hK
  have hS1 : nS (m_bC c n s t r) = nS r := nS_c (m_bC_n (by omega) (by omega) (by omega) (by omega) (by omega) (by omega) (by omega) (by omega))
  have e15 : m_bC c n s t r 15 = r 15 := m_bC_n (by omega) (by omega) (by omega) (by omega) (by omega) (by omega) (by omega) (by omega)
  have e7 : m_bC c n s t r 7 = r 7 := m_bC_n (by omega) (by omega) (by omega) (by omega) (by omega) (by omega) (by omega) (by omega)
  have ev : m_bC c n s t r (24 + 11 * s + 4) = r (24 + 11 * s + 4) := m_bC_n (by omega) (by omega) (by omega) (by omega) (by omega) (by omega) (by omega) (by omega)
  have h17 : I1 20 i 7 = r 15 := g2.1.2.2.1.2.2.1.trans e15
  have hSh := Sim_han g2 (r 15 + (if pr = -1 then 0 else 1))
  have hTv : Tv n s c v t (upd (m_bC c n s t r) 15 (r 15 + (if pr = -1 then 0 else 1))) := Tv_of g3 hn (by omega) (by rw [ev]; exact hvr) (by rw [e7]; exact h7) (ho.bC hn hs4 c t)
  obtain ⟨I2, y1, y2, y3⟩ := C_61T w k hn (show c < 100000 by omega) hv _ _ (some (.inl pr)) hTv hSh
  refine ⟨I2, ?_, by rw [bC_15 hn]; exact y2, (g4.trans (Fr_20 _ _ _)).trans y3⟩
  refine (bk_n g1).trans ?_
  refine (e61_67 I1 w k _ _ _).trans ?_
  rw [h17]
  have hz5 : a_setI I1 20 i 7 (r 15 + (if pr = -1 then 0 else 1)) 20 i 5 = I1 20 i 5 := by rw [gI_u, upd_n _ _ _ (by omega)]
  rw [hz5] at y1
  by_cases hp : pr = -1
  · rw [zc_f (fun z => z hp)]
    rw [if_pos hp] at y1
    exact y1
  · rw [zc_t hp]
    rw [if_neg hp] at y1
    exact y1
theorem C_61 (I : aI) (w : aW) (k : aQ) {r : aR} (hS : Sim a8 i I r) (hM : Mv r) : ∃ I', rn 61 (a_en 61 [.inr (.inr (some (20, i)))] (MM I w k)) = some (.inl none, MM I' w k) ∧ Sim a8 i I' (m_min a8 r) ∧ Fr i I I' := by
  obtain ⟨hR, hQ, ⟨hC, hlt⟩, hF, ⟨T, hT, ht⟩, hb, ho, hw, oc1, oc2, oc3⟩ := hM
  have hn := hQ.2
  have h4 := hR.1.2
  have h8 : I 20 i 8 = nI T := hS.1.2.2.1.2.2.2.trans ht
  have h9 : I 10 i 5 = r 9 := hS.1.2.1.2.2.2.2.2
  have h5 : I 20 i 5 = nI (nC r) := hS.1.2.2.1.2.1.trans hC.1
  have htk := tk_v hF hw h4
  have hp : m_tk0 r = -1 ∨ ∃ p, p < nS r ∧ m_tk0 r = nI p := by
    rcases htk with ⟨-, z, -⟩ | ⟨-, -, -, z⟩
    · exact Or.inl z
    · exact Or.inr z
  have hv := m_cho_v (r := r) (t := r 5) hp
  have start : rn 61 (a_en 61 [.inr (.inr (some (20, i)))] (MM I w k)) = rn 61 (24, [some (.inr (.inr (some (20, i)))), some (.inl (m_tk0 r)), none], [.inl (m_cho r (r 5) (m_tk0 r))], MM I w k) := by
    refine (e61_0 I w k _).trans ?_
    refine (bk_v (C_57 I w k hS hC hF)).trans ?_
    refine (e61_4 I w k _ _ _ _).trans ?_
    rw [h8, h9, ht]
    exact bk_v (C_85 I w k hS hR (by omega) _ hp)
  rw [start]
  unfold m_min
  have h13 : m_tk0 r = -1 → (nC r = 0 ∨ ¬ r (1348 + 84 * ((nC r - 1) % 60) + 2) = -1) := by
    intro z
    rcases htk with ⟨-, -, y⟩ | ⟨-, -, -, p, p1, p2⟩
    · exact y
    · rw [z] at p2; exact absurd p2.symm (nI_n1 (by omega))
  have h14 : ¬ m_tk0 r = -1 → 1 ≤ nC r ∧ r (1348 + 84 * ((nC r - 1) % 60) + 2) = -1 := by
    intro z
    rcases htk with ⟨-, y, -⟩ | ⟨-, y1, y2, -⟩
    · exact absurd y z
    · exact ⟨y1, y2⟩
  generalize m_cho r (r 5) (m_tk0 r) = x at hv
  generalize m_tk0 r = pr at hp h13 h14
  have st := e61_24 I w k i pr none x
  have hnow := Sim_now hS (r 5 + 1)
  have rate : ∀ s, s < nS r → ∃ v, v ≤ 20 ∧ r (24 + 11 * s + 4) = nI v := fun s hs => by
    obtain ⟨-, -, -, -, ⟨v, -, hv2, hv3⟩, -⟩ := hR.2.2.2.2 s hs
    exact ⟨v, hv2, hv3⟩
  by_cases e1 : x = pr
  · by_cases e2 : x = -1
    · refine ⟨_, st.trans ((zc_t (show pr = -1 by rw [← e1]; exact e2)).trans (zc_t e2)), ?_, Fr_20 _ _ _⟩
      rw [h8, ← ht, show m_m1 a8 (r 5) pr x r = m_tt r from (if_pos e1).trans (if_pos e2)]
      exact hnow
    · have e3 : ¬ pr = -1 := fun z => e2 (e1.trans z)
      obtain ⟨s, hs, rfl⟩ := hv.resolve_left e2
      obtain ⟨v, v1, v2⟩ := rate s hs
      have hc1 := (h14 e3).1
      have hT2 : Tv (nR r) s (nC r - 1) v (r 5) r := ⟨⟨hQ.1, by rw [show nC r - 1 + 1 = nC r by omega]; exact hC.1, v2, fun q hq => (ho q hq).lw⟩, rfl, hs, h4, hb, ho⟩
      obtain ⟨I1, g1, g2, g3⟩ := C_61T w k hn (show nC r - 1 < 100000 by omega) v1 I r (some (.inl pr)) hT2 hS
      refine ⟨I1, st.trans ((zc_f e3).trans ((zc_t e1.symm).trans ((zc_f e2).trans ((zc_t e1.symm).trans g1)))), ?_, g3⟩
      rw [show m_m1 a8 (r 5) pr (nI s) r = m_tt (m_tk a8 (nI s).toNatClampNeg (nC r - 1) (r 5) r) from (if_pos e1).trans (if_neg e2), nI_clamp (by omega)]
      exact g2
  · by_cases e3 : pr = -1
    · have e2 : ¬ x = -1 := fun z => e1 (z.trans e3.symm)
      obtain ⟨s, hs, rfl⟩ := hv.resolve_left e2
      obtain ⟨v, v1, v2⟩ := rate s hs
      have hK : Kv (nR r) (nC r) r := by
        refine ⟨fun e a b => ⟨?_, (oc1 e a b).1⟩, oc2, oc3⟩
        rcases Nat.lt_or_ge (e + 1) (nC r) with y | y
        · exact (oc1 e a b).2 y
        · have : e = nC r - 1 := by omega
          subst this
          exact (h13 e3).resolve_left (by omega)
      obtain ⟨I1, g1, g2, g3⟩ := C_61B w k (s := s) hn (show nC r < 99999 by omega) v1 I r pr hS hQ.1 h4 hC.1 rfl hs v2 hb ho hK
      refine ⟨I1, st.trans ((zc_t e3).trans ((zc_f e2).trans ((zc_f (fun z => e1 z.symm)).trans g1))), ?_, g3⟩
      rw [if_pos e3, Int32.add_zero, fa_upd_same rfl] at g2
      rw [show m_m1 a8 (r 5) pr (nI s) r = m_tt (m_tk a8 (nI s).toNatClampNeg (nC r) (r 5) (m_bC (nC r) (nR r) (nI s).toNatClampNeg (r 5) r)) from (if_neg e1).trans (if_pos e3), nI_clamp (by omega)]
      exact g2
    · obtain ⟨hc1, hend⟩ := h14 e3
      have hm := Nat.mod_lt (nC r - 1) (by decide : 0 < 60)
      have run : rn 61 (24, [some (.inr (.inr (some (20, i)))), some (.inl pr), none], [.inl x], MM I w k) = rn 61 (45, [some (.inr (.inr (some (20, i)))), some (.inl pr), some (.inl x)], [.inr (.inr (some (15, (60 * i + (nC r - 1) % 60))))], MM I w k) := by
        refine st.trans ((zc_f e3).trans ((zc_f (fun z => e1 z.symm)).trans ?_))
        rw [h5, show nI (nC r) - 1 = nI (nC r - 1) from z_sub (b := 1) (by omega)]
        exact bk_v (C_55 I w k (by omega))
      rw [run]
      have st2 := e61_45 I w k i pr x (60 * i + (nC r - 1) % 60)
      rw [h8, ← ht] at st2
      have hS1 := Sim_cf hS h4 hn (c := nC r - 1) (by omega) (by omega) (j := 2) (by omega) (r 5)
      have ee : ∀ y, y ≠ 1348 + 84 * ((nC r - 1) % 60) + 2 → y ≠ 13 → upd (upd r (1348 + 84 * ((nC r - 1) % 60) + 2) (r 5)) 13 0 y = r y := fun y a b => by rw [upd_n _ _ _ b, upd_n _ _ _ a]
      have hS2 := Sim_13 hS1 0
      by_cases e2 : x = -1
      · have hS3 := Sim_now hS2 (r 5 + 1)
        refine ⟨_, st2.trans (zc_t e2), ?_, (Fr.set (show own i 15 (60 * i + (nC r - 1) % 60) from own_c hm) _ _ _).trans (Fr_20 _ _ _)⟩
        rw [show m_m1 a8 (r 5) pr x r = m_tt (m_en (nC r - 1) (r 5) 0 r) from (if_neg e1).trans ((if_neg e3).trans (if_pos e2))]
        have he : m_en (nC r - 1) (r 5) 0 r = upd (upd r (1348 + 84 * ((nC r - 1) % 60) + 2) (r 5)) 13 0 := by
          unfold m_en
          rw [Int32.add_zero]
          exact fa_upd_same (by rw [upd_n _ _ _ (by omega)])
        rw [he]
        unfold m_tt
        rw [ee 5 (by omega) (by omega)]
        exact hS3
      · obtain ⟨s, hs, rfl⟩ := hv.resolve_left e2
        obtain ⟨v, v1, v2⟩ := rate s hs
        generalize hra : upd (upd r (1348 + 84 * ((nC r - 1) % 60) + 2) (r 5)) 13 0 = ra at ee hS2
        have hRa : nR ra = nR r := nR_c (ee 4 (by omega) (by omega))
        have hCa : nC ra = nC r := nC_c (ee 12 (by omega) (by omega))
        have hSa : nS ra = nS r := nS_c (ee 3 (by omega) (by omega))
        have hK : Kv (nR r) (nC r) ra := by
          refine ⟨fun e a b => ⟨?_, ?_⟩, fun e a b q f hq hf hx => ?_, fun q f hq hf => ?_⟩
          · rcases Nat.lt_or_ge (e + 1) (nC r) with y | y
            · have hne : e % 60 ≠ (nC r - 1) % 60 := by omega
              rw [ee _ (by omega) (by omega)]
              exact (oc1 e a b).2 y
            · have : e = nC r - 1 := by omega
              subst this
              rw [← hra, upd_n _ _ _ (by omega), upd_s, ht]
              exact nI_n1 (by omega)
          · rw [ee _ (by omega) (by omega)]; exact (oc1 e a b).1
          · rw [hRa] at hq
            rw [ee _ (by omega) (by omega)] at hx ⊢
            exact oc2 e a b q f hq hf hx
          · rw [ee _ (by omega) (by omega)]; exact oc3 q f hq hf
        have hoa : oRR (nR r) ra := fun q hq => oR_c (ho q hq) (ee _ (by omega) (by omega)) (ee _ (by omega) (by omega)) (ee _ (by omega) (by omega)) (ee _ (by omega) (by omega))
        obtain ⟨I1, g1, g2, g3⟩ := C_61B w k (s := s) hn (show nC r < 99999 by omega) v1 _ ra pr hS2 (by rw [ee 4 (by omega) (by omega)]; exact hQ.1) (by omega) (by rw [ee 12 (by omega) (by omega)]; exact hC.1) (ee 5 (by omega) (by omega)) (by omega) (by rw [ee _ (by omega) (by omega)]; exact v2) (by rw [ee 7 (by omega) (by omega)]; exact hb) hoa hK
        refine ⟨I1, st2.trans ((zc_f e2).trans ((zc_f (fun z => e1 z.symm)).trans g1)), ?_, (Fr.set (show own i 15 (60 * i + (nC r - 1) % 60) from own_c hm) _ _ _).trans g3⟩
        rw [if_neg e3, ee 15 (by omega) (by omega)] at g2
        rw [show m_m1 a8 (r 5) pr (nI s) r = m_tt (m_tk a8 (nI s).toNatClampNeg (nC r) (r 5) (m_bC (nC r) (nR r) (nI s).toNatClampNeg (r 5) (m_en (nC r - 1) (r 5) 1 r))) from (if_neg e1).trans ((if_neg e3).trans (if_neg e2)), nI_clamp (by omega)]
        have he : m_en (nC r - 1) (r 5) 1 r = upd ra 15 (r 15 + 1) := by
          unfold m_en
          rw [hra, upd_n _ _ _ (show 15 ≠ 1348 + 84 * ((nC r - 1) % 60) + 2 by omega)]
        rw [he]
        exact g2
end
