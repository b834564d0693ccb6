/-! ===== rows: what no minute changes; trials of the reference ===== -/
/-- places that no minute changes -/
def qs (x : Nat) : Prop := x < 5 ∨ (6 ≤ x ∧ x < 12) ∨ (24 ≤ x ∧ x < 68 ∧ (x - 24) % 11 < 6) ∨ 6388 ≤ x
theorem Okx.tkq {T C b : Nat} {r : aR} (h : Okx T C b r) (a8 : Int32) {s : Nat} (hs : s < nS r) (hc : 1 ≤ nC r) (hT : T < 2 ^ 20) (hC : C ≤ 2 ^ 20) (hb : b < 2 ^ 29) {x : Nat} (hx : qs x) : m_tk a8 s (nC r - 1) (nI T) r x = r x := by
  obtain ⟨⟨h1, h2, h3, ⟨h4, h5⟩, h6, h7, h8, h10⟩, ho, hz⟩ := h
  obtain ⟨-, -, -, -, ⟨v, -, hv2, hv3⟩, -⟩ := h1.2.2.2.2 s hs
  have e1 : nC r - 1 + 1 = nC r := by omega
  have hT2 : Tv (nR r) s (nC r - 1) v (nI T) r := ⟨⟨h2.1, by rw [e1]; exact h4, hv3, fun q hq => (ho q hq).lw⟩, h3, hs, h1.1.2, h7.2.1, ho⟩
  obtain ⟨-, -, k3⟩ := tk_keep a8 h2.2 hT (by omega) hv2 hb hT2 (Zv.wv (by rw [e1]; exact hz))
  refine k3 x ?_
  rcases hx with y | y | y | y
  · exact Or.inl (by omega)
  · exact Or.inl (by omega)
  · exact Or.inr (Or.inr (Or.inr (Or.inl ⟨by omega, by omega, by omega, by omega, by omega⟩)))
  · exact Or.inr (Or.inr (Or.inr (Or.inr (Or.inr (Or.inr y)))))
theorem bC_qs {c s n : Nat} {t : Int32} {r : aR} {x : Nat} (hn : n ≤ 40) (hs : s < 4) (hx : qs x) : m_bC c n s t r x = r x := by
  have hm := Nat.mod_lt c (by decide : 0 < 60)
  rcases hx with y | y | y | y
  all_goals exact bC_q hn ⟨fun q hq => ⟨by omega, by omega, by omega⟩, by omega, by omega, by omega, by omega, fun e he => by omega⟩ (by omega) (by omega) (by omega) (by omega)
theorem tt_qs {r : aR} {x : Nat} (hx : qs x) : m_tt r x = r x := upd_n _ _ _ (by rcases hx with y | y | y | y <;> omega)
theorem en_qs {c : Nat} {t y : Int32} {r : aR} {x : Nat} (hx : qs x) : m_en c t y r x = r x := by
  have hm := Nat.mod_lt c (by decide : 0 < 60)
  unfold m_en
  rw [upd_n _ _ _ (by rcases hx with y | y | y | y <;> omega), upd_n _ _ _ (by rcases hx with y | y | y | y <;> omega), upd_n _ _ _ (by rcases hx with y | y | y | y <;> omega)]
theorem Okt.min_q {T : Nat} {r : aR} (h : Okt T r) (hT : T < 2 ^ 19) (a8 : Int32) {y : Nat} (hy : qs y) : m_min a8 r y = r y := by
  obtain ⟨⟨h1, h2, h3, h4, h6, h7, h8, h10⟩, ho, hz⟩ := id h
  have htk := tk_v h6 h8.1 h1.1.2
  have hp : m_tk0 r = -1 ∨ ∃ p, p < nS r ∧ m_tk0 r = nI p := by
    rcases htk with ⟨-, z, -⟩ | ⟨-, -, -, z⟩
    · exact Or.inl z
    · exact Or.inr z
  have hv := m_cho_v (r := r) (t := r 5) hp
  have h13 : m_tk0 r = -1 → (nC r = 0 ∨ ¬ r (1348 + 84 * ((nC r - 1) % 60) + 2) = -1) := by
    intro z
    rcases htk with ⟨-, -, y⟩ | ⟨-, -, -, p, p1, p2⟩
    · exact y
    · rw [z] at p2; exact absurd p2.symm (nI_n1 (by have := h1.1.2; omega))
  have h14 : ¬ m_tk0 r = -1 → 1 ≤ nC r := by
    intro z
    rcases htk with ⟨-, y, -⟩ | ⟨-, y1, -⟩
    · exact absurd y z
    · exact y1
  have hS4 := h1.1.2
  have hn := h2.2
  unfold m_min
  rw [h3] at hv ⊢
  generalize m_cho r (nI T) (m_tk0 r) = x at hv
  generalize m_tk0 r = pr at hp h13 h14
  have talk : ∀ (z : aR) (s c : Nat), Okx T (T + 1) (20 * T) z → nC z = c + 1 → s < nS z → m_tt (m_tk a8 s c (nI T) z) y = z y := by
    intro z s c hz hc hs
    have e := hz.tkq a8 hs (by omega) (by omega) (by omega) (by omega) hy
    rw [hc, show c + 1 - 1 = c by omega] at e
    rw [tt_qs hy, e]
  by_cases e1 : x = pr
  · by_cases e2 : x = -1
    · rw [show m_m1 a8 (nI T) pr x r = m_tt r from (if_pos e1).trans (if_pos e2)]
      exact tt_qs hy
    · obtain ⟨s, hs, rfl⟩ := hv.resolve_left e2
      have hc1 := h14 (fun z => e2 (e1.trans z))
      rw [show m_m1 a8 (nI T) pr (nI s) r = m_tt (m_tk a8 (nI s).toNatClampNeg (nC r - 1) (nI T) r) from (if_pos e1).trans (if_neg e2), nI_clamp (by omega)]
      exact talk r s (nC r - 1) (h.mono (by omega) (Nat.le_refl _)) (by omega) hs
  · by_cases e3 : pr = -1
    · have e2 : ¬ x = -1 := fun z => e1 (z.trans e3.symm)
      obtain ⟨s, hs, rfl⟩ := hv.resolve_left e2
      rw [show m_m1 a8 (nI T) pr (nI s) r = m_tt (m_tk a8 (nI s).toNatClampNeg (nC r) (nI T) (m_bC (nC r) (nR r) (nI s).toNatClampNeg (nI T) r)) from (if_neg e1).trans (if_pos e3), nI_clamp (by omega)]
      obtain ⟨k1, k2, k3⟩ := Okx.bC h hs (by omega) (by omega) (h13 e3)
      rw [talk _ s (nC r) k1 k2 (by omega), bC_qs hn (by omega) hy]
    · have hc1 := h14 e3
      by_cases e2 : x = -1
      · rw [show m_m1 a8 (nI T) pr x r = m_tt (m_en (nC r - 1) (nI T) 0 r) from (if_neg e1).trans ((if_neg e3).trans (if_pos e2)), tt_qs hy, en_qs hy]
      · obtain ⟨s, hs, rfl⟩ := hv.resolve_left e2
        rw [show m_m1 a8 (nI T) pr (nI s) r = m_tt (m_tk a8 (nI s).toNatClampNeg (nC r) (nI T) (m_bC (nC r) (nR r) (nI s).toNatClampNeg (nI T) (m_en (nC r - 1) (nI T) 1 r))) from (if_neg e1).trans ((if_neg e3).trans (if_neg e2)), nI_clamp (by omega)]
        obtain ⟨k0, kC, kS, kR, kE⟩ := Okx.en h hc1 (by omega) 1
        have eq := en_qs (c := nC r - 1) (t := nI T) (y := 1) (r := r) hy
        generalize m_en (nC r - 1) (nI T) 1 r = ra at k0 kC kS kR kE eq
        rw [← kC] at kE
        obtain ⟨k1, k2, k3⟩ := Okx.bC k0 (s := s) (by omega) (by omega) (by omega) (Or.inr kE)
        rw [← kC, ← kR, talk _ s (nC ra) k1 k2 (by omega), bC_qs (by omega) (by omega) hy, eq]
theorem Okt.it_q {a8 : Int32} {y : Nat} (hy : qs y) : ∀ (d T : Nat) (r : aR), Okt T r → T + d < 2 ^ 19 → m_it a8 d r y = r y
  | 0, _, _, _, _ => rfl
  | d + 1, T, r, h, hT => by
    show m_it a8 d (m_min a8 r) y = r y
    rw [Okt.it_q hy d (T + 1) _ (h.min (by omega) a8) (by omega), h.min_q (by omega) a8 hy]
/-- the trial without loss, until record q is delivered -/
noncomputable def m_fc (q : Nat) : Nat → aR → aR
  | 0, r => r
  | d + 1, r => if ¬ r (68 + 8 * q + 6) = -1 then r else m_fc q d (m_min 1 r)
theorem Okt.fc_q {q y : Nat} (hy : qs y) : ∀ (d T : Nat) (r : aR), Okt T r → T + d < 2 ^ 19 → m_fc q d r y = r y
  | 0, _, _, _, _ => rfl
  | d + 1, T, r, h, hT => by
    unfold m_fc
    split
    · rfl
    · rw [Okt.fc_q hy d (T + 1) _ (h.min (by omega) 1) (by omega), h.min_q (by omega) 1 hy]
theorem Okt.par {T x : Nat} {v : Int32} {r : aR} (h : Okt T r) (h1 : 6 ≤ x) (h2 : x < 12) (hp : Rp (upd r x v)) : Okt T (upd r x v) := by
  have e : ∀ y, y ≠ x → upd r x v y = r y := fun y hy => upd_n _ _ _ hy
  obtain ⟨⟨a1, a2, a3, a4, a6, a7, a8, a10⟩, ho, hz⟩ := h
  have eS := nS_c (e 3 (by omega))
  have eR := nR_c (e 4 (by omega))
  have eC := nC_c (e 12 (by omega))
  refine ⟨⟨Rs_c a1 (fun x hx => e x (by omega)) (fun s j a b => e _ (by omega)), ⟨by rw [e 4 (by omega), eR]; exact a2.1, by rw [eR]; exact a2.2⟩, by rw [e 5 (by omega)]; exact a3, by rw [e 12 (by omega), eC]; exact a4, ?_, hp, ⟨fun x a b => ?_, fun x a b => ?_⟩, fun s j a b d => ?_⟩, ?_, ?_⟩
  · unfold Rf; rw [e 13 (by omega), eC, e _ (by omega)]; exact a6
  · rw [eC] at a b; rw [eS, e _ (by omega)]; exact a8.1 x a b
  · rw [eC] at a b; rw [eC, e _ (by omega), e _ (by omega)]; exact a8.2 x a b
  · rw [eS] at a; rw [e _ (by omega)]; exact a10 s j a b d
  · rw [eR]; exact fun q hq => oR_c (ho q hq) (e _ (by omega)) (e _ (by omega)) (e _ (by omega)) (e _ (by omega))
  · rw [eR, eC]
    exact hz.cg (fun q f _ _ => e _ (by omega)) (fun _ j _ _ _ => e _ (by omega)) (fun q j _ _ => e _ (by omega)) a2.2 (e _ (by omega)) (e _ (by omega)) (e _ (by omega)) (e _ (by omega))
