/-! ===== rows: a contact begins, a minute ===== -/
def P3 (x : Int32) : Prop := x = 0 ∨ x = 1 ∨ x = 2
theorem bl_3 {s n p : Nat} {t : Int32} (hn : n ≤ 40) (hs : s < 4) (hp : p < 60) : ∀ (d e : Nat) (r : aR), P3 (r (1348 + 84 * p + 3)) → P3 (m_bl s n t d e r (1348 + 84 * p + 3))
  | 0, _, _, h => h
  | d + 1, e, r, h => by
    show P3 (m_bl s n t d (e + 1) (m_bq s n t e r) (1348 + 84 * p + 3))
    refine bl_3 hn hs hp d (e + 1) _ ?_
    have hm := Nat.mod_lt e (by decide : 0 < 60)
    have h1 : P3 (m_gR e t n r (1348 + 84 * p + 3)) := by
      by_cases z : p = e % 60
      · subst z
        refine Or.inr (Or.inr ?_)
        unfold m_gR m_g6
        rw [upd_n _ _ _ (by omega), upd_s]
      · rw [gR_f hn (fun q hq => ⟨by omega, by omega, by omega⟩) (by omega) (by omega) (by omega)]; exact h
    have h2 : P3 (m_ct s 4 (m_gR e t n r) (1348 + 84 * p + 3)) := by unfold m_ct; rw [upd_n _ _ _ (by omega)]; exact h1
    unfold m_bq
    repeat' split
    all_goals first | exact h | exact h1 | exact h2
theorem vl_3 {n p : Nat} {t : Int32} (hn : n ≤ 40) (hp : p < 60) : ∀ (d e : Nat) (r : aR), P3 (r (1348 + 84 * p + 3)) → P3 (m_vl n t d e r (1348 + 84 * p + 3))
  | 0, _, _, h => h
  | d + 1, e, r, h => by
    show P3 (m_vl n t d (e + 1) (m_v1 n t e r) (1348 + 84 * p + 3))
    refine vl_3 hn hp d (e + 1) _ ?_
    have hm := Nat.mod_lt e (by decide : 0 < 60)
    unfold m_v1
    repeat' split
    all_goals first | exact h | (unfold m_v0; rw [upd_n _ _ _ (by omega)]; exact if z : p = e % 60 then (by subst z; rw [upd_s]; exact Or.inr (Or.inl rfl)) else (by rw [upd_n _ _ _ (by omega), m_gb_n n 0 r (fun q hq => by omega)]; exact h))
theorem bC_3 {c s n : Nat} {t : Int32} {r : aR} (hn : n ≤ 40) (hs : s < 4) : P3 (m_bC c n s t r (1348 + 84 * (c % 60) + 3)) := by
  have hm := Nat.mod_lt c (by decide : 0 < 60)
  unfold m_bC
  refine vl_3 hn hm _ _ _ (bl_3 hn hs hm _ _ _ (Or.inl ?_))
  unfold m_n2 m_ct m_n1
  rw [upd_n _ _ _ (by omega), upd_n _ _ _ (by omega), upd_n _ _ _ (by omega), upd_n _ _ _ (by omega), upd_n _ _ _ (by omega), upd_n _ _ _ (by omega), zl_v, if_pos (by omega)]
theorem bC_13 {c s n : Nat} {t : Int32} {r : aR} (hn : n ≤ 40) (hs : s < 4) : m_bC c n s t r 13 = 1 := by
  have hx : qv s 13 := ⟨fun q hq => ⟨by omega, by omega, by omega⟩, by omega, by omega, by omega, by omega, fun e he => by omega⟩
  unfold m_bC
  rw [vl_q (s := s) hn hx, bl_q hn hx]
  unfold m_n2 m_ct
  rw [upd_n _ _ _ (by omega), upd_s]
theorem Okx.bC {T C b : Nat} {r : aR} (h : Okx T C b r) {s : Nat} (hs : s < nS r) (hT : T < 2 ^ 20) (hC : C < 2 ^ 20) (he : nC r = 0 ∨ ¬ r (1348 + 84 * ((nC r - 1) % 60) + 2) = -1) : Okx T (C + 1) b (m_bC (nC r) (nR r) s (nI T) r) ∧ nC (m_bC (nC r) (nR r) s (nI T) r) = nC r + 1 ∧ nS (m_bC (nC r) (nR r) s (nI T) r) = nS r := by
  obtain ⟨⟨h1, h2, h3, ⟨h4, h5⟩, h6, h7, ⟨h8, h9⟩, h10⟩, ho, z1, z2, z3, z4, ⟨S, A, s1, s2, s3, s4, s5⟩, z6⟩ := h
  have hn := h2.2
  have hS4 := h1.1.2
  have hs4 : s < 4 := by omega
  have hK : Kv (nR r) (nC r) r := by
    refine ⟨fun e a b => ⟨?_, (h9 e a b).1⟩, z1, fun q f hq hf hx => ?_⟩
    · rcases Nat.lt_or_ge (e + 1) (nC r) with y | y
      · exact (h9 e a b).2 y
      · have : e = nC r - 1 := by omega
        subst this
        exact he.resolve_left (by omega)
    · rcases z2 q f hq hf with y | ⟨e, y1, y2⟩
      · rw [hx] at y; exact nI_n1 (by omega) y
      · rw [hx] at y2
        have := (nI_eq (by omega) (by omega)).mp y2
        omega
  have hJ := Jv_bC (s := s) hK h2.1 hn hS4 h3 hs4
  have hc0 : nC (m_bC (nC r) (nR r) s (nI T) r) = nC r + 1 := (congrArg Int32.toNatClampNeg hJ.2.2.1).trans (nI_clamp (by omega))
  have hm := Nat.mod_lt (nC r) (by decide : 0 < 60)
  have q : ∀ x, qv s x → x ≠ 12 → x ≠ 13 → x ≠ 24 + 11 * s + 6 + 0 → (x < 1348 + 84 * (nC r % 60) ∨ 1348 + 84 * (nC r % 60) + 84 ≤ x) → m_bC (nC r) (nR r) s (nI T) r x = r x := fun x a b d e f => bC_q hn a b d e f
  have q1 : ∀ x, x < 21 → x ≠ 12 → x ≠ 13 → m_bC (nC r) (nR r) s (nI T) r x = r x := fun x a b d => q x ⟨fun q hq => ⟨by omega, by omega, by omega⟩, by omega, by omega, by omega, by omega, fun e he => by omega⟩ b d (by omega) (by omega)
  have q2 : ∀ p j, p < 4 → j < 11 → (p ≠ s ∨ j < 6) → m_bC (nC r) (nR r) s (nI T) r (24 + 11 * p + j) = r (24 + 11 * p + j) := fun p j a b d => q _ ⟨fun q hq => ⟨by omega, by omega, by omega⟩, by omega, by omega, by omega, by omega, fun e he => by omega⟩ (by omega) (by omega) (by omega) (by omega)
  have q3 : ∀ p j, p < 40 → (j = 0 ∨ j = 1 ∨ j = 2 ∨ j = 5 ∨ j = 6) → m_bC (nC r) (nR r) s (nI T) r (68 + 8 * p + j) = r (68 + 8 * p + j) := fun p j a b => q _ ⟨fun q hq => ⟨by omega, by omega, by omega⟩, by omega, by omega, by omega, by omega, fun e he => by omega⟩ (by omega) (by omega) (by omega) (by omega)
  have q4 : ∀ p f, p < 40 → f < 24 → m_bC (nC r) (nR r) s (nI T) r (388 + 24 * p + f) = r (388 + 24 * p + f) := fun p j a b => q _ ⟨fun q hq => ⟨by omega, by omega, by omega⟩, by omega, by omega, by omega, by omega, fun e he => by omega⟩ (by omega) (by omega) (by omega) (by omega)
  have q5 : ∀ e j, e < 60 → e ≠ nC r % 60 → j < 84 → j ≠ 3 → m_bC (nC r) (nR r) s (nI T) r (1348 + 84 * e + j) = r (1348 + 84 * e + j) := fun p j a b d e => q _ ⟨fun q hq => ⟨by omega, by omega, by omega⟩, by omega, by omega, by omega, by omega, fun e he => by omega⟩ (by omega) (by omega) (by omega) (by omega)
  have q6 : ∀ j, j < 84 → j ≠ 3 → j ≠ 1 → j ≠ 2 → m_bC (nC r) (nR r) s (nI T) r (1348 + 84 * (nC r % 60) + j) = if j = 0 then nI s else 0 := fun j a b d e => bC_w hn a b d e hs4
  have q7 := bC_3 (c := nC r) (t := nI T) (r := r) hn hs4
  have q8 := bC_13 (c := nC r) (t := nI T) (r := r) hn hs4
  have hO := ho.bC hn hs4 (nC r) (nI T)
  generalize m_bC (nC r) (nR r) s (nI T) r = r' at hJ hc0 q q1 q2 q3 q4 q5 q6 q7 q8 hO
  have eS := nS_c (q1 3 (by omega) (by omega) (by omega))
  have eR := nR_c (q1 4 (by omega) (by omega) (by omega))
  have hmm : ∀ e, e % 60 < 60 := fun e => Nat.mod_lt _ (by decide)
  refine ⟨⟨⟨Rs_c h1 (fun x hx => q1 x (by omega) (by omega) (by omega)) (fun s j a b => q2 s j a (by omega) (Or.inr b)), ⟨by rw [q1 4 (by omega) (by omega) (by omega), eR]; exact h2.1, by rw [eR]; exact h2.2⟩, by rw [q1 5 (by omega) (by omega) (by omega)]; exact h3, ⟨by rw [hc0]; exact hJ.2.2.1, by omega⟩, ?_, Rp_c h7 (fun x a b => q1 x (by omega) (by omega) (by omega)), ⟨fun e a b => ?_, fun e a b => ⟨?_, fun d => ?_⟩⟩, fun p j a b d => ?_⟩, ?_, ?_⟩, hc0, eS⟩
  · unfold Rf
    rw [hc0, q8, show nC r + 1 - 1 = nC r by omega, hJ.2.2.2.2.2.1]
    exact ⟨fun y => absurd y (by decide), fun y => by rcases y with y | y; exact absurd y (by omega); exact absurd rfl y⟩
  · rw [hc0] at a b
    rw [eS]
    by_cases y : e = nC r
    · subst y; exact ⟨s, hs, by rw [q6 0 (by omega) (by omega) (by omega) (by omega), if_pos rfl]⟩
    · rw [q5 _ 0 (hmm e) (by omega) (by omega) (by omega)]; exact h8 e (by omega) (by omega)
  · rw [hc0] at a b
    by_cases y : e = nC r
    · subst y; exact q7
    · exact (hJ.2.2.2.2.1 e (by omega) b).2
  · rw [hc0] at a b d
    exact (hJ.2.2.2.2.1 e (by omega) b).1
  · rw [eS] at a
    rw [Nat.add_assoc, q2 p (6 + j) b (by omega) (Or.inl (by omega)), ← Nat.add_assoc]
    exact h10 p j a b d
  · rw [eR]; exact hO
  · rw [eR, hc0]
    refine ⟨fun e a b q f hq hf hx => hJ.2.2.2.2.2.2 e (by omega) b q f (by rw [eR]; exact hq) hf hx, fun p f hq hf => ?_, fun e a b p hp1 hp2 => ?_, fun p hp => ?_, ⟨S, A, s1, s2, by rw [q1 16 (by omega) (by omega) (by omega)]; exact s3, by rw [q1 19 (by omega) (by omega) (by omega)]; exact s4, ?_⟩, by rw [q1 14 (by omega) (by omega) (by omega)]; exact z6⟩
    · rw [q4 p f (by omega) hf]
      exact (z2 p f hq hf).imp_right (fun ⟨e, y1, y2⟩ => ⟨e, by omega, y2⟩)
    · rw [Nat.add_assoc (1348 + 84 * (e % 60)) 4, Nat.add_assoc (1348 + 84 * (e % 60)) 44]
      by_cases y : e = nC r
      · subst y
        rw [q6 _ (by omega) (by omega) (by omega) (by omega), q6 _ (by omega) (by omega) (by omega) (by omega), if_neg (by omega), if_neg (by omega)]
        exact ⟨rfl, rfl⟩
      · rw [q5 _ _ (hmm e) (by omega) (by omega) (by omega), q5 _ _ (hmm e) (by omega) (by omega) (by omega), ← Nat.add_assoc, ← Nat.add_assoc]
        exact z3 e (by omega) (by omega) p hp1 hp2
    · have ef : m_full r' p = m_full r p := by unfold m_full; rw [q3 p 0 (by omega) (by omega)]
      rw [ef, q3 p 6 (by omega) (by omega), q3 p 5 (by omega) (by omega), q3 p 2 (by omega) (by omega)]; exact z4 p hp
    · rw [q1 20 (by omega) (by omega) (by omega), cD_c (fun p hp => q3 p 6 (by omega) (by omega))]; exact s5
theorem Okt.min {T : Nat} {r : aR} (h : Okt T r) (hT : T < 2 ^ 19) (a8 : Int32) : Okt (T + 1) (m_min a8 r) := by
  obtain ⟨⟨h1, h2, h3, h4, h6, h7, h8, h10⟩, ho, hz⟩ := id h
  have htk := tk_v h6 h8.1 h1.1.2
  have hp : m_tk0 r = -1 ∨ ∃ p, p < nS r ∧ m_tk0 r = nI p := by
    rcases htk with ⟨-, z, -⟩ | ⟨-, -, -, z⟩
    · exact Or.inl z
    · exact Or.inr z
  have hv := m_cho_v (r := r) (t := r 5) hp
  have h13 : m_tk0 r = -1 → (nC r = 0 ∨ ¬ r (1348 + 84 * ((nC r - 1) % 60) + 2) = -1) := by
    intro z
    rcases htk with ⟨-, -, y⟩ | ⟨-, -, -, p, p1, p2⟩
    · exact y
    · rw [z] at p2; exact absurd p2.symm (nI_n1 (by have := h1.1.2; omega))
  have h14 : ¬ m_tk0 r = -1 → 1 ≤ nC r := by
    intro z
    rcases htk with ⟨-, y, -⟩ | ⟨-, y1, -⟩
    · exact absurd y z
    · exact y1
  have hS4 := h1.1.2
  unfold m_min
  rw [h3] at hv ⊢
  generalize m_cho r (nI T) (m_tk0 r) = x at hv
  generalize m_tk0 r = pr at hp h13 h14
  have talk : ∀ (z : aR) (s c : Nat), Okx T (T + 1) (20 * T) z → nC z = c + 1 → s < nS z → Okt (T + 1) (m_tt (m_tk a8 s c (nI T) z)) := by
    intro z s c hz hc hs
    have y := hz.tk a8 hs (by omega) (by omega) (by omega) (by omega)
    rw [hc, show c + 1 - 1 = c by omega] at y
    have y := y.tt
    unfold Okt
    rw [show 20 * (T + 1) = 20 * T + 20 by omega]
    exact y
  by_cases e1 : x = pr
  · by_cases e2 : x = -1
    · rw [show m_m1 a8 (nI T) pr x r = m_tt r from (if_pos e1).trans (if_pos e2)]
      exact (Okx.tt h).mono (by omega) (by omega)
    · obtain ⟨s, hs, rfl⟩ := hv.resolve_left e2
      have hc1 := h14 (fun z => e2 (e1.trans z))
      rw [show m_m1 a8 (nI T) pr (nI s) r = m_tt (m_tk a8 (nI s).toNatClampNeg (nC r - 1) (nI T) r) from (if_pos e1).trans (if_neg e2), nI_clamp (by omega)]
      exact talk r s (nC r - 1) (h.mono (by omega) (Nat.le_refl _)) (by omega) hs
  · by_cases e3 : pr = -1
    · have e2 : ¬ x = -1 := fun z => e1 (z.trans e3.symm)
      obtain ⟨s, hs, rfl⟩ := hv.resolve_left e2
      rw [show m_m1 a8 (nI T) pr (nI s) r = m_tt (m_tk a8 (nI s).toNatClampNeg (nC r) (nI T) (m_bC (nC r) (nR r) (nI s).toNatClampNeg (nI T) r)) from (if_neg e1).trans (if_pos e3), nI_clamp (by omega)]
      obtain ⟨k1, k2, k3⟩ := Okx.bC h hs (by omega) (by omega) (h13 e3)
      exact talk _ s (nC r) k1 k2 (by omega)
    · have hc1 := h14 e3
      by_cases e2 : x = -1
      · rw [show m_m1 a8 (nI T) pr x r = m_tt (m_en (nC r - 1) (nI T) 0 r) from (if_neg e1).trans ((if_neg e3).trans (if_pos e2))]
        exact ((Okx.en h hc1 (by omega) 0).1.tt).mono (by omega) (by omega)
      · obtain ⟨s, hs, rfl⟩ := hv.resolve_left e2
        rw [show m_m1 a8 (nI T) pr (nI s) r = m_tt (m_tk a8 (nI s).toNatClampNeg (nC r) (nI T) (m_bC (nC r) (nR r) (nI s).toNatClampNeg (nI T) (m_en (nC r - 1) (nI T) 1 r))) from (if_neg e1).trans ((if_neg e3).trans (if_neg e2)), nI_clamp (by omega)]
        obtain ⟨k0, kC, kS, kR, kE⟩ := Okx.en h hc1 (by omega) 1
        generalize m_en (nC r - 1) (nI T) 1 r = ra at k0 kC kS kR kE
        rw [← kC] at kE
        obtain ⟨k1, k2, k3⟩ := Okx.bC k0 (s := s) (by omega) (by omega) (by omega) (Or.inr kE)
        rw [← kC, ← kR]
        exact talk _ s (nC ra) k1 k2 (by omega)
theorem Okt.it {a8 : Int32} : ∀ (d T : Nat) (r : aR), Okt T r → T + d < 2 ^ 19 → Okt (T + d) (m_it a8 d r)
  | 0, _, _, h, _ => h
  | d + 1, T, r, h, hT => by
    rw [show T + (d + 1) = T + 1 + d by omega]
    exact Okt.it d (T + 1) _ (h.min (by omega) a8) (by omega)
