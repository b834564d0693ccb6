/-! ===== rows: what the setters keep ===== -/
theorem Zv.ch {n N T b : Nat} {r r' : aR} (h : Zv n N T b r) (e1 : ∀ q f, q < n → f < 24 → r' (388 + 24 * q + f) = r (388 + 24 * q + f)) (e2 : ∀ e j, e < 60 → 4 ≤ j → j < 84 → r' (1348 + 84 * e + j) = r (1348 + 84 * e + j)) (e3 : ∀ q j, q < n → (j = 0 ∨ j = 2 ∨ j = 5 ∨ j = 6) → r' (68 + 8 * q + j) = r (68 + 8 * q + j)) (hn : n ≤ 40) (e4 : 0 ≤ r' 14) (e5 : r' 16 = r 16) (e6 : r' 19 = r 19) (e7 : r' 20 = r 20) : Zv n N T b r' := by
  obtain ⟨w1, w2, w3, w4, ⟨S, A, s1, s2, s3, s4, s5⟩, w6⟩ := h
  refine ⟨fun e a d q f hq hf hx => ?_, fun q f hq hf => ?_, fun e a d q hq1 hq2 => ?_, fun q hq => ?_, ⟨S, A, s1, s2, by rw [e5]; exact s3, by rw [e6]; exact s4, ?_⟩, e4⟩
  · rw [e1 q f hq hf] at hx
    rw [Nat.add_assoc, e2 _ _ (Nat.mod_lt _ (by decide)) (by omega) (by omega), ← Nat.add_assoc]
    exact w1 e a d q f hq hf hx
  · rw [e1 q f hq hf]; exact w2 q f hq hf
  · rw [Nat.add_assoc (1348 + 84 * (e % 60)) 4, Nat.add_assoc (1348 + 84 * (e % 60)) 44, e2 _ _ (Nat.mod_lt _ (by decide)) (by omega) (by omega), e2 _ _ (Nat.mod_lt _ (by decide)) (by omega) (by omega), ← Nat.add_assoc, ← Nat.add_assoc]
    exact w3 e a d q hq1 hq2
  · have ef : m_full r' q = m_full r q := by unfold m_full; rw [e3 q 0 hq (by omega)]
    rw [ef, e3 q 6 hq (by omega), e3 q 5 hq (by omega), e3 q 2 hq (by omega)]; exact w4 q hq
  · rw [e7, cD_c (fun q hq => e3 q 6 hq (by omega))]; exact s5
/-- places that the settings leave alone -/
def qk (y : Nat) : Prop := y = 3 ∨ y = 4 ∨ y = 5 ∨ y = 12 ∨ y = 13 ∨ y = 16 ∨ y = 19 ∨ y = 20 ∨ (∃ s j, y = 24 + 11 * s + 6 + j ∧ s < 4 ∧ j < 5) ∨ (∃ q j, y = 68 + 8 * q + j ∧ q < 40 ∧ (j = 0 ∨ j = 2 ∨ j = 5 ∨ j = 6)) ∨ 388 ≤ y
theorem Okt.gen {T : Nat} {r r' : aR} (h : Okt T r) (hs : Rs r') (hp : Rp r') (ho' : oRR (nR r) r') (h14 : 0 ≤ r' 14) (e : ∀ y, qk y → r' y = r y) : Okt T r' := by
  obtain ⟨⟨a1, a2, a3, a4, a6, a7, a8, a10⟩, ho, hz⟩ := h
  have e3 : r' 3 = r 3 := e 3 (by unfold qk; omega)
  have e4 : r' 4 = r 4 := e 4 (by unfold qk; omega)
  have e12 : r' 12 = r 12 := e 12 (by unfold qk; omega)
  have eB : ∀ y, 388 ≤ y → r' y = r y := fun y hy => e y (by unfold qk; omega)
  have eS := nS_c e3
  have eR := nR_c e4
  have eC := nC_c e12
  refine ⟨⟨hs, ⟨by rw [e4, eR]; exact a2.1, by rw [eR]; exact a2.2⟩, by rw [e 5 (by unfold qk; omega)]; exact a3, by rw [e12, eC]; exact a4, ?_, hp, ⟨fun x a b => ?_, fun x a b => ?_⟩, fun s j a b d => ?_⟩, ?_, ?_⟩
  · unfold Rf; rw [e 13 (by unfold qk; omega), eC, eB _ (by omega)]; exact a6
  · rw [eC] at a b; rw [eS, eB _ (by omega)]; exact a8.1 x a b
  · rw [eC] at a b; rw [eC, eB _ (by omega), eB _ (by omega)]; exact a8.2 x a b
  · rw [eS] at a; rw [e _ (Or.inr (Or.inr (Or.inr (Or.inr (Or.inr (Or.inr (Or.inr (Or.inr (Or.inl ⟨s, j, rfl, b, d⟩)))))))))]; exact a10 s j a b d
  · rw [eR]; exact ho'
  · rw [eR, eC]
    refine hz.ch (fun q f _ _ => eB _ (by omega)) (fun _ j _ _ _ => eB _ (by omega)) (fun q j hq hj => e _ (Or.inr (Or.inr (Or.inr (Or.inr (Or.inr (Or.inr (Or.inr (Or.inr (Or.inr (Or.inl ⟨q, j, rfl, ?_, hj⟩))))))))))) a2.2 h14 (e 16 (by unfold qk; omega)) (e 19 (by unfold qk; omega)) (e 20 (by unfold qk; omega))
    have := a2.2
    omega
theorem z_nI {x : Int32} {a b : Nat} (h : nI a ≤ x ∧ x ≤ nI b) (hb : b < 2 ^ 31) (ha : a < 2 ^ 31) : ∃ n, a ≤ n ∧ n ≤ b ∧ x = nI n := by
  obtain ⟨h1, h2⟩ := h
  rw [fa_le] at h1 h2
  rw [nI_toInt (by omega)] at h1 h2
  refine ⟨x.toInt.toNat, by omega, by omega, ?_⟩
  have h0 : (0 : Int) ≤ x.toInt := by omega
  rw [← Int32.toInt_inj, nI_toInt (by omega)]
  omega
theorem Okt.orb {T : Nat} {r : aR} (h : Okt T r) {a b c : Int32} (hg : (60 ≤ a ∧ a ≤ 200) ∧ (0 ≤ b ∧ b ≤ 359) ∧ (0 ≤ c ∧ c ≤ 359)) : Okt T (upd (upd (upd r 0 a) 1 b) 2 c) := by
  obtain ⟨g1, g2, g3⟩ := hg
  obtain ⟨a', ha1, ha2, ha3⟩ := z_nI (a := 60) (b := 200) g1 (by decide) (by decide)
  obtain ⟨b', hb1, hb2, hb3⟩ := z_nI (a := 0) (b := 359) g2 (by decide) (by decide)
  obtain ⟨c', hc1, hc2, hc3⟩ := z_nI (a := 0) (b := 359) g3 (by decide) (by decide)
  have e : ∀ y, 3 ≤ y → upd (upd (upd r 0 a) 1 b) 2 c y = r y := fun y hy => by
    rw [upd_n _ _ _ (by omega), upd_n _ _ _ (by omega), upd_n _ _ _ (by omega)]
  have hR := h.rs
  have eS := nS_c (e 3 (by omega))
  refine h.gen ⟨⟨by rw [e 3 (by omega), eS]; exact hR.1.1, by rw [eS]; exact hR.1.2⟩, ⟨a', ha1, ha2, ?_⟩, ⟨b', hb2, ?_⟩, ⟨c', hc2, ?_⟩, fun s hs => ?_⟩ (Rp_c h.1.2.2.2.2.2.1 (fun x _ _ => e x (by omega))) (fun q hq => oR_c (h.2.1 q hq) (e _ (by omega)) (e _ (by omega)) (e _ (by omega)) (e _ (by omega))) (by rw [e 14 (by omega)]; exact h.2.2.2.2.2.2.2) (fun y hy => e y (by
    rcases hy with y1 | y1 | y1 | y1 | y1 | y1 | y1 | y1 | ⟨s, j, y1, -⟩ | ⟨q, j, y1, -⟩ | y1 <;> omega))
  · rw [upd_n _ _ _ (by omega), upd_n _ _ _ (by omega), upd_s]; exact ha3
  · rw [upd_n _ _ _ (by omega), upd_s]; exact hb3
  · rw [upd_s]; exact hc3
  · rw [eS] at hs
    unfold rSt
    rw [e _ (by omega), e _ (by omega), e _ (by omega), e _ (by omega), e _ (by omega), e _ (by omega)]
    exact hR.2.2.2.2 s hs
theorem Okt.los {T s : Nat} {r : aR} (h : Okt T r) (hs : s < nS r) {v : Int32} (hg : 0 ≤ v ∧ v ≤ 99) : Okt T (upd r (24 + 11 * s + 5) v) := by
  obtain ⟨a', ha1, ha2, ha3⟩ := z_nI (a := 0) (b := 99) hg (by decide) (by decide)
  have hR := h.rs
  have h4 := hR.1.2
  have e : ∀ y, y ≠ 24 + 11 * s + 5 → upd r (24 + 11 * s + 5) v y = r y := fun y hy => upd_n _ _ _ hy
  have eS := nS_c (e 3 (by omega))
  refine h.gen ⟨⟨by rw [e 3 (by omega), eS]; exact hR.1.1, by rw [eS]; exact hR.1.2⟩, by rw [e 0 (by omega)]; exact hR.2.1, by rw [e 1 (by omega)]; exact hR.2.2.1, by rw [e 2 (by omega)]; exact hR.2.2.2.1, fun p hp => ?_⟩ (Rp_c h.1.2.2.2.2.2.1 (fun x _ _ => e x (by omega))) (fun q hq => oR_c (h.2.1 q hq) (e _ (by omega)) (e _ (by omega)) (e _ (by omega)) (e _ (by omega))) (by rw [e 14 (by omega)]; exact h.2.2.2.2.2.2.2) (fun y hy => e y (by
    rcases hy with y1 | y1 | y1 | y1 | y1 | y1 | y1 | y1 | ⟨s, j, y1, y2, y3⟩ | ⟨q, j, y1, y2, y3⟩ | y1 <;> omega))
  rw [eS] at hp
  obtain ⟨k0, k1, k2, k3, k4, k5⟩ := hR.2.2.2.2 p hp
  refine ⟨by rw [e _ (by omega)]; exact k0, by rw [e _ (by omega)]; exact k1, by rw [e _ (by omega)]; exact k2, by rw [e _ (by omega)]; exact k3, by rw [e _ (by omega)]; exact k4, ?_⟩
  by_cases hps : p = s
  · subst hps; rw [upd_s]; exact ⟨a', ha2, ha3⟩
  · rw [e _ (by omega)]; exact k5
theorem Okt.see {T : Nat} {r : aR} (h : Okt T r) {v : Int32} (hg : 0 ≤ v) : Okt T (upd r 14 v) := by
  have hR := h.rs
  have e : ∀ y, y ≠ 14 → upd r 14 v y = r y := fun y hy => upd_n _ _ _ hy
  refine h.gen (Rs_c hR (fun x hx => e x (by omega)) (fun s j a b => e _ (by omega))) (Rp_c h.1.2.2.2.2.2.1 (fun x _ _ => e x (by omega))) (fun q hq => oR_c (h.2.1 q hq) (e _ (by omega)) (e _ (by omega)) (e _ (by omega)) (e _ (by omega))) (by rw [upd_s]; exact hg) (fun y hy => e y (by
    rcases hy with y1 | y1 | y1 | y1 | y1 | y1 | y1 | y1 | ⟨s, j, y1, y2, y3⟩ | ⟨q, j, y1, y2, y3⟩ | y1 <;> omega))
theorem Okt.pri {T q : Nat} {r : aR} (h : Okt T r) (hq : q < nR r) {v : Int32} (hg : 0 ≤ v ∧ v ≤ 9) : Okt T (upd r (68 + 8 * q + 1) v) := by
  obtain ⟨a', ha1, ha2, ha3⟩ := z_nI (a := 0) (b := 9) hg (by decide) (by decide)
  have hR := h.rs
  have h40 := h.rq.2
  have e : ∀ y, y ≠ 68 + 8 * q + 1 → upd r (68 + 8 * q + 1) v y = r y := fun y hy => upd_n _ _ _ hy
  refine h.gen (Rs_c hR (fun x hx => e x (by omega)) (fun s j a b => e _ (by omega))) (Rp_c h.1.2.2.2.2.2.1 (fun x _ _ => e x (by omega))) (fun p hp => ?_) (by rw [e 14 (by omega)]; exact h.2.2.2.2.2.2.2) (fun y hy => e y (by
    rcases hy with y1 | y1 | y1 | y1 | y1 | y1 | y1 | y1 | ⟨s, j, y1, y2, y3⟩ | ⟨q, j, y1, y2, y3⟩ | y1 <;> omega))
  by_cases hpq : p = q
  · subst hpq
    obtain ⟨k1, k2, k3⟩ := h.2.1 p hp
    refine ⟨by rw [e _ (by omega), e _ (by omega)]; exact k1, by rw [e _ (by omega), e _ (by omega)]; exact k2, a', ha2, by rw [upd_s]; exact ha3⟩
  · exact oR_c (h.2.1 p hp) (e _ (by omega)) (e _ (by omega)) (e _ (by omega)) (e _ (by omega))
/-! a station is added -/
theorem as_n {r : aR} {n : Nat} {a b c d e f : Int32} {y : Nat} (h3 : y ≠ 3) (h : ∀ j, j < 6 → y ≠ 24 + 11 * n + j) : m_as r n a b c d e f y = r y := by
  unfold m_as
  rw [upd_n _ _ _ h3, upd_n _ _ _ (h 5 (by omega)), upd_n _ _ _ (h 4 (by omega)), upd_n _ _ _ (h 3 (by omega)), upd_n _ _ _ (h 2 (by omega)), upd_n _ _ _ (h 1 (by omega)), upd_n _ _ _ (h 0 (by omega))]
theorem as_v (r : aR) (n : Nat) (a b c d e f : Int32) : m_as r n a b c d e f (24 + 11 * n + 0) = a ∧ m_as r n a b c d e f (24 + 11 * n + 1) = b ∧ m_as r n a b c d e f (24 + 11 * n + 2) = c ∧ m_as r n a b c d e f (24 + 11 * n + 3) = d ∧ m_as r n a b c d e f (24 + 11 * n + 4) = e ∧ m_as r n a b c d e f (24 + 11 * n + 5) = f ∧ m_as r n a b c d e f 3 = nI (n + 1) := by
  unfold m_as
  refine ⟨?_, ?_, ?_, ?_, ?_, ?_, upd_s _ _ _⟩
  · rw [upd_n _ _ _ (by omega), upd_n _ _ _ (by omega), upd_n _ _ _ (by omega), upd_n _ _ _ (by omega), upd_n _ _ _ (by omega), upd_n _ _ _ (by omega), upd_s]
  · rw [upd_n _ _ _ (by omega), upd_n _ _ _ (by omega), upd_n _ _ _ (by omega), upd_n _ _ _ (by omega), upd_n _ _ _ (by omega), upd_s]
  · rw [upd_n _ _ _ (by omega), upd_n _ _ _ (by omega), upd_n _ _ _ (by omega), upd_n _ _ _ (by omega), upd_s]
  · rw [upd_n _ _ _ (by omega), upd_n _ _ _ (by omega), upd_n _ _ _ (by omega), upd_s]
  · rw [upd_n _ _ _ (by omega), upd_n _ _ _ (by omega), upd_s]
  · rw [upd_n _ _ _ (by omega), upd_s]
theorem as_S {r : aR} {n : Nat} (hn : n < 4) (a b c d e f : Int32) : nS (m_as r n a b c d e f) = n + 1 := by
  unfold nS
  rw [(as_v r n a b c d e f).2.2.2.2.2.2, nI_clamp (by omega)]
theorem Okt.ast {T : Nat} {r : aR} (h : Okt T r) (hn : nS r < 4) {a b c d e f : Int32} (hg : gSt a b c d e f) : Okt T (m_as r (nS r) a b c d e f) := by
  obtain ⟨g0, g1, g2, g3, g4, g5⟩ := hg
  obtain ⟨x0, -, y0, z0⟩ := z_nI (a := 0) (b := 359) g0 (by decide) (by decide)
  obtain ⟨x1, -, y1, z1⟩ := z_nI (a := 0) (b := 90) g1 (by decide) (by decide)
  obtain ⟨x2, u2, y2, z2⟩ := z_nI (a := 1) (b := 30) g2 (by decide) (by decide)
  obtain ⟨x3, -, y3, z3⟩ := z_nI (a := 0) (b := 59) g3 (by decide) (by decide)
  obtain ⟨x4, u4, y4, z4⟩ := z_nI (a := 1) (b := 20) g4 (by decide) (by decide)
  obtain ⟨x5, -, y5, z5⟩ := z_nI (a := 0) (b := 99) g5 (by decide) (by decide)
  obtain ⟨⟨a1, a2, a3, a4, a6, a7, a8, a10⟩, ho, hz⟩ := h
  have v := as_v r (nS r) a b c d e f
  have e9 : ∀ y, y ≠ 3 → (∀ j, j < 6 → y ≠ 24 + 11 * nS r + j) → m_as r (nS r) a b c d e f y = r y := fun y h1 h2 => as_n h1 h2
  have eS : nS (m_as r (nS r) a b c d e f) = nS r + 1 := as_S hn a b c d e f
  have eR := nR_c (e9 4 (by omega) (fun j _ => by omega))
  have eC := nC_c (e9 12 (by omega) (fun j _ => by omega))
  refine ⟨⟨⟨⟨by rw [eS]; exact v.2.2.2.2.2.2, by omega⟩, by rw [e9 0 (by omega) (fun j _ => by omega)]; exact a1.2.1, by rw [e9 1 (by omega) (fun j _ => by omega)]; exact a1.2.2.1, by rw [e9 2 (by omega) (fun j _ => by omega)]; exact a1.2.2.2.1, fun s hs => ?_⟩, ⟨by rw [e9 4 (by omega) (fun j _ => by omega), eR]; exact a2.1, by rw [eR]; exact a2.2⟩, by rw [e9 5 (by omega) (fun j _ => by omega)]; exact a3, by rw [e9 12 (by omega) (fun j _ => by omega), eC]; exact a4, ?_, Rp_c a7 (fun x _ _ => e9 x (by omega) (fun j _ => by omega)), ⟨fun x h1 h2 => ?_, fun x h1 h2 => ?_⟩, fun s j h1 h2 h3 => ?_⟩, ?_, ?_⟩
  · rw [eS] at hs
    by_cases hsn : s = nS r
    · subst hsn
      exact ⟨⟨x0, y0, v.1.trans z0⟩, ⟨x1, y1, v.2.1.trans z1⟩, ⟨x2, u2, y2, v.2.2.1.trans z2⟩, ⟨x3, y3, v.2.2.2.1.trans z3⟩, ⟨x4, u4, y4, v.2.2.2.2.1.trans z4⟩, ⟨x5, y5, v.2.2.2.2.2.1.trans z5⟩⟩
    · unfold rSt
      rw [e9 _ (by omega) (fun j _ => by omega), e9 _ (by omega) (fun j _ => by omega), e9 _ (by omega) (fun j _ => by omega), e9 _ (by omega) (fun j _ => by omega), e9 _ (by omega) (fun j _ => by omega), e9 _ (by omega) (fun j _ => by omega)]
      exact a1.2.2.2.2 s (by omega)
  · unfold Rf; rw [e9 13 (by omega) (fun j _ => by omega), eC, e9 _ (by omega) (fun j _ => by omega)]; exact a6
  · rw [eC] at h1 h2; rw [eS, e9 _ (by omega) (fun j _ => by omega)]
    obtain ⟨p, p1, p2⟩ := a8.1 x h1 h2
    exact ⟨p, by omega, p2⟩
  · rw [eC] at h1 h2; rw [eC, e9 _ (by omega) (fun j _ => by omega), e9 _ (by omega) (fun j _ => by omega)]; exact a8.2 x h1 h2
  · rw [eS] at h1; rw [e9 _ (by omega) (fun j _ => by omega)]; exact a10 s j (by omega) h2 h3
  · rw [eR]; exact fun q hq => oR_c (ho q hq) (e9 _ (by omega) (fun j _ => by omega)) (e9 _ (by omega) (fun j _ => by omega)) (e9 _ (by omega) (fun j _ => by omega)) (e9 _ (by omega) (fun j _ => by omega))
  · rw [eR, eC]
    exact hz.cg (fun q f _ _ => e9 _ (by omega) (fun j _ => by omega)) (fun _ j _ _ _ => e9 _ (by omega) (fun j _ => by omega)) (fun q j _ _ => e9 _ (by omega) (fun j _ => by omega)) a2.2 (e9 _ (by omega) (fun j _ => by omega)) (e9 _ (by omega) (fun j _ => by omega)) (e9 _ (by omega) (fun j _ => by omega)) (e9 _ (by omega) (fun j _ => by omega))
/-! a record is added -/
theorem ar_n {r : aR} {z p : Int32} {y : Nat} (h4 : y ≠ 4) (h : ∀ j, j < 8 → y ≠ 68 + 8 * nR r + j) (h2 : ∀ x, x < 24 → y ≠ 388 + 24 * nR r + x) : m_ar r z p y = r y := by
  unfold m_ar
  rw [upd_n _ _ _ h4]
  have L : ∀ (d j : Nat) (g : aR), j + d = 24 → m_fill (nR r) d j g y = g y := by
    intro d
    induction d with
    | zero => intro j g _; rfl
    | succ d ih =>
      intro j g hj
      show m_fill (nR r) d (j + 1) (upd g (388 + 24 * nR r + j) (-1)) y = g y
      rw [ih (j + 1) _ (by omega), upd_n _ _ _ (h2 j (by omega))]
  rw [L 24 0 _ rfl]
  unfold m_r8
  rw [upd_n _ _ _ (h 7 (by omega)), upd_n _ _ _ (h 6 (by omega)), upd_n _ _ _ (h 5 (by omega)), upd_n _ _ _ (h 4 (by omega)), upd_n _ _ _ (h 3 (by omega)), upd_n _ _ _ (h 2 (by omega)), upd_n _ _ _ (h 1 (by omega)), upd_n _ _ _ (h 0 (by omega))]
theorem fill_o {q y : Nat} : ∀ (d j : Nat) (g : aR), (∀ x, j ≤ x → x < j + d → y ≠ 388 + 24 * q + x) → m_fill q d j g y = g y
  | 0, _, _, _ => rfl
  | d + 1, j, g, h => by
    show m_fill q d (j + 1) (upd g (388 + 24 * q + j) (-1)) y = g y
    rw [fill_o d (j + 1) _ (fun x h1 h2 => h x (by omega) (by omega)), upd_n _ _ _ (h j (by omega) (by omega))]
theorem fill_v {q x : Nat} : ∀ (d j : Nat) (g : aR), j ≤ x → x < j + d → m_fill q d j g (388 + 24 * q + x) = -1
  | 0, _, _, h1, h2 => absurd h2 (by omega)
  | d + 1, j, g, h1, h2 => by
    show m_fill q d (j + 1) (upd g (388 + 24 * q + j) (-1)) _ = -1
    by_cases hx : x = j
    · subst hx
      rw [fill_o d (x + 1) _ (fun y h3 h4 => by omega), upd_s]
    · exact fill_v d (j + 1) _ (by omega) (by omega)
theorem ar_f {r : aR} {z p : Int32} (hn : nR r < 40) {x : Nat} (hx : x < 24) : m_ar r z p (388 + 24 * nR r + x) = -1 := by
  unfold m_ar
  rw [upd_n _ _ _ (by omega), fill_v 24 0 _ (by omega) (by omega)]
theorem ar_8 {r : aR} {z p : Int32} (hn : nR r < 40) {j : Nat} (hj : j < 8) : m_ar r z p (68 + 8 * nR r + j) = m_r8 r (nR r) z p (r 5) (68 + 8 * nR r + j) := by
  unfold m_ar
  rw [upd_n _ _ _ (by omega), fill_o 24 0 _ (fun x _ _ => by omega)]
theorem r8_v (r : aR) (n : Nat) (z p t : Int32) : m_r8 r n z p t (68 + 8 * n + 0) = z ∧ m_r8 r n z p t (68 + 8 * n + 1) = p ∧ m_r8 r n z p t (68 + 8 * n + 2) = t ∧ m_r8 r n z p t (68 + 8 * n + 3) = m_fl z ∧ m_r8 r n z p t (68 + 8 * n + 4) = 0 ∧ m_r8 r n z p t (68 + 8 * n + 5) = 0 ∧ m_r8 r n z p t (68 + 8 * n + 6) = -1 ∧ m_r8 r n z p t (68 + 8 * n + 7) = -1 := by
  unfold m_r8
  refine ⟨?_, ?_, ?_, ?_, ?_, ?_, ?_, upd_s _ _ _⟩
  · rw [upd_n _ _ _ (by omega), upd_n _ _ _ (by omega), upd_n _ _ _ (by omega), upd_n _ _ _ (by omega), upd_n _ _ _ (by omega), upd_n _ _ _ (by omega), upd_n _ _ _ (by omega), upd_s]
  · rw [upd_n _ _ _ (by omega), upd_n _ _ _ (by omega), upd_n _ _ _ (by omega), upd_n _ _ _ (by omega), upd_n _ _ _ (by omega), upd_n _ _ _ (by omega), upd_s]
  · rw [upd_n _ _ _ (by omega), upd_n _ _ _ (by omega), upd_n _ _ _ (by omega), upd_n _ _ _ (by omega), upd_n _ _ _ (by omega), upd_s]
  · rw [upd_n _ _ _ (by omega), upd_n _ _ _ (by omega), upd_n _ _ _ (by omega), upd_n _ _ _ (by omega), upd_s]
  · rw [upd_n _ _ _ (by omega), upd_n _ _ _ (by omega), upd_n _ _ _ (by omega), upd_s]
  · rw [upd_n _ _ _ (by omega), upd_n _ _ _ (by omega), upd_s]
  · rw [upd_n _ _ _ (by omega), upd_s]
theorem ar_v {r : aR} (hn : nR r < 40) (z p : Int32) : m_ar r z p (68 + 8 * nR r + 0) = z ∧ m_ar r z p (68 + 8 * nR r + 1) = p ∧ m_ar r z p (68 + 8 * nR r + 2) = r 5 ∧ m_ar r z p (68 + 8 * nR r + 3) = m_fl z ∧ m_ar r z p (68 + 8 * nR r + 4) = 0 ∧ m_ar r z p (68 + 8 * nR r + 5) = 0 ∧ m_ar r z p (68 + 8 * nR r + 6) = -1 ∧ m_ar r z p (68 + 8 * nR r + 7) = -1 := by
  rw [ar_8 hn (by decide), ar_8 hn (by decide), ar_8 hn (by decide), ar_8 hn (by decide), ar_8 hn (by decide), ar_8 hn (by decide), ar_8 hn (by decide), ar_8 hn (by decide)]
  exact r8_v r (nR r) z p (r 5)
theorem ar_R {r : aR} (hn : nR r < 40) (z p : Int32) : m_ar r z p 4 = nI (nR r + 1) ∧ nR (m_ar r z p) = nR r + 1 := by
  have h : m_ar r z p 4 = nI (nR r + 1) := by unfold m_ar; rw [upd_s]
  refine ⟨h, ?_⟩
  show (m_ar r z p 4).toNatClampNeg = _
  rw [h, nI_clamp (by omega)]
theorem Okt.arc {T : Nat} {r : aR} (h : Okt T r) (hT : T < 2 ^ 20) (hn : nR r < 40) {z p : Int32} (hz : 1 ≤ z ∧ z ≤ 24) (hp : 0 ≤ p ∧ p ≤ 9) : Okt T (m_ar r z p) := by
  obtain ⟨x0, u0, y0, z0⟩ := z_nI (a := 1) (b := 24) hz (by decide) (by decide)
  obtain ⟨x1, -, y1, z1⟩ := z_nI (a := 0) (b := 9) hp (by decide) (by decide)
  obtain ⟨⟨a1, a2, a3, a4, a6, a7, a8, a10⟩, ho, w1, w2, w3, w4, ⟨S, A, s1, s2, s3, s4, s5⟩, w6⟩ := h
  have v := ar_v hn z p
  have e9 : ∀ y, y ≠ 4 → (∀ j, j < 8 → y ≠ 68 + 8 * nR r + j) → (∀ x, x < 24 → y ≠ 388 + 24 * nR r + x) → m_ar r z p y = r y := fun y h1 h2 h3 => ar_n h1 h2 h3
  have eL : ∀ y, y ≠ 4 → y < 68 → m_ar r z p y = r y := fun y h1 h2 => e9 y h1 (fun _ _ => by omega) (fun _ _ => by omega)
  have eH : ∀ y, 1348 ≤ y → m_ar r z p y = r y := fun y h2 => e9 y (by omega) (fun _ _ => by omega) (fun _ _ => by omega)
  have eQ : ∀ q j, q < nR r → j < 8 → m_ar r z p (68 + 8 * q + j) = r (68 + 8 * q + j) := fun q j h1 h2 => e9 _ (by omega) (fun _ _ => by omega) (fun _ _ => by omega)
  have eF : ∀ q j, q < nR r → j < 24 → m_ar r z p (388 + 24 * q + j) = r (388 + 24 * q + j) := fun q j h1 h2 => e9 _ (by omega) (fun _ _ => by omega) (fun _ _ => by omega)
  have eR := (ar_R hn z p).2
  have eS := nS_c (eL 3 (by omega) (by omega))
  have eC := nC_c (eL 12 (by omega) (by omega))
  have efl : ∀ q, q < nR r → m_full (m_ar r z p) q = m_full r q := fun q hq => by unfold m_full; rw [eQ q 0 hq (by omega)]
  have hfl : ¬ (0 : Int32) = m_fl z := fun hx => by
    have h1 := b_fl x0 (by omega) 0 (by omega)
    have h2 : bt (m_fl z) 0 = decide (0 < x0) := by unfold m_fl; rw [z0]; exact h1
    rw [← hx, b_0, decide_eq_true (by omega)] at h2
    cases h2
  refine ⟨⟨Rs_c a1 (fun x hx => eL x (by omega) (by omega)) (fun s j _ _ => eL _ (by omega) (by omega)), ⟨by rw [eR]; exact (ar_R hn z p).1, by omega⟩, by rw [eL 5 (by omega) (by omega)]; exact a3, by rw [eL 12 (by omega) (by omega), eC]; exact a4, ?_, Rp_c a7 (fun x _ _ => eL x (by omega) (by omega)), ⟨fun x h1 h2 => ?_, fun x h1 h2 => ?_⟩, fun s j h1 h2 h3 => ?_⟩, ?_, ?_⟩
  · unfold Rf; rw [eL 13 (by omega) (by omega), eC, eH _ (by omega)]; exact a6
  · rw [eC] at h1 h2; rw [eS, eH _ (by omega)]; exact a8.1 x h1 h2
  · rw [eC] at h1 h2; rw [eC, eH _ (by omega), eH _ (by omega)]; exact a8.2 x h1 h2
  · rw [eS] at h1; rw [eL _ (by omega) (by omega)]; exact a10 s j h1 h2 h3
  · rw [eR]
    intro q hq
    by_cases hqn : q = nR r
    · subst hqn
      refine ⟨⟨x0, y0, v.1.trans z0, fun x hx hb => ?_⟩, fun x hx hb => ?_, ⟨x1, y1, v.2.1.trans z1⟩⟩
      · rw [v.2.2.2.1] at hb
        unfold m_fl at hb
        rw [z0, b_fl x0 (by omega) x hx] at hb
        exact of_decide_eq_true hb
      · rw [v.2.2.2.2.1, b_0]
    · exact oR_c (ho q (by omega)) (eQ q 0 (by omega) (by omega)) (eQ q 1 (by omega) (by omega)) (eQ q 3 (by omega) (by omega)) (eQ q 4 (by omega) (by omega))
  · rw [eR, eC]
    refine ⟨fun e h1 h2 q f hq hf hx => ?_, fun q f hq hf => ?_, fun e h1 h2 q hq1 hq2 => ?_, fun q hq => ?_, ⟨S, A, s1, s2, by rw [eL 16 (by omega) (by omega)]; exact s3, by rw [eL 19 (by omega) (by omega)]; exact s4, ?_⟩, by rw [eL 14 (by omega) (by omega)]; exact w6⟩
    · by_cases hqn : q = nR r
      · subst hqn
        rw [ar_f hn hf] at hx
        exact absurd hx.symm (nI_n1 (by have := a4.2; omega))
      · rw [eF q f (by omega) hf] at hx
        rw [eH _ (by omega)]
        exact w1 e h1 h2 q f (by omega) hf hx
    · by_cases hqn : q = nR r
      · subst hqn; exact Or.inl (ar_f hn hf)
      · rw [eF q f (by omega) hf]; exact w2 q f (by omega) hf
    · rw [eH _ (by omega), eH _ (by omega)]; exact w3 e h1 h2 q (by omega) hq2
    · by_cases hqn : q = nR r
      · subst hqn
        refine ⟨⟨fun _ => ?_, fun _ => v.2.2.2.2.2.2.1⟩, T, Nat.le_refl _, v.2.2.1.trans a3, Or.inl v.2.2.2.2.2.2.1⟩
        rw [v.2.2.2.2.2.1]
        unfold m_full
        rw [v.1]; exact hfl
      · rw [efl q (by omega), eQ q 6 (by omega) (by omega), eQ q 5 (by omega) (by omega), eQ q 2 (by omega) (by omega)]; exact w4 q (by omega)
    · rw [eL 20 (by omega) (by omega), s5]
      show nI (cD r (nR r)) = nI (fb_ct _ (nR r + 1))
      rw [fb_ct_succ, decide_eq_false (fun h => h v.2.2.2.2.2.2.1), if_neg (by decide), Nat.add_zero]
      exact congrArg nI (cD_c (fun q hq => eQ q 6 hq (by omega))).symm
