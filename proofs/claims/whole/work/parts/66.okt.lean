/-! ===== rows: the invariant, and a minute keeps it ===== -/
def Zv (n N T b : Nat) (r : aR) : Prop := (∀ e, e < N → N ≤ e + 60 → ∀ q f, q < n → f < 24 → r (388 + 24 * q + f) = nI e → bt (r (1348 + 84 * (e % 60) + 4 + q)) f = true) ∧ (∀ q f, q < n → f < 24 → r (388 + 24 * q + f) = -1 ∨ ∃ e, e < N ∧ r (388 + 24 * q + f) = nI e) ∧ (∀ e, e < N → N ≤ e + 60 → ∀ q, n ≤ q → q < 40 → r (1348 + 84 * (e % 60) + 4 + q) = 0 ∧ r (1348 + 84 * (e % 60) + 44 + q) = 0) ∧ (∀ q, q < n → (r (68 + 8 * q + 6) = -1 ↔ ¬ r (68 + 8 * q + 5) = m_full r q) ∧ ∃ a, a ≤ T ∧ r (68 + 8 * q + 2) = nI a ∧ (r (68 + 8 * q + 6) = -1 ∨ ∃ d, a ≤ d ∧ d ≤ T ∧ r (68 + 8 * q + 6) = nI d)) ∧ (∃ S A, S ≤ b ∧ A ≤ S ∧ r 16 = nI S ∧ r 19 = nI A ∧ r 20 = nI (cD r n)) ∧ 0 ≤ r 14
theorem Zv.wv {n c T b : Nat} {r : aR} (h : Zv n (c + 1) T b r) : Wv n c T b r :=
  ⟨fun e a d => h.1 e (by omega) d, h.2.1, fun e a d => h.2.2.1 e (by omega) d, h.2.2.2⟩
theorem Wv.zv {n c T b : Nat} {r : aR} (h : Wv n c T b r) : Zv n (c + 1) T b r :=
  ⟨fun e a d => h.1 e (by omega) d, h.2.1, fun e a d => h.2.2.1 e (by omega) d, h.2.2.2⟩
theorem Zv.mono {n N T b T' b' : Nat} {r : aR} (h : Zv n N T b r) (h1 : T ≤ T') (h2 : b ≤ b') : Zv n N T' b' r := by
  obtain ⟨w1, w2, w3, w4, ⟨S, A, s1, s2, s3⟩, w6⟩ := h
  refine ⟨w1, w2, w3, fun q hq => ?_, ⟨S, A, by omega, s2, s3⟩, w6⟩
  obtain ⟨a, d, d1, d2, d3⟩ := w4 q hq
  exact ⟨a, d, by omega, d2, d3.imp_right (fun ⟨u, u1, u2, u3⟩ => ⟨u, u1, by omega, u3⟩)⟩
theorem Zv.cg {n N T b : Nat} {r r' : aR} (h : Zv n N T b r) (e1 : ∀ q f, q < n → f < 24 → r' (388 + 24 * q + f) = r (388 + 24 * q + f)) (e2 : ∀ e j, e < 60 → 4 ≤ j → j < 84 → r' (1348 + 84 * e + j) = r (1348 + 84 * e + j)) (e3 : ∀ q j, q < n → (j = 0 ∨ j = 2 ∨ j = 5 ∨ j = 6) → r' (68 + 8 * q + j) = r (68 + 8 * q + j)) (hn : n ≤ 40) (e4 : r' 14 = r 14) (e5 : r' 16 = r 16) (e6 : r' 19 = r 19) (e7 : r' 20 = r 20) : Zv n N T b r' := by
  obtain ⟨w1, w2, w3, w4, ⟨S, A, s1, s2, s3, s4, s5⟩, w6⟩ := h
  refine ⟨fun e a d q f hq hf hx => ?_, fun q f hq hf => ?_, fun e a d q hq1 hq2 => ?_, fun q hq => ?_, ⟨S, A, s1, s2, by rw [e5]; exact s3, by rw [e6]; exact s4, ?_⟩, by rw [e4]; exact w6⟩
  · rw [e1 q f hq hf] at hx
    rw [Nat.add_assoc, e2 _ _ (Nat.mod_lt _ (by decide)) (by omega) (by omega), ← Nat.add_assoc]
    exact w1 e a d q f hq hf hx
  · rw [e1 q f hq hf]; exact w2 q f hq hf
  · rw [Nat.add_assoc (1348 + 84 * (e % 60)) 4, Nat.add_assoc (1348 + 84 * (e % 60)) 44, e2 _ _ (Nat.mod_lt _ (by decide)) (by omega) (by omega), e2 _ _ (Nat.mod_lt _ (by decide)) (by omega) (by omega), ← Nat.add_assoc, ← Nat.add_assoc]
    exact w3 e a d q hq1 hq2
  · have ef : m_full r' q = m_full r q := by unfold m_full; rw [e3 q 0 hq (by omega)]
    rw [ef, e3 q 6 hq (by omega), e3 q 5 hq (by omega), e3 q 2 hq (by omega)]; exact w4 q hq
  · rw [e7, cD_c (fun q hq => e3 q 6 hq (by omega))]; exact s5
/-- the rules' ranges -/
def Rp (r : aR) : Prop := (∃ b, b ≤ 999 ∧ r 6 = nI b) ∧ (∃ b, b ≤ 9 ∧ r 7 = nI b) ∧ (∃ b, 24 ≤ b ∧ b ≤ 960 ∧ r 8 = nI b) ∧ (∃ b, b ≤ 1 ∧ r 9 = nI b) ∧ (∃ b, b ≤ 999 ∧ r 10 = nI b) ∧ ∃ b, 1 ≤ b ∧ b ≤ 9999 ∧ r 11 = nI b
/-- kept contacts -/
def oD (r : aR) : Prop := (∀ e, e < nC r → nC r ≤ e + 60 → ∃ p, p < nS r ∧ r (1348 + 84 * (e % 60) + 0) = nI p) ∧ ∀ e, e < nC r → nC r ≤ e + 60 → (r (1348 + 84 * (e % 60) + 3) = 0 ∨ r (1348 + 84 * (e % 60) + 3) = 1 ∨ r (1348 + 84 * (e % 60) + 3) = 2) ∧ (e + 1 < nC r → ¬ r (1348 + 84 * (e % 60) + 2) = -1)
def Oks (T C : Nat) (r : aR) : Prop := Rs r ∧ Rq r ∧ r 5 = nI T ∧ (r 12 = nI (nC r) ∧ nC r ≤ C) ∧ Rf r ∧ Rp r ∧ oD r ∧ ∀ s j, nS r ≤ s → s < 4 → j < 5 → r (24 + 11 * s + 6 + j) = 0
/-- minute T, C contacts and b frames at most -/
def Okx (T C b : Nat) (r : aR) : Prop := Oks T C r ∧ oRR (nR r) r ∧ Zv (nR r) (nC r) T b r
/-- the rows that a simulation reaches, at minute T -/
def Okt (T : Nat) (r : aR) : Prop := Okx T T (20 * T) r
theorem Okt.mv {T : Nat} {r : aR} (h : Okt T r) (hT : T < 99998) : Mv r := by
  obtain ⟨⟨h1, h2, h3, ⟨h4, h5⟩, h6, h7, ⟨h8, h9⟩, -⟩, ho, z1, z2, -⟩ := h
  refine ⟨h1, h2, ⟨⟨h4, by omega⟩, by omega⟩, h6, ⟨T, by omega, h3⟩, h7.2.1, ho, h8, h9, z1, fun q f hq hf hx => ?_⟩
  rcases z2 q f hq hf with y | ⟨e, y1, y2⟩
  · rw [hx] at y; exact nI_n1 (by omega) y
  · rw [hx] at y2
    have := (nI_eq (by omega) (by omega)).mp y2
    omega
theorem Rs_c {r r' : aR} (h : Rs r) (e0 : ∀ x, x < 4 → r' x = r x) (e1 : ∀ s j, s < 4 → j < 6 → r' (24 + 11 * s + j) = r (24 + 11 * s + j)) : Rs r' := by
  obtain ⟨⟨h1, h2⟩, h3, h4, h5, h6⟩ := h
  have eS := nS_c (e0 3 (by omega))
  refine ⟨⟨by rw [e0 3 (by omega), eS]; exact h1, by omega⟩, by rw [e0 0 (by omega)]; exact h3, by rw [e0 1 (by omega)]; exact h4, by rw [e0 2 (by omega)]; exact h5, fun s hs => ?_⟩
  have hs4 : s < 4 := by omega
  unfold rSt
  rw [e1 s 0 hs4 (by omega), e1 s 1 hs4 (by omega), e1 s 2 hs4 (by omega), e1 s 3 hs4 (by omega), e1 s 4 hs4 (by omega), e1 s 5 hs4 (by omega)]
  exact h6 s (by omega)
theorem Rp_c {r r' : aR} (h : Rp r) (e0 : ∀ x, 6 ≤ x → x < 12 → r' x = r x) : Rp r' := by
  unfold Rp
  rw [e0 6 (by omega) (by omega), e0 7 (by omega) (by omega), e0 8 (by omega) (by omega), e0 9 (by omega) (by omega), e0 10 (by omega) (by omega), e0 11 (by omega) (by omega)]
  exact h
theorem Oks_c {T C : Nat} {r r' : aR} (h : Oks T C r) (e0 : ∀ x, x < 14 → r' x = r x) (e1 : ∀ s j, s < 4 → j < 6 → r' (24 + 11 * s + j) = r (24 + 11 * s + j)) (e2 : ∀ s j, nS r ≤ s → s < 4 → j < 5 → r' (24 + 11 * s + 6 + j) = r (24 + 11 * s + 6 + j)) (e3 : ∀ e j, e < 60 → j < 4 → r' (1348 + 84 * e + j) = r (1348 + 84 * e + j)) : Oks T C r' := by
  obtain ⟨h1, h2, h3, h4, h6, h7, ⟨h8, h9⟩, h10⟩ := h
  have eS := nS_c (e0 3 (by omega))
  have eR := nR_c (e0 4 (by omega))
  have eC := nC_c (e0 12 (by omega))
  have hm : ∀ e, e % 60 < 60 := fun e => Nat.mod_lt _ (by decide)
  refine ⟨Rs_c h1 (fun x hx => e0 x (by omega)) e1, ⟨by rw [e0 4 (by omega), eR]; exact h2.1, by rw [eR]; exact h2.2⟩, by rw [e0 5 (by omega)]; exact h3, by rw [e0 12 (by omega), eC]; exact h4, ?_, Rp_c h7 (fun x _ hx => e0 x (by omega)), ⟨fun e a b => ?_, fun e a b => ?_⟩, fun s j a b d => ?_⟩
  · unfold Rf; rw [e0 13 (by omega), eC, e3 _ 2 (hm _) (by omega)]; exact h6
  · rw [eC] at a b; rw [eS, e3 _ 0 (hm _) (by omega)]; exact h8 e a b
  · rw [eC] at a b; rw [eC, e3 _ 3 (hm _) (by omega), e3 _ 2 (hm _) (by omega)]; exact h9 e a b
  · rw [eS] at a; rw [e2 s j a b d]; exact h10 s j a b d
theorem Okx.mono {T C b C' b' : Nat} {r : aR} (h : Okx T C b r) (h1 : C ≤ C') (h2 : b ≤ b') : Okx T C' b' r := by
  obtain ⟨⟨a1, a2, a3, ⟨a4, a5⟩, a6⟩, k, z⟩ := h
  exact ⟨⟨a1, a2, a3, ⟨a4, by omega⟩, a6⟩, k, z.mono (Nat.le_refl _) h2⟩
theorem Okx.tt {T C b : Nat} {r : aR} (h : Okx T C b r) : Okx (T + 1) C b (m_tt r) := by
  have e : ∀ x, x ≠ 5 → m_tt r x = r x := fun x hx => upd_n _ _ _ hx
  obtain ⟨⟨h1, h2, h3, h4, h6, h7, h8, h10⟩, ho, hz⟩ := h
  have eS := nS_c (e 3 (by omega))
  have eR := nR_c (e 4 (by omega))
  have eC := nC_c (e 12 (by omega))
  refine ⟨⟨Rs_c h1 (fun x hx => e x (by omega)) (fun s j a b => e _ (by omega)), ⟨by rw [e 4 (by omega), eR]; exact h2.1, by rw [eR]; exact h2.2⟩, ?_, by rw [e 12 (by omega), eC]; exact h4, ?_, Rp_c h7 (fun x a b => e x (by omega)), ⟨fun x a b => ?_, fun x a b => ?_⟩, fun s j a b d => ?_⟩, ?_, ?_⟩
  · show upd r 5 (r 5 + 1) 5 = _
    rw [upd_s, h3, nI_1]
  · unfold Rf; rw [e 13 (by omega), eC, e _ (by omega)]; exact h6
  · rw [eC] at a b; rw [eS, e _ (by omega)]; exact h8.1 x a b
  · rw [eC] at a b; rw [eC, e _ (by omega), e _ (by omega)]; exact h8.2 x a b
  · rw [eS] at a; rw [e _ (by omega)]; exact h10 s j a b d
  · rw [eR]; exact fun q hq => oR_c (ho q hq) (e _ (by omega)) (e _ (by omega)) (e _ (by omega)) (e _ (by omega))
  · rw [eR, eC]
    exact (hz.mono (Nat.le_succ T) (Nat.le_refl _)).cg (fun q f _ _ => e _ (by omega)) (fun _ j _ _ _ => e _ (by omega)) (fun q j _ _ => e _ (by omega)) h2.2 (e _ (by omega)) (e _ (by omega)) (e _ (by omega)) (e _ (by omega))
theorem Okx.tk {T C b : Nat} {r : aR} (h : Okx T C b r) (a8 : Int32) {s : Nat} (hs : s < nS r) (hc : 1 ≤ nC r) (hT : T < 2 ^ 20) (hC : C ≤ 2 ^ 20) (hb : b < 2 ^ 29) : Okx T C (b + 20) (m_tk a8 s (nC r - 1) (nI T) r) := by
  obtain ⟨hk, ho, hz⟩ := h
  obtain ⟨h1, h2, h3, ⟨h4, h5⟩, h6, h7, h8, h10⟩ := id hk
  obtain ⟨-, -, -, -, ⟨v, -, hv2, hv3⟩, -⟩ := h1.2.2.2.2 s hs
  have hS4 := h1.1.2
  have e1 : nC r - 1 + 1 = nC r := by omega
  have hT2 : Tv (nR r) s (nC r - 1) v (nI T) r := ⟨⟨h2.1, by rw [e1]; exact h4, hv3, fun q hq => (ho q hq).lw⟩, h3, hs, hS4, h7.2.1, ho⟩
  obtain ⟨k1, k2, k3⟩ := tk_keep a8 h2.2 hT (by omega) hv2 hb hT2 (Zv.wv (by rw [e1]; exact hz))
  have q0 : ∀ x, x < 14 → qu s x := fun x hx => Or.inl hx
  have k1 := k1.zv
  rw [e1] at k1
  generalize m_tk a8 s (nC r - 1) (nI T) r = r' at k1 k2 k3
  have eR := nR_c (k3 4 (q0 4 (by omega)))
  have eC := nC_c (k3 12 (q0 12 (by omega)))
  refine ⟨Oks_c hk (fun x hx => k3 x (q0 x hx)) (fun p j a d => k3 _ ?_) (fun p j a d g => k3 _ ?_) (fun e j a d => k3 _ ?_), by rw [eR]; exact k2, by rw [eR, eC]; exact k1⟩
  · exact Or.inr (Or.inr (Or.inr (Or.inl ⟨by omega, by omega, by omega, by omega, by omega⟩)))
  · exact Or.inr (Or.inr (Or.inr (Or.inl ⟨by omega, by omega, by omega, by omega, by omega⟩)))
  · exact Or.inr (Or.inr (Or.inr (Or.inr (Or.inr (Or.inl ⟨e, j, rfl, d⟩)))))
theorem Okx.en {T C b : Nat} {r : aR} (h : Okx T C b r) (hc : 1 ≤ nC r) (hT : T < 2 ^ 20) (x : Int32) : Okx T C b (m_en (nC r - 1) (nI T) x r) ∧ nC (m_en (nC r - 1) (nI T) x r) = nC r ∧ nS (m_en (nC r - 1) (nI T) x r) = nS r ∧ nR (m_en (nC r - 1) (nI T) x r) = nR r ∧ ¬ m_en (nC r - 1) (nI T) x r (1348 + 84 * ((nC r - 1) % 60) + 2) = -1 := by
  have hm : ∀ e, e % 60 < 60 := fun e => Nat.mod_lt _ (by decide)
  have e : ∀ y, y ≠ 1348 + 84 * ((nC r - 1) % 60) + 2 → y ≠ 13 → y ≠ 15 → m_en (nC r - 1) (nI T) x r y = r y := fun y a b c => by unfold m_en; rw [upd_n _ _ _ c, upd_n _ _ _ b, upd_n _ _ _ a]
  have e2 : m_en (nC r - 1) (nI T) x r (1348 + 84 * ((nC r - 1) % 60) + 2) = nI T := by unfold m_en; rw [upd_n _ _ _ (by omega), upd_n _ _ _ (by omega), upd_s]
  have e13 : m_en (nC r - 1) (nI T) x r 13 = 0 := by unfold m_en; rw [upd_n _ _ _ (by omega), upd_s]
  generalize m_en (nC r - 1) (nI T) x r = r' at e e2 e13
  obtain ⟨⟨h1, h2, h3, h4, h6, h7, h8, h10⟩, ho, hz⟩ := h
  have eS := nS_c (e 3 (by omega) (by omega) (by omega))
  have eR := nR_c (e 4 (by omega) (by omega) (by omega))
  have eC := nC_c (e 12 (by omega) (by omega) (by omega))
  have hne : ¬ r' (1348 + 84 * ((nC r - 1) % 60) + 2) = -1 := by rw [e2]; exact nI_n1 (by omega)
  refine ⟨⟨⟨Rs_c h1 (fun x hx => e x (by omega) (by omega) (by omega)) (fun s j a b => e _ (by omega) (by omega) (by omega)), ⟨by rw [e 4 (by omega) (by omega) (by omega), eR]; exact h2.1, by rw [eR]; exact h2.2⟩, by rw [e 5 (by omega) (by omega) (by omega)]; exact h3, by rw [e 12 (by omega) (by omega) (by omega), eC]; exact h4, ?_, Rp_c h7 (fun x a b => e x (by omega) (by omega) (by omega)), ⟨fun y a b => ?_, fun y a b => ⟨?_, fun d => ?_⟩⟩, fun s j a b d => ?_⟩, ?_, ?_⟩, eC, eS, eR, hne⟩
  · unfold Rf; rw [eC, e13]; exact ⟨fun _ => Or.inr hne, fun _ => rfl⟩
  · rw [eC] at a b; have := hm y; rw [eS, e _ (by omega) (by omega) (by omega)]; exact h8.1 y a b
  · rw [eC] at a b; have := hm y; rw [e _ (by omega) (by omega) (by omega)]; exact (h8.2 y a b).1
  · rw [eC] at a b d; have := hm y; rw [e _ (by omega) (by omega) (by omega)]; exact (h8.2 y a b).2 d
  · rw [eS] at a; rw [e _ (by omega) (by omega) (by omega)]; exact h10 s j a b d
  · rw [eR]; exact fun q hq => have := h2.2; oR_c (ho q hq) (e _ (by omega) (by omega) (by omega)) (e _ (by omega) (by omega) (by omega)) (e _ (by omega) (by omega) (by omega)) (e _ (by omega) (by omega) (by omega))
  · have hn := h2.2
    rw [eR, eC]
    exact hz.cg (fun q f _ _ => e _ (by omega) (by omega) (by omega)) (fun _ j _ _ _ => e _ (by omega) (by omega) (by omega)) (fun q j _ _ => e _ (by omega) (by omega) (by omega)) hn (e _ (by omega) (by omega) (by omega)) (e _ (by omega) (by omega) (by omega)) (e _ (by omega) (by omega) (by omega)) (e _ (by omega) (by omega) (by omega))
