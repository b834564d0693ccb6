/-! ===== a station is added; a new simulation ===== -/
theorem C_77L (w : aW) (k : aQ) {i n D : Nat} (hn : n < 4) (hD : D < 2 ^ 31) (π ph : Nat → Nat) (hπ : ∀ a, a < n → π a < n) (hph : ∀ s, s < n → ph s < 2 ^ 31) : ∀ (c : Nat) (J : aI), c ≤ n → (∀ a, a < c → J 17 i a = nI (π a)) → (∀ a, c ≤ a → a < n → J 17 i (a + 1) = nI (π a)) → (∀ a, c ≤ a → a < n → D < ph (π a)) → (∀ s, s < n → J 18 (4 * i + s) 3 = nI (ph s)) → ∃ K t, rn 77 (2, [some (.inr (.inr (some (9, i)))), some (.inl (nI n)), some (.inl (nI D)), some (.inl (nI c))], [], MM J w k) = some (.inl none, MM K w k) ∧ t ≤ n ∧ (∀ a, a < t → K 17 i a = nI (π a)) ∧ K 17 i t = nI n ∧ (∀ a, t ≤ a → a < n → K 17 i (a + 1) = nI (π a)) ∧ (∀ a, t ≤ a → a < n → D < ph (π a)) ∧ (t = 0 ∨ ph (π (t - 1)) ≤ D) ∧ ∀ s q, ¬ (s = 17 ∧ q = i) → K s q = J s q := by
  intro c
  induction c with
  | zero =>
    intro J hc h1 h2 h3 h4
    refine ⟨a_setI J 17 i 0 (nI n), 0, (e77_2 J w k _ _ _ _).trans ?_, by omega, fun a ha => by omega, ?_, fun a g1 g2 => ?_, h3, Or.inl rfl, fun s q h => set_o h⟩
    · rw [zc_t (show nI 0 ≤ (0 : Int32) from by decide), z_in (by omega) (by decide), nI_clamp (by omega), cond_true]
    · rw [gI_u, upd_s]
    · rw [gI_u, upd_n _ _ _ (by omega)]; exact h2 a g1 g2
  | succ c ih =>
    intro J hc h1 h2 h3 h4
    have e1 : nI (c + 1) - 1 = nI c := z_sub (a := c + 1) (b := 1) (by omega)
    have e2 : nI (c + 1) + (-1) = nI c := by rw [← e1, Int32.sub_eq_add_neg]
    have hc1 := hπ c (by omega)
    by_cases hx : ph (π c) ≤ D
    · refine ⟨a_setI J 17 i (c + 1) (nI n), c + 1, (e77_2 J w k _ _ _ _).trans ?_, hc, fun a ha => ?_, ?_, fun a g1 g2 => ?_, h3, Or.inr hx, fun s q h => set_o h⟩
      · rw [zc_f (show ¬ nI (c + 1) ≤ (0 : Int32) from nI_ge (b := c + 1) (a := 0) (by omega) (by omega)), e1, z_in (by omega) (by decide), nI_clamp (by omega), cond_true, h1 c (by omega), z_in (by omega) (by decide), nI_clamp (by omega), cond_true, h4 _ hc1, zc_t (nI_le hx (by omega)), z_in (by omega) (by decide), nI_clamp (by omega), cond_true]
      · rw [gI_u, upd_n _ _ _ (by omega)]; exact h1 a ha
      · rw [gI_u, upd_s]
      · rw [gI_u, upd_n _ _ _ (by omega)]; exact h2 a g1 g2
    · obtain ⟨K, t, k1, k2, k3, k4, k5, k6, k7, k8⟩ := ih (a_setI J 17 i (c + 1) (nI (π c))) (by omega) (fun a ha => by rw [gI_u, upd_n _ _ _ (by omega)]; exact h1 a (by omega)) (fun a g1 g2 => by
        rw [gI_u]
        by_cases ha : a = c
        · subst ha; rw [upd_s]
        · rw [upd_n _ _ _ (by omega)]; exact h2 a (by omega) g2) (fun a g1 g2 => by
        by_cases ha : a = c
        · subst ha; omega
        · exact h3 a (by omega) g2) (fun s hs => by rw [set_o (by omega)]; exact h4 s hs)
      refine ⟨K, t, (e77_2 J w k _ _ _ _).trans ?_, k2, k3, k4, k5, k6, k7, fun s q h => (k8 s q h).trans (set_o h)⟩
      rw [zc_f (show ¬ nI (c + 1) ≤ (0 : Int32) from nI_ge (b := c + 1) (a := 0) (by omega) (by omega)), e1, z_in (by omega) (by decide), nI_clamp (by omega), cond_true, h1 c (by omega), z_in (by omega) (by decide), nI_clamp (by omega), cond_true, h4 _ hc1, zc_f (nI_ge (by omega) (hph _ hc1)), cond_true, z_in (by omega) (by decide), nI_clamp (by omega), cond_true, e2]
      exact k1
theorem C_76 (I : aI) (w : aW) (k : aQ) {a8 : Int32} {i : Nat} {r : aR} (h0 : a8 = 0) (hS : Sim a8 i I r) (hR : Rs r) (hn : nS r < 4) (hR4 : nR r ≤ 40) (hz : ∀ s j, nS r ≤ s → s < 4 → j < 5 → r (24 + 11 * s + 6 + j) = 0) (a b c : Int32) {D : Nat} (hD : D < 2 ^ 31) (e f : Int32) : ∃ J, rn 76 (a_en 76 [.inr (.inr (some (9, i))), .inl a, .inl b, .inl c, .inl (nI D), .inl e, .inl f] (MM I w k)) = some (.inl (some (.inl (nI (nS r)))), MM J w k) ∧ Sim a8 i J (m_as r (nS r) a b c (nI D) e f) ∧ Fr i I J := by
  have h3 : I 9 i 3 = nI (nS r) := hS.1.1.2.2.2.trans hR.1.1
  have v := as_v r (nS r) a b c (nI D) e f
  have e9 : ∀ y, y ≠ 3 → (∀ j, j < 6 → y ≠ 24 + 11 * nS r + j) → m_as r (nS r) a b c (nI D) e f y = r y := fun y h1 h2 => as_n h1 h2
  have eS : nS (m_as r (nS r) a b c (nI D) e f) = nS r + 1 := as_S hn a b c (nI D) e f
  generalize hr' : m_as r (nS r) a b c (nI D) e f = r' at v e9 eS
  obtain ⟨π, p1, p2⟩ := hS.2.2.2.1
  have hph : ∀ s, s < nS r → r (24 + 11 * s + 3) = nI (mPh r s) ∧ mPh r s < 2 ^ 31 := fun s hs => by
    obtain ⟨-, -, -, ⟨x, x1, x2⟩, -⟩ := hR.2.2.2.2 s hs
    have : mPh r s = x := by unfold mPh; rw [x2, nI_clamp (by omega)]
    rw [this]; exact ⟨x2, by omega⟩
  -- the cells of the new station
  obtain ⟨I1, hI1⟩ : ∃ I1, I1 = (a_setI (a_setI (a_setI (a_setI (a_setI (a_setI I 18 (4 * i + nS r) 0 a) 18 (4 * i + nS r) 1 b) 18 (4 * i + nS r) 2 c) 18 (4 * i + nS r) 3 (nI D)) 18 (4 * i + nS r) 4 e) 18 (4 * i + nS r) 5 f) := ⟨_, rfl⟩
  obtain ⟨I2, hI2⟩ : ∃ I2, I2 = a_cpI I1 19 (4 * i + nS r) (fa_fill (fun _ => 0) (I1 19 (4 * i + nS r)) 5) := ⟨_, rfl⟩
  have o1 : ∀ s q, ¬ (s = 18 ∧ q = 4 * i + nS r) → I1 s q = I s q := fun s q h => by rw [hI1, set_o h, set_o h, set_o h, set_o h, set_o h, set_o h]
  have o2 : ∀ s q, ¬ (s = 19 ∧ q = 4 * i + nS r) → I2 s q = I1 s q := fun s q h => by funext j; rw [hI2, gC, if_neg h]
  obtain ⟨K, t, k1, k2, k3, k4, k5, k6, k7, k8⟩ := C_77L w k (i := i) hn hD π (mPh r) (fun a ha => (p1 a ha).1) (fun s hs => (hph s hs).2) (nS r) I2 (Nat.le_refl _) (fun a ha => by rw [o2 _ _ (by omega), o1 _ _ (by omega)]; exact (p1 a ha).2) (fun a g1 g2 => by omega) (fun a g1 g2 => by omega) (fun s hs => by
    rw [o2 _ _ (by omega), o1 _ _ (by omega), (hS.2.2.1 s hs).1 3 (by omega)]; exact (hph s hs).1)
  have oK : ∀ s q, ¬ (s = 17 ∧ q = i) → ¬ ((s = 18 ∨ s = 19) ∧ q = 4 * i + nS r) → K s q = I s q := fun s q g1 g2 => by
    rw [k8 s q g1, o2 s q (by omega), o1 s q (by omega)]
  refine ⟨a_setI K 9 i 3 (nI (nS r + 1)), ?_, ?_, ?_⟩
  · refine (e76_0 I w k _ _ _ _ _ _ _).trans ?_
    have c75 : rn 75 (a_en 75 [.inr (.inr (some (9, i)))] (MM I w k)) = some (.inl (some (.inl 0)), MM I w k) := by
      refine (e75_0 I w k _).trans ?_
      rw [h3]
      exact zc_t (show nI (nS r) < nI 4 from (fa_lt _ _).mpr (by rw [nI_toInt (by omega), nI_toInt (by omega)]; omega))
    refine (bk_v c75).trans ?_
    refine (e76_4 I w k _ _ _ _ _ _ _ _ _).trans ?_
    refine (zc_t rfl).trans ?_
    rw [h3, z_in (by omega) (by decide), nI_clamp (by omega), cond_true, ← hI1]
    refine (bk_n (C_308s19 I1 w k _ _)).trans ?_
    rw [← hI2]
    refine (e76_68 I2 w k _ _ _ _ _ _ _ _).trans ?_
    rw [o2 _ _ (by omega), o1 _ _ (by omega), h3]
    refine (bk_n ((e77_0 I2 w k _ _ _).trans k1)).trans ?_
    refine (e76_78 K w k _ _ _ _ _ _ _ _).trans ?_
    rw [gI_u, upd_s, oK 9 i (by omega) (by omega), h3, nI_1, show nI (nS r + 1) - 1 = nI (nS r) from z_sub (a := nS r + 1) (b := 1) (by omega)]
  · have eL : ∀ y, y ≠ 3 → y < 24 → r' y = r y := fun y g1 g2 => e9 y g1 (fun _ _ => by omega)
    have eH : ∀ y, 68 ≤ y → r' y = r y := fun y g2 => e9 y (by omega) (fun _ _ => by omega)
    have eR := nR_c (eL 4 (by omega) (by omega))
    have eC := nC_c (eL 12 (by omega) (by omega))
    obtain ⟨⟨⟨a0, a1, a2, a3⟩, b', ⟨c0, c1, c2, c3⟩, d, d2⟩, h2, h5, hp, h6, h7⟩ := hS
    refine ⟨⟨?_, ?_, ?_, ?_, ?_⟩, ?_, fun s hs => ?_, ?_, fun q hq => ?_, fun c g1 g2 => ?_⟩
    · rw [gI_u, oK 9 i (by omega) (by omega), eL 0 (by omega) (by omega), eL 1 (by omega) (by omega), eL 2 (by omega) (by omega), v.2.2.2.2.2.2]
      exact ⟨by rw [upd_n _ _ _ (by omega)]; exact a0, by rw [upd_n _ _ _ (by omega)]; exact a1, by rw [upd_n _ _ _ (by omega)]; exact a2, upd_s _ _ _⟩
    · rw [set_o (by omega), oK 10 i (by omega) (by omega), eL 10 (by omega) (by omega), eL 11 (by omega) (by omega), eL 6 (by omega) (by omega), eL 7 (by omega) (by omega), eL 8 (by omega) (by omega), eL 9 (by omega) (by omega)]; exact b'
    · rw [set_o (by omega), oK 20 i (by omega) (by omega), eL 4 (by omega) (by omega), eL 12 (by omega) (by omega), eL 15 (by omega) (by omega), eL 5 (by omega) (by omega)]; exact ⟨c0, c1, c2, c3⟩
    · rw [set_o (by omega), oK 20 i (by omega) (by omega), eL 14 (by omega) (by omega)]; exact d
    · rw [set_o (by omega), oK 20 i (by omega) (by omega)]; exact d2
    · have := kFig_r h2 (r' := r') (fun x hx hy => eL x (by omega) (by omega))
      unfold kFig at this ⊢; rw [set_o (by omega), oK 13 i (by omega) (by omega)]; exact this
    · rw [eS] at hs
      rw [set_o (by omega), set_o (by omega)]
      by_cases hsn : s = nS r
      · subst hsn
        have e18 : K 18 (4 * i + nS r) = upd (upd (upd (upd (upd (upd (I 18 (4 * i + nS r)) 0 a) 1 b) 2 c) 3 (nI D)) 4 e) 5 f := by
          rw [k8 _ _ (by omega), o2 _ _ (by omega), hI1, gI_u, gI_u, gI_u, gI_u, gI_u, gI_u]
        refine ⟨fun j hj => ?_, fun _ => ?_, fun z => absurd h0 z, fun j hj => ?_⟩
        · rw [e18]
          rcases (by omega : j = 0 ∨ j = 1 ∨ j = 2 ∨ j = 3 ∨ j = 4) with rfl | rfl | rfl | rfl | rfl
          · rw [v.1]; simp [upd_a]
          · rw [v.2.1]; simp [upd_a]
          · rw [v.2.2.1]; simp [upd_a]
          · rw [v.2.2.2.1]; simp [upd_a]
          · rw [v.2.2.2.2.1]; simp [upd_a]
        · rw [e18, v.2.2.2.2.2.1, upd_s]
        · rw [e9 _ (by omega) (fun _ _ => by omega), hz (nS r) j (Nat.le_refl _) hn hj, k8 _ _ (by omega), hI2, gC, if_pos ⟨rfl, rfl⟩, fa_fill_in hj]
      · rw [oK 18 _ (by omega) (by omega), oK 19 _ (by omega) (by omega)]
        exact kSt1_r (h5 s (by omega)) (fun j hj => e9 _ (by omega) (fun _ _ => by omega))
    · have phn : mPh r' (nS r) = D := by unfold mPh; rw [v.2.2.2.1, nI_clamp hD]
      have pho : ∀ s, s < nS r → mPh r' s = mPh r s := fun s hs => by unfold mPh; rw [e9 _ (by omega) (fun _ _ => by omega)]
      have low : ∀ x, x < t → mPh r (π x) ≤ D := fun x hx => by
        rcases k7 with z | z
        · omega
        · by_cases hxt : x = t - 1
          · subst hxt; exact z
          · rcases p2 x (t - 1) (by omega) (by omega) with y | y <;> omega
      refine ⟨fun x => if x < t then π x else (if x = t then nS r else π (x - 1)), fun x hx => ?_, fun x y hxy hy => ?_⟩
      · rw [eS] at hx
        rw [eS, set_o (by omega)]
        show (if x < t then π x else (if x = t then nS r else π (x - 1))) < nS r + 1 ∧ K 17 i x = nI (if x < t then π x else (if x = t then nS r else π (x - 1)))
        by_cases g1 : x < t
        · rw [if_pos g1]; exact ⟨by have := (p1 x (by omega)).1; omega, k3 x g1⟩
        · rw [if_neg g1]
          by_cases g2 : x = t
          · rw [if_pos g2]; subst g2; exact ⟨by omega, k4⟩
          · rw [if_neg g2]
            have := k5 (x - 1) (by omega) (by omega)
            rw [show x - 1 + 1 = x by omega] at this
            exact ⟨by have := (p1 (x - 1) (by omega)).1; omega, this⟩
      · rw [eS] at hy
        show mPh r' (if x < t then π x else (if x = t then nS r else π (x - 1))) < mPh r' (if y < t then π y else (if y = t then nS r else π (y - 1))) ∨ (mPh r' (if x < t then π x else (if x = t then nS r else π (x - 1))) = mPh r' (if y < t then π y else (if y = t then nS r else π (y - 1))) ∧ (if x < t then π x else (if x = t then nS r else π (x - 1))) < (if y < t then π y else (if y = t then nS r else π (y - 1))))
        by_cases g1 : y < t
        · rw [if_pos g1, if_pos (by omega), pho _ (p1 x (by omega)).1, pho _ (p1 y (by omega)).1]; exact p2 x y hxy (by omega)
        · rw [if_neg g1]
          by_cases g2 : y = t
          · rw [if_pos g2, if_pos (by omega), phn, pho _ (p1 x (by omega)).1]
            have := low x (by omega)
            have := (p1 x (by omega)).1
            omega
          · rw [if_neg g2, pho _ (p1 (y - 1) (by omega)).1]
            by_cases g3 : x < t
            · rw [if_pos g3, pho _ (p1 x (by omega)).1]; exact p2 x (y - 1) (by omega) (by omega)
            · rw [if_neg g3]
              by_cases g4 : x = t
              · rw [if_pos g4, phn]; exact Or.inl (k6 (y - 1) (by omega) (by omega))
              · rw [if_neg g4, pho _ (p1 (x - 1) (by omega)).1]; exact p2 (x - 1) (y - 1) (by omega) (by omega)
    · rw [eR] at hq
      rw [set_o (by omega), set_o (by omega), oK 14 _ (by omega) (by omega), oK 6 _ (by omega) (by omega)]
      exact kRe1_r (h6 q hq) (fun j hj => eH _ (by omega)) (fun x hx => eH _ (by omega))
    · rw [eC] at g1 g2
      rw [set_o (by omega), set_o (by omega), set_o (by omega), oK 15 _ (by omega) (by omega), oK 4 _ (by omega) (by omega), oK 5 _ (by omega) (by omega)]
      exact kCo1_r (h7 c g1 g2) (fun j hj => eH _ (by omega))
  · intro s q h
    rw [set_o (fun z => h (by rw [z.1, z.2]; exact (rfl : i = i)))]
    refine oK s q (fun z => h (by rw [z.1, z.2]; exact (rfl : i = i))) ?_
    rintro ⟨z | z, rfl⟩
    · subst z; exact h (own_s hn)
    · subst z; exact h (own_s hn)
/-! a new row -/
def m_bg (r : aR) : aR := fun x => if x < 6388 then (if x = 0 then 90 else if x = 1 then 24 else if x = 6 then 30 else if x = 7 then 5 else if x = 8 then 300 else if x = 10 then 60 else if x = 11 then 1000 else if x = 14 then 1 else 0) else r x
theorem bg_v (r : aR) : m_bg r 0 = 90 ∧ m_bg r 1 = 24 ∧ m_bg r 6 = 30 ∧ m_bg r 7 = 5 ∧ m_bg r 8 = 300 ∧ m_bg r 10 = 60 ∧ m_bg r 11 = 1000 ∧ m_bg r 14 = 1 := ⟨rfl, rfl, rfl, rfl, rfl, rfl, rfl, rfl⟩
theorem bg_0 (r : aR) {x : Nat} (h : x < 6388) (h0 : x ≠ 0) (h1 : x ≠ 1) (h6 : x ≠ 6) (h7 : x ≠ 7) (h8 : x ≠ 8) (h10 : x ≠ 10) (h11 : x ≠ 11) (h14 : x ≠ 14) : m_bg r x = 0 := by
  unfold m_bg
  rw [if_pos h, if_neg h0, if_neg h1, if_neg h6, if_neg h7, if_neg h8, if_neg h10, if_neg h11, if_neg h14]
theorem bg_S (r : aR) : nS (m_bg r) = 0 := rfl
theorem bg_R (r : aR) : nR (m_bg r) = 0 := rfl
theorem bg_C (r : aR) : nC (m_bg r) = 0 := rfl
theorem bg_ok (r : aR) : Okt 0 (m_bg r) := by
  refine ⟨⟨⟨⟨rfl, by rw [bg_S]; omega⟩, ⟨90, by omega, by omega, rfl⟩, ⟨24, by omega, rfl⟩, ⟨0, by omega, rfl⟩, fun s hs => absurd hs (by rw [bg_S]; omega)⟩, ⟨rfl, by rw [bg_R]; omega⟩, rfl, ⟨rfl, by rw [bg_C]; omega⟩, ⟨fun _ => Or.inl (bg_C r), fun _ => rfl⟩, ⟨⟨30, by omega, rfl⟩, ⟨5, by omega, rfl⟩, ⟨300, by omega, by omega, rfl⟩, ⟨0, by omega, rfl⟩, ⟨60, by omega, rfl⟩, ⟨1000, by omega, by omega, rfl⟩⟩, ⟨fun e he => absurd he (by rw [bg_C]; omega), fun e he => absurd he (by rw [bg_C]; omega)⟩, fun s j h1 h2 h3 => bg_0 r (by omega) (by omega) (by omega) (by omega) (by omega) (by omega) (by omega) (by omega) (by omega)⟩, fun q hq => absurd hq (by rw [bg_R]; omega), ?_⟩
  rw [bg_R, bg_C]
  exact ⟨fun e he => absurd he (by omega), fun q f hq => absurd hq (by omega), fun e he => absurd he (by omega), fun q hq => absurd hq (by omega), ⟨0, 0, by omega, by omega, rfl, rfl, rfl⟩, (by decide : (0 : Int32) ≤ 1)⟩
theorem M_172L (I : aI) (w : aW) (k : aQ) : ∀ (d j : Nat), j + d = 6388 → rn 172 (2, [some (.inr (.inr (some (31, 0)))), some (.inl (nI j))], [], MM (pR I (fa_fill (fun _ => 0) (I 24 0) j)) w k) = some (.inl none, MM (pR I (m_bg (I 24 0))) w k) := by
  intro d
  induction d with
  | zero =>
    intro j hj
    have : j = 6388 := by omega
    subst this
    refine (e172_2 _ w k _).trans ?_
    rw [zc_t (show (6388 : Int32) ≤ nI 6388 from nI_le (a := 6388) (by omega) (by omega))]
    rw [pR_set', pR_set', pR_set', pR_set', pR_set', pR_set', pR_set', pR_set']
    congr 2
    congr 1
    congr 1
    funext x
    simp only [upd_a]
    unfold m_bg
    by_cases hx : x < 6388
    · rw [if_pos hx, fa_fill_in hx]
      repeat' split
      all_goals first | rfl | omega
    · rw [if_neg hx, fa_fill_out (by omega)]
      rw [if_neg (by omega), if_neg (by omega), if_neg (by omega), if_neg (by omega), if_neg (by omega), if_neg (by omega), if_neg (by omega), if_neg (by omega)]
  | succ d ih =>
    intro j hj
    refine (e172_2 _ w k _).trans ?_
    rw [zc_f (show ¬ (6388 : Int32) ≤ nI j from nI_ge (b := 6388) (by omega) (by omega)), z_in (by omega) (by decide), nI_clamp (by omega), cond_true, pR_set', fa_fill_succ (fun _ => 0) (I 24 0) j, nI_1]
    exact ih (j + 1) (by omega)
theorem M_172 (I : aI) (w : aW) (k : aQ) : rn 172 (a_en 172 [.inr (.inr (some (31, 0)))] (MM I w k)) = some (.inl none, MM (pR I (m_bg (I 24 0))) w k) := by
  have h := M_172L I w k 6388 0 (by omega)
  rw [fa_fill_0, pR_self] at h
  exact (e172_0 I w k).trans h
theorem C_40 (I : aI) (w : aW) (k : aQ) (i : Nat) (r : aR) : ∃ J, rn 40 (a_en 40 [.inr (.inr (some (20, i)))] (MM I w k)) = some (.inl none, MM J w k) ∧ Sim 0 i J (m_bg r) ∧ Fr i I J := by
  obtain ⟨I1, hI1⟩ : ∃ I1, I1 = a_setI (a_setI (a_setI (a_setI I 9 i 0 90) 9 i 1 24) 9 i 2 0) 9 i 3 0 := ⟨_, rfl⟩
  obtain ⟨I2, hI2⟩ : ∃ I2, I2 = a_setI (a_setI (a_setI (a_setI (a_setI (a_setI I1 10 i 0 60) 10 i 1 1000) 10 i 2 30) 10 i 3 5) 10 i 4 300) 10 i 5 0 := ⟨_, rfl⟩
  obtain ⟨I3, hI3⟩ : ∃ I3, I3 = a_setI (a_setI I2 20 i 3 0) 20 i 5 0 := ⟨_, rfl⟩
  obtain ⟨I4, hI4⟩ : ∃ I4, I4 = a_cpI I3 13 i (fa_fill (fun _ => 0) (I3 13 i) 8) := ⟨_, rfl⟩
  obtain ⟨I5, hI5⟩ : ∃ I5, I5 = a_setI (a_setI (a_setI I4 20 i 7 0) 20 i 8 0) 20 i 9 1 := ⟨_, rfl⟩
  have o1 : ∀ s q, ¬ (s = 9 ∧ q = i) → I1 s q = I s q := fun s q h => by rw [hI1, set_o h, set_o h, set_o h, set_o h]
  have o2 : ∀ s q, ¬ (s = 10 ∧ q = i) → I2 s q = I1 s q := fun s q h => by rw [hI2, set_o h, set_o h, set_o h, set_o h, set_o h, set_o h]
  have o3 : ∀ s q, ¬ (s = 20 ∧ q = i) → I3 s q = I2 s q := fun s q h => by rw [hI3, set_o h, set_o h]
  have o4 : ∀ s q, ¬ (s = 13 ∧ q = i) → I4 s q = I3 s q := fun s q h => by funext j; rw [hI4, gC, if_neg h]
  have o5 : ∀ s q, ¬ (s = 20 ∧ q = i) → I5 s q = I4 s q := fun s q h => by rw [hI5, set_o h, set_o h, set_o h]
  refine ⟨I5, ?_, ?_, ?_⟩
  · refine (e40_0 I w k _).trans ?_
    have c72 : rn 72 (a_en 72 [.inr (.inr (some (9, i)))] (MM I w k)) = some (.inl none, MM I1 w k) := by
      rw [hI1]
      exact e72_0 I w k _
    refine (bk_n c72).trans ?_
    refine (e40_7 I1 w k _).trans ?_
    refine (bk_n (e16_0 I1 w k _)).trans ?_
    rw [← hI2]
    refine (e40_14 I2 w k _).trans ?_
    rw [← hI3]
    refine (bk_n (C_308s13 I3 w k _ _)).trans ?_
    rw [← hI4, hI5]
    exact e40_32 I4 w k _
  · have e9 : I5 9 i = upd (upd (upd (upd (I 9 i) 0 90) 1 24) 2 0) 3 0 := by
      rw [o5 _ _ (by omega), o4 _ _ (by omega), o3 _ _ (by omega), o2 _ _ (by omega), hI1, gI_u, gI_u, gI_u, gI_u]
    have e10 : I5 10 i = upd (upd (upd (upd (upd (upd (I 10 i) 0 60) 1 1000) 2 30) 3 5) 4 300) 5 0 := by
      rw [o5 _ _ (by omega), o4 _ _ (by omega), o3 _ _ (by omega), hI2, gI_u, gI_u, gI_u, gI_u, gI_u, gI_u, o1 _ _ (by omega)]
    have e13 : ∀ j, j < 8 → I5 13 i j = 0 := fun j hj => by
      rw [o5 _ _ (by omega), hI4, gC, if_pos ⟨rfl, rfl⟩, fa_fill_in hj]
    have e20 : I5 20 i = upd (upd (upd (upd (upd (I 20 i) 3 0) 5 0) 7 0) 8 0) 9 1 := by
      rw [hI5, gI_u, gI_u, gI_u, o4 _ _ (by omega), hI3, gI_u, gI_u, o2 _ _ (by omega), o1 _ _ (by omega)]
    refine ⟨⟨?_, ?_, ?_, fun _ => ?_, ?_⟩, fun j hj => ?_, fun s hs => absurd hs (by rw [bg_S]; omega), ⟨id, fun a ha => absurd ha (by rw [bg_S]; omega), fun a b hab hb => absurd hb (by rw [bg_S]; omega)⟩, fun q hq => absurd hq (by rw [bg_R]; omega), fun c hc => absurd hc (by rw [bg_C]; omega)⟩
    · rw [e9]; exact ⟨rfl, rfl, rfl, rfl⟩
    · rw [e10]; exact ⟨rfl, rfl, rfl, rfl, rfl, rfl⟩
    · rw [e20]; exact ⟨rfl, rfl, rfl, rfl⟩
    · rw [e20]; rfl
    · rw [e20]; exact (by decide : (0 : Int32) ≤ 1)
    · rw [e13 j hj, bg_0 r (by omega) (by omega) (by omega) (by omega) (by omega) (by omega) (by omega) (by omega) (by omega)]
  · intro s q h
    have n9 : ¬ (s = 9 ∧ q = i) := fun z => h (by rw [z.1, z.2]; exact (rfl : i = i))
    have n10 : ¬ (s = 10 ∧ q = i) := fun z => h (by rw [z.1, z.2]; exact (rfl : i = i))
    have n13 : ¬ (s = 13 ∧ q = i) := fun z => h (by rw [z.1, z.2]; exact (rfl : i = i))
    have n20 : ¬ (s = 20 ∧ q = i) := fun z => h (by rw [z.1, z.2]; exact (rfl : i = i))
    rw [o5 _ _ n20, o4 _ _ n13, o3 _ _ n20, o2 _ _ n10, o1 _ _ n9]
