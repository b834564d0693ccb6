/-! ===== the class: settings of a simulation ===== -/
section
variable {a8 : Int32} {i : Nat} {I I' : aI} {r r' : aR}
theorem Sim_low (hS : Sim a8 i I r) (hI : ∀ s q, ¬ ((s = 9 ∨ s = 10 ∨ s = 20) ∧ q = i) → I' s q = I s q) (hr : ∀ x, (x = 3 ∨ x = 4 ∨ x = 12 ∨ 16 ≤ x) → r' x = r x) (hk : kLow a8 i I' r') : Sim a8 i I' r' := by
  obtain ⟨h1, h2, h3, hp, h5, h6⟩ := hS
  have eS := nS_c (hr 3 (by omega))
  have eR := nR_c (hr 4 (by omega))
  have eC := nC_c (hr 12 (by omega))
  have b2 := kFig_r h2 (r' := r') (fun x hx hy => hr x (by omega))
  have b3 := kSta_r h3 (r' := r') eS (fun s j hs hj => hr _ (by omega))
  have b4 := kPha_r hp (r' := r') eS (fun s hs => hr _ (by omega))
  have b5 := kRec_r h5 (r' := r') eR (fun q j hq hj => hr _ (by omega)) (fun q x hq hx => hr _ (by omega))
  have b6 := kCon_r h6 (r' := r') eC (fun p j hp hj => hr _ (by omega))
  refine ⟨hk, ?_, ?_, ?_, ?_, ?_⟩
  · unfold kFig at b2 ⊢; rw [hI 13 i (by omega)]; exact b2
  · intro s hs; rw [hI 18 _ (by omega), hI 19 _ (by omega)]; exact b3 s hs
  · unfold kPha at b4 ⊢; rw [hI 17 i (by omega)]; exact b4
  · intro q hq; rw [hI 14 _ (by omega), hI 6 _ (by omega)]; exact b5 q hq
  · intro c c1 c2; rw [hI 15 _ (by omega), hI 4 _ (by omega), hI 5 _ (by omega)]; exact b6 c c1 c2
theorem set_o {I : aI} {s q j : Nat} {v : Int32} {s' q' : Nat} (h : ¬ (s' = s ∧ q' = q)) : a_setI I s q j v s' q' = I s' q' := by
  funext j'; rw [gI, if_neg (fun z => h ⟨z.1, z.2.2⟩)]
theorem Sim_orb (hS : Sim a8 i I r) (a b c : Int32) : Sim a8 i (a_setI (a_setI (a_setI I 9 i 0 a) 9 i 1 b) 9 i 2 c) (upd (upd (upd r 0 a) 1 b) 2 c) := by
  have e : ∀ y, 3 ≤ y → upd (upd (upd r 0 a) 1 b) 2 c y = r y := fun y hy => by
    rw [upd_n _ _ _ (by omega), upd_n _ _ _ (by omega), upd_n _ _ _ (by omega)]
  refine Sim_low hS (fun s q h => ?_) (fun x hx => e x (by omega)) ?_
  · rw [set_o (by omega), set_o (by omega), set_o (by omega)]
  · obtain ⟨⟨a0, a1, a2, a3⟩, b, c, d, d2⟩ := hS.1
    refine ⟨?_, ?_, ?_, ?_, ?_⟩
    · rw [gI_u, gI_u, gI_u, e 3 (by omega)]
      refine ⟨?_, ?_, ?_, ?_⟩
      · rw [upd_n _ _ _ (by omega), upd_n _ _ _ (by omega), upd_s, upd_n _ _ _ (by omega), upd_n _ _ _ (by omega), upd_s]
      · rw [upd_n _ _ _ (by omega), upd_s, upd_n _ _ _ (by omega), upd_s]
      · rw [upd_s, upd_s]
      · rw [upd_n _ _ _ (by omega), upd_n _ _ _ (by omega), upd_n _ _ _ (by omega)]; exact a3
    · rw [set_o (by omega), set_o (by omega), set_o (by omega), e 10 (by omega), e 11 (by omega), e 6 (by omega), e 7 (by omega), e 8 (by omega), e 9 (by omega)]; exact b
    · rw [set_o (by omega), set_o (by omega), set_o (by omega), e 4 (by omega), e 12 (by omega), e 15 (by omega), e 5 (by omega)]; exact c
    · rw [set_o (by omega), set_o (by omega), set_o (by omega), e 14 (by omega)]; exact d
    · rw [set_o (by omega), set_o (by omega), set_o (by omega)]; exact d2
theorem Sim_ru0 (hS : Sim a8 i I r) (v : Int32) : Sim a8 i (a_setI I 10 i 0 v) (upd r 10 v) := by
  have e : ∀ y, y ≠ 10 → upd r 10 v y = r y := fun y hy => upd_n _ _ _ hy
  refine Sim_low hS (fun s q h => set_o (by omega)) (fun x hx => e x (by omega)) ?_
  obtain ⟨a, ⟨b0, b1, b2, b3, b4, b5⟩, c, d, d2⟩ := hS.1
  refine ⟨?_, ?_, ?_, ?_, ?_⟩
  · rw [set_o (by omega), e 0 (by omega), e 1 (by omega), e 2 (by omega), e 3 (by omega)]; exact a
  · rw [gI_u]; exact ⟨by rw [upd_s, upd_s], by rw [upd_n _ _ _ (by omega), e 11 (by omega)]; exact b1, by rw [upd_n _ _ _ (by omega), e 6 (by omega)]; exact b2, by rw [upd_n _ _ _ (by omega), e 7 (by omega)]; exact b3, by rw [upd_n _ _ _ (by omega), e 8 (by omega)]; exact b4, by rw [upd_n _ _ _ (by omega), e 9 (by omega)]; exact b5⟩
  · rw [set_o (by omega), e 4 (by omega), e 12 (by omega), e 15 (by omega), e 5 (by omega)]; exact c
  · rw [set_o (by omega), e 14 (by omega)]; exact d
  · rw [set_o (by omega)]; exact d2
theorem Sim_ru1 (hS : Sim a8 i I r) (v : Int32) : Sim a8 i (a_setI I 10 i 1 v) (upd r 11 v) := by
  have e : ∀ y, y ≠ 11 → upd r 11 v y = r y := fun y hy => upd_n _ _ _ hy
  refine Sim_low hS (fun s q h => set_o (by omega)) (fun x hx => e x (by omega)) ?_
  obtain ⟨a, ⟨b0, b1, b2, b3, b4, b5⟩, c, d, d2⟩ := hS.1
  refine ⟨?_, ?_, ?_, ?_, ?_⟩
  · rw [set_o (by omega), e 0 (by omega), e 1 (by omega), e 2 (by omega), e 3 (by omega)]; exact a
  · rw [gI_u]; exact ⟨by rw [upd_n _ _ _ (by omega), e 10 (by omega)]; exact b0, by rw [upd_s, upd_s], by rw [upd_n _ _ _ (by omega), e 6 (by omega)]; exact b2, by rw [upd_n _ _ _ (by omega), e 7 (by omega)]; exact b3, by rw [upd_n _ _ _ (by omega), e 8 (by omega)]; exact b4, by rw [upd_n _ _ _ (by omega), e 9 (by omega)]; exact b5⟩
  · rw [set_o (by omega), e 4 (by omega), e 12 (by omega), e 15 (by omega), e 5 (by omega)]; exact c
  · rw [set_o (by omega), e 14 (by omega)]; exact d
  · rw [set_o (by omega)]; exact d2
theorem Sim_ru2 (hS : Sim a8 i I r) (v : Int32) : Sim a8 i (a_setI I 10 i 2 v) (upd r 6 v) := by
  have e : ∀ y, y ≠ 6 → upd r 6 v y = r y := fun y hy => upd_n _ _ _ hy
  refine Sim_low hS (fun s q h => set_o (by omega)) (fun x hx => e x (by omega)) ?_
  obtain ⟨a, ⟨b0, b1, b2, b3, b4, b5⟩, c, d, d2⟩ := hS.1
  refine ⟨?_, ?_, ?_, ?_, ?_⟩
  · rw [set_o (by omega), e 0 (by omega), e 1 (by omega), e 2 (by omega), e 3 (by omega)]; exact a
  · rw [gI_u]; exact ⟨by rw [upd_n _ _ _ (by omega), e 10 (by omega)]; exact b0, by rw [upd_n _ _ _ (by omega), e 11 (by omega)]; exact b1, by rw [upd_s, upd_s], by rw [upd_n _ _ _ (by omega), e 7 (by omega)]; exact b3, by rw [upd_n _ _ _ (by omega), e 8 (by omega)]; exact b4, by rw [upd_n _ _ _ (by omega), e 9 (by omega)]; exact b5⟩
  · rw [set_o (by omega), e 4 (by omega), e 12 (by omega), e 15 (by omega), e 5 (by omega)]; exact c
  · rw [set_o (by omega), e 14 (by omega)]; exact d
  · rw [set_o (by omega)]; exact d2
theorem Sim_ru3 (hS : Sim a8 i I r) (v : Int32) : Sim a8 i (a_setI I 10 i 3 v) (upd r 7 v) := by
  have e : ∀ y, y ≠ 7 → upd r 7 v y = r y := fun y hy => upd_n _ _ _ hy
  refine Sim_low hS (fun s q h => set_o (by omega)) (fun x hx => e x (by omega)) ?_
  obtain ⟨a, ⟨b0, b1, b2, b3, b4, b5⟩, c, d, d2⟩ := hS.1
  refine ⟨?_, ?_, ?_, ?_, ?_⟩
  · rw [set_o (by omega), e 0 (by omega), e 1 (by omega), e 2 (by omega), e 3 (by omega)]; exact a
  · rw [gI_u]; exact ⟨by rw [upd_n _ _ _ (by omega), e 10 (by omega)]; exact b0, by rw [upd_n _ _ _ (by omega), e 11 (by omega)]; exact b1, by rw [upd_n _ _ _ (by omega), e 6 (by omega)]; exact b2, by rw [upd_s, upd_s], by rw [upd_n _ _ _ (by omega), e 8 (by omega)]; exact b4, by rw [upd_n _ _ _ (by omega), e 9 (by omega)]; exact b5⟩
  · rw [set_o (by omega), e 4 (by omega), e 12 (by omega), e 15 (by omega), e 5 (by omega)]; exact c
  · rw [set_o (by omega), e 14 (by omega)]; exact d
  · rw [set_o (by omega)]; exact d2
theorem Sim_ru4 (hS : Sim a8 i I r) (v : Int32) : Sim a8 i (a_setI I 10 i 4 v) (upd r 8 v) := by
  have e : ∀ y, y ≠ 8 → upd r 8 v y = r y := fun y hy => upd_n _ _ _ hy
  refine Sim_low hS (fun s q h => set_o (by omega)) (fun x hx => e x (by omega)) ?_
  obtain ⟨a, ⟨b0, b1, b2, b3, b4, b5⟩, c, d, d2⟩ := hS.1
  refine ⟨?_, ?_, ?_, ?_, ?_⟩
  · rw [set_o (by omega), e 0 (by omega), e 1 (by omega), e 2 (by omega), e 3 (by omega)]; exact a
  · rw [gI_u]; exact ⟨by rw [upd_n _ _ _ (by omega), e 10 (by omega)]; exact b0, by rw [upd_n _ _ _ (by omega), e 11 (by omega)]; exact b1, by rw [upd_n _ _ _ (by omega), e 6 (by omega)]; exact b2, by rw [upd_n _ _ _ (by omega), e 7 (by omega)]; exact b3, by rw [upd_s, upd_s], by rw [upd_n _ _ _ (by omega), e 9 (by omega)]; exact b5⟩
  · rw [set_o (by omega), e 4 (by omega), e 12 (by omega), e 15 (by omega), e 5 (by omega)]; exact c
  · rw [set_o (by omega), e 14 (by omega)]; exact d
  · rw [set_o (by omega)]; exact d2
theorem Sim_ru5 (hS : Sim a8 i I r) (v : Int32) : Sim a8 i (a_setI I 10 i 5 v) (upd r 9 v) := by
  have e : ∀ y, y ≠ 9 → upd r 9 v y = r y := fun y hy => upd_n _ _ _ hy
  refine Sim_low hS (fun s q h => set_o (by omega)) (fun x hx => e x (by omega)) ?_
  obtain ⟨a, ⟨b0, b1, b2, b3, b4, b5⟩, c, d, d2⟩ := hS.1
  refine ⟨?_, ?_, ?_, ?_, ?_⟩
  · rw [set_o (by omega), e 0 (by omega), e 1 (by omega), e 2 (by omega), e 3 (by omega)]; exact a
  · rw [gI_u]; exact ⟨by rw [upd_n _ _ _ (by omega), e 10 (by omega)]; exact b0, by rw [upd_n _ _ _ (by omega), e 11 (by omega)]; exact b1, by rw [upd_n _ _ _ (by omega), e 6 (by omega)]; exact b2, by rw [upd_n _ _ _ (by omega), e 7 (by omega)]; exact b3, by rw [upd_n _ _ _ (by omega), e 8 (by omega)]; exact b4, by rw [upd_s, upd_s]⟩
  · rw [set_o (by omega), e 4 (by omega), e 12 (by omega), e 15 (by omega), e 5 (by omega)]; exact c
  · rw [set_o (by omega), e 14 (by omega)]; exact d
  · rw [set_o (by omega)]; exact d2
theorem Sim_see (hS : Sim 0 i I r) {v : Int32} (hv : 0 ≤ v) : Sim 0 i (a_setI I 20 i 9 v) (upd r 14 v) := by
  have h := Sim_rnd hS hv
  rw [if_pos rfl] at h
  exact h
theorem Sim_los (hS : Sim 0 i I r) (h4 : nS r ≤ 4) {s : Nat} (hs : s < nS r) (v : Int32) : Sim 0 i (a_setI I 18 (4 * i + s) 5 v) (upd r (24 + 11 * s + 5) v) := by
  obtain ⟨h1, h2, h3, hp, h5, h6⟩ := hS
  have e : ∀ x, x ≠ 24 + 11 * s + 5 → upd r (24 + 11 * s + 5) v x = r x := fun x hx => upd_n _ _ _ hx
  have eS := nS_c (e 3 (by omega))
  have eR := nR_c (e 4 (by omega))
  have eC := nC_c (e 12 (by omega))
  refine ⟨kLow_r h1 (fun x hx => e x (by omega)), kFig_r h2 (fun x hx hy => e x (by omega)), fun p hp => ?_, kPha_r hp eS (fun s hs => e _ (by omega)), kRec_r h5 eR (fun q j hq hj => e _ (by omega)) (fun q x hq hx => e _ (by omega)), kCon_r h6 eC (fun p j hp hj => e _ (by omega))⟩
  rw [eS] at hp
  by_cases hx : p = s
  · subst hx
    obtain ⟨k1, k2, k3, k4⟩ := h3 p hp
    rw [gI_u]
    refine ⟨fun y hy => ?_, fun z => ?_, fun z => absurd rfl z, fun y hy => ?_⟩
    · rw [e _ (by omega), upd_n _ _ _ (by omega)]; exact k1 y hy
    · rw [upd_s, upd_s]
    · rw [e _ (by omega)]; exact k4 y hy
  · rw [gI_q _ _ _ _ _ (by omega)]
    exact kSt1_r (h3 p hp) (fun y hy => e _ (by omega))
theorem Sim_pri (hS : Sim a8 i I r) (hn : nR r ≤ 40) (h4 : nS r ≤ 4) {q : Nat} (hq : q < nR r) (v : Int32) : Sim a8 i (a_setI I 14 (40 * i + q) 1 v) (upd r (68 + 8 * q + 1) v) := by
  have e : ∀ x, x ≠ 68 + 8 * q + 1 → upd r (68 + 8 * q + 1) v x = r x := fun x hx => upd_n _ _ _ hx
  refine Sim_rec hS hn h4 hq (fun s Q h => set_o (fun z => h ⟨Or.inl z.1, z.2⟩)) (fun x h1 h2 => e x (h1 1 (by omega))) ?_
  obtain ⟨⟨a0, a1, a2, a3⟩, b, ⟨c0, c1, c2, c3⟩, d⟩ := hS.2.2.2.2.1 q hq
  rw [gI_u]
  refine ⟨⟨?_, ?_, ?_, ?_⟩, ?_, ⟨?_, ?_, ?_, ?_⟩, fun x hx => ?_⟩
  · rw [upd_n _ _ _ (by omega), e _ (by omega)]; exact a0
  · rw [upd_s, upd_s]
  · rw [upd_n _ _ _ (by omega), e _ (by omega)]; exact a2
  · rw [upd_n _ _ _ (by omega), e _ (by omega)]; exact a3
  · rw [upd_n _ _ _ (by omega), m_uw_c (e _ (by omega)) (e _ (by omega)) (e _ (by omega))]; exact b
  · rw [upd_n _ _ _ (by omega), e _ (by omega)]; exact c0
  · rw [upd_n _ _ _ (by omega), e _ (by omega)]; exact c1
  · rw [upd_n _ _ _ (by omega), e _ (by omega)]; exact c2
  · rw [upd_n _ _ _ (by omega), e _ (by omega)]; exact c3
  · rw [set_o (by omega), e _ (by omega)]; exact d x hx
/-! a trial without loss -/
theorem C_78L (w : aW) (k : aQ) {n : Nat} (hn : n ≤ 4) (d : Nat) : ∀ (c : Nat) (J : aI), c + d = n → J 9 i 3 = nI n → ∃ K, rn 78 (2, [some (.inr (.inr (some (9, i)))), some (.inl (nI c))], [], MM J w k) = some (.inl none, MM K w k) ∧ (∀ s, c ≤ s → s < n → K 18 (4 * i + s) 5 = 0) ∧ ∀ s q j, ¬ (s = 18 ∧ j = 5 ∧ ∃ p, c ≤ p ∧ p < n ∧ q = 4 * i + p) → K s q j = J s q j := by
  induction d with
  | zero =>
    intro c J hc h3
    refine ⟨J, (e78_2 J w k _ _).trans ?_, fun s h1 h2 => by omega, fun s q j _ => rfl⟩
    rw [h3, zc_t (nI_le (by omega) (by omega))]
  | succ d ih =>
    intro c J hc h3
    obtain ⟨K, k1, k2, k3⟩ := ih (c + 1) (a_setI J 18 (4 * i + c) 5 0) (by omega) (by rw [set_o (by omega)]; exact h3)
    refine ⟨K, (e78_2 J w k _ _).trans ?_, fun s h1 h2 => ?_, fun s q j h => ?_⟩
    · rw [h3, zc_f (nI_ge (by omega) (by omega)), z_in (by omega) (by decide), nI_clamp (by omega), cond_true, nI_1]
      exact k1
    · by_cases hx : s = c
      · subst hx
        rw [k3 _ _ _ (by rintro ⟨-, -, p, p1, p2, p3⟩; omega), gI_u, upd_s]
      · exact k2 s (by omega) h2
    · rw [k3 _ _ _ (fun ⟨z1, z2, p, p1, p2, p3⟩ => h ⟨z1, z2, p, by omega, p2, p3⟩), gI, if_neg (fun ⟨z1, z2, z3⟩ => h ⟨z1, z2, c, Nat.le_refl _, by omega, z3⟩)]
theorem C_78 (I : aI) (w : aW) (k : aQ) (hS : Sim 0 i I r) (hR : Rs r) : ∃ J, rn 78 (a_en 78 [.inr (.inr (some (9, i)))] (MM I w k)) = some (.inl none, MM J w k) ∧ Sim 1 i J r ∧ Fr i I J := by
  have h4 := hR.1.2
  have h3 : I 9 i 3 = nI (nS r) := hS.1.1.2.2.2.trans hR.1.1
  obtain ⟨K, k1, k2, k3⟩ := C_78L w k h4 (nS r) 0 I (by omega) h3
  have ks : ∀ s q, s ≠ 18 → K s q = I s q := fun s q hs => funext (fun j => k3 s q j (fun z => hs z.1))
  refine ⟨K, (e78_0 I w k _).trans k1, ?_, fun s q h => ?_⟩
  · obtain ⟨⟨a, b, c, d, d2⟩, h2, h5, hp, h6, h7⟩ := hS
    refine ⟨⟨?_, ?_, ?_, fun z => absurd z (by decide), ?_⟩, ?_, fun s hs => ?_, ?_, ?_, ?_⟩
    · rw [ks 9 i (by omega)]; exact a
    · rw [ks 10 i (by omega)]; exact b
    · rw [ks 20 i (by omega)]; exact c
    · rw [ks 20 i (by omega)]; exact d2
    · unfold kFig at h2 ⊢; rw [ks 13 i (by omega)]; exact h2
    · obtain ⟨g1, g2, g3, g4⟩ := h5 s hs
      rw [ks 19 _ (by omega)]
      exact ⟨fun j hj => by rw [k3 _ _ _ (by omega)]; exact g1 j hj, fun z => absurd z (by decide), fun _ => k2 s (by omega) hs, g4⟩
    · unfold kPha at hp ⊢; rw [ks 17 i (by omega)]; exact hp
    · intro q hq; rw [ks 14 _ (by omega), ks 6 _ (by omega)]; exact h6 q hq
    · intro c c1 c2; rw [ks 15 _ (by omega), ks 4 _ (by omega), ks 5 _ (by omega)]; exact h7 c c1 c2
  · funext j
    refine k3 s q j ?_
    rintro ⟨z1, -, p, -, p2, z2⟩
    subst z1
    exact h (show q / 4 = i by omega)
end
/-! ===== a record is added ===== -/
theorem and_nx (x : Int32) : x &&& (x ^^^ (-1)) = 0 := b_ext (fun i hi => by rw [b_and, b_not x hi, b_0]; cases bt x i <;> rfl)
theorem z_and0 (x : Int32) : (0 : Int32) &&& x = 0 := b_ext (fun i hi => by rw [b_and, b_0]; rfl)
theorem C_7 (I : aI) (w : aW) (k : aQ) (p : Nat) (z pr t : Int32) : ∃ J, rn 7 (a_en 7 [.inr (.inr (some (14, p))), .inl z, .inl pr, .inl t] (MM I w k)) = some (.inl none, MM J w k) ∧ (J 14 p 0 = z ∧ J 14 p 1 = pr ∧ J 14 p 2 = t ∧ J 14 p 3 = m_fl z) ∧ J 14 p 4 = 0 ∧ (J 14 p 5 = 0 ∧ J 14 p 6 = 0 ∧ J 14 p 7 = -1 ∧ J 14 p 8 = -1) ∧ (∀ x, x < 24 → J 6 p x = -1) ∧ ∀ s y, ¬ (y = p ∧ (s = 14 ∨ s = 6)) → J s y = I s y := by
  refine ⟨_, (e7_0 I w k _ _ _ _).trans ((bk_v (e9_0 _ w k _)).trans ((e7_20 _ w k _ _ _ _ _ _).trans ((bk_n (C_308s6 _ w k _ _)).trans (e7_56 _ w k _ _ _ _)))), ⟨?_, ?_, ?_, ?_⟩, ?_, ⟨?_, ?_, ?_, ?_⟩, fun x hx => ?_, fun s y h => ?_⟩
  all_goals first | (rw [gC, if_neg (by omega)]; simp only [gI_u]; simp only [upd_s, upd_a, Nat.reduceEqDiff, if_false, if_true, ite_true, ite_false]; done) | skip
  · rw [gC, if_neg (by omega)]; simp only [gI_u]; simp [upd_a, m_fl]
  · rw [gC, if_pos ⟨rfl, rfl⟩, fa_fill_in hx]
  · funext j
    rw [gC, if_neg (by omega)]
    rw [set_o (by omega), set_o (by omega), set_o (by omega), set_o (by omega), set_o (by omega), set_o (by omega), set_o (by omega), set_o (by omega), set_o (by omega)]
theorem C_44 (I : aI) (w : aW) (k : aQ) {a8 : Int32} {i : Nat} {r : aR} (hS : Sim a8 i I r) (hQ : Rq r) (h4 : nS r ≤ 4) (hn : nR r < 40) (z p : Int32) : ∃ J, rn 44 (a_en 44 [.inr (.inr (some (20, i))), .inl z, .inl p] (MM I w k)) = some (.inl (some (.inl (nI (nR r)))), MM J w k) ∧ Sim a8 i J (m_ar r z p) ∧ Fr i I J := by
  have h3 : I 20 i 3 = nI (nR r) := hS.1.2.2.1.1.trans hQ.1
  have h8 : I 20 i 8 = r 5 := hS.1.2.2.1.2.2.2
  obtain ⟨K, k1, ⟨v0, v1, v2, v3⟩, v4, ⟨v5, v6, v7, v8⟩, kf, ko⟩ := C_7 I w k (40 * i + nR r) z p (r 5)
  have k20 : ∀ q, K 20 q = I 20 q := fun q => ko 20 q (by omega)
  refine ⟨a_setI K 20 i 3 (nI (nR r + 1)), ?_, ?_, ?_⟩
  · refine (e44_0 I w k _ _ _).trans ?_
    have c42 : rn 42 (a_en 42 [.inr (.inr (some (20, i)))] (MM I w k)) = some (.inl (some (.inl 0)), MM I w k) := by
      refine (e42_0 I w k _).trans ?_
      rw [h3]
      exact zc_t (show nI (nR r) < nI 40 from (fa_lt _ _).mpr (by rw [nI_toInt (by omega), nI_toInt (by omega)]; omega))
    refine (bk_v c42).trans ?_
    refine (e44_4 I w k _ _ _ _).trans ?_
    refine (zc_t rfl).trans ?_
    rw [h3, z_in (by omega) (by decide), nI_clamp (by omega), cond_true, h8]
    refine (bk_n k1).trans ?_
    refine (e44_27 K w k _ _ _).trans ?_
    rw [gI_u, upd_s, k20, h3, nI_1, show nI (nR r + 1) - 1 = nI (nR r) from z_sub (a := nR r + 1) (b := 1) (by omega)]
  · have v := ar_v hn z p
    have eL : ∀ y, y ≠ 4 → y < 68 → m_ar r z p y = r y := fun y h1 h2 => ar_n h1 (fun _ _ => by omega) (fun _ _ => by omega)
    have eH : ∀ y, 1348 ≤ y → m_ar r z p y = r y := fun y h2 => ar_n (by omega) (fun _ _ => by omega) (fun _ _ => by omega)
    have eQ : ∀ q j, q < nR r → j < 8 → m_ar r z p (68 + 8 * q + j) = r (68 + 8 * q + j) := fun q j h1 h2 => ar_n (by omega) (fun _ _ => by omega) (fun _ _ => by omega)
    have eF : ∀ q j, q < nR r → j < 24 → m_ar r z p (388 + 24 * q + j) = r (388 + 24 * q + j) := fun q j h1 h2 => ar_n (by omega) (fun _ _ => by omega) (fun _ _ => by omega)
    have eR := (ar_R hn z p).2
    have eS := nS_c (eL 3 (by omega) (by omega))
    have eC := nC_c (eL 12 (by omega) (by omega))
    obtain ⟨⟨a, b, ⟨c0, c1, c2, c3⟩, d, d2⟩, h2, h5, hp, h6, h7⟩ := hS
    refine ⟨⟨?_, ?_, ?_, ?_, ?_⟩, ?_, fun s hs => ?_, ?_, fun q hq => ?_, fun c g1 g2 => ?_⟩
    · rw [set_o (by omega), ko 9 i (by omega), eL 0 (by omega) (by omega), eL 1 (by omega) (by omega), eL 2 (by omega) (by omega), eL 3 (by omega) (by omega)]; exact a
    · rw [set_o (by omega), ko 10 i (by omega), eL 10 (by omega) (by omega), eL 11 (by omega) (by omega), eL 6 (by omega) (by omega), eL 7 (by omega) (by omega), eL 8 (by omega) (by omega), eL 9 (by omega) (by omega)]; exact b
    · rw [gI_u, k20, (ar_R hn z p).1, eL 12 (by omega) (by omega), eL 15 (by omega) (by omega), eL 5 (by omega) (by omega)]
      exact ⟨upd_s _ _ _, by rw [upd_n _ _ _ (by omega)]; exact c1, by rw [upd_n _ _ _ (by omega)]; exact c2, by rw [upd_n _ _ _ (by omega)]; exact c3⟩
    · rw [gI_u, k20, upd_n _ _ _ (by omega), eL 14 (by omega) (by omega)]; exact d
    · rw [gI_u, k20, upd_n _ _ _ (by omega)]; exact d2
    · have := kFig_r h2 (r' := m_ar r z p) (fun x hx hy => eL x (by omega) (by omega))
      unfold kFig at this ⊢; rw [set_o (by omega), ko 13 i (by omega)]; exact this
    · rw [eS] at hs
      rw [set_o (by omega), set_o (by omega), ko 18 _ (by omega), ko 19 _ (by omega)]
      exact kSt1_r (h5 s hs) (fun j hj => eL _ (by omega) (by omega))
    · have := kPha_r hp (r' := m_ar r z p) eS (fun s hs => eL _ (by omega) (by omega))
      unfold kPha at this ⊢; rw [set_o (by omega), ko 17 i (by omega)]; exact this
    · rw [eR] at hq
      rw [set_o (by omega), set_o (by omega)]
      by_cases hqn : q = nR r
      · subst hqn
        refine ⟨⟨?_, ?_, ?_, ?_⟩, ?_, ⟨?_, ?_, ?_, ?_⟩, fun x hx => ?_⟩
        · rw [v.1]; exact v0
        · rw [v.2.1]; exact v1
        · rw [v.2.2.1]; exact v2
        · rw [v.2.2.2.1]; exact v3
        · unfold m_uw m_full; rw [v.1, v.2.2.2.1, and_nx, z_and0]; exact v4
        · rw [v.2.2.2.2.1]; exact v5
        · rw [v.2.2.2.2.2.1]; exact v6
        · rw [v.2.2.2.2.2.2.1]; exact v7
        · rw [v.2.2.2.2.2.2.2]; exact v8
        · rw [ar_f hn hx]; exact kf x hx
      · rw [ko 14 _ (by omega), ko 6 _ (by omega)]
        exact kRe1_r (h6 q (by omega)) (fun j hj => eQ q j (by omega) hj) (fun x hx => eF q x (by omega) hx)
    · rw [eC] at g1 g2
      rw [set_o (by omega), set_o (by omega), set_o (by omega), ko 15 _ (by omega), ko 4 _ (by omega), ko 5 _ (by omega)]
      exact kCo1_r (h7 c g1 g2) (fun j hj => eH _ (by omega))
  · intro s q h
    rw [set_o (fun z => h (by rw [z.1, z.2]; exact (rfl : i = i)))]
    refine ko s q ?_
    rintro ⟨rfl, z | z⟩
    · subst z; exact h (own_q hn)
    · subst z; exact h (own_q hn)
