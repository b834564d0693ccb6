/-! ===== the class: a copy of a simulation ===== -/
theorem oSky_own {i s y : Nat} (h : oSky i s y) : own i s y := by
  rcases h with ⟨rfl, h⟩ | ⟨rfl, h⟩ | ⟨rfl | rfl, h1, h2⟩
  · exact h
  · exact h
  · show y / 4 = i; omega
  · show y / 4 = i; omega
theorem C_41 (I : aI) (w : aW) (k : aQ) {a8 : Int32} {i l : Nat} {r : aR} (hil : l ≠ i) (hS : Sim a8 l I r) (hR : Rs r) (hQ : Rq r) (hC : Rc r) : ∃ J, rn 41 (a_en 41 [.inr (.inr (some (20, i))), .inr (.inr (some (20, l)))] (MM I w k)) = some (.inl none, MM J w k) ∧ Sim a8 i J r ∧ Fr i I J := by
  obtain ⟨⟨l1, l2, l3, l4, l5⟩, hF, hT, ⟨π, π1, π2⟩, hRe, hCo⟩ := hS
  have h4 := hR.1.2
  have hn := hQ.2
  obtain ⟨A, a1, a2, a3, a4⟩ := C_73 I w k hil
  obtain ⟨B, b1, b2, b3⟩ := C_17 A w k hil
  have eB : ∀ s y j, ¬ oSky i s y → ¬ (y = i ∧ s = 10) → B s y j = I s y j := fun s y j h1 h2 => by rw [b3 s y j h2, a4 s y j h1]
  have nS9 : ∀ s y, s ≠ 9 → s ≠ 17 → s ≠ 18 → s ≠ 19 → ¬ oSky i s y := fun s y a b c d z => by unfold oSky at z; omega
  have nl : ∀ s, s ≠ 18 → s ≠ 19 → ¬ oSky i s l := fun s a b z => by unfold oSky at z; omega
  have B3 : B 20 l 3 = nI (nR r) := by rw [eB _ _ _ (nS9 _ _ (by omega) (by omega) (by omega) (by omega)) (by omega), l3.1]; exact hQ.1
  obtain ⟨K, k1, k2, k3⟩ := C_41R w k hil hn (a_setI B 20 i 3 (B 20 l 3)) (by rw [gI_s]; exact B3) (nR r) 0 _ (by omega) ⟨fun q hq => absurd hq (by omega), fun _ _ _ _ => rfl⟩
  have K5 : K 20 l 5 = nI (nC r) := by rw [k3 _ _ _ (by omega), gI_o _ (by omega), eB _ _ _ (nS9 _ _ (by omega) (by omega) (by omega) (by omega)) (by omega), l3.2.1]; exact hC.1
  obtain ⟨M, m1, m2, m3⟩ := C_41C w k hil rfl (show nC r < 2 ^ 30 by have := hC.2; omega) (a_setI K 20 i 5 (K 20 l 5)) (by rw [gI_s]; exact K5) (min (nC r) 60) 0 _ (by omega) ⟨fun q hq => absurd hq (by omega), fun _ _ _ _ => rfl⟩
  -- what the last row holds
  have eM : ∀ s y j, s ≠ 15 → s ≠ 4 → s ≠ 5 → ¬ (s = 20 ∧ y = i) → M s y j = K s y j := fun s y j a b c d => by rw [m3 _ _ _ (by omega), gI_o _ (by omega)]
  have eK : ∀ s y j, s ≠ 14 → s ≠ 6 → ¬ (s = 20 ∧ y = i) → K s y j = B s y j := fun s y j a b d => by rw [k3 _ _ _ (by omega), gI_o _ (by omega)]
  refine ⟨_, (e41_0 I w k _ _).trans ((bk_n a1).trans ((e41_11 A w k _ _ _).trans ((bk_n b1).trans ((e41_22 B w k _ _ _).trans (k1.trans m1))))), ?_, ?_⟩
  · have eJ : ∀ s y j, s ≠ 13 → s ≠ 20 → a_setI (a_setI (a_setI (a_cpI M 13 i (va_cpy (M 13 l) (M 13 i) 0 0 8)) 20 i 7 (M 20 l 7)) 20 i 8 (M 20 l 8)) 20 i 9 (M 20 l 9) s y j = M s y j := fun s y j a b => by rw [gI_o _ (by omega), gI_o _ (by omega), gI_o _ (by omega), gC_o _ (by omega)]
    have e20 : ∀ j, M 20 l j = I 20 l j := fun j => by rw [eM _ _ _ (by omega) (by omega) (by omega) (by omega), eK _ _ _ (by omega) (by omega) (by omega), eB _ _ _ (nS9 _ _ (by omega) (by omega) (by omega) (by omega)) (by omega)]
    have e9 : ∀ j, j < 4 → M 9 i j = I 9 l j := fun j hj => by rw [eM _ _ _ (by omega) (by omega) (by omega) (by omega), eK _ _ _ (by omega) (by omega) (by omega), b3 _ _ _ (by omega), a2 j hj]
    have e10 : ∀ j, j < 6 → M 10 i j = I 10 l j := fun j hj => by rw [eM _ _ _ (by omega) (by omega) (by omega) (by omega), eK _ _ _ (by omega) (by omega) (by omega), b2 j hj, a4 _ _ _ (nS9 _ _ (by omega) (by omega) (by omega) (by omega))]
    have e13 : ∀ j, M 13 l j = I 13 l j := fun j => by rw [eM _ _ _ (by omega) (by omega) (by omega) (by omega), eK _ _ _ (by omega) (by omega) (by omega), eB _ _ _ (nS9 _ _ (by omega) (by omega) (by omega) (by omega)) (by omega)]
    have m5 : M 20 i 5 = nI (nC r) := by rw [m3 _ _ _ (by omega), gI_s]; exact K5
    have m3' : M 20 i 3 = nI (nR r) := by rw [m3 _ _ _ (by omega), gI_o _ (by omega), k3 _ _ _ (by omega), gI_s]; exact B3
    refine ⟨⟨?_, ?_, ?_, ?_, ?_⟩, ?_, ?_, ?_, ?_, ?_⟩
    · simp only [eJ 9 i _ (by omega) (by omega), e9 0 (by omega), e9 1 (by omega), e9 2 (by omega), e9 3 (by omega)]; exact l1
    · simp only [eJ 10 i _ (by omega) (by omega), e10 0 (by omega), e10 1 (by omega), e10 2 (by omega), e10 3 (by omega), e10 4 (by omega), e10 5 (by omega)]; exact l2
    · refine ⟨?_, ?_, ?_, ?_⟩
      · rw [gI_o _ (by omega), gI_o _ (by omega), gI_o _ (by omega), gC_o _ (by omega), m3']; exact hQ.1.symm
      · rw [gI_o _ (by omega), gI_o _ (by omega), gI_o _ (by omega), gC_o _ (by omega), m5]; exact hC.1.symm
      · rw [gI_o _ (by omega), gI_o _ (by omega), gI_s, e20]; exact l3.2.2.1
      · rw [gI_o _ (by omega), gI_s, e20]; exact l3.2.2.2
    · intro z; rw [gI_s, e20]; exact l4 z
    · rw [gI_s, e20]; exact l5
    · intro j hj; rw [gI_o _ (by omega), gI_o _ (by omega), gI_o _ (by omega), gC_s, cpy_in _ _ hj, e13]; exact hF j hj
    · intro s hs
      obtain ⟨t1, t2, t3, t4⟩ := hT s hs
      have g18 : ∀ j, j < 6 → M 18 (4 * i + s) j = I 18 (4 * l + s) j := fun j hj => by rw [eM _ _ _ (by omega) (by omega) (by omega) (by omega), eK _ _ _ (by omega) (by omega) (by omega), b3 _ _ _ (by omega), (a3 s (by omega)).1 j hj]
      have g19 : ∀ j, j < 5 → M 19 (4 * i + s) j = I 19 (4 * l + s) j := fun j hj => by rw [eM _ _ _ (by omega) (by omega) (by omega) (by omega), eK _ _ _ (by omega) (by omega) (by omega), b3 _ _ _ (by omega), (a3 s (by omega)).2.1 j hj]
      exact ⟨fun j hj => by rw [eJ _ _ _ (by omega) (by omega), g18 j (by omega)]; exact t1 j hj, fun z => by rw [eJ _ _ _ (by omega) (by omega), g18 5 (by omega)]; exact t2 z, fun z => by rw [eJ _ _ _ (by omega) (by omega), g18 5 (by omega)]; exact t3 z, fun j hj => by rw [eJ _ _ _ (by omega) (by omega), g19 j hj]; exact t4 j hj⟩
    · exact ⟨π, fun a ha => ⟨(π1 a ha).1, by rw [eJ _ _ _ (by omega) (by omega), eM _ _ _ (by omega) (by omega) (by omega) (by omega), eK _ _ _ (by omega) (by omega) (by omega), b3 _ _ _ (by omega), (a3 a (by omega)).2.2]; exact (π1 a ha).2⟩, π2⟩
    · intro q hq
      obtain ⟨⟨t0, t1, t2, t3⟩, t4, ⟨t5, t6, t7, t8⟩, t9⟩ := hRe q hq
      have g14 : ∀ j, j < 9 → M 14 (40 * i + q) j = I 14 (40 * l + q) j := fun j hj => by rw [eM _ _ _ (by omega) (by omega) (by omega) (by omega), (k2 q hq).1 j hj, gI_o _ (by omega), eB _ _ _ (nS9 _ _ (by omega) (by omega) (by omega) (by omega)) (by omega)]
      have g6 : ∀ j, j < 24 → M 6 (40 * i + q) j = I 6 (40 * l + q) j := fun j hj => by rw [eM _ _ _ (by omega) (by omega) (by omega) (by omega), (k2 q hq).2 j hj, gI_o _ (by omega), eB _ _ _ (nS9 _ _ (by omega) (by omega) (by omega) (by omega)) (by omega)]
      have f14 : ∀ j, j < 9 → _ := fun j (hj : j < 9) => (eJ 14 (40 * i + q) j (by omega) (by omega)).trans (g14 j hj)
      exact ⟨⟨(f14 0 (by omega)).trans t0, (f14 1 (by omega)).trans t1, (f14 2 (by omega)).trans t2, (f14 3 (by omega)).trans t3⟩, (f14 4 (by omega)).trans t4, ⟨(f14 5 (by omega)).trans t5, (f14 6 (by omega)).trans t6, (f14 7 (by omega)).trans t7, (f14 8 (by omega)).trans t8⟩, fun x hx => by rw [eJ _ _ _ (by omega) (by omega), g6 x hx]; exact t9 x hx⟩
    · intro c hc1 hc2
      obtain ⟨t0, ⟨t1, t2, t3, t4⟩, t5⟩ := hCo c hc1 hc2
      have hlt : c % 60 < min (nC r) 60 := by have := Nat.mod_lt c (by decide : 0 < 60); have := Nat.mod_le c 60; omega
      have g15 : ∀ j, j < 5 → M 15 (60 * i + c % 60) j = I 15 (60 * l + c % 60) j := fun j hj => by rw [(m2 _ hlt).1 j hj, gI_o _ (by omega), eK _ _ _ (by omega) (by omega) (by omega), eB _ _ _ (nS9 _ _ (by omega) (by omega) (by omega) (by omega)) (by omega)]
      have f15 : ∀ j, j < 5 → _ := fun j (hj : j < 5) => (eJ 15 (60 * i + c % 60) j (by omega) (by omega)).trans (g15 j hj)
      refine ⟨(f15 0 (by omega)).trans t0, ⟨(f15 1 (by omega)).trans t1, (f15 2 (by omega)).trans t2, (f15 3 (by omega)).trans t3, (f15 4 (by omega)).trans t4⟩, fun q hq => ⟨?_, ?_⟩⟩
      · rw [eJ _ _ _ (by omega) (by omega), ((m2 _ hlt).2 q hq).1, gI_o _ (by omega), eK _ _ _ (by omega) (by omega) (by omega), eB _ _ _ (nS9 _ _ (by omega) (by omega) (by omega) (by omega)) (by omega)]; exact (t5 q hq).1
      · rw [eJ _ _ _ (by omega) (by omega), ((m2 _ hlt).2 q hq).2, gI_o _ (by omega), eK _ _ _ (by omega) (by omega) (by omega), eB _ _ _ (nS9 _ _ (by omega) (by omega) (by omega) (by omega)) (by omega)]; exact (t5 q hq).2
  · intro s y ho
    funext j
    have n20 : ¬ (s = 20 ∧ y = i) := fun z => ho (by rw [z.1, z.2]; exact rfl)
    have n13 : ¬ (s = 13 ∧ y = i) := fun z => ho (by rw [z.1, z.2]; exact rfl)
    have n10 : ¬ (y = i ∧ s = 10) := fun z => ho (by rw [z.1, z.2]; exact rfl)
    have nR : ¬ ((s = 14 ∨ s = 6) ∧ 40 * i ≤ y ∧ y < 40 * i + 40) := fun z => ho (by rcases z with ⟨rfl | rfl, z1, z2⟩ <;> (show y / 40 = i; omega))
    have nC : ¬ ((s = 15 ∨ s = 4 ∨ s = 5) ∧ 60 * i ≤ y ∧ y < 60 * i + 60) := fun z => ho (by rcases z with ⟨rfl | rfl | rfl, z1, z2⟩ <;> (show y / 60 = i; omega))
    rw [gI_o _ (by omega), gI_o _ (by omega), gI_o _ (by omega), gC_o _ (by omega), m3 _ _ _ nC, gI_o _ (by omega), k3 _ _ _ nR, gI_o _ (by omega)]
    exact eB s y j (fun z => ho (oSky_own z)) n10
