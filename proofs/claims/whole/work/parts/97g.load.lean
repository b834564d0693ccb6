/-! ===== load, save, restore ===== -/
section
variable {xs : Nat → Int32} {N n : Nat} {I : aI} {w : aW} {k : aQ}
/-- the class's load, up to the copy -/
theorem C_154 (G : Gd xs N n I w k) : ∃ (I1 : aI) (w1 : aW) (k1 : aQ) (i l : Nat), i ≠ 0 ∧ w1.1 = some i ∧ Gd xs N n I1 w1 k1 ∧ (∀ s q, 20 < s ∨ s = 7 ∨ s = 0 → I1 s q = I s q) ∧ k1.2.1 0 = k.2.1 0 ∧ l ≤ 400 ∧ I 31 0 10 = nI l ∧ (∀ x, x < l → By (I 28 0 x)) ∧
    (∀ r' c, sLd (I 28 0) l (l + 1) (m_bg (I 24 0)) 0 0 = .inr (r', c) → c ≤ 400 ∧ ∃ K, rn 154 (a_en 154 [vX] (MM I w k)) = some (.inl (some (.inl (nI c))), MM K w1 k1) ∧ Sim 0 0 K r' ∧ Okt 0 r' ∧ K 21 0 1 = 0 ∧ K 21 0 2 = 0 ∧ K 21 0 3 = -1 ∧ ∀ s q j, ¬ own 0 s q → ¬ own i s q → s ≠ 8 → ¬ (s = 21 ∧ q = 0) → K s q j = I1 s q j) ∧
    (∀ e y, sLd (I 28 0) l (l + 1) (m_bg (I 24 0)) 0 0 = .inl (e, y) → ∃ K, rn 154 (a_en 154 [vX] (MM I w k)) = some (.inl (some (.inl (-1))), MM K w1 k1) ∧ K 21 0 1 = 0 ∧ K 21 0 2 = e ∧ K 21 0 3 = nI y ∧ ∀ s q j, ¬ own i s q → s ≠ 8 → ¬ (s = 21 ∧ q = 0) → K s q j = I1 s q j) := by
  obtain ⟨I1, w1, k1, i, s1, s2, s3, s4, s5, s6⟩ := G.spr
  obtain ⟨l, l1, l2, l3, l4, l5, l6⟩ := G.2.2.2.1
  obtain ⟨A, a1, a2, a3⟩ := C_40 I1 w1 k1 i (I 24 0)
  obtain ⟨A', hA'⟩ : ∃ A', A' = a_setI (a_setI (a_setI A 21 0 6 0) 21 0 2 0) 21 0 3 (-1) := ⟨_, rfl⟩
  have fA : ∀ s q, ¬ own i s q → ¬ (s = 21 ∧ q = 0) → A' s q = I1 s q := fun s q g1 g2 => by rw [hA', set_o (by omega), set_o (by omega), set_o (by omega)]; exact a3 s q g1
  have nI1 : ∀ s q, (20 < s ∨ s = 7 ∨ s = 0) → ¬ (s = 21 ∧ q = 0) → A' s q = I s q := fun s q hs h21 => (fA s q (nown (by omega)) h21).trans (s5 s q hs)
  have xA : Cx (I 28 0) l A' := by
    refine ⟨fun x hx => ?_, ?_, fun q hq => ⟨?_, fun j hj => ?_⟩, fun x hx => ?_⟩
    · rw [nI1 7 0 (by omega) (by omega)]; exact (l4 x hx).1
    · rw [hA', set_n (by omega), set_n (by omega), set_n (by omega), a3 21 0 (nown (by omega)), s5 21 0 (by omega)]; exact l2
    · rw [fA 1 q (nown (by omega)) (by omega)]; exact (s4.2.2.2.2.1.1 q hq).1
    · rw [fA 2 q (nown (by omega)) (by omega)]; exact (s4.2.2.2.2.1.1 q hq).2 j hj
    · rw [fA 29 0 (nown (by omega)) (by omega)]; exact s4.2.2.2.2.1.2 x hx
  have sA : Sim 0 i A' (m_bg (I 24 0)) := Sim_n a2 (fun s q g1 g2 => by rw [hA', set_o (by omega), set_o (by omega), set_o (by omega)])
  have L := C_21L (b := I 28 0) (n := l) (i := i) w1 k1 l1 (l + 1) A' A' (m_bg (I 24 0)) 0 0 (by omega) (by omega) (by omega) xA (by rw [hA', set_n (by omega), set_n (by omega), set_e]; rfl) sA (bg_ok _) (Fc.refl i A')
  have c21 : rn 21 (a_en 21 [.inr (.inr (some (21, 0))), .inr (.inr (some (20, i)))] (MM A w1 k1)) = rn 21 (17, [some (.inr (.inr (some (21, 0)))), some (.inr (.inr (some (20, i)))), some (.inl (nI 0))], [], MM A' w1 k1) := by
    rw [hA']; exact e21_0 A w1 k1 _
  have o0 := (e154_0 I w k).trans ((bk_v s1).trans ((e154_4 I1 w1 k1 _ _ _).trans ((bk_n a1).trans (e154_9 A w1 k1 _ _))))
  refine ⟨I1, w1, k1, i, l, s2, s3, s4, s5, s6, l1, l3, fun x hx => (l4 x hx).2, fun r' c h => ?_, fun e y h => ?_⟩
  · rw [h] at L
    obtain ⟨hc, J, j1, j2, j3, j4⟩ := L
    have o1 := o0.trans ((bk_v (c21.trans j1)).trans (e154_17 J _ k1 _ _ _))
    have hz : ¬ nI c = -1 := nI_n1 (by omega)
    have o1 := o1.trans (zc_f hz)
    obtain ⟨K, k1', k2, k3⟩ := C_41 (a_setI J 21 0 1 0) w1 k1 (i := 0) (l := i) s2 (Sim_n j2 (fun s q g1 g2 => set_o (by omega))) j3.rs j3.rq (j3.rc (by omega))
    refine ⟨hc, K, o1.trans ((bk_n k1').trans (e154_39 K _ k1 _ _ _)), k2, j3, ?_, ?_, ?_, fun s q j g1 g2 g3 g4 => ?_⟩
    · rw [k3 21 0 (nown (by omega)), set_e]
    · rw [k3 21 0 (nown (by omega)), set_n (by omega), j4 21 0 2 (nown (by omega)) (by omega) (by omega), hA', set_n (by omega), set_e]
    · rw [k3 21 0 (nown (by omega)), set_n (by omega), j4 21 0 3 (nown (by omega)) (by omega) (by omega), hA', set_e]
    · rw [k3 s q g1, set_n (by omega), j4 s q j g2 g3 (by omega), fA s q g2 g4]
  · rw [h] at L
    obtain ⟨J, j1, j2, j3, j4⟩ := L
    have o1 := o0.trans ((bk_v (c21.trans j1)).trans ((e154_17 J _ k1 _ _ _).trans (zc_t rfl)))
    refine ⟨_, o1, set_e, ?_, ?_, fun s q j g2 g3 g4 => ?_⟩
    · rw [set_n (by omega)]; exact j2
    · rw [set_n (by omega)]; exact j3
    · rw [set_n (by omega), j4 s q j g2 g3 (by omega), fA s q g2 g4]
theorem K_57 (G : Gd xs N n I w k) : KD xs N n I w k 154 293 := by
  obtain ⟨I1, w1, k1, i, l, s2, s3, s4, s5, s6, l1, l3, lb, hok, hno⟩ := C_154 G
  have e24 : I1 24 0 = I 24 0 := s5 24 0 (by omega)
  have mx : ∀ K : aI, (∀ s q, s ≠ 8 → s ≠ 21 → (20 < s ∨ s = 1 ∨ s = 2) → K s q = I1 s q) → Mx (I 28 0) l K := fun K f => by
    refine ⟨fun x hx => ?_, ?_, fun q hq => ⟨?_, fun j hj => ?_⟩, fun x hx => ?_⟩
    · rw [f 28 0 (by omega) (by omega) (by omega), s5 28 0 (by omega)]
    · rw [f 31 0 (by omega) (by omega) (by omega), s5 31 0 (by omega)]; exact l3
    · rw [f 1 q (by omega) (by omega) (by omega)]; exact (s4.2.2.2.2.1.1 q hq).1
    · rw [f 2 q (by omega) (by omega) (by omega)]; exact (s4.2.2.2.2.1.1 q hq).2 j hj
    · rw [f 29 0 (by omega) (by omega) (by omega)]; exact s4.2.2.2.2.1.2 x hx
  obtain ⟨w2, hw2⟩ : ∃ w2 : aW, w2 = w1 := ⟨_, rfl⟩
  have G1 : Gd xs N n I1 w2 k1 := by rw [hw2]; exact s4
  have w21 : w2.1 = some i := by rw [hw2]; exact s3
  cases hs : sLd (I 28 0) l (l + 1) (m_bg (I 24 0)) 0 0 with
  | inr rc =>
    obtain ⟨r', c⟩ := rc
    obtain ⟨hc, K, k1', k2, k3, k4, k5, k6, k7⟩ := hok r' c hs
    rw [← hw2] at k1'
    have fK : ∀ s q, s ≠ 8 → s ≠ 21 → (20 < s ∨ s = 1 ∨ s = 2) → K s q = I1 s q := fun s q g1 g2 g3 => funext (fun j => k7 s q j (nown (by omega)) (nown (by omega)) g1 (by omega))
    have eK : K 24 0 = I 24 0 := (fK 24 0 (by omega) (by omega) (by omega)).trans e24
    obtain ⟨m1, -⟩ := M_293 K w2 k1 l1 lb (mx K fK)
    rw [eK] at m1
    obtain ⟨J, j1, j2, j3, j4, j5, j6, j7, j8⟩ := m1 r' c hs
    have fJ : ∀ s q j, ¬ (s = 24 ∧ q = 0) → ¬ (s = 25 ∧ q = 0) → ¬ (s = 31 ∧ q = 0 ∧ (j = 0 ∨ (10 ≤ j ∧ j ≤ 16))) → J s q j = K s q j := fun s q j g1 g2 g3 => by rw [j8 s q j (by omega) (by omega), set_n (by omega)]
    refine ⟨nI c, K, w2, k1, J, k1', j1, G1.all (T := 0) (by omega) (by rw [j2]; exact j3) ?_ ⟨0, by omega, ?_, j4, fun x hx => by omega, ?_, ?_⟩ (fun s q j g1 g2 g3 g4 => ?_) rfl G1.rm⟩
    · rw [j2]
      refine Sim_own k2 j3.rs.1.2 j3.rq.2 (fun s q ho => ?_)
      funext x
      have ht := own_t ho
      exact fJ s q x (by omega) (by omega) (by omega)
    · rw [fJ _ _ _ (by omega) (by omega) (by omega)]; exact k4
    · rw [fJ _ _ _ (by omega) (by omega) (by omega), j5]; exact k5
    · rw [fJ _ _ _ (by omega) (by omega) (by omega), j6]; exact k6
    · have hs8 : s ≠ 8 ∧ ¬ (s = 25 ∧ q = 0) := by unfold scr at g4; constructor <;> omega
      have h31 : ¬ (s = 31 ∧ q = 0 ∧ (j = 0 ∨ (10 ≤ j ∧ j ≤ 16))) := by unfold scr at g4; unfold txp at g3; omega
      have h21 : ¬ (s = 21 ∧ q = 0) := by unfold scr at g4; unfold txp at g3; omega
      rw [fJ s q j g2 hs8.2 h31, k7 s q j g1 (fun z => g4 (Or.inr (Or.inr (Or.inr (Or.inr (Or.inr (Or.inr (Or.inr (Or.inr ⟨i, w21, z⟩)))))))) ) hs8.1 h21]
  | inl ey =>
    obtain ⟨e, y⟩ := ey
    obtain ⟨K, k1', k4, k5, k6, k7⟩ := hno e y hs
    rw [← hw2] at k1'
    have fK : ∀ s q, s ≠ 8 → s ≠ 21 → (20 < s ∨ s = 1 ∨ s = 2) → K s q = I1 s q := fun s q g1 g2 g3 => funext (fun j => k7 s q j (nown (by omega)) g1 (by omega))
    have eK : K 24 0 = I 24 0 := (fK 24 0 (by omega) (by omega) (by omega)).trans e24
    obtain ⟨-, m1⟩ := M_293 K w2 k1 l1 lb (mx K fK)
    rw [eK] at m1
    obtain ⟨J, j1, j2, j4, j5, j6, j7, j8⟩ := m1 e y hs
    have fJ : ∀ s q j, ¬ (s = 24 ∧ q = 0) → ¬ (s = 25 ∧ q = 0) → ¬ (s = 31 ∧ q = 0 ∧ (j = 0 ∨ (10 ≤ j ∧ j ≤ 16))) → J s q j = K s q j := fun s q j g1 g2 g3 => by rw [j8 s q j (by omega) (by omega), set_n (by omega)]
    obtain ⟨T, hT, hO⟩ := G1.1
    rw [e24] at hO
    have hOJ : Okt T (J 24 0) := hO.r j2
    refine ⟨-1, K, w2, k1, J, k1', j1, G1.all hT hOJ ?_ ⟨0, by omega, ?_, j4, fun x hx => by omega, ?_, ?_⟩ (fun s q j g1 g2 g3 g4 => ?_) rfl G1.rm⟩
    · have hS0 := G1.2.1
      rw [e24] at hS0
      refine Sim_r (Sim_own hS0 hO.rs.1.2 hO.rq.2 (fun s q ho => ?_)) hO.rs.1.2 hO.rq.2 j2
      funext x
      have ht := own_t ho
      rw [fJ s q x (by omega) (by omega) (by omega)]
      exact k7 s q x (fun z => s2 (own_u z ho)) (by omega) (by omega)
    · rw [fJ _ _ _ (by omega) (by omega) (by omega)]; exact k4
    · rw [fJ _ _ _ (by omega) (by omega) (by omega), j5]; exact k5
    · rw [fJ _ _ _ (by omega) (by omega) (by omega), j6]; exact k6
    · have hs8 : s ≠ 8 ∧ ¬ (s = 25 ∧ q = 0) := by unfold scr at g4; constructor <;> omega
      have h31 : ¬ (s = 31 ∧ q = 0 ∧ (j = 0 ∨ (10 ≤ j ∧ j ≤ 16))) := by unfold scr at g4; unfold txp at g3; omega
      have h21 : ¬ (s = 21 ∧ q = 0) := by unfold scr at g4; unfold txp at g3; omega
      rw [fJ s q j g2 hs8.2 h31, k7 s q j (fun z => g4 (Or.inr (Or.inr (Or.inr (Or.inr (Or.inr (Or.inr (Or.inr (Or.inr ⟨i, w21, z⟩))))))))) hs8.1 h21]
end
