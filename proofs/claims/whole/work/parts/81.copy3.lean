/-! ===== the class: a copy of the sky ===== -/
def oSky (i s y : Nat) : Prop := (s = 9 ∧ y = i) ∨ (s = 17 ∧ y = i) ∨ ((s = 18 ∨ s = 19) ∧ 4 * i ≤ y ∧ y < 4 * i + 4)
/-- the first c stations are copied from l to i, nothing else from I on -/
def kSky (i l c : Nat) (I J : aI) : Prop := (∀ s, s < c → (∀ j, j < 6 → J 18 (4 * i + s) j = I 18 (4 * l + s) j) ∧ (∀ j, j < 5 → J 19 (4 * i + s) j = I 19 (4 * l + s) j) ∧ J 17 i s = I 17 l s) ∧ (∀ j, J 9 i j = I 9 i j) ∧ ∀ s y j, ¬ oSky i s y → J s y j = I s y j
theorem C_73L (w : aW) (k : aQ) {i l : Nat} (hil : l ≠ i) (I : aI) (d : Nat) : ∀ (c : Nat) (J : aI), c + d = 4 → kSky i l c I J → ∃ K, rn 73 (26, [some (.inr (.inr (some (9, i)))), some (.inr (.inr (some (9, l)))), some (.inl (nI c))], [], MM J w k) = some (.inl none, MM K w k) ∧ kSky i l 4 I K := by
  induction d with
  | zero =>
    intro c J hc hJ
    refine ⟨J, (e73_26 J w k _ _ _).trans (zc_t (show (4 : Int32) ≤ nI c from nI_le (a := 4) (by omega) (by omega))), ?_⟩
    rw [show c = 4 by omega] at hJ
    exact hJ
  | succ d ih =>
    intro c J hc hJ
    obtain ⟨j1, j2, j3⟩ := hJ
    obtain ⟨K, k1, k2, k3, k4⟩ := C_95 J w k (p := 4 * i + c) (q := 4 * l + c) (by omega)
    have src : ∀ s y j, ¬ oSky i s y → K s y j = I s y j := fun s y j h => by
      rw [k4 s y j (fun z => h (Or.inr (Or.inr ⟨z.2, by omega, by omega⟩)))]
      exact j3 s y j h
    have n18 : ∀ s', (s' = 18 ∨ s' = 19) → ¬ oSky i s' (4 * l + c) := fun s' h z => by
      unfold oSky at z
      omega
    have n17 : ¬ oSky i 17 l := fun z => by
      unfold oSky at z
      omega
    have hK : kSky i l (c + 1) I (a_setI K 17 i c (K 17 l c)) := by
      refine ⟨fun s hs => ?_, fun j => ?_, fun s y j h => ?_⟩
      · by_cases hsc : s = c
        · subst hsc
          refine ⟨fun j hj => ?_, fun j hj => ?_, ?_⟩
          · rw [gI_o _ (by omega), k2 j hj, j3 _ _ _ (n18 18 (by omega))]
          · rw [gI_o _ (by omega), k3 j hj, j3 _ _ _ (n18 19 (by omega))]
          · rw [gI_s, src _ _ _ n17]
        · obtain ⟨y1, y2, y3⟩ := j1 s (by omega)
          refine ⟨fun j hj => ?_, fun j hj => ?_, ?_⟩
          · rw [gI_o _ (by omega), k4 _ _ _ (by omega), y1 j hj]
          · rw [gI_o _ (by omega), k4 _ _ _ (by omega), y2 j hj]
          · rw [gI_o _ (by omega), k4 _ _ _ (by omega), y3]
      · rw [gI_o _ (by omega), k4 _ _ _ (by omega), j2]
      · rw [gI_o _ (by unfold oSky at h; omega)]
        exact src s y j h
    obtain ⟨M, m1, m2⟩ := ih (c + 1) (a_setI K 17 i c (K 17 l c)) (by omega) hK
    refine ⟨M, ?_, m2⟩
    refine (e73_26 J w k _ _ _).trans ?_
    refine (zc_f (show ¬ (4 : Int32) ≤ nI c from nI_ge (b := 4) (by omega) (by omega))).trans ?_
    rw [z_in (by omega) (by decide), nI_clamp (by omega), cond_true, cond_true]
    refine (bk_n k1).trans ?_
    refine (e73_46 K w k _ _ _).trans ?_
    rw [z_in (by omega) (by decide), nI_clamp (by omega), cond_true, cond_true, nI_1]
    exact m1
theorem C_73 (I : aI) (w : aW) (k : aQ) {i l : Nat} (hil : l ≠ i) : ∃ J, rn 73 (a_en 73 [.inr (.inr (some (9, i))), .inr (.inr (some (9, l)))] (MM I w k)) = some (.inl none, MM J w k) ∧ (∀ j, j < 4 → J 9 i j = I 9 l j) ∧ (∀ s, s < 4 → (∀ j, j < 6 → J 18 (4 * i + s) j = I 18 (4 * l + s) j) ∧ (∀ j, j < 5 → J 19 (4 * i + s) j = I 19 (4 * l + s) j) ∧ J 17 i s = I 17 l s) ∧ ∀ s y j, ¬ oSky i s y → J s y j = I s y j := by
  have e9 : ∀ s y j, ¬ (s = 9 ∧ y = i) → a_setI (a_setI (a_setI (a_setI I 9 i 0 (I 9 l 0)) 9 i 1 (I 9 l 1)) 9 i 2 (I 9 l 2)) 9 i 3 (I 9 l 3) s y j = I s y j := fun s y j h => by
    rw [gI_o _ (by omega), gI_o _ (by omega), gI_o _ (by omega), gI_o _ (by omega)]
  obtain ⟨K, k1, k2, k3, k4⟩ := C_73L w k hil (a_setI (a_setI (a_setI (a_setI I 9 i 0 (I 9 l 0)) 9 i 1 (I 9 l 1)) 9 i 2 (I 9 l 2)) 9 i 3 (I 9 l 3)) 4 0 _ (by omega) ⟨fun s hs => absurd hs (by omega), fun j => rfl, fun s y j _ => rfl⟩
  refine ⟨K, ?_, fun j hj => ?_, fun s hs => ⟨fun j hj => ?_, fun j hj => ?_, ?_⟩, fun s y j h => ?_⟩
  · refine (e73_0 I w k _ _).trans ?_
    refine (bk_n (e74_0 I w k _ _ _ _)).trans ?_
    refine (e73_16 _ w k _ _ _).trans ?_
    rw [gI_o (q' := l) _ (by omega), gI_o (q' := l) _ (by omega), gI_o (q' := l) _ (by omega)]
    exact k1
  · rw [k3 j]
    rcases (show j = 0 ∨ j = 1 ∨ j = 2 ∨ j = 3 by omega) with rfl | rfl | rfl | rfl
    all_goals simp [gI]
  · rw [(k2 s hs).1 j hj, e9 _ _ _ (by omega)]
  · rw [(k2 s hs).2.1 j hj, e9 _ _ _ (by omega)]
  · rw [(k2 s hs).2.2, e9 _ _ _ (by omega)]
  · rw [k4 s y j h, e9 _ _ _ (fun z => h (Or.inl z))]
