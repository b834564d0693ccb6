/-! ===== the class: copies of records and contacts ===== -/
theorem C_8 (I : aI) (w : aW) (k : aQ) {p q : Nat} (hpq : q ≠ p) : ∃ J, rn 8 (a_en 8 [.inr (.inr (some (14, p))), .inr (.inr (some (14, q)))] (MM I w k)) = some (.inl none, MM J w k) ∧ (∀ j, j < 9 → J 14 p j = I 14 q j) ∧ (∀ x, x < 24 → J 6 p x = I 6 q x) ∧ ∀ s y j, ¬ (y = p ∧ (s = 14 ∨ s = 6)) → J s y j = I s y j := by
  refine ⟨_, (e8_0 I w k _ _).trans (e8_87 _ w k _ _), fun j hj => ?_, fun x hx => ?_, fun s y j h => ?_⟩
  · rw [gC_o _ (by omega)]
    rcases (show j = 0 ∨ j = 1 ∨ j = 2 ∨ j = 3 ∨ j = 4 ∨ j = 5 ∨ j = 6 ∨ j = 7 ∨ j = 8 by omega) with rfl | rfl | rfl | rfl | rfl | rfl | rfl | rfl | rfl
    all_goals simp [gI]
  · rw [gC_s, cpy_in _ _ hx]
    simp [gI]
  · rw [gC_o _ (by omega)]
    rw [gI_o _ (by omega), gI_o _ (by omega), gI_o _ (by omega), gI_o _ (by omega), gI_o _ (by omega), gI_o _ (by omega), gI_o _ (by omega), gI_o _ (by omega), gI_o _ (by omega)]
theorem C_2 (I : aI) (w : aW) (k : aQ) {p q : Nat} (hpq : q ≠ p) : ∃ J, rn 2 (a_en 2 [.inr (.inr (some (15, p))), .inr (.inr (some (15, q)))] (MM I w k)) = some (.inl none, MM J w k) ∧ (∀ j, j < 5 → J 15 p j = I 15 q j) ∧ (∀ x, x < 40 → J 4 p x = I 4 q x ∧ J 5 p x = I 5 q x) ∧ ∀ s y j, ¬ (y = p ∧ (s = 15 ∨ s = 4 ∨ s = 5)) → J s y j = I s y j := by
  refine ⟨_, (e2_0 I w k _ _).trans (e2_70 _ w k _ _), fun j hj => ?_, fun x hx => ⟨?_, ?_⟩, fun s y j h => ?_⟩
  · rw [gC_o _ (by omega), gC_o _ (by omega)]
    rcases (show j = 0 ∨ j = 1 ∨ j = 2 ∨ j = 3 ∨ j = 4 by omega) with rfl | rfl | rfl | rfl | rfl
    all_goals simp [gI]
  · rw [gC_o _ (by omega), gC_s, cpy_in _ _ hx]
    simp [gI]
  · rw [gC_s, cpy_in _ _ hx]
    rw [gC_o _ (by omega)]
    simp [gI]
  · rw [gC_o _ (by omega), gC_o _ (by omega)]
    rw [gI_o _ (by omega), gI_o _ (by omega), gI_o _ (by omega), gI_o _ (by omega), gI_o _ (by omega)]
