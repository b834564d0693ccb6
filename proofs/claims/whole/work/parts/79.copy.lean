/-! ===== the class: copies of the leaves ===== -/
theorem cpy_in (f g : Nat → Int32) {n k : Nat} (h : k < n) : va_cpy f g 0 0 n k = f k := by
  show (if 0 ≤ k ∧ k < 0 + n then f (0 + (k - 0)) else g k) = f k
  rw [if_pos (by omega), Nat.zero_add, Nat.sub_zero]
theorem gI_o (I : aI) {s q j : Nat} {v : Int32} {s' q' j' : Nat} (h : s' ≠ s ∨ q' ≠ q ∨ j' ≠ j) : a_setI I s q j v s' q' j' = I s' q' j' := by rw [gI, if_neg (by omega)]
theorem gI_s (I : aI) (s q j : Nat) (v : Int32) : a_setI I s q j v s q j = v := by rw [gI, if_pos ⟨rfl, rfl, rfl⟩]
theorem gC_o (I : aI) {s q : Nat} {g : aR} {s' q' j' : Nat} (h : s' ≠ s ∨ q' ≠ q) : a_cpI I s q g s' q' j' = I s' q' j' := by rw [gC, if_neg (by omega)]
theorem gC_s (I : aI) (s q : Nat) (g : aR) (j : Nat) : a_cpI I s q g s q j = g j := by rw [gC, if_pos ⟨rfl, rfl⟩]
theorem C_95 (I : aI) (w : aW) (k : aQ) {p q : Nat} (hpq : q ≠ p) : ∃ J, rn 95 (a_en 95 [.inr (.inr (some (18, p))), .inr (.inr (some (18, q)))] (MM I w k)) = some (.inl none, MM J w k) ∧ (∀ j, j < 6 → J 18 p j = I 18 q j) ∧ (∀ x, x < 5 → J 19 p x = I 19 q x) ∧ ∀ s y j, ¬ (y = p ∧ (s = 18 ∨ s = 19)) → J s y j = I s y j := by
  refine ⟨_, e95_0 I w k _ _, fun j hj => ?_, fun x hx => ?_, fun s y j h => ?_⟩
  · rw [gC_o _ (by omega)]
    rcases (show j = 0 ∨ j = 1 ∨ j = 2 ∨ j = 3 ∨ j = 4 ∨ j = 5 by omega) with rfl | rfl | rfl | rfl | rfl | rfl
    all_goals simp [gI]
  · rw [gC_s, cpy_in _ _ hx]
    simp [gI]
  · rw [gC_o _ (by omega)]
    rw [gI_o _ (by omega), gI_o _ (by omega), gI_o _ (by omega), gI_o _ (by omega), gI_o _ (by omega), gI_o _ (by omega)]
theorem C_17 (I : aI) (w : aW) (k : aQ) {p q : Nat} (hpq : q ≠ p) : ∃ J, rn 17 (a_en 17 [.inr (.inr (some (10, p))), .inr (.inr (some (10, q)))] (MM I w k)) = some (.inl none, MM J w k) ∧ (∀ j, j < 6 → J 10 p j = I 10 q j) ∧ ∀ s y j, ¬ (y = p ∧ s = 10) → J s y j = I s y j := by
  refine ⟨_, e17_0 I w k _ _, fun j hj => ?_, fun s y j h => ?_⟩
  · rcases (show j = 0 ∨ j = 1 ∨ j = 2 ∨ j = 3 ∨ j = 4 ∨ j = 5 by omega) with rfl | rfl | rfl | rfl | rfl | rfl
    all_goals simp [gI]
  · rw [gI_o _ (by omega), gI_o _ (by omega), gI_o _ (by omega), gI_o _ (by omega), gI_o _ (by omega), gI_o _ (by omega)]
