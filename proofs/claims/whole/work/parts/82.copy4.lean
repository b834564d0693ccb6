/-! ===== the class: copies of all records, of all contacts ===== -/
def kRc (i l c : Nat) (I J : aI) : Prop := (∀ q, q < c → (∀ j, j < 9 → J 14 (40 * i + q) j = I 14 (40 * l + q) j) ∧ ∀ x, x < 24 → J 6 (40 * i + q) x = I 6 (40 * l + q) x) ∧ ∀ s y j, ¬ ((s = 14 ∨ s = 6) ∧ 40 * i ≤ y ∧ y < 40 * i + 40) → J s y j = I s y j
theorem C_41R (w : aW) (k : aQ) {i l n : Nat} (hil : l ≠ i) (hn : n ≤ 40) (I : aI) (h3 : I 20 i 3 = nI n) (d : Nat) : ∀ (c : Nat) (J : aI), c + d = n → kRc i l c I J → ∃ K, rn 41 (32, [some (.inr (.inr (some (20, i)))), some (.inr (.inr (some (20, l)))), some (.inl (nI c))], [], MM J w k) = rn 41 (77, [some (.inr (.inr (some (20, i)))), some (.inr (.inr (some (20, l)))), some (.inl 0)], [], MM (a_setI K 20 i 5 (K 20 l 5)) w k) ∧ kRc i l n I K := by
  induction d with
  | zero =>
    intro c J hc hJ
    have e3 : J 20 i 3 = nI n := (hJ.2 _ _ _ (by omega)).trans h3
    refine ⟨J, ?_, by rw [show c = n by omega] at hJ; exact hJ⟩
    refine (e41_32 J w k _ _ _).trans ?_
    rw [e3]
    exact zc_t (nI_le (by omega) (by omega))
  | succ d ih =>
    intro c J hc hJ
    obtain ⟨j1, j2⟩ := hJ
    have e3 : J 20 i 3 = nI n := (j2 _ _ _ (by omega)).trans h3
    obtain ⟨K, k1, k2, k3, k4⟩ := C_8 J w k (p := 40 * i + c) (q := 40 * l + c) (by omega)
    have hK : kRc i l (c + 1) I K := by
      refine ⟨fun q hq => ?_, fun s y j h => ?_⟩
      · by_cases hqc : q = c
        · subst hqc
          exact ⟨fun j hj => by rw [k2 j hj, j2 _ _ _ (by omega)], fun x hx => by rw [k3 x hx, j2 _ _ _ (by omega)]⟩
        · obtain ⟨y1, y2⟩ := j1 q (by omega)
          exact ⟨fun j hj => by rw [k4 _ _ _ (by omega), y1 j hj], fun x hx => by rw [k4 _ _ _ (by omega), y2 x hx]⟩
      · rw [k4 _ _ _ (by omega), j2 s y j h]
    obtain ⟨M, m1, m2⟩ := ih (c + 1) K (by omega) hK
    refine ⟨M, ?_, m2⟩
    refine (e41_32 J w k _ _ _).trans ?_
    rw [e3]
    refine (zc_f (nI_ge (by omega) (by omega))).trans ?_
    refine (zc_f (show ¬ (40 : Int32) ≤ nI c from nI_ge (b := 40) (by omega) (by omega))).trans ?_
    rw [z_in (by omega) (by decide), nI_clamp (by omega), cond_true, cond_true]
    refine (bk_n k1).trans ?_
    refine (e41_61 K w k _ _ _).trans ?_
    rw [nI_1]
    exact m1
def kCc (i l c : Nat) (I J : aI) : Prop := (∀ q, q < c → (∀ j, j < 5 → J 15 (60 * i + q) j = I 15 (60 * l + q) j) ∧ ∀ x, x < 40 → J 4 (60 * i + q) x = I 4 (60 * l + q) x ∧ J 5 (60 * i + q) x = I 5 (60 * l + q) x) ∧ ∀ s y j, ¬ ((s = 15 ∨ s = 4 ∨ s = 5) ∧ 60 * i ≤ y ∧ y < 60 * i + 60) → J s y j = I s y j
theorem C_41C (w : aW) (k : aQ) {i l N m : Nat} (hil : l ≠ i) (hm : m = min N 60) (hN : N < 2 ^ 30) (I : aI) (h5 : I 20 i 5 = nI N) (d : Nat) : ∀ (c : Nat) (J : aI), c + d = m → kCc i l c I J → ∃ K, rn 41 (77, [some (.inr (.inr (some (20, i)))), some (.inr (.inr (some (20, l)))), some (.inl (nI c))], [], MM J w k) = some (.inl none, MM (a_setI (a_setI (a_setI (a_cpI K 13 i (va_cpy (K 13 l) (K 13 i) 0 0 8)) 20 i 7 (K 20 l 7)) 20 i 8 (K 20 l 8)) 20 i 9 (K 20 l 9)) w k) ∧ kCc i l m I K := by
  induction d with
  | zero =>
    intro c J hc hJ
    have e5 : J 20 i 5 = nI N := (hJ.2 _ _ _ (by omega)).trans h5
    refine ⟨J, ?_, by rw [show c = m by omega] at hJ; exact hJ⟩
    refine (e41_77 J w k _ _ _).trans ?_
    rw [e5]
    by_cases h : N ≤ c
    · exact (zc_t (nI_le h (by omega))).trans rfl
    · refine (zc_f (nI_ge (by omega) (by omega))).trans ?_
      exact (zc_t (show (60 : Int32) ≤ nI c from nI_le (a := 60) (by omega) (by omega))).trans rfl
  | succ d ih =>
    intro c J hc hJ
    obtain ⟨j1, j2⟩ := hJ
    have e5 : J 20 i 5 = nI N := (j2 _ _ _ (by omega)).trans h5
    obtain ⟨K, k1, k2, k3, k4⟩ := C_2 J w k (p := 60 * i + c) (q := 60 * l + c) (by omega)
    have hK : kCc i l (c + 1) I K := by
      refine ⟨fun q hq => ?_, fun s y j h => ?_⟩
      · by_cases hqc : q = c
        · subst hqc
          exact ⟨fun j hj => by rw [k2 j hj, j2 _ _ _ (by omega)], fun x hx => ⟨by rw [(k3 x hx).1, j2 _ _ _ (by omega)], by rw [(k3 x hx).2, j2 _ _ _ (by omega)]⟩⟩
        · obtain ⟨y1, y2⟩ := j1 q (by omega)
          exact ⟨fun j hj => by rw [k4 _ _ _ (by omega), y1 j hj], fun x hx => ⟨by rw [k4 _ _ _ (by omega), (y2 x hx).1], by rw [k4 _ _ _ (by omega), (y2 x hx).2]⟩⟩
      · rw [k4 _ _ _ (by omega), j2 s y j h]
    obtain ⟨M, m1, m2⟩ := ih (c + 1) K (by omega) hK
    refine ⟨M, ?_, m2⟩
    refine (e41_77 J w k _ _ _).trans ?_
    rw [e5]
    refine (zc_f (nI_ge (by omega) (by omega))).trans ?_
    refine (zc_f (show ¬ (60 : Int32) ≤ nI c from nI_ge (b := 60) (by omega) (by omega))).trans ?_
    rw [z_in (by omega) (by decide), nI_clamp (by omega), cond_true, cond_true]
    refine (bk_n k1).trans ?_
    refine (e41_106 K w k _ _ _).trans ?_
    rw [nI_1]
    exact m1
