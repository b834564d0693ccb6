/-! ===== the constructors of records, contacts, stations ===== -/
theorem N_6 (I : aI) (R : Nat → Nat → Nat → Option aN) (L : Nat → Nat → Nat → Int64) (c : Nat → Nat) (cl sl q : Nat) : rn 6 (a_en 6 [.inr (.inr (some (14, q)))] (I, R, L, c, cl, sl)) = some (.inl none, (a_clr 0 I 6 (c 6), a_setR (a_clr none R 6 (c 6)) 14 q 9 (some (6, c 6)), a_clr 0 L 6 (c 6), a_inc c 6, cl + 1, sl + 24)) :=
  y_t (n_aln 1 rfl rfl rfl) <| y_t (n_ob 4 (g := 0) rfl (by decide +kernel) (by decide +kernel) (by decide +kernel) rfl) <| y_t (n_aln 5 rfl rfl rfl) <| y_t (n_bi 7 24 rfl rfl rfl) <| y_t (n_na 9 (s := 6) rfl (by decide +kernel) (by decide +kernel) rfl) <| y_t (n_pr 12 (s := 14) (q := q) (j := 9) rfl (by decide +kernel) (by decide +kernel) rfl) <| n_rv rfl (by decide +kernel)
theorem N_0 (I : aI) (R : Nat → Nat → Nat → Option aN) (L : Nat → Nat → Nat → Int64) (c : Nat → Nat) (cl sl q : Nat) : rn 0 (a_en 0 [.inr (.inr (some (15, q)))] (I, R, L, c, cl, sl)) = some (.inl none, (a_clr 0 (a_clr 0 I 4 (c 4)) 5 (c 5), a_setR (a_clr none (a_setR (a_clr none R 4 (c 4)) 15 q 5 (some (4, c 4))) 5 (c 5)) 15 q 6 (some (5, c 5)), a_clr 0 (a_clr 0 L 4 (c 4)) 5 (c 5), a_inc (a_inc c 4) 5, cl + 1 + 1, sl + 40 + 40)) :=
  y_t (n_aln 1 rfl rfl rfl) <| y_t (n_ob 4 (g := 0) rfl (by decide +kernel) (by decide +kernel) (by decide +kernel) rfl) <| y_t (n_aln 5 rfl rfl rfl) <| y_t (n_bi 7 40 rfl rfl rfl) <| y_t (n_na 9 (s := 4) rfl (by decide +kernel) (by decide +kernel) rfl) <| y_t (n_pr 12 (s := 15) (q := q) (j := 5) rfl (by decide +kernel) (by decide +kernel) rfl) <| y_t (n_aln 13 rfl rfl rfl) <| y_t (n_bi 15 40 rfl rfl rfl) <| y_t (n_na 17 (s := 5) rfl (by decide +kernel) (by decide +kernel) rfl) <| y_t (n_pr 20 (s := 15) (q := q) (j := 6) rfl (by decide +kernel) (by decide +kernel) rfl) <| n_rv rfl (by decide +kernel)
theorem N_94 (I : aI) (R : Nat → Nat → Nat → Option aN) (L : Nat → Nat → Nat → Int64) (c : Nat → Nat) (cl sl q : Nat) : rn 94 (a_en 94 [.inr (.inr (some (18, q)))] (I, R, L, c, cl, sl)) = some (.inl none, (a_clr 0 I 19 (c 19), a_setR (a_clr none R 19 (c 19)) 18 q 6 (some (19, c 19)), a_clr 0 L 19 (c 19), a_inc c 19, cl + 1, sl + 5)) :=
  y_t (n_aln 1 rfl rfl rfl) <| y_t (n_ob 4 (g := 0) rfl (by decide +kernel) (by decide +kernel) (by decide +kernel) rfl) <| y_t (n_aln 5 rfl rfl rfl) <| y_t (n_ic 6 5 rfl rfl rfl) <| y_t (n_na 8 (s := 19) rfl (by decide +kernel) (by decide +kernel) rfl) <| y_t (n_pr 11 (s := 18) (q := q) (j := 6) rfl (by decide +kernel) (by decide +kernel) rfl) <| n_rv rfl (by decide +kernel)
theorem N_15 (M : aM) (q : Nat) : rn 15 (a_en 15 [.inr (.inr (some (10, q)))] M) = some (.inl none, M) :=
  y_t (n_aln 1 rfl rfl rfl) <| y_t (n_ob 4 (g := 0) rfl (by decide +kernel) (by decide +kernel) (by decide +kernel) rfl) <| n_rv rfl (by decide +kernel)
/-! wiring that is laid anew as it was -/
theorem wr14 (w : aW) (q : Nat) {k : Nat} (h : k ≠ 9) : wr w 14 q k = none := by
  show (match k with
    | 9 => some (6, q)
    | _ => none) = none
  split
  · exact absurd rfl h
  · rfl
theorem wr15 (w : aW) (q : Nat) {k : Nat} (h : k ≠ 5) (h2 : k ≠ 6) : wr w 15 q k = none := by
  show (match k with
    | 5 => some (4, q)
    | 6 => some (5, q)
    | _ => none) = none
  split
  · exact absurd rfl h
  · exact absurd rfl h2
  · rfl
theorem wr18 (w : aW) (q : Nat) {k : Nat} (h : k ≠ 6) : wr w 18 q k = none := by
  show (match k with
    | 6 => some (19, q)
    | _ => none) = none
  split
  · exact absurd rfl h
  · rfl
theorem wr9 (w : aW) (q : Nat) {k : Nat} (h : k ≠ 4) (h2 : k ≠ 5) : wr w 9 q k = none := by
  show (match k with
    | 4 => some (16, q)
    | 5 => some (17, q)
    | _ => none) = none
  split
  · exact absurd rfl h
  · exact absurd rfl h2
  · rfl
theorem wr20 (w : aW) (q : Nat) {k : Nat} (h : k ∉ [6, 4, 2, 1, 0]) : wr w 20 q k = none := by
  show (match k with
    | 0 => some (9, q)
    | 1 => some (10, q)
    | 2 => some (11, q)
    | 4 => some (12, q)
    | 6 => some (13, q)
    | _ => none) = none
  split
  all_goals first | rfl | exact absurd (by decide) h
theorem wr11 (w : aW) (q k : Nat) : wr w 11 q k = if k < 40 then some (14, 40 * q + k) else none := by
  show (bif Nat.blt k 40 then some (14, 40 * q + k) else none) = _
  by_cases h : k < 40
  · rw [if_pos h, show Nat.blt k 40 = true from Nat.ble_eq_true_of_le h, cond_true]
  · rw [if_neg h]
    cases hb : Nat.blt k 40 with
    | false => rfl
    | true => exact absurd (Nat.le_of_ble_eq_true hb) h
theorem wr12 (w : aW) (q k : Nat) : wr w 12 q k = if k < 60 then some (15, 60 * q + k) else none := by
  show (bif Nat.blt k 60 then some (15, 60 * q + k) else none) = _
  by_cases h : k < 60
  · rw [if_pos h, show Nat.blt k 60 = true from Nat.ble_eq_true_of_le h, cond_true]
  · rw [if_neg h]
    cases hb : Nat.blt k 60 with
    | false => rfl
    | true => exact absurd (Nat.le_of_ble_eq_true hb) h
theorem wr16 (w : aW) (q k : Nat) : wr w 16 q k = if k < 4 then some (18, 4 * q + k) else none := by
  show (bif Nat.blt k 4 then some (18, 4 * q + k) else none) = _
  by_cases h : k < 4
  · rw [if_pos h, show Nat.blt k 4 = true from Nat.ble_eq_true_of_le h, cond_true]
  · rw [if_neg h]
    cases hb : Nat.blt k 4 with
    | false => rfl
    | true => exact absurd (Nat.le_of_ble_eq_true hb) h
/-- the wiring while the simulation n is made: fields set, records from j and contacts from l on wanting; stations of its sky from m on -/
def Rg (B : Nat → Nat → Nat → Option aN) (n : Nat) (S : List Nat) (j l : Nat) (S9 : List Nat) (m : Nat) : Nat → Nat → Nat → Option aN := fun s q k => if s = 20 ∧ q = n ∧ k ∉ S then none else if s = 11 ∧ q = n ∧ j ≤ k then none else if s = 12 ∧ q = n ∧ l ≤ k then none else if s = 9 ∧ q = n ∧ k ∉ S9 then none else if s = 16 ∧ q = n ∧ m ≤ k then none else B s q k
section
variable {w : aW} {B : Nat → Nat → Nat → Option aN} {n : Nat} {S S9 : List Nat} {j l m : Nat}
theorem Rg_o (hB : ∀ s, s ≠ 30 → B s = wr w s) {s q k : Nat} (h : s ≠ 20 ∧ s ≠ 11 ∧ s ≠ 12 ∧ s ≠ 9 ∧ s ≠ 16) (h30 : s ≠ 30) : Rg B n S j l S9 m s q k = wr w s q k := by
  rw [← hB s h30]
  unfold Rg
  rw [if_neg (fun z => h.1 z.1), if_neg (fun z => h.2.1 z.1), if_neg (fun z => h.2.2.1 z.1), if_neg (fun z => h.2.2.2.1 z.1), if_neg (fun z => h.2.2.2.2 z.1)]
theorem Rg_20 (hB : ∀ s, s ≠ 30 → B s = wr w s) {k : Nat} (h : k ∈ S) : Rg B n S j l S9 m 20 n k = wr w 20 n k := by
  rw [← hB 20 (by decide)]
  unfold Rg
  rw [if_neg (fun z => z.2.2 h), if_neg (by omega), if_neg (by omega), if_neg (by omega), if_neg (by omega)]
theorem Rg_9 (hB : ∀ s, s ≠ 30 → B s = wr w s) {k : Nat} (h : k ∈ S9) : Rg B n S j l S9 m 9 n k = wr w 9 n k := by
  rw [← hB 9 (by decide)]
  unfold Rg
  rw [if_neg (by omega), if_neg (by omega), if_neg (by omega), if_neg (fun z => z.2.2 h), if_neg (by omega)]
theorem Rg_set (hB : ∀ s, s ≠ 30 → B s = wr w s) {f : Nat} {v : Option aN} (hv : wr w 20 n f = v) : a_setR (Rg B n S j l S9 m) 20 n f v = Rg B n (f :: S) j l S9 m := by
  funext s q k
  rw [gR]
  by_cases h : s = 20 ∧ k = f ∧ q = n
  · obtain ⟨rfl, rfl, rfl⟩ := h
    rw [if_pos ⟨rfl, rfl, rfl⟩, Rg_20 hB (List.mem_cons_self), hv]
  · rw [if_neg h]
    unfold Rg
    by_cases h2 : s = 20 ∧ q = n ∧ k ∉ S
    · have h3 : s = 20 ∧ q = n ∧ k ∉ f :: S := ⟨h2.1, h2.2.1, fun z => by
        rcases List.mem_cons.mp z with y | y
        · exact h ⟨h2.1, y, h2.2.1⟩
        · exact h2.2.2 y⟩
      rw [if_pos h2, if_pos h3]
    · have h3 : ¬ (s = 20 ∧ q = n ∧ k ∉ f :: S) := fun z => h2 ⟨z.1, z.2.1, fun y => z.2.2 (List.mem_cons_of_mem _ y)⟩
      rw [if_neg h2, if_neg h3]
theorem Rg_set9 (hB : ∀ s, s ≠ 30 → B s = wr w s) {f : Nat} {v : Option aN} (hv : wr w 9 n f = v) : a_setR (Rg B n S j l S9 m) 9 n f v = Rg B n S j l (f :: S9) m := by
  funext s q k
  rw [gR]
  by_cases h : s = 9 ∧ k = f ∧ q = n
  · obtain ⟨rfl, rfl, rfl⟩ := h
    rw [if_pos ⟨rfl, rfl, rfl⟩, Rg_9 hB (List.mem_cons_self), hv]
  · rw [if_neg h]
    unfold Rg
    by_cases h2 : s = 9 ∧ q = n ∧ k ∉ S9
    · have h3 : s = 9 ∧ q = n ∧ k ∉ f :: S9 := ⟨h2.1, h2.2.1, fun z => by
        rcases List.mem_cons.mp z with y | y
        · exact h ⟨h2.1, y, h2.2.1⟩
        · exact h2.2.2 y⟩
      rw [if_pos h2, if_pos h3]
    · have h3 : ¬ (s = 9 ∧ q = n ∧ k ∉ f :: S9) := fun z => h2 ⟨z.1, z.2.1, fun y => z.2.2 (List.mem_cons_of_mem _ y)⟩
      rw [if_neg h2, if_neg h3]
theorem Rg_rec (hB : ∀ s, s ≠ 30 → B s = wr w s) (hj : j < 40) : a_setR (Rg B n S j l S9 m) 11 n j (some (14, 40 * n + j)) = Rg B n S (j + 1) l S9 m := by
  funext s q k
  rw [gR]
  unfold Rg
  by_cases h : s = 11 ∧ k = j ∧ q = n
  · obtain ⟨rfl, rfl, rfl⟩ := h
    rw [if_pos ⟨rfl, rfl, rfl⟩, if_neg (by omega), if_neg (by omega), if_neg (by omega), if_neg (by omega), if_neg (by omega), hB 11 (by decide), wr11, if_pos hj]
  · rw [if_neg h]
    by_cases h2 : s = 11 ∧ q = n ∧ j ≤ k
    · rw [if_neg (show ¬ (s = 20 ∧ q = n ∧ k ∉ S) by omega), if_neg (show ¬ (s = 20 ∧ q = n ∧ k ∉ S) by omega), if_pos h2, if_pos (show s = 11 ∧ q = n ∧ j + 1 ≤ k by omega)]
    · rw [if_neg h2, if_neg (show ¬ (s = 11 ∧ q = n ∧ j + 1 ≤ k) by omega)]
theorem Rg_con (hB : ∀ s, s ≠ 30 → B s = wr w s) (hl : l < 60) : a_setR (Rg B n S j l S9 m) 12 n l (some (15, 60 * n + l)) = Rg B n S j (l + 1) S9 m := by
  funext s q k
  rw [gR]
  unfold Rg
  by_cases h : s = 12 ∧ k = l ∧ q = n
  · obtain ⟨rfl, rfl, rfl⟩ := h
    rw [if_pos ⟨rfl, rfl, rfl⟩, if_neg (by omega), if_neg (by omega), if_neg (by omega), if_neg (by omega), if_neg (by omega), hB 12 (by decide), wr12, if_pos hl]
  · rw [if_neg h]
    by_cases h2 : s = 12 ∧ q = n ∧ l ≤ k
    · rw [if_neg (show ¬ (s = 20 ∧ q = n ∧ k ∉ S) by omega), if_neg (show ¬ (s = 20 ∧ q = n ∧ k ∉ S) by omega), if_neg (show ¬ (s = 11 ∧ q = n ∧ j ≤ k) by omega), if_neg (show ¬ (s = 11 ∧ q = n ∧ j ≤ k) by omega), if_pos h2, if_pos (show s = 12 ∧ q = n ∧ l + 1 ≤ k by omega)]
    · rw [if_neg h2, if_neg (show ¬ (s = 12 ∧ q = n ∧ l + 1 ≤ k) by omega)]
theorem Rg_sta (hB : ∀ s, s ≠ 30 → B s = wr w s) (hm : m < 4) : a_setR (Rg B n S j l S9 m) 16 n m (some (18, 4 * n + m)) = Rg B n S j l S9 (m + 1) := by
  funext s q k
  rw [gR]
  unfold Rg
  by_cases h : s = 16 ∧ k = m ∧ q = n
  · obtain ⟨rfl, rfl, rfl⟩ := h
    rw [if_pos ⟨rfl, rfl, rfl⟩, if_neg (by omega), if_neg (by omega), if_neg (by omega), if_neg (by omega), if_neg (by omega), hB 16 (by decide), wr16, if_pos hm]
  · rw [if_neg h]
    by_cases h2 : s = 16 ∧ q = n ∧ m ≤ k
    · rw [if_neg (show ¬ (s = 20 ∧ q = n ∧ k ∉ S) by omega), if_neg (show ¬ (s = 20 ∧ q = n ∧ k ∉ S) by omega), if_neg (show ¬ (s = 11 ∧ q = n ∧ j ≤ k) by omega), if_neg (show ¬ (s = 11 ∧ q = n ∧ j ≤ k) by omega), if_neg (show ¬ (s = 12 ∧ q = n ∧ l ≤ k) by omega), if_neg (show ¬ (s = 12 ∧ q = n ∧ l ≤ k) by omega), if_neg (show ¬ (s = 9 ∧ q = n ∧ k ∉ S9) by omega), if_neg (show ¬ (s = 9 ∧ q = n ∧ k ∉ S9) by omega), if_pos h2, if_pos (show s = 16 ∧ q = n ∧ m + 1 ≤ k by omega)]
    · rw [if_neg h2, if_neg (show ¬ (s = 16 ∧ q = n ∧ m + 1 ≤ k) by omega)]
theorem Rg_rg (hB : ∀ s, s ≠ 30 → B s = wr w s) {t : Nat} (ht : t ≠ 20 ∧ t ≠ 11 ∧ t ≠ 12 ∧ t ≠ 9 ∧ t ≠ 16) (h30 : t ≠ 30) {q0 : Nat} (hw : ∀ k, wr w t q0 k = none) : a_clr none (Rg B n S j l S9 m) t q0 = Rg B n S j l S9 m := by
  funext s q k
  rw [gK0]
  by_cases h : s = t ∧ q = q0
  · obtain ⟨rfl, rfl⟩ := h
    rw [if_pos ⟨rfl, rfl⟩, Rg_o hB ht h30, hw]
  · rw [if_neg h]
theorem Rg_14 (hB : ∀ s, s ≠ 30 → B s = wr w s) (q0 : Nat) : a_setR (a_clr none (a_clr none (Rg B n S j l S9 m) 14 q0) 6 q0) 14 q0 9 (some (6, q0)) = Rg B n S j l S9 m := by
  funext s q k
  rw [gR, gK0, gK0]
  by_cases h : s = 14 ∧ k = 9 ∧ q = q0
  · obtain ⟨rfl, rfl, rfl⟩ := h
    rw [if_pos ⟨rfl, rfl, rfl⟩, Rg_o hB (by omega) (by omega)]; rfl
  · rw [if_neg h]
    by_cases h6 : s = 6 ∧ q = q0
    · obtain ⟨rfl, rfl⟩ := h6
      rw [if_pos ⟨rfl, rfl⟩, Rg_o hB (by omega) (by omega)]; rfl
    · rw [if_neg h6]
      by_cases h14 : s = 14 ∧ q = q0
      · obtain ⟨rfl, rfl⟩ := h14
        rw [if_pos ⟨rfl, rfl⟩, Rg_o hB (by omega) (by omega), wr14 w q (fun z => h ⟨rfl, z, rfl⟩)]
      · rw [if_neg h14]
theorem Rg_15 (hB : ∀ s, s ≠ 30 → B s = wr w s) (q0 : Nat) : a_setR (a_clr none (a_setR (a_clr none (a_clr none (Rg B n S j l S9 m) 15 q0) 4 q0) 15 q0 5 (some (4, q0))) 5 q0) 15 q0 6 (some (5, q0)) = Rg B n S j l S9 m := by
  funext s q k
  rw [gR, gK0, gR, gK0, gK0]
  by_cases h : s = 15 ∧ k = 6 ∧ q = q0
  · obtain ⟨rfl, rfl, rfl⟩ := h
    rw [if_pos ⟨rfl, rfl, rfl⟩, Rg_o hB (by omega) (by omega)]; rfl
  · rw [if_neg h]
    by_cases h6 : s = 5 ∧ q = q0
    · obtain ⟨rfl, rfl⟩ := h6
      rw [if_pos ⟨rfl, rfl⟩, Rg_o hB (by omega) (by omega)]; rfl
    · rw [if_neg h6]
      by_cases h5 : s = 15 ∧ k = 5 ∧ q = q0
      · obtain ⟨rfl, rfl, rfl⟩ := h5
        rw [if_pos ⟨rfl, rfl, rfl⟩, Rg_o hB (by omega) (by omega)]; rfl
      · rw [if_neg h5]
        by_cases h4 : s = 4 ∧ q = q0
        · obtain ⟨rfl, rfl⟩ := h4
          rw [if_pos ⟨rfl, rfl⟩, Rg_o hB (by omega) (by omega)]; rfl
        · rw [if_neg h4]
          by_cases h14 : s = 15 ∧ q = q0
          · obtain ⟨rfl, rfl⟩ := h14
            rw [if_pos ⟨rfl, rfl⟩, Rg_o hB (by omega) (by omega), wr15 w q (fun z => h5 ⟨rfl, z, rfl⟩) (fun z => h ⟨rfl, z, rfl⟩)]
          · rw [if_neg h14]
theorem Rg_18 (hB : ∀ s, s ≠ 30 → B s = wr w s) (q0 : Nat) : a_setR (a_clr none (a_clr none (Rg B n S j l S9 m) 18 q0) 19 q0) 18 q0 6 (some (19, q0)) = Rg B n S j l S9 m := by
  funext s q k
  rw [gR, gK0, gK0]
  by_cases h : s = 18 ∧ k = 6 ∧ q = q0
  · obtain ⟨rfl, rfl, rfl⟩ := h
    rw [if_pos ⟨rfl, rfl, rfl⟩, Rg_o hB (by omega) (by omega)]; rfl
  · rw [if_neg h]
    by_cases h6 : s = 19 ∧ q = q0
    · obtain ⟨rfl, rfl⟩ := h6
      rw [if_pos ⟨rfl, rfl⟩, Rg_o hB (by omega) (by omega)]; rfl
    · rw [if_neg h6]
      by_cases h14 : s = 18 ∧ q = q0
      · obtain ⟨rfl, rfl⟩ := h14
        rw [if_pos ⟨rfl, rfl⟩, Rg_o hB (by omega) (by omega), wr18 w q (fun z => h ⟨rfl, z, rfl⟩)]
      · rw [if_neg h14]
/-- a cell of the array of records, contacts, stations, and of the sky and the simulation is cleared -/
theorem Rg_c11 (hB : ∀ s, s ≠ 30 → B s = wr w s) : a_clr none (Rg B n S 40 l S9 m) 11 n = Rg B n S 0 l S9 m := by
  funext s q k
  rw [gK0]
  unfold Rg
  by_cases h : s = 11 ∧ q = n
  · obtain ⟨rfl, rfl⟩ := h
    rw [if_pos ⟨rfl, rfl⟩, if_neg (by omega), if_pos (by omega)]
  · rw [if_neg h, if_neg (show ¬ (s = 11 ∧ q = n ∧ 40 ≤ k) by omega), if_neg (show ¬ (s = 11 ∧ q = n ∧ 0 ≤ k) by omega)]
theorem Rg_c12 (hB : ∀ s, s ≠ 30 → B s = wr w s) : a_clr none (Rg B n S j 60 S9 m) 12 n = Rg B n S j 0 S9 m := by
  funext s q k
  rw [gK0]
  unfold Rg
  by_cases h : s = 12 ∧ q = n
  · obtain ⟨rfl, rfl⟩ := h
    rw [if_pos ⟨rfl, rfl⟩, if_neg (by omega), if_neg (by omega), if_pos (by omega)]
  · rw [if_neg h, if_neg (show ¬ (s = 12 ∧ q = n ∧ 60 ≤ k) by omega), if_neg (show ¬ (s = 12 ∧ q = n ∧ 0 ≤ k) by omega)]
theorem Rg_c16 (hB : ∀ s, s ≠ 30 → B s = wr w s) : a_clr none (Rg B n S j l S9 4) 16 n = Rg B n S j l S9 0 := by
  funext s q k
  rw [gK0]
  unfold Rg
  by_cases h : s = 16 ∧ q = n
  · obtain ⟨rfl, rfl⟩ := h
    rw [if_pos ⟨rfl, rfl⟩, if_neg (by omega), if_neg (by omega), if_neg (by omega), if_neg (by omega), if_pos (by omega)]
  · rw [if_neg h, if_neg (show ¬ (s = 16 ∧ q = n ∧ 4 ≤ k) by omega), if_neg (show ¬ (s = 16 ∧ q = n ∧ 0 ≤ k) by omega)]
theorem Rg_c9 (hB : ∀ s, s ≠ 30 → B s = wr w s) : a_clr none (Rg B n S j l [5, 4] m) 9 n = Rg B n S j l [] m := by
  funext s q k
  rw [gK0]
  unfold Rg
  by_cases h : s = 9 ∧ q = n
  · obtain ⟨rfl, rfl⟩ := h
    rw [if_pos ⟨rfl, rfl⟩, if_neg (by omega), if_neg (by omega), if_neg (by omega), if_pos ⟨rfl, rfl, by simp⟩]
  · rw [if_neg h, if_neg (show ¬ (s = 9 ∧ q = n ∧ k ∉ [5, 4]) from fun z => h ⟨z.1, z.2.1⟩), if_neg (show ¬ (s = 9 ∧ q = n ∧ k ∉ ([] : List Nat)) from fun z => h ⟨z.1, z.2.1⟩)]
end
theorem Rg_all {w : aW} {B : Nat → Nat → Nat → Option aN} (hB : ∀ s, s ≠ 30 → B s = wr w s) (n : Nat) : Rg B n [6, 4, 2, 1, 0] 40 60 [5, 4] 4 = B := by
  funext s q k
  unfold Rg
  by_cases h1 : s = 20 ∧ q = n ∧ k ∉ [6, 4, 2, 1, 0]
  · rw [if_pos h1, h1.1, hB 20 (by decide), wr20 w q h1.2.2]
  · rw [if_neg h1]
    by_cases h2 : s = 11 ∧ q = n ∧ 40 ≤ k
    · rw [if_pos h2, h2.1, hB 11 (by decide), wr11, if_neg (by omega)]
    · rw [if_neg h2]
      by_cases h3 : s = 12 ∧ q = n ∧ 60 ≤ k
      · rw [if_pos h3, h3.1, hB 12 (by decide), wr12, if_neg (by omega)]
      · rw [if_neg h3]
        by_cases h4 : s = 9 ∧ q = n ∧ k ∉ [5, 4]
        · rw [if_pos h4, h4.1, hB 9 (by decide), wr9 w q (fun z => h4.2.2 (by rw [z]; simp)) (fun z => h4.2.2 (by rw [z]; simp))]
        · rw [if_neg h4]
          by_cases h5 : s = 16 ∧ q = n ∧ 4 ≤ k
          · rw [if_pos h5, h5.1, hB 16 (by decide), wr16, if_neg (by omega)]
          · rw [if_neg h5]
theorem Rg_c20 {w : aW} {B : Nat → Nat → Nat → Option aN} (hB : ∀ s, s ≠ 30 → B s = wr w s) (n : Nat) : a_clr none B 20 n = Rg B n [] 40 60 [5, 4] 4 := by
  conv => lhs; rw [← Rg_all hB n]
  funext s q k
  rw [gK0]
  unfold Rg
  by_cases h : s = 20 ∧ q = n
  · obtain ⟨rfl, rfl⟩ := h
    rw [if_pos ⟨rfl, rfl⟩, if_pos ⟨rfl, rfl, by simp⟩]
  · rw [if_neg h, if_neg (show ¬ (s = 20 ∧ q = n ∧ k ∉ [6, 4, 2, 1, 0]) from fun z => h ⟨z.1, z.2.1⟩), if_neg (show ¬ (s = 20 ∧ q = n ∧ k ∉ ([] : List Nat)) from fun z => h ⟨z.1, z.2.1⟩)]
