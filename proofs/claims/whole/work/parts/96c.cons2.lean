/-! ===== the constructors of a sky and a simulation ===== -/
/-- only cells of the simulation n were made -/
def Fn (n : Nat) (I I' : aI) : Prop := ∀ s y, ¬ own n s y → s ≠ 11 → s ≠ 12 → s ≠ 16 → I' s y = I s y
theorem Fn.refl (n : Nat) (I : aI) : Fn n I I := fun _ _ _ _ _ _ => rfl
theorem Fn.trans {n : Nat} {I J K : aI} (h : Fn n I J) (h2 : Fn n J K) : Fn n I K := fun s y a b c d => (h2 s y a b c d).trans (h s y a b c d)
theorem Fr.fn {n : Nat} {I J : aI} (h : Fr n I J) : Fn n I J := fun s y a _ _ _ => h s y a
theorem clr_fn {n s q : Nat} (I : aI) (h : own n s q ∨ s = 11 ∨ s = 12 ∨ s = 16) : Fn n I (a_clr 0 I s q) := fun s' y a b c d => by
  funext j
  rw [gK0, if_neg]
  rintro ⟨rfl, rfl⟩
  rcases h with z | z | z | z
  · exact a z
  · exact b z
  · exact c z
  · exact d z
/-- longs of other places -/
def Lk2 (L L' : Nat → Nat → Nat → Int64) : Prop := ∀ s, 20 < s → L' s = L s
theorem Lk2.refl (L : Nat → Nat → Nat → Int64) : Lk2 L L := fun _ _ => rfl
theorem Lk2.trans {L K J : Nat → Nat → Nat → Int64} (h : Lk2 L K) (h2 : Lk2 K J) : Lk2 L J := fun s z => (h2 s z).trans (h s z)
theorem clr_lk (L : Nat → Nat → Nat → Int64) {s q : Nat} (h : s ≤ 20) : Lk2 L (a_clr 0 L s q) := fun s' z => by
  funext y j
  rw [gK0, if_neg (by omega)]
theorem n_k2 {g : Nat} {x : aN} {as : List aV} (h : a_nt g = true) : a_rck 2 g (.inr (.inr (some x)) :: as) = true := by
  show (true && a_nt g) = true
  rw [h]; rfl
theorem n_k6 {g : Nat} {x : aN} {as : List aV} (h : a_nt g = true) : a_rck 6 g (.inr (.inr (some x)) :: as) = true := by
  show (true && a_nt g) = true
  rw [h]; rfl
section
variable {w : aW} {n : Nat}
theorem N_71L {S S9 : List Nat} {j l : Nat} (h9 : 4 ∈ S9) (d : Nat) : ∀ (m : Nat) (I : aI) (L : Nat → Nat → Nat → Int64) (c : Nat → Nat) (cl sl : Nat), m + d = 4 → c 18 = 4 * n + m → c 19 = 4 * n + m → ∃ I' L' c', rn 71 (21, [some (.inr (.inr (some (9, n)))), some (.inl (nI m))], [], (I, Rg w n S j l S9 m, L, c, cl, sl)) = some (.inl none, (I', Rg w n S j l S9 4, L', c', cl + 2 * d, sl + 12 * d)) ∧ Fn n I I' ∧ Lk2 L L' ∧ ∀ s, c' s = c s + if s = 18 ∨ s = 19 then d else 0 := by
  induction d with
  | zero =>
    intro m I L c cl sl hm h18 h19
    have : m = 4 := by omega
    subst this
    refine ⟨I, L, c, ?_, Fn.refl n I, Lk2.refl L, fun s => by split <;> rfl⟩
    exact y_t (n_iln 22 rfl rfl rfl) <| y_t (n_ic 23 4 rfl rfl rfl) <| y_t (n_iit 45 rfl rfl (by decide) rfl) <| n_rv rfl (by decide +kernel)
  | succ d ih =>
    intro m I L c cl sl hm h18 h19
    obtain ⟨I', L', c', i1, i2, i3, i4⟩ := ih (m + 1) (a_clr 0 (a_clr 0 I 18 (4 * n + m)) 19 (4 * n + m)) (a_clr 0 (a_clr 0 L 18 (4 * n + m)) 19 (4 * n + m)) (a_inc (a_inc c 18) 19) (cl + 1 + 1) (sl + 7 + 5) (by omega) (by rw [gN, gN, h18]; simp only [if_true, ite_true]; rfl) (by rw [gN, gN, h19]; rfl)
    refine ⟨I', L', c', ?_, ((clr_fn I (Or.inl (show own n 18 (4 * n + m) from own_s (by omega)))).trans (clr_fn _ (Or.inl (show own n 19 (4 * n + m) from own_s (by omega))))).trans i2, ((clr_lk L (by omega)).trans (clr_lk _ (by omega))).trans i3, fun s => ?_⟩
    · have hlt : a_cmp .ge (nI m) 4 = false := by
        show decide ((4 : Int32) ≤ nI m) = false
        exact decide_eq_false (nI_ge (b := 4) (by omega) (by omega))
      have hg : Rg w n S j l S9 m 9 n 4 = some (16, n) := (Rg_9 h9).trans rfl
      refine y_t (n_iln 22 rfl rfl rfl) <| y_t (n_ic 23 4 rfl rfl rfl) <| y_t (n_iif 26 rfl rfl hlt rfl) <| y_t (n_aln 27 rfl rfl rfl) <| y_t (n_gr 30 (some (16, n)) rfl (by decide +kernel) hg rfl) <| y_t (n_iln 31 rfl rfl rfl) <| y_t (n_new 34 (s := 18) rfl (by decide +kernel) rfl) <| y_t (n_dupr 35 rfl rfl) <| ?_
      show rn 71 (35, _, .inr (.inr (some (18, c 18))) :: .inr (.inr (some (18, c 18))) :: _, (a_clr 0 I 18 (c 18), a_clr none (Rg w n S j l S9 m) 18 (c 18), a_clr 0 L 18 (c 18), a_inc c 18, cl + 1, sl + 7)) = _
      rw [h18]
      refine y_t (n_xp [.inr (.inr (some (18, 4 * n + m)))] [.inr (.inr (some (18, 4 * n + m))), .inl (nI m), .inr (.inr (some (16, n)))] rfl (g := 94) (kd := 6) (n := 1) (by decide +kernel) rfl rfl rfl rfl rfl (n_k6 (by decide +kernel))) ?_
      refine (bk_n (N_94 _ _ _ _ _ _ _)).trans ?_
      rw [show a_inc c 18 19 = 4 * n + m from by rw [gN, h19]; rfl, Rg_18]
      refine y_t (n_aas 39 m (n := (16, n)) (x := (18, 4 * n + m)) rfl rfl (show a_inb (nI m) 4 = true from z_in (by omega) (by decide)) (nI_clamp (by omega)) rfl) ?_
      show rn 71 (39, _, _, (_, a_setR (Rg w n S j l S9 m) 16 n m (some (18, 4 * n + m)), _)) = _
      rw [Rg_sta (by omega)]
      refine y_t (n_inc 42 [some (.inr (.inr (some (9, n)))), some (.inl (nI m + 1))] rfl rfl rfl rfl) <| y_t (n_go 21 rfl rfl) ?_
      rw [nI_1]
      rw [show cl + 2 * (d + 1) = cl + 1 + 1 + 2 * d by omega, show sl + 12 * (d + 1) = sl + 7 + 5 + 12 * d by omega]
      exact i1
    · rw [i4, gN, gN]
      by_cases h1 : s = 18
      · subst h1; simp; omega
      · by_cases h2 : s = 19
        · subst h2; simp; omega
        · simp [h1, h2]
theorem N_71 {S : List Nat} {j l : Nat} (I : aI) (L : Nat → Nat → Nat → Int64) (c : Nat → Nat) (cl sl : Nat) (h16 : c 16 = n) (h17 : c 17 = n) (h18 : c 18 = 4 * n) (h19 : c 19 = 4 * n) : ∃ I' L' c', rn 71 (a_en 71 [.inr (.inr (some (9, n)))] (I, Rg w n S j l [] 4, L, c, cl, sl)) = some (.inl none, (I', Rg w n S j l [5, 4] 4, L', c', cl + 10, sl + 56)) ∧ Fn n I I' ∧ Lk2 L L' ∧ ∀ s, c' s = c s + (if s = 18 ∨ s = 19 then 4 else 0) + (if s = 16 ∨ s = 17 then 1 else 0) := by
  obtain ⟨I', L', c', i1, i2, i3, i4⟩ := N_71L (w := w) (n := n) (S := S) (S9 := [5, 4]) (j := j) (l := l) (by decide) 4 0 (a_clr 0 (a_clr 0 I 16 n) 17 n) (a_clr 0 (a_clr 0 L 16 n) 17 n) (a_inc (a_inc c 16) 17) (cl + 1 + 1) (sl + 4 + 4) (by omega) (by rw [gN, gN, h18]; rfl) (by rw [gN, gN, h19]; rfl)
  refine ⟨I', L', c', ?_, ((clr_fn I (by omega)).trans (clr_fn _ (Or.inl (show own n 17 n from rfl)))).trans i2, ((clr_lk L (by omega)).trans (clr_lk _ (by omega))).trans i3, fun s => ?_⟩
  · refine y_t (n_aln 1 rfl rfl rfl) <| y_t (n_ob 4 (g := 0) rfl (by decide +kernel) (by decide +kernel) (by decide +kernel) rfl) <| y_t (n_aln 5 rfl rfl rfl) <| y_t (n_ic 6 4 rfl rfl rfl) <| y_t (n_an 9 (s := 16) rfl (by decide +kernel) (by decide +kernel) rfl) <| y_t (n_pr 12 (s := 9) (q := n) (j := 4) rfl (by decide +kernel) (by decide +kernel) rfl) ?_
    show rn 71 (12, _, _, (a_clr 0 I 16 (c 16), a_setR (a_clr none (Rg w n S j l [] 4) 16 (c 16)) 9 n 4 (some (16, c 16)), a_clr 0 L 16 (c 16), a_inc c 16, cl + 1, sl + 4)) = _
    rw [h16, Rg_c16, Rg_set9 (show wr w 9 n 4 = some (16, n) from rfl)]
    refine y_t (n_aln 13 rfl rfl rfl) <| y_t (n_ic 14 4 rfl rfl rfl) <| y_t (n_na 16 (s := 17) rfl (by decide +kernel) (by decide +kernel) rfl) <| y_t (n_pr 19 (s := 9) (q := n) (j := 5) rfl (by decide +kernel) (by decide +kernel) rfl) ?_
    have e17 : a_inc c 16 17 = n := by rw [gN, h17]; rfl
    show rn 71 (19, _, _, (a_clr 0 (a_clr 0 I 16 n) 17 (a_inc c 16 17), a_setR (a_clr none (Rg w n S j l [4] 0) 17 (a_inc c 16 17)) 9 n 5 (some (17, a_inc c 16 17)), a_clr 0 (a_clr 0 L 16 n) 17 (a_inc c 16 17), a_inc (a_inc c 16) 17, cl + 1 + 1, sl + 4 + 4)) = _
    rw [e17, Rg_rg (by omega) (fun _ => rfl), Rg_set9 (show wr w 9 n 5 = some (17, n) from rfl)]
    refine y_t (n_ic 20 0 rfl rfl rfl) <| y_t (n_isn 21 [some (.inr (.inr (some (9, n)))), some (.inl 0)] rfl rfl rfl rfl) ?_
    refine i1.trans ?_
    rw [show cl + 1 + 1 + 2 * 4 = cl + 10 by omega, show sl + 4 + 4 + 12 * 4 = sl + 56 by omega]
  · rw [i4, gN, gN]
    by_cases h1 : s = 16
    · subst h1; simp
    · by_cases h2 : s = 17
      · subst h2; simp
      · simp [h1, h2]
theorem N_39R {S S9 : List Nat} {l m : Nat} (h2 : 2 ∈ S) (d : Nat) : ∀ (j : Nat) (I : aI) (L : Nat → Nat → Nat → Int64) (c : Nat → Nat) (cl sl : Nat), j + d = 40 → c 14 = 40 * n + j → c 6 = 40 * n + j → ∃ I' L' c', rn 39 (54, [some (.inr (.inr (some (20, n)))), some (.inl (nI j))], [], (I, Rg w n S j l S9 m, L, c, cl, sl)) = rn 39 (81, [some (.inr (.inr (some (20, n)))), some (.inl 0)], [], (I', Rg w n S 40 l S9 m, L', c', cl + 2 * d, sl + 34 * d)) ∧ Fn n I I' ∧ Lk2 L L' ∧ ∀ s, c' s = c s + if s = 14 ∨ s = 6 then d else 0 := by
  induction d with
  | zero =>
    intro j I L c cl sl hj h14 h6
    have : j = 40 := by omega
    subst this
    refine ⟨I, L, c, ?_, Fn.refl n I, Lk2.refl L, fun s => by split <;> rfl⟩
    exact y_t (n_iln 55 rfl rfl rfl) <| y_t (n_bi 57 40 rfl rfl rfl) <| y_t (n_iit 79 rfl rfl (by decide) rfl) <| y_t (n_ic 80 0 rfl rfl rfl) <| n_isn 81 [some (.inr (.inr (some (20, n)))), some (.inl 0)] rfl rfl rfl rfl
  | succ d ih =>
    intro j I L c cl sl hj h14 h6
    obtain ⟨I', L', c', i1, i2, i3, i4⟩ := ih (j + 1) (a_clr 0 (a_clr 0 I 14 (40 * n + j)) 6 (40 * n + j)) (a_clr 0 (a_clr 0 L 14 (40 * n + j)) 6 (40 * n + j)) (a_inc (a_inc c 14) 6) (cl + 1 + 1) (sl + 10 + 24) (by omega) (by rw [gN, gN, h14]; rfl) (by rw [gN, gN, h6]; rfl)
    refine ⟨I', L', c', ?_, ((clr_fn I (Or.inl (show own n 14 (40 * n + j) from own_q (by omega)))).trans (clr_fn _ (Or.inl (show own n 6 (40 * n + j) from own_q (by omega))))).trans i2, ((clr_lk L (by omega)).trans (clr_lk _ (by omega))).trans i3, fun s => ?_⟩
    · have hlt : a_cmp .ge (nI j) 40 = false := by
        show decide ((40 : Int32) ≤ nI j) = false
        exact decide_eq_false (nI_ge (b := 40) (by omega) (by omega))
      have hg : Rg w n S j l S9 m 20 n 2 = some (11, n) := (Rg_20 h2).trans rfl
      refine y_t (n_iln 55 rfl rfl rfl) <| y_t (n_bi 57 40 rfl rfl rfl) <| y_t (n_iif 60 rfl rfl hlt rfl) <| y_t (n_aln 61 rfl rfl rfl) <| y_t (n_gr 64 (some (11, n)) rfl (by decide +kernel) hg rfl) <| y_t (n_iln 65 rfl rfl rfl) <| y_t (n_new 68 (s := 14) rfl (by decide +kernel) rfl) <| y_t (n_dupr 69 rfl rfl) <| ?_
      show rn 39 (69, _, .inr (.inr (some (14, c 14))) :: .inr (.inr (some (14, c 14))) :: _, (a_clr 0 I 14 (c 14), a_clr none (Rg w n S j l S9 m) 14 (c 14), a_clr 0 L 14 (c 14), a_inc c 14, cl + 1, sl + 10)) = _
      rw [h14]
      refine y_t (n_xp [.inr (.inr (some (14, 40 * n + j)))] [.inr (.inr (some (14, 40 * n + j))), .inl (nI j), .inr (.inr (some (11, n)))] rfl (g := 6) (kd := 6) (n := 1) (by decide +kernel) rfl rfl rfl rfl rfl (n_k6 (by decide +kernel))) ?_
      refine (bk_n (N_6 _ _ _ _ _ _ _)).trans ?_
      rw [show a_inc c 14 6 = 40 * n + j from by rw [gN, h6]; rfl, Rg_14]
      refine y_t (n_aas 73 j (n := (11, n)) (x := (14, 40 * n + j)) rfl rfl (show a_inb (nI j) 40 = true from z_in (by omega) (by decide)) (nI_clamp (by omega)) rfl) ?_
      show rn 39 (73, _, _, (_, a_setR (Rg w n S j l S9 m) 11 n j (some (14, 40 * n + j)), _)) = _
      rw [Rg_rec (by omega)]
      refine y_t (n_inc 76 [some (.inr (.inr (some (20, n)))), some (.inl (nI j + 1))] rfl rfl rfl rfl) <| y_t (n_go 54 rfl rfl) ?_
      rw [nI_1]
      rw [show cl + 2 * (d + 1) = cl + 1 + 1 + 2 * d by omega, show sl + 34 * (d + 1) = sl + 10 + 24 + 34 * d by omega]
      exact i1
    · rw [i4, gN, gN]
      by_cases h1 : s = 14
      · subst h1; simp; omega
      · by_cases h2 : s = 6
        · subst h2; simp; omega
        · simp [h1, h2]
theorem N_39C {S S9 : List Nat} {j m : Nat} (h2 : 4 ∈ S) (d : Nat) : ∀ (l : Nat) (I : aI) (L : Nat → Nat → Nat → Int64) (c : Nat → Nat) (cl sl : Nat), l + d = 60 → c 15 = 60 * n + l → c 4 = 60 * n + l → c 5 = 60 * n + l → ∃ I' L' c' d1, rn 39 (81, [some (.inr (.inr (some (20, n)))), some (.inl (nI l))], [], (I, Rg w n S j l S9 m, L, c, cl, sl)) = rn 39 (106, [some (.inr (.inr (some (20, n)))), d1], [], (I', Rg w n S j 60 S9 m, L', c', cl + 3 * d, sl + 87 * d)) ∧ Fn n I I' ∧ Lk2 L L' ∧ ∀ s, c' s = c s + if s = 15 ∨ s = 4 ∨ s = 5 then d else 0 := by
  induction d with
  | zero =>
    intro l I L c cl sl hj h15 h4 h5
    have : l = 60 := by omega
    subst this
    refine ⟨I, L, c, some (.inl (nI 60)), ?_, Fn.refl n I, Lk2.refl L, fun s => by split <;> rfl⟩
    exact y_t (n_iln 82 rfl rfl rfl) <| y_t (n_bi 84 60 rfl rfl rfl) <| n_iit 106 rfl rfl (by decide) rfl
  | succ d ih =>
    intro l I L c cl sl hj h15 h4 h5
    obtain ⟨I', L', c', d1, i1, i2, i3, i4⟩ := ih (l + 1) (a_clr 0 (a_clr 0 (a_clr 0 I 15 (60 * n + l)) 4 (60 * n + l)) 5 (60 * n + l)) (a_clr 0 (a_clr 0 (a_clr 0 L 15 (60 * n + l)) 4 (60 * n + l)) 5 (60 * n + l)) (a_inc (a_inc (a_inc c 15) 4) 5) (cl + 1 + 1 + 1) (sl + 7 + 40 + 40) (by omega) (by rw [gN, gN, gN, h15]; rfl) (by rw [gN, gN, gN, h4]; rfl) (by rw [gN, gN, gN, h5]; rfl)
    refine ⟨I', L', c', d1, ?_, (((clr_fn I (Or.inl (show own n 15 (60 * n + l) from own_c (by omega)))).trans (clr_fn _ (Or.inl (show own n 4 (60 * n + l) from own_c (by omega))))).trans (clr_fn _ (Or.inl (show own n 5 (60 * n + l) from own_c (by omega))))).trans i2, (((clr_lk L (by omega)).trans (clr_lk _ (by omega))).trans (clr_lk _ (by omega))).trans i3, fun s => ?_⟩
    · have hlt : a_cmp .ge (nI l) 60 = false := by
        show decide ((60 : Int32) ≤ nI l) = false
        exact decide_eq_false (nI_ge (b := 60) (by omega) (by omega))
      have hg : Rg w n S j l S9 m 20 n 4 = some (12, n) := (Rg_20 h2).trans rfl
      refine y_t (n_iln 82 rfl rfl rfl) <| y_t (n_bi 84 60 rfl rfl rfl) <| y_t (n_iif 87 rfl rfl hlt rfl) <| y_t (n_aln 88 rfl rfl rfl) <| y_t (n_gr 91 (some (12, n)) rfl (by decide +kernel) hg rfl) <| y_t (n_iln 92 rfl rfl rfl) <| y_t (n_new 95 (s := 15) rfl (by decide +kernel) rfl) <| y_t (n_dupr 96 rfl rfl) <| ?_
      show rn 39 (96, _, .inr (.inr (some (15, c 15))) :: .inr (.inr (some (15, c 15))) :: _, (a_clr 0 I 15 (c 15), a_clr none (Rg w n S j l S9 m) 15 (c 15), a_clr 0 L 15 (c 15), a_inc c 15, cl + 1, sl + 7)) = _
      rw [h15]
      refine y_t (n_xp [.inr (.inr (some (15, 60 * n + l)))] [.inr (.inr (some (15, 60 * n + l))), .inl (nI l), .inr (.inr (some (12, n)))] rfl (g := 0) (kd := 6) (n := 1) (by decide +kernel) rfl rfl rfl rfl rfl (n_k6 (by decide +kernel))) ?_
      refine (bk_n (N_0 _ _ _ _ _ _ _)).trans ?_
      rw [show a_inc c 15 4 = 60 * n + l from by rw [gN, h4]; rfl, show a_inc c 15 5 = 60 * n + l from by rw [gN, h5]; rfl, Rg_15]
      refine y_t (n_aas 100 l (n := (12, n)) (x := (15, 60 * n + l)) rfl rfl (show a_inb (nI l) 60 = true from z_in (by omega) (by decide)) (nI_clamp (by omega)) rfl) ?_
      show rn 39 (100, _, _, (_, a_setR (Rg w n S j l S9 m) 12 n l (some (15, 60 * n + l)), _)) = _
      rw [Rg_con (by omega)]
      refine y_t (n_inc 103 [some (.inr (.inr (some (20, n)))), some (.inl (nI l + 1))] rfl rfl rfl rfl) <| y_t (n_go 81 rfl rfl) ?_
      rw [nI_1]
      rw [show cl + 3 * (d + 1) = cl + 1 + 1 + 1 + 3 * d by omega, show sl + 87 * (d + 1) = sl + 7 + 40 + 40 + 87 * d by omega]
      exact i1
    · rw [i4, gN, gN, gN]
      by_cases h1 : s = 15
      · subst h1; simp; omega
      · by_cases h2 : s = 4
        · subst h2; simp; omega
        · by_cases h3 : s = 5
          · subst h3; simp; omega
          · simp [h1, h2, h3]
/-- how many cells there are when n simulations are made -/
def Cn (c : Nat → Nat) (n : Nat) : Prop := (∀ s, (s = 20 ∨ s = 9 ∨ s = 10 ∨ s = 11 ∨ s = 12 ∨ s = 13 ∨ s = 16 ∨ s = 17) → c s = n) ∧ c 14 = 40 * n ∧ c 6 = 40 * n ∧ c 15 = 60 * n ∧ c 4 = 60 * n ∧ c 5 = 60 * n ∧ c 18 = 4 * n ∧ c 19 = 4 * n
theorem N_39 (I : aI) (k : aQ) (hc : Cn k.2.1 n) (r : aR) : ∃ I' k', rn 39 (a_en 39 [.inr (.inr (some (20, n)))] (a_mk (MM I w k) 20 10)) = some (.inl none, MM I' w k') ∧ Sim 0 n I' (m_bg r) ∧ Fn n I I' ∧ Cn k'.2.1 (n + 1) ∧ (∀ s, (s < 4 ∨ 20 < s) → k'.2.1 s = k.2.1 s) ∧ Lk2 k.1 k'.1 ∧ k'.2.2.1 = k.2.2.1 + 276 ∧ k'.2.2.2 = k.2.2.2 + 6766 := by
  obtain ⟨L, c, cl, sl⟩ := k
  have hc : Cn c n := hc
  obtain ⟨h1, h14, h6, h15, h4, h5, h18, h19⟩ := hc
  have h20 : c 20 = n := h1 20 (by omega)
  -- the sky
  obtain ⟨I1, hI1⟩ : ∃ I1, I1 = a_clr 0 (a_clr 0 I 20 n) 9 n := ⟨_, rfl⟩
  obtain ⟨L1, hL1⟩ : ∃ L1, L1 = a_clr 0 (a_clr 0 L 20 n) 9 n := ⟨_, rfl⟩
  obtain ⟨c1, hc1⟩ : ∃ c1, c1 = a_inc (a_inc c 20) 9 := ⟨_, rfl⟩
  have e1 : ∀ s, c1 s = c s + (if s = 20 then 1 else 0) + (if s = 9 then 1 else 0) := fun s => by rw [hc1, gN, gN]
  have fI1 : Fn n I I1 := by rw [hI1]; exact (clr_fn I (Or.inl (show own n 20 n from rfl))).trans (clr_fn _ (Or.inl (show own n 9 n from rfl)))
  have fL1 : Lk2 L L1 := by rw [hL1]; exact (clr_lk L (by omega)).trans (clr_lk _ (by omega))
  obtain ⟨I2, L2, c2, p1, p2, p3, p4⟩ := N_71 (w := w) (n := n) (S := []) (j := 40) (l := 60) I1 L1 c1 (cl + 1 + 1) (sl + 10 + 6) (by rw [e1]; exact h1 16 (by omega)) (by rw [e1]; exact h1 17 (by omega)) (by rw [e1]; exact h18) (by rw [e1]; exact h19)
  have e2 : ∀ s, c2 s = c s + (if s = 20 then 1 else 0) + (if s = 9 then 1 else 0) + (if s = 18 ∨ s = 19 then 4 else 0) + (if s = 16 ∨ s = 17 then 1 else 0) := fun s => by rw [p4, e1]
  have e2s : ∀ s, s = 10 ∨ s = 11 ∨ s = 12 ∨ s = 13 → c2 s = n := fun s hs => by
    rw [e2, h1 s (by omega), if_neg (by omega), if_neg (by omega), if_neg (by omega), if_neg (by omega)]; rfl
  obtain ⟨I3, hI3⟩ : ∃ I3, I3 = a_clr 0 (a_clr 0 (a_clr 0 (a_clr 0 I2 10 n) 11 n) 12 n) 13 n := ⟨_, rfl⟩
  obtain ⟨L3, hL3⟩ : ∃ L3, L3 = a_clr 0 (a_clr 0 (a_clr 0 (a_clr 0 L2 10 n) 11 n) 12 n) 13 n := ⟨_, rfl⟩
  obtain ⟨c3, hc3⟩ : ∃ c3, c3 = a_inc (a_inc (a_inc (a_inc c2 10) 11) 12) 13 := ⟨_, rfl⟩
  have e3 : ∀ s, c3 s = c2 s + (if s = 10 then 1 else 0) + (if s = 11 then 1 else 0) + (if s = 12 then 1 else 0) + (if s = 13 then 1 else 0) := fun s => by rw [hc3, gN, gN, gN, gN]
  have fI3 : Fn n I2 I3 := by rw [hI3]; exact (((clr_fn I2 (Or.inl (show own n 10 n from rfl))).trans (clr_fn _ (by omega))).trans (clr_fn _ (by omega))).trans (clr_fn _ (Or.inl (show own n 13 n from rfl)))
  have fL3 : Lk2 L2 L3 := by rw [hL3]; exact (((clr_lk L2 (by omega)).trans (clr_lk _ (by omega))).trans (clr_lk _ (by omega))).trans (clr_lk _ (by omega))
  obtain ⟨I4, L4, c4, q1, q2, q3, q4⟩ := N_39R (w := w) (n := n) (S := [6, 4, 2, 1, 0]) (S9 := [5, 4]) (l := 0) (m := 4) (by decide) 40 0 I3 L3 c3 (cl + 1 + 1 + 10 + 1 + 1 + 1 + 1) (sl + 10 + 6 + 56 + 6 + 40 + 60 + 8) (by omega) (by rw [e3, e2, h14]; rfl) (by rw [e3, e2, h6]; rfl)
  obtain ⟨I5, L5, c5, d1, s1, s2, s3, s4⟩ := N_39C (w := w) (n := n) (S := [6, 4, 2, 1, 0]) (S9 := [5, 4]) (j := 40) (m := 4) (by decide) 60 0 I4 L4 c4 (cl + 1 + 1 + 10 + 1 + 1 + 1 + 1 + 2 * 40) (sl + 10 + 6 + 56 + 6 + 40 + 60 + 8 + 34 * 40) (by omega) (by rw [q4, e3, e2, h15]; rfl) (by rw [q4, e3, e2, h4]; rfl) (by rw [q4, e3, e2, h5]; rfl)
  rw [Rg_all] at s1
  obtain ⟨I6, t1, t2, t3⟩ := C_40 I5 w (L5, c5, cl + 1 + 1 + 10 + 1 + 1 + 1 + 1 + 2 * 40 + 3 * 60, sl + 10 + 6 + 56 + 6 + 40 + 60 + 8 + 34 * 40 + 87 * 60) n r
  have e5 : ∀ s, c5 s = c s + (if s = 20 then 1 else 0) + (if s = 9 then 1 else 0) + (if s = 18 ∨ s = 19 then 4 else 0) + (if s = 16 ∨ s = 17 then 1 else 0) + (if s = 10 then 1 else 0) + (if s = 11 then 1 else 0) + (if s = 12 then 1 else 0) + (if s = 13 then 1 else 0) + (if s = 14 ∨ s = 6 then 40 else 0) + (if s = 15 ∨ s = 4 ∨ s = 5 then 60 else 0) := fun s => by rw [s4, q4, e3, e2]
  refine ⟨I6, (L5, c5, cl + 1 + 1 + 10 + 1 + 1 + 1 + 1 + 2 * 40 + 3 * 60, sl + 10 + 6 + 56 + 6 + 40 + 60 + 8 + 34 * 40 + 87 * 60), ?_, t2, (((((fI1.trans p2).trans fI3).trans q2).trans s2)).trans t3.fn, ⟨fun s hs => ?_, ?_, ?_, ?_, ?_, ?_, ?_, ?_⟩, fun s hs => ?_, ((((fL1.trans p3).trans fL3).trans q3).trans s3), by show cl + 1 + 1 + 10 + 1 + 1 + 1 + 1 + 2 * 40 + 3 * 60 = cl + 276; omega, by show sl + 10 + 6 + 56 + 6 + 40 + 60 + 8 + 34 * 40 + 87 * 60 = sl + 6766; omega⟩
  · show rn 39 (0, [some (.inr (.inr (some (20, n)))), none], [], (a_clr 0 I 20 (c 20), a_clr none (wr w) 20 (c 20), a_clr 0 L 20 (c 20), a_inc c 20, cl + 1, sl + 10)) = _
    rw [h20, Rg_c20]
    refine y_t (n_aln 1 rfl rfl rfl) <| y_t (n_ob 4 (g := 0) rfl (by decide +kernel) (by decide +kernel) (by decide +kernel) rfl) <| y_t (n_aln 5 rfl rfl rfl) <| y_t (n_new 8 (s := 9) rfl (by decide +kernel) rfl) <| y_t (n_dupr 9 rfl rfl) ?_
    have e9 : a_inc c 20 9 = n := by rw [gN, h1 9 (by omega)]; rfl
    show rn 39 (9, _, .inr (.inr (some (9, a_inc c 20 9))) :: .inr (.inr (some (9, a_inc c 20 9))) :: _, (a_clr 0 (a_clr 0 I 20 n) 9 (a_inc c 20 9), a_clr none (Rg w n [] 40 60 [5, 4] 4) 9 (a_inc c 20 9), a_clr 0 (a_clr 0 L 20 n) 9 (a_inc c 20 9), a_inc (a_inc c 20) 9, cl + 1 + 1, sl + 10 + 6)) = _
    rw [e9, Rg_c9, ← hI1, ← hL1, ← hc1]
    refine y_t (n_xp [.inr (.inr (some (9, n)))] [.inr (.inr (some (9, n))), .inr (.inr (some (20, n)))] rfl (g := 71) (kd := 2) (n := 1) (by decide +kernel) rfl rfl rfl rfl rfl (n_k2 (by decide +kernel))) ?_
    refine (bk_n p1).trans ?_
    refine y_t (n_pr 15 (s := 20) (q := n) (j := 0) rfl (by decide +kernel) (by decide +kernel) rfl) ?_
    show rn 39 (15, _, _, (I2, a_setR (Rg w n [] 40 60 [5, 4] 4) 20 n 0 (some (9, n)), L2, c2, cl + 1 + 1 + 10, sl + 10 + 6 + 56)) = _
    rw [Rg_set (show wr w 20 n 0 = some (9, n) from rfl)]
    refine y_t (n_aln 16 rfl rfl rfl) <| y_t (n_new 19 (s := 10) rfl (by decide +kernel) rfl) <| y_t (n_dupr 20 rfl rfl) ?_
    show rn 39 (20, _, .inr (.inr (some (10, c2 10))) :: .inr (.inr (some (10, c2 10))) :: _, (a_clr 0 I2 10 (c2 10), a_clr none (Rg w n [0] 40 60 [5, 4] 4) 10 (c2 10), a_clr 0 L2 10 (c2 10), a_inc c2 10, cl + 1 + 1 + 10 + 1, sl + 10 + 6 + 56 + 6)) = _
    rw [e2s 10 (by omega), Rg_rg (by omega) (fun _ => rfl)]
    refine y_t (n_xp [.inr (.inr (some (10, n)))] [.inr (.inr (some (10, n))), .inr (.inr (some (20, n)))] rfl (g := 15) (kd := 6) (n := 1) (by decide +kernel) rfl rfl rfl rfl rfl (n_k6 (by decide +kernel))) ?_
    refine (bk_n (N_15 _ n)).trans ?_
    refine y_t (n_pr 26 (s := 20) (q := n) (j := 1) rfl (by decide +kernel) (by decide +kernel) rfl) ?_
    show rn 39 (26, _, _, (a_clr 0 I2 10 n, a_setR (Rg w n [0] 40 60 [5, 4] 4) 20 n 1 (some (10, n)), a_clr 0 L2 10 n, a_inc c2 10, cl + 1 + 1 + 10 + 1, sl + 10 + 6 + 56 + 6)) = _
    rw [Rg_set (show wr w 20 n 1 = some (10, n) from rfl)]
    refine y_t (n_aln 27 rfl rfl rfl) <| y_t (n_bi 29 40 rfl rfl rfl) <| y_t (n_an 32 (s := 11) rfl (by decide +kernel) (by decide +kernel) rfl) <| y_t (n_pr 35 (s := 20) (q := n) (j := 2) rfl (by decide +kernel) (by decide +kernel) rfl) ?_
    have e11 : a_inc c2 10 11 = n := by rw [gN, e2s 11 (by omega)]; rfl
    show rn 39 (35, _, _, (a_clr 0 (a_clr 0 I2 10 n) 11 (a_inc c2 10 11), a_setR (a_clr none (Rg w n [1, 0] 40 60 [5, 4] 4) 11 (a_inc c2 10 11)) 20 n 2 (some (11, a_inc c2 10 11)), a_clr 0 (a_clr 0 L2 10 n) 11 (a_inc c2 10 11), a_inc (a_inc c2 10) 11, cl + 1 + 1 + 10 + 1 + 1, sl + 10 + 6 + 56 + 6 + 40)) = _
    rw [e11, Rg_c11, Rg_set (show wr w 20 n 2 = some (11, n) from rfl)]
    refine y_t (n_aln 36 rfl rfl rfl) <| y_t (n_bi 38 60 rfl rfl rfl) <| y_t (n_an 41 (s := 12) rfl (by decide +kernel) (by decide +kernel) rfl) <| y_t (n_pr 44 (s := 20) (q := n) (j := 4) rfl (by decide +kernel) (by decide +kernel) rfl) ?_
    have e12 : a_inc (a_inc c2 10) 11 12 = n := by rw [gN, gN, e2s 12 (by omega)]; rfl
    show rn 39 (44, _, _, (a_clr 0 (a_clr 0 (a_clr 0 I2 10 n) 11 n) 12 (a_inc (a_inc c2 10) 11 12), a_setR (a_clr none (Rg w n [2, 1, 0] 0 60 [5, 4] 4) 12 (a_inc (a_inc c2 10) 11 12)) 20 n 4 (some (12, a_inc (a_inc c2 10) 11 12)), a_clr 0 (a_clr 0 (a_clr 0 L2 10 n) 11 n) 12 (a_inc (a_inc c2 10) 11 12), a_inc (a_inc (a_inc c2 10) 11) 12, cl + 1 + 1 + 10 + 1 + 1 + 1, sl + 10 + 6 + 56 + 6 + 40 + 60)) = _
    rw [e12, Rg_c12, Rg_set (show wr w 20 n 4 = some (12, n) from rfl)]
    refine y_t (n_aln 45 rfl rfl rfl) <| y_t (n_bi 47 8 rfl rfl rfl) <| y_t (n_na 49 (s := 13) rfl (by decide +kernel) (by decide +kernel) rfl) <| y_t (n_pr 52 (s := 20) (q := n) (j := 6) rfl (by decide +kernel) (by decide +kernel) rfl) ?_
    have e13 : a_inc (a_inc (a_inc c2 10) 11) 12 13 = n := by rw [gN, gN, gN, e2s 13 (by omega)]; rfl
    show rn 39 (52, _, _, (a_clr 0 (a_clr 0 (a_clr 0 (a_clr 0 I2 10 n) 11 n) 12 n) 13 (a_inc (a_inc (a_inc c2 10) 11) 12 13), a_setR (a_clr none (Rg w n [4, 2, 1, 0] 0 0 [5, 4] 4) 13 (a_inc (a_inc (a_inc c2 10) 11) 12 13)) 20 n 6 (some (13, a_inc (a_inc (a_inc c2 10) 11) 12 13)), a_clr 0 (a_clr 0 (a_clr 0 (a_clr 0 L2 10 n) 11 n) 12 n) 13 (a_inc (a_inc (a_inc c2 10) 11) 12 13), a_inc (a_inc (a_inc (a_inc c2 10) 11) 12) 13, cl + 1 + 1 + 10 + 1 + 1 + 1 + 1, sl + 10 + 6 + 56 + 6 + 40 + 60 + 8)) = _
    rw [e13, Rg_rg (by omega) (fun _ => rfl), Rg_set (show wr w 20 n 6 = some (13, n) from rfl), ← hI3, ← hL3, ← hc3]
    refine y_t (n_ic 53 0 rfl rfl rfl) <| y_t (n_isn 54 [some (.inr (.inr (some (20, n)))), some (.inl 0)] rfl rfl rfl rfl) ?_
    refine q1.trans ?_
    refine s1.trans ?_
    refine y_t (n_aln 107 rfl rfl rfl) <| y_t (n_xv [.inr (.inr (some (20, n)))] [] rfl (g := 40) (kd := 0) (n := 1) (by decide +kernel) rfl rfl rfl rfl rfl (y_rk fR_40_20)) ?_
    refine (bk_n t1).trans ?_
    exact n_rv rfl (by decide +kernel)
  · show c5 s = n + 1
    rw [e5, h1 s hs]
    rcases hs with rfl | rfl | rfl | rfl | rfl | rfl | rfl | rfl <;> simp
  · show c5 14 = _
    rw [e5, h14]; simp; omega
  · show c5 6 = _
    rw [e5, h6]; simp; omega
  · show c5 15 = _
    rw [e5, h15]; simp; omega
  · show c5 4 = _
    rw [e5, h4]; simp; omega
  · show c5 5 = _
    rw [e5, h5]; simp; omega
  · show c5 18 = _
    rw [e5, h18]; simp; omega
  · show c5 19 = _
    rw [e5, h19]; simp; omega
  · show c5 s = c s
    rw [e5]
    rw [if_neg (by omega), if_neg (by omega), if_neg (by omega), if_neg (by omega), if_neg (by omega), if_neg (by omega), if_neg (by omega), if_neg (by omega), if_neg (by omega), if_neg (by omega)]; rfl
end
