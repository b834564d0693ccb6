/-! ===== the constructors of a sky and a simulation ===== -/
/-- only cells of the simulation n were made -/
def Fn (n : Nat) (I I' : aI) : Prop := ∀ s y, ¬ own n s y → s ≠ 11 → s ≠ 12 → s ≠ 16 → I' s y = I s y
theorem Fn.refl (n : Nat) (I : aI) : Fn n I I := fun _ _ _ _ _ _ => rfl
theorem Fn.trans {n : Nat} {I J K : aI} (h : Fn n I J) (h2 : Fn n J K) : Fn n I K := fun s y a b c d => (h2 s y a b c d).trans (h s y a b c d)
theorem Fr.fn {n : Nat} {I J : aI} (h : Fr n I J) : Fn n I J := fun s y a _ _ _ => h s y a
theorem clr_fn {n s q : Nat} (I : aI) (h : own n s q ∨ s = 11 ∨ s = 12 ∨ s = 16) : Fn n I (a_clr 0 I s q) := fun s' y a b c d => by
  funext j
  rw [gK0, if_neg]
  rintro ⟨rfl, rfl⟩
  rcases h with z | z | z | z
  · exact a z
  · exact b z
  · exact c z
  · exact d z
/-- longs of other places -/
def Lk2 (L L' : Nat → Nat → Nat → Int64) : Prop := ∀ s, 20 < s → L' s = L s
theorem Lk2.refl (L : Nat → Nat → Nat → Int64) : Lk2 L L := fun _ _ => rfl
theorem Lk2.trans {L K J : Nat → Nat → Nat → Int64} (h : Lk2 L K) (h2 : Lk2 K J) : Lk2 L J := fun s z => (h2 s z).trans (h s z)
theorem clr_lk (L : Nat → Nat → Nat → Int64) {s q : Nat} (h : s ≤ 20) : Lk2 L (a_clr 0 L s q) := fun s' z => by
  funext y j
  rw [gK0, if_neg (by omega)]
theorem n_k2 {g : Nat} {x : aN} {as : List aV} (h : a_nt g = true) : a_rck 2 g (.inr (.inr (some x)) :: as) = true := by
  show (true && a_nt g) = true
  rw [h]; rfl
theorem n_k6 {g : Nat} {x : aN} {as : List aV} (h : a_nt g = true) : a_rck 6 g (.inr (.inr (some x)) :: as) = true := by
  show (true && a_nt g) = true
  rw [h]; rfl
/-! a new simulation over any wiring -/
theorem n_gi {f pc len : Nat} {ls : List (Option aV)} {st : List aV} {M : aM} (pc2 : Nat) {i : Instr} (v : aV) (hi : a_ins f pc = some (i, len)) (hq : ∀ M : aM, a_ex f pc len ls st M i = a_nx (pc + len, ls, v :: st, M)) (hp : pc + len = pc2) : rn f (pc, ls, st, M) = rn f (pc2, ls, v :: st, M) := by
  subst hp
  exact y_s hi (hq M)
theorem N_72 (I : aI) (R : Nat → Nat → Nat → Option aN) (k : aQ) (q : Nat) : rn 72 (a_en 72 [.inr (.inr (some (9, q)))] (I, R, k)) = some (.inl none, (a_setI (a_setI (a_setI (a_setI I 9 q 0 90) 9 q 1 24) 9 q 2 0) 9 q 3 0, R, k)) :=
  y_t (n_aln 1 rfl rfl rfl) <| y_t (n_bi 3 90 rfl rfl rfl) <| y_t (n_pf 6 (s := 9) (q := q) (j := 0) rfl (by decide +kernel) rfl rfl) <| y_t (n_aln 7 rfl rfl rfl) <| y_t (n_bi 9 24 rfl rfl rfl) <| y_t (n_pf 12 (s := 9) (q := q) (j := 1) rfl (by decide +kernel) rfl rfl) <| y_t (n_aln 13 rfl rfl rfl) <| y_t (n_ic 14 0 rfl rfl rfl) <| y_t (n_pf 17 (s := 9) (q := q) (j := 2) rfl (by decide +kernel) rfl rfl) <| y_t (n_aln 18 rfl rfl rfl) <| y_t (n_ic 19 0 rfl rfl rfl) <| y_t (n_pf 22 (s := 9) (q := q) (j := 3) rfl (by decide +kernel) rfl rfl) <| n_rv rfl (by decide +kernel)
theorem N_16 (I : aI) (R : Nat → Nat → Nat → Option aN) (k : aQ) (q : Nat) : rn 16 (a_en 16 [.inr (.inr (some (10, q)))] (I, R, k)) = some (.inl none, (a_setI (a_setI (a_setI (a_setI (a_setI (a_setI I 10 q 0 60) 10 q 1 1000) 10 q 2 30) 10 q 3 5) 10 q 4 300) 10 q 5 0, R, k)) :=
  y_t (n_aln 1 rfl rfl rfl) <| y_t (n_bi 3 60 rfl rfl rfl) <| y_t (n_pf 6 (s := 10) (q := q) (j := 0) rfl (by decide +kernel) rfl rfl) <| y_t (n_aln 7 rfl rfl rfl) <| y_t (n_si 10 1000 rfl rfl rfl) <| y_t (n_pf 13 (s := 10) (q := q) (j := 1) rfl (by decide +kernel) rfl rfl) <| y_t (n_aln 14 rfl rfl rfl) <| y_t (n_bi 16 30 rfl rfl rfl) <| y_t (n_pf 19 (s := 10) (q := q) (j := 2) rfl (by decide +kernel) rfl rfl) <| y_t (n_aln 20 rfl rfl rfl) <| y_t (n_ic 21 5 rfl rfl rfl) <| y_t (n_pf 24 (s := 10) (q := q) (j := 3) rfl (by decide +kernel) rfl rfl) <| y_t (n_aln 25 rfl rfl rfl) <| y_t (n_si 28 300 rfl rfl rfl) <| y_t (n_pf 31 (s := 10) (q := q) (j := 4) rfl (by decide +kernel) rfl rfl) <| y_t (n_aln 32 rfl rfl rfl) <| y_t (n_ic 33 0 rfl rfl rfl) <| y_t (n_pf 36 (s := 10) (q := q) (j := 5) rfl (by decide +kernel) rfl rfl) <| n_rv rfl (by decide +kernel)
theorem n_len {f pc len : Nat} {ls : List (Option aV)} {st : List aV} {M : aM} (pc2 : Nat) (v : Int32) {s q : Nat} (hi : a_ins f pc = some (.arraylength, len)) (hk : (Nat.ble 1 (a_sk s).1 && Nat.ble (a_sk s).1 5) = true) (hv : Int32.ofNat (a_ln M (s, q)) = v) (hp : pc + len = pc2) : rn f (pc, ls, .inr (.inr (some (s, q))) :: st, M) = rn f (pc2, ls, .inl v :: st, M) := by
  subst hp
  subst hv
  refine y_s hi ?_
  first
    | (delta a_ex; simp only [hk, cond_true]; done)
    | (delta a_ex; dsimp only; simp only [hk, cond_true]; rfl)
    | (delta a_ex; dsimp only; rw [hk]; rfl)
theorem n_ias {f pc len : Nat} {ls : List (Option aV)} {st : List aV} {M : aM} (pc2 n j : Nat) {x i : Int32} {s q : Nat} (hi : a_ins f pc = some (.iastore, len)) (hk : (Nat.beq (a_sk s).1 1 && Nat.ble 4 s) = true) (hn : a_ln M (s, q) = n) (hb : a_inb i n = true) (hj : i.toNatClampNeg = j) (hp : pc + len = pc2) : rn f (pc, ls, .inl x :: .inl i :: .inr (.inr (some (s, q))) :: st, M) = rn f (pc2, ls, st, (a_setI M.1 s q j x, M.2)) := by
  subst hp
  subst hj
  subst hn
  refine y_kt hi (b := a_inb i (a_ln M (s, q))) ?_ hb
  first
    | (delta a_ex; simp only [hk, cond_true]; done)
    | (delta a_ex; dsimp only; simp only [hk, cond_true]; rfl)
    | (delta a_ex; dsimp only; rw [hk]; rfl)
theorem N_308L (R : Nat → Nat → Nat → Option aN) (k : aQ) (q : Nat) (d : Nat) : ∀ (j : Nat) (I : aI), j + d = 8 → (∀ x, x < j → I 13 q x = 0) → ∃ J, rn 308 (5, [some (.inr (.inr (some (13, q)))), some (.inl 0), some (.inl (nI j)), some (.inl 8)], [], (I, R, k)) = some (.inl none, (J, R, k)) ∧ (∀ x, x < 8 → J 13 q x = 0) ∧ ∀ s y, ¬ (s = 13 ∧ y = q) → J s y = I s y := by
  induction d with
  | zero =>
    intro j I hj hx
    have : j = 8 := by omega
    subst this
    exact ⟨I, y_t (n_iln 6 rfl rfl rfl) <| y_t (n_iln 7 rfl rfl rfl) <| y_t (n_iit 20 rfl rfl (by decide) rfl) <| n_rv rfl (by decide +kernel), hx, fun _ _ _ => rfl⟩
  | succ d ih =>
    intro j I hj hx
    have hlt : a_cmp .ge (nI j) 8 = false := by
      show decide ((8 : Int32) ≤ nI j) = false
      exact decide_eq_false (nI_ge (b := 8) (by omega) (by omega))
    obtain ⟨J, j1, j2, j3⟩ := ih (j + 1) (a_setI I 13 q j 0) (by omega) (fun x hx2 => by
      rw [gI_u]
      by_cases h : x = j
      · subst h; rw [upd_s]
      · rw [upd_n _ _ _ h]; exact hx x (by omega))
    refine ⟨J, ?_, j2, fun s y h => (j3 s y h).trans (set_o h)⟩
    refine y_t (n_iln 6 rfl rfl rfl) <| y_t (n_iln 7 rfl rfl rfl) <| y_t (n_iif 10 rfl rfl hlt rfl) <| y_t (n_aln 11 rfl rfl rfl) <| y_t (n_iln 12 rfl rfl rfl) <| y_t (n_iln 13 rfl rfl rfl) <| y_t (n_ias 14 8 j (s := 13) (q := q) rfl rfl rfl (z_in (by omega) (by decide)) (nI_clamp (by omega)) rfl) <| y_t (n_inc 17 [some (.inr (.inr (some (13, q)))), some (.inl 0), some (.inl (nI j + 1)), some (.inl 8)] rfl rfl rfl rfl) <| y_t (n_go 5 rfl rfl) ?_
    rw [nI_1]
    exact j1
theorem N_308 (I : aI) (R : Nat → Nat → Nat → Option aN) (k : aQ) (q : Nat) : ∃ J, rn 308 (a_en 308 [.inr (.inr (some (13, q))), .inl 0] (I, R, k)) = some (.inl none, (J, R, k)) ∧ (∀ x, x < 8 → J 13 q x = 0) ∧ ∀ s y, ¬ (s = 13 ∧ y = q) → J s y = I s y := by
  obtain ⟨J, j1, j2, j3⟩ := N_308L R k q 8 0 I (by omega) (fun x hx => by omega)
  refine ⟨J, ?_, j2, j3⟩
  refine y_t (n_ic 1 0 rfl rfl rfl) <| y_t (n_isn 2 [some (.inr (.inr (some (13, q)))), some (.inl 0), some (.inl 0), none] rfl rfl rfl rfl) <| y_t (n_aln 3 rfl rfl rfl) <| y_t (n_len 4 8 (s := 13) (q := q) rfl rfl rfl rfl) <| y_t (n_isn 5 [some (.inr (.inr (some (13, q)))), some (.inl 0), some (.inl 0), some (.inl 8)] rfl rfl rfl rfl) ?_
  exact j1
theorem N_40 {n : Nat} (I : aI) {B : Nat → Nat → Nat → Option aN} (h0 : B 20 n 0 = some (9, n)) (h1 : B 20 n 1 = some (10, n)) (h6 : B 20 n 6 = some (13, n)) (k : aQ) (r : aR) : ∃ J, rn 40 (a_en 40 [.inr (.inr (some (20, n)))] (I, B, k)) = some (.inl none, (J, B, k)) ∧ Sim 0 n J (m_bg r) ∧ Fr n I J := by
  obtain ⟨I1, hI1⟩ : ∃ I1, I1 = a_setI (a_setI (a_setI (a_setI I 9 n 0 90) 9 n 1 24) 9 n 2 0) 9 n 3 0 := ⟨_, rfl⟩
  obtain ⟨I2, hI2⟩ : ∃ I2, I2 = a_setI (a_setI (a_setI (a_setI (a_setI (a_setI I1 10 n 0 60) 10 n 1 1000) 10 n 2 30) 10 n 3 5) 10 n 4 300) 10 n 5 0 := ⟨_, rfl⟩
  obtain ⟨I3, hI3⟩ : ∃ I3, I3 = a_setI (a_setI I2 20 n 3 0) 20 n 5 0 := ⟨_, rfl⟩
  obtain ⟨I4, f1, f2, f3⟩ := N_308 I3 B k n
  obtain ⟨I5, hI5⟩ : ∃ I5, I5 = a_setI (a_setI (a_setI I4 20 n 7 0) 20 n 8 0) 20 n 9 1 := ⟨_, rfl⟩
  have o1 : ∀ s q, ¬ (s = 9 ∧ q = n) → I1 s q = I s q := fun s q h => by rw [hI1, set_o h, set_o h, set_o h, set_o h]
  have o2 : ∀ s q, ¬ (s = 10 ∧ q = n) → I2 s q = I1 s q := fun s q h => by rw [hI2, set_o h, set_o h, set_o h, set_o h, set_o h, set_o h]
  have o3 : ∀ s q, ¬ (s = 20 ∧ q = n) → I3 s q = I2 s q := fun s q h => by rw [hI3, set_o h, set_o h]
  have o4 : ∀ s q, ¬ (s = 13 ∧ q = n) → I4 s q = I3 s q := f3
  have o5 : ∀ s q, ¬ (s = 20 ∧ q = n) → I5 s q = I4 s q := fun s q h => by rw [hI5, set_o h, set_o h, set_o h]
  refine ⟨I5, ?_, ?_, ?_⟩
  · refine y_t (n_aln 1 rfl rfl rfl) <| y_t (n_gr 4 (some (9, n)) rfl (by decide +kernel) h0 rfl) <| y_t (n_xv [.inr (.inr (some (9, n)))] [] rfl (g := 72) (kd := 0) (n := 1) (by decide +kernel) rfl rfl rfl rfl rfl (y_rk (by decide +kernel))) <| y_t (bk_n (N_72 I B k n)) ?_
    rw [← hI1]
    refine y_t (n_aln 8 rfl rfl rfl) <| y_t (n_gr 11 (some (10, n)) rfl (by decide +kernel) h1 rfl) <| y_t (n_xv [.inr (.inr (some (10, n)))] [] rfl (g := 16) (kd := 0) (n := 1) (by decide +kernel) rfl rfl rfl rfl rfl (y_rk (by decide +kernel))) <| y_t (bk_n (N_16 I1 B k n)) ?_
    rw [← hI2]
    refine y_t (n_aln 15 rfl rfl rfl) <| y_t (n_ic 16 0 rfl rfl rfl) <| y_t (n_pf 19 (s := 20) (q := n) (j := 3) rfl (by decide +kernel) rfl rfl) <| y_t (n_aln 20 rfl rfl rfl) <| y_t (n_ic 21 0 rfl rfl rfl) <| y_t (n_pf 24 (s := 20) (q := n) (j := 5) rfl (by decide +kernel) rfl rfl) ?_
    show rn 40 (24, _, _, (a_setI (a_setI I2 20 n 3 0) 20 n 5 0, B, k)) = _
    rw [← hI3]
    refine y_t (n_aln 25 rfl rfl rfl) <| y_t (n_gr 28 (some (13, n)) rfl (by decide +kernel) h6 rfl) <| y_t (n_ic 29 0 rfl rfl rfl) <| y_t (n_xs [.inr (.inr (some (13, n))), .inl 0] [] rfl (g := 308) (kd := 1) (n := 2) (by decide +kernel) rfl rfl rfl rfl rfl rfl) <| y_t (bk_n f1) ?_
    refine y_t (n_aln 33 rfl rfl rfl) <| y_t (n_ic 34 0 rfl rfl rfl) <| y_t (n_pf 37 (s := 20) (q := n) (j := 7) rfl (by decide +kernel) rfl rfl) <| y_t (n_aln 38 rfl rfl rfl) <| y_t (n_ic 39 0 rfl rfl rfl) <| y_t (n_pf 42 (s := 20) (q := n) (j := 8) rfl (by decide +kernel) rfl rfl) <| y_t (n_aln 43 rfl rfl rfl) <| y_t (n_ic 44 1 rfl rfl rfl) <| y_t (n_pf 47 (s := 20) (q := n) (j := 9) rfl (by decide +kernel) rfl rfl) ?_
    rw [hI5]
    exact n_rv rfl (by decide +kernel)
  · have e9 : I5 9 n = upd (upd (upd (upd (I 9 n) 0 90) 1 24) 2 0) 3 0 := by
      rw [o5 _ _ (by omega), o4 _ _ (by omega), o3 _ _ (by omega), o2 _ _ (by omega), hI1, gI_u, gI_u, gI_u, gI_u]
    have e10 : I5 10 n = upd (upd (upd (upd (upd (upd (I 10 n) 0 60) 1 1000) 2 30) 3 5) 4 300) 5 0 := by
      rw [o5 _ _ (by omega), o4 _ _ (by omega), o3 _ _ (by omega), hI2, gI_u, gI_u, gI_u, gI_u, gI_u, gI_u, o1 _ _ (by omega)]
    have e13 : ∀ j, j < 8 → I5 13 n j = 0 := fun j hj => by
      rw [o5 _ _ (by omega)]; exact f2 j hj
    have e20 : I5 20 n = upd (upd (upd (upd (upd (I 20 n) 3 0) 5 0) 7 0) 8 0) 9 1 := by
      rw [hI5, gI_u, gI_u, gI_u, o4 _ _ (by omega), hI3, gI_u, gI_u, o2 _ _ (by omega), o1 _ _ (by omega)]
    refine ⟨⟨?_, ?_, ?_, fun _ => ?_, ?_⟩, fun j hj => ?_, fun s hs => absurd hs (by rw [bg_S]; omega), ⟨id, fun a ha => absurd ha (by rw [bg_S]; omega), fun a b hab hb => absurd hb (by rw [bg_S]; omega)⟩, fun q hq => absurd hq (by rw [bg_R]; omega), fun c hc => absurd hc (by rw [bg_C]; omega)⟩
    · rw [e9]; exact ⟨rfl, rfl, rfl, rfl⟩
    · rw [e10]; exact ⟨rfl, rfl, rfl, rfl, rfl, rfl⟩
    · rw [e20]; exact ⟨rfl, rfl, rfl, rfl⟩
    · rw [e20]; rfl
    · rw [e20]; exact (by decide : (0 : Int32) ≤ 1)
    · rw [e13 j hj, bg_0 r (by omega) (by omega) (by omega) (by omega) (by omega) (by omega) (by omega) (by omega) (by omega)]
  · intro s q h
    have n9 : ¬ (s = 9 ∧ q = n) := fun z => h (by rw [z.1, z.2]; exact (rfl : n = n))
    have n10 : ¬ (s = 10 ∧ q = n) := fun z => h (by rw [z.1, z.2]; exact (rfl : n = n))
    have n13 : ¬ (s = 13 ∧ q = n) := fun z => h (by rw [z.1, z.2]; exact (rfl : n = n))
    have n20 : ¬ (s = 20 ∧ q = n) := fun z => h (by rw [z.1, z.2]; exact (rfl : n = n))
    rw [o5 _ _ n20, o4 _ _ n13, o3 _ _ n20, o2 _ _ n10, o1 _ _ n9]
section
variable {w : aW} {B : Nat → Nat → Nat → Option aN} {n : Nat}
theorem N_71L (hB : ∀ s, s ≠ 30 → B s = wr w s) {S S9 : List Nat} {j l : Nat} (h9 : 4 ∈ S9) (d : Nat) : ∀ (m : Nat) (I : aI) (L : Nat → Nat → Nat → Int64) (c : Nat → Nat) (cl sl : Nat), m + d = 4 → c 18 = 4 * n + m → c 19 = 4 * n + m → ∃ I' L' c', rn 71 (21, [some (.inr (.inr (some (9, n)))), some (.inl (nI m))], [], (I, Rg B n S j l S9 m, L, c, cl, sl)) = some (.inl none, (I', Rg B n S j l S9 4, L', c', cl + 2 * d, sl + 12 * d)) ∧ Fn n I I' ∧ Lk2 L L' ∧ ∀ s, c' s = c s + if s = 18 ∨ s = 19 then d else 0 := by
  induction d with
  | zero =>
    intro m I L c cl sl hm h18 h19
    have : m = 4 := by omega
    subst this
    refine ⟨I, L, c, ?_, Fn.refl n I, Lk2.refl L, fun s => by split <;> rfl⟩
    exact y_t (n_iln 22 rfl rfl rfl) <| y_t (n_ic 23 4 rfl rfl rfl) <| y_t (n_iit 45 rfl rfl (by decide) rfl) <| n_rv rfl (by decide +kernel)
  | succ d ih =>
    intro m I L c cl sl hm h18 h19
    obtain ⟨I', L', c', i1, i2, i3, i4⟩ := ih (m + 1) (a_clr 0 (a_clr 0 I 18 (4 * n + m)) 19 (4 * n + m)) (a_clr 0 (a_clr 0 L 18 (4 * n + m)) 19 (4 * n + m)) (a_inc (a_inc c 18) 19) (cl + 1 + 1) (sl + 7 + 5) (by omega) (by rw [gN, gN, h18]; simp only [if_true, ite_true]; rfl) (by rw [gN, gN, h19]; rfl)
    refine ⟨I', L', c', ?_, ((clr_fn I (Or.inl (show own n 18 (4 * n + m) from own_s (by omega)))).trans (clr_fn _ (Or.inl (show own n 19 (4 * n + m) from own_s (by omega))))).trans i2, ((clr_lk L (by omega)).trans (clr_lk _ (by omega))).trans i3, fun s => ?_⟩
    · have hlt : a_cmp .ge (nI m) 4 = false := by
        show decide ((4 : Int32) ≤ nI m) = false
        exact decide_eq_false (nI_ge (b := 4) (by omega) (by omega))
      have hg : Rg B n S j l S9 m 9 n 4 = some (16, n) := (Rg_9 hB h9).trans rfl
      refine y_t (n_iln 22 rfl rfl rfl) <| y_t (n_ic 23 4 rfl rfl rfl) <| y_t (n_iif 26 rfl rfl hlt rfl) <| y_t (n_aln 27 rfl rfl rfl) <| y_t (n_gr 30 (some (16, n)) rfl (by decide +kernel) hg rfl) <| y_t (n_iln 31 rfl rfl rfl) <| y_t (n_new 34 (s := 18) rfl (by decide +kernel) rfl) <| y_t (n_dupr 35 rfl rfl) <| ?_
      show rn 71 (35, _, .inr (.inr (some (18, c 18))) :: .inr (.inr (some (18, c 18))) :: _, (a_clr 0 I 18 (c 18), a_clr none (Rg B n S j l S9 m) 18 (c 18), a_clr 0 L 18 (c 18), a_inc c 18, cl + 1, sl + 7)) = _
      rw [h18]
      refine y_t (n_xp [.inr (.inr (some (18, 4 * n + m)))] [.inr (.inr (some (18, 4 * n + m))), .inl (nI m), .inr (.inr (some (16, n)))] rfl (g := 94) (kd := 6) (n := 1) (by decide +kernel) rfl rfl rfl rfl rfl (n_k6 (by decide +kernel))) ?_
      refine (bk_n (N_94 _ _ _ _ _ _ _)).trans ?_
      rw [show a_inc c 18 19 = 4 * n + m from by rw [gN, h19]; rfl, Rg_18 hB]
      refine y_t (n_aas 39 m (n := (16, n)) (x := (18, 4 * n + m)) rfl rfl (show a_inb (nI m) 4 = true from z_in (by omega) (by decide)) (nI_clamp (by omega)) rfl) ?_
      show rn 71 (39, _, _, (_, a_setR (Rg B n S j l S9 m) 16 n m (some (18, 4 * n + m)), _)) = _
      rw [Rg_sta hB (by omega)]
      refine y_t (n_inc 42 [some (.inr (.inr (some (9, n)))), some (.inl (nI m + 1))] rfl rfl rfl rfl) <| y_t (n_go 21 rfl rfl) ?_
      rw [nI_1]
      rw [show cl + 2 * (d + 1) = cl + 1 + 1 + 2 * d by omega, show sl + 12 * (d + 1) = sl + 7 + 5 + 12 * d by omega]
      exact i1
    · rw [i4, gN, gN]
      by_cases h1 : s = 18
      · subst h1; simp; omega
      · by_cases h2 : s = 19
        · subst h2; simp; omega
        · simp [h1, h2]
theorem N_71 (hB : ∀ s, s ≠ 30 → B s = wr w s) {S : List Nat} {j l : Nat} (I : aI) (L : Nat → Nat → Nat → Int64) (c : Nat → Nat) (cl sl : Nat) (h16 : c 16 = n) (h17 : c 17 = n) (h18 : c 18 = 4 * n) (h19 : c 19 = 4 * n) : ∃ I' L' c', rn 71 (a_en 71 [.inr (.inr (some (9, n)))] (I, Rg B n S j l [] 4, L, c, cl, sl)) = some (.inl none, (I', Rg B n S j l [5, 4] 4, L', c', cl + 10, sl + 56)) ∧ Fn n I I' ∧ Lk2 L L' ∧ ∀ s, c' s = c s + (if s = 18 ∨ s = 19 then 4 else 0) + (if s = 16 ∨ s = 17 then 1 else 0) := by
  obtain ⟨I', L', c', i1, i2, i3, i4⟩ := N_71L hB (n := n) (S := S) (S9 := [5, 4]) (j := j) (l := l) (by decide) 4 0 (a_clr 0 (a_clr 0 I 16 n) 17 n) (a_clr 0 (a_clr 0 L 16 n) 17 n) (a_inc (a_inc c 16) 17) (cl + 1 + 1) (sl + 4 + 4) (by omega) (by rw [gN, gN, h18]; rfl) (by rw [gN, gN, h19]; rfl)
  refine ⟨I', L', c', ?_, ((clr_fn I (by omega)).trans (clr_fn _ (Or.inl (show own n 17 n from rfl)))).trans i2, ((clr_lk L (by omega)).trans (clr_lk _ (by omega))).trans i3, fun s => ?_⟩
  · refine y_t (n_aln 1 rfl rfl rfl) <| y_t (n_ob 4 (g := 0) rfl (by decide +kernel) (by decide +kernel) (by decide +kernel) rfl) <| y_t (n_aln 5 rfl rfl rfl) <| y_t (n_ic 6 4 rfl rfl rfl) <| y_t (n_an 9 (s := 16) rfl (by decide +kernel) (by decide +kernel) rfl) <| y_t (n_pr 12 (s := 9) (q := n) (j := 4) rfl (by decide +kernel) (by decide +kernel) rfl) ?_
    show rn 71 (12, _, _, (a_clr 0 I 16 (c 16), a_setR (a_clr none (Rg B n S j l [] 4) 16 (c 16)) 9 n 4 (some (16, c 16)), a_clr 0 L 16 (c 16), a_inc c 16, cl + 1, sl + 4)) = _
    rw [h16, Rg_c16 hB, Rg_set9 hB (show wr w 9 n 4 = some (16, n) from rfl)]
    refine y_t (n_aln 13 rfl rfl rfl) <| y_t (n_ic 14 4 rfl rfl rfl) <| y_t (n_na 16 (s := 17) rfl (by decide +kernel) (by decide +kernel) rfl) <| y_t (n_pr 19 (s := 9) (q := n) (j := 5) rfl (by decide +kernel) (by decide +kernel) rfl) ?_
    have e17 : a_inc c 16 17 = n := by rw [gN, h17]; rfl
    show rn 71 (19, _, _, (a_clr 0 (a_clr 0 I 16 n) 17 (a_inc c 16 17), a_setR (a_clr none (Rg B n S j l [4] 0) 17 (a_inc c 16 17)) 9 n 5 (some (17, a_inc c 16 17)), a_clr 0 (a_clr 0 L 16 n) 17 (a_inc c 16 17), a_inc (a_inc c 16) 17, cl + 1 + 1, sl + 4 + 4)) = _
    rw [e17, Rg_rg hB (by omega) (by omega) (fun _ => rfl), Rg_set9 hB (show wr w 9 n 5 = some (17, n) from rfl)]
    refine y_t (n_ic 20 0 rfl rfl rfl) <| y_t (n_isn 21 [some (.inr (.inr (some (9, n)))), some (.inl 0)] rfl rfl rfl rfl) ?_
    refine i1.trans ?_
    rw [show cl + 1 + 1 + 2 * 4 = cl + 10 by omega, show sl + 4 + 4 + 12 * 4 = sl + 56 by omega]
  · rw [i4, gN, gN]
    by_cases h1 : s = 16
    · subst h1; simp
    · by_cases h2 : s = 17
      · subst h2; simp
      · simp [h1, h2]
theorem N_39R (hB : ∀ s, s ≠ 30 → B s = wr w s) {S S9 : List Nat} {l m : Nat} (h2 : 2 ∈ S) (d : Nat) : ∀ (j : Nat) (I : aI) (L : Nat → Nat → Nat → Int64) (c : Nat → Nat) (cl sl : Nat), j + d = 40 → c 14 = 40 * n + j → c 6 = 40 * n + j → ∃ I' L' c', rn 39 (54, [some (.inr (.inr (some (20, n)))), some (.inl (nI j))], [], (I, Rg B n S j l S9 m, L, c, cl, sl)) = rn 39 (81, [some (.inr (.inr (some (20, n)))), some (.inl 0)], [], (I', Rg B n S 40 l S9 m, L', c', cl + 2 * d, sl + 34 * d)) ∧ Fn n I I' ∧ Lk2 L L' ∧ ∀ s, c' s = c s + if s = 14 ∨ s = 6 then d else 0 := by
  induction d with
  | zero =>
    intro j I L c cl sl hj h14 h6
    have : j = 40 := by omega
    subst this
    refine ⟨I, L, c, ?_, Fn.refl n I, Lk2.refl L, fun s => by split <;> rfl⟩
    exact y_t (n_iln 55 rfl rfl rfl) <| y_t (n_bi 57 40 rfl rfl rfl) <| y_t (n_iit 79 rfl rfl (by decide) rfl) <| y_t (n_ic 80 0 rfl rfl rfl) <| n_isn 81 [some (.inr (.inr (some (20, n)))), some (.inl 0)] rfl rfl rfl rfl
  | succ d ih =>
    intro j I L c cl sl hj h14 h6
    obtain ⟨I', L', c', i1, i2, i3, i4⟩ := ih (j + 1) (a_clr 0 (a_clr 0 I 14 (40 * n + j)) 6 (40 * n + j)) (a_clr 0 (a_clr 0 L 14 (40 * n + j)) 6 (40 * n + j)) (a_inc (a_inc c 14) 6) (cl + 1 + 1) (sl + 10 + 24) (by omega) (by rw [gN, gN, h14]; rfl) (by rw [gN, gN, h6]; rfl)
    refine ⟨I', L', c', ?_, ((clr_fn I (Or.inl (show own n 14 (40 * n + j) from own_q (by omega)))).trans (clr_fn _ (Or.inl (show own n 6 (40 * n + j) from own_q (by omega))))).trans i2, ((clr_lk L (by omega)).trans (clr_lk _ (by omega))).trans i3, fun s => ?_⟩
    · have hlt : a_cmp .ge (nI j) 40 = false := by
        show decide ((40 : Int32) ≤ nI j) = false
        exact decide_eq_false (nI_ge (b := 40) (by omega) (by omega))
      have hg : Rg B n S j l S9 m 20 n 2 = some (11, n) := (Rg_20 hB h2).trans rfl
      refine y_t (n_iln 55 rfl rfl rfl) <| y_t (n_bi 57 40 rfl rfl rfl) <| y_t (n_iif 60 rfl rfl hlt rfl) <| y_t (n_aln 61 rfl rfl rfl) <| y_t (n_gr 64 (some (11, n)) rfl (by decide +kernel) hg rfl) <| y_t (n_iln 65 rfl rfl rfl) <| y_t (n_new 68 (s := 14) rfl (by decide +kernel) rfl) <| y_t (n_dupr 69 rfl rfl) <| ?_
      show rn 39 (69, _, .inr (.inr (some (14, c 14))) :: .inr (.inr (some (14, c 14))) :: _, (a_clr 0 I 14 (c 14), a_clr none (Rg B n S j l S9 m) 14 (c 14), a_clr 0 L 14 (c 14), a_inc c 14, cl + 1, sl + 10)) = _
      rw [h14]
      refine y_t (n_xp [.inr (.inr (some (14, 40 * n + j)))] [.inr (.inr (some (14, 40 * n + j))), .inl (nI j), .inr (.inr (some (11, n)))] rfl (g := 6) (kd := 6) (n := 1) (by decide +kernel) rfl rfl rfl rfl rfl (n_k6 (by decide +kernel))) ?_
      refine (bk_n (N_6 _ _ _ _ _ _ _)).trans ?_
      rw [show a_inc c 14 6 = 40 * n + j from by rw [gN, h6]; rfl, Rg_14 hB]
      refine y_t (n_aas 73 j (n := (11, n)) (x := (14, 40 * n + j)) rfl rfl (show a_inb (nI j) 40 = true from z_in (by omega) (by decide)) (nI_clamp (by omega)) rfl) ?_
      show rn 39 (73, _, _, (_, a_setR (Rg B n S j l S9 m) 11 n j (some (14, 40 * n + j)), _)) = _
      rw [Rg_rec hB (by omega)]
      refine y_t (n_inc 76 [some (.inr (.inr (some (20, n)))), some (.inl (nI j + 1))] rfl rfl rfl rfl) <| y_t (n_go 54 rfl rfl) ?_
      rw [nI_1]
      rw [show cl + 2 * (d + 1) = cl + 1 + 1 + 2 * d by omega, show sl + 34 * (d + 1) = sl + 10 + 24 + 34 * d by omega]
      exact i1
    · rw [i4, gN, gN]
      by_cases h1 : s = 14
      · subst h1; simp; omega
      · by_cases h2 : s = 6
        · subst h2; simp; omega
        · simp [h1, h2]
theorem N_39C (hB : ∀ s, s ≠ 30 → B s = wr w s) {S S9 : List Nat} {j m : Nat} (h2 : 4 ∈ S) (d : Nat) : ∀ (l : Nat) (I : aI) (L : Nat → Nat → Nat → Int64) (c : Nat → Nat) (cl sl : Nat), l + d = 60 → c 15 = 60 * n + l → c 4 = 60 * n + l → c 5 = 60 * n + l → ∃ I' L' c' d1, rn 39 (81, [some (.inr (.inr (some (20, n)))), some (.inl (nI l))], [], (I, Rg B n S j l S9 m, L, c, cl, sl)) = rn 39 (106, [some (.inr (.inr (some (20, n)))), d1], [], (I', Rg B n S j 60 S9 m, L', c', cl + 3 * d, sl + 87 * d)) ∧ Fn n I I' ∧ Lk2 L L' ∧ ∀ s, c' s = c s + if s = 15 ∨ s = 4 ∨ s = 5 then d else 0 := by
  induction d with
  | zero =>
    intro l I L c cl sl hj h15 h4 h5
    have : l = 60 := by omega
    subst this
    refine ⟨I, L, c, some (.inl (nI 60)), ?_, Fn.refl n I, Lk2.refl L, fun s => by split <;> rfl⟩
    exact y_t (n_iln 82 rfl rfl rfl) <| y_t (n_bi 84 60 rfl rfl rfl) <| n_iit 106 rfl rfl (by decide) rfl
  | succ d ih =>
    intro l I L c cl sl hj h15 h4 h5
    obtain ⟨I', L', c', d1, i1, i2, i3, i4⟩ := ih (l + 1) (a_clr 0 (a_clr 0 (a_clr 0 I 15 (60 * n + l)) 4 (60 * n + l)) 5 (60 * n + l)) (a_clr 0 (a_clr 0 (a_clr 0 L 15 (60 * n + l)) 4 (60 * n + l)) 5 (60 * n + l)) (a_inc (a_inc (a_inc c 15) 4) 5) (cl + 1 + 1 + 1) (sl + 7 + 40 + 40) (by omega) (by rw [gN, gN, gN, h15]; rfl) (by rw [gN, gN, gN, h4]; rfl) (by rw [gN, gN, gN, h5]; rfl)
    refine ⟨I', L', c', d1, ?_, (((clr_fn I (Or.inl (show own n 15 (60 * n + l) from own_c (by omega)))).trans (clr_fn _ (Or.inl (show own n 4 (60 * n + l) from own_c (by omega))))).trans (clr_fn _ (Or.inl (show own n 5 (60 * n + l) from own_c (by omega))))).trans i2, (((clr_lk L (by omega)).trans (clr_lk _ (by omega))).trans (clr_lk _ (by omega))).trans i3, fun s => ?_⟩
    · have hlt : a_cmp .ge (nI l) 60 = false := by
        show decide ((60 : Int32) ≤ nI l) = false
        exact decide_eq_false (nI_ge (b := 60) (by omega) (by omega))
      have hg : Rg B n S j l S9 m 20 n 4 = some (12, n) := (Rg_20 hB h2).trans rfl
      refine y_t (n_iln 82 rfl rfl rfl) <| y_t (n_bi 84 60 rfl rfl rfl) <| y_t (n_iif 87 rfl rfl hlt rfl) <| y_t (n_aln 88 rfl rfl rfl) <| y_t (n_gr 91 (some (12, n)) rfl (by decide +kernel) hg rfl) <| y_t (n_iln 92 rfl rfl rfl) <| y_t (n_new 95 (s := 15) rfl (by decide +kernel) rfl) <| y_t (n_dupr 96 rfl rfl) <| ?_
      show rn 39 (96, _, .inr (.inr (some (15, c 15))) :: .inr (.inr (some (15, c 15))) :: _, (a_clr 0 I 15 (c 15), a_clr none (Rg B n S j l S9 m) 15 (c 15), a_clr 0 L 15 (c 15), a_inc c 15, cl + 1, sl + 7)) = _
      rw [h15]
      refine y_t (n_xp [.inr (.inr (some (15, 60 * n + l)))] [.inr (.inr (some (15, 60 * n + l))), .inl (nI l), .inr (.inr (some (12, n)))] rfl (g := 0) (kd := 6) (n := 1) (by decide +kernel) rfl rfl rfl rfl rfl (n_k6 (by decide +kernel))) ?_
      refine (bk_n (N_0 _ _ _ _ _ _ _)).trans ?_
      rw [show a_inc c 15 4 = 60 * n + l from by rw [gN, h4]; rfl, show a_inc c 15 5 = 60 * n + l from by rw [gN, h5]; rfl, Rg_15 hB]
      refine y_t (n_aas 100 l (n := (12, n)) (x := (15, 60 * n + l)) rfl rfl (show a_inb (nI l) 60 = true from z_in (by omega) (by decide)) (nI_clamp (by omega)) rfl) ?_
      show rn 39 (100, _, _, (_, a_setR (Rg B n S j l S9 m) 12 n l (some (15, 60 * n + l)), _)) = _
      rw [Rg_con hB (by omega)]
      refine y_t (n_inc 103 [some (.inr (.inr (some (20, n)))), some (.inl (nI l + 1))] rfl rfl rfl rfl) <| y_t (n_go 81 rfl rfl) ?_
      rw [nI_1]
      rw [show cl + 3 * (d + 1) = cl + 1 + 1 + 1 + 3 * d by omega, show sl + 87 * (d + 1) = sl + 7 + 40 + 40 + 87 * d by omega]
      exact i1
    · rw [i4, gN, gN, gN]
      by_cases h1 : s = 15
      · subst h1; simp; omega
      · by_cases h2 : s = 4
        · subst h2; simp; omega
        · by_cases h3 : s = 5
          · subst h3; simp; omega
          · simp [h1, h2, h3]
/-- how many cells there are when n simulations are made -/
def Cn (c : Nat → Nat) (n : Nat) : Prop := (∀ s, (s = 20 ∨ s = 9 ∨ s = 10 ∨ s = 11 ∨ s = 12 ∨ s = 13 ∨ s = 16 ∨ s = 17) → c s = n) ∧ c 14 = 40 * n ∧ c 6 = 40 * n ∧ c 15 = 60 * n ∧ c 4 = 60 * n ∧ c 5 = 60 * n ∧ c 18 = 4 * n ∧ c 19 = 4 * n
theorem N_39 (hB : ∀ s, s ≠ 30 → B s = wr w s) (I : aI) (k : aQ) (hc : Cn k.2.1 n) (r : aR) : ∃ (I' : aI) (k' : aQ), rn 39 (a_en 39 [.inr (.inr (some (20, n)))] (a_mk (I, B, k.1, k.2.1, k.2.2.1, k.2.2.2) 20 10)) = some (.inl none, (I', B, k'.1, k'.2.1, k'.2.2.1, k'.2.2.2)) ∧ Sim 0 n I' (m_bg r) ∧ Fn n I I' ∧ Cn k'.2.1 (n + 1) ∧ (∀ s, (s < 4 ∨ 20 < s ∨ s = 7 ∨ s = 8) → k'.2.1 s = k.2.1 s) ∧ Lk2 k.1 k'.1 ∧ k'.2.2.1 = k.2.2.1 + 276 ∧ k'.2.2.2 = k.2.2.2 + 6766 := by
  obtain ⟨L, c, cl, sl⟩ := k
  have hc : Cn c n := hc
  obtain ⟨h1, h14, h6, h15, h4, h5, h18, h19⟩ := hc
  have h20 : c 20 = n := h1 20 (by omega)
  -- the sky
  obtain ⟨I1, hI1⟩ : ∃ I1, I1 = a_clr 0 (a_clr 0 I 20 n) 9 n := ⟨_, rfl⟩
  obtain ⟨L1, hL1⟩ : ∃ L1, L1 = a_clr 0 (a_clr 0 L 20 n) 9 n := ⟨_, rfl⟩
  obtain ⟨c1, hc1⟩ : ∃ c1, c1 = a_inc (a_inc c 20) 9 := ⟨_, rfl⟩
  have e1 : ∀ s, c1 s = c s + (if s = 20 then 1 else 0) + (if s = 9 then 1 else 0) := fun s => by rw [hc1, gN, gN]
  have fI1 : Fn n I I1 := by rw [hI1]; exact (clr_fn I (Or.inl (show own n 20 n from rfl))).trans (clr_fn _ (Or.inl (show own n 9 n from rfl)))
  have fL1 : Lk2 L L1 := by rw [hL1]; exact (clr_lk L (by omega)).trans (clr_lk _ (by omega))
  obtain ⟨I2, L2, c2, p1, p2, p3, p4⟩ := N_71 hB (n := n) (S := []) (j := 40) (l := 60) I1 L1 c1 (cl + 1 + 1) (sl + 10 + 6) (by rw [e1]; exact h1 16 (by omega)) (by rw [e1]; exact h1 17 (by omega)) (by rw [e1]; exact h18) (by rw [e1]; exact h19)
  have e2 : ∀ s, c2 s = c s + (if s = 20 then 1 else 0) + (if s = 9 then 1 else 0) + (if s = 18 ∨ s = 19 then 4 else 0) + (if s = 16 ∨ s = 17 then 1 else 0) := fun s => by rw [p4, e1]
  have e2s : ∀ s, s = 10 ∨ s = 11 ∨ s = 12 ∨ s = 13 → c2 s = n := fun s hs => by
    rw [e2, h1 s (by omega), if_neg (by omega), if_neg (by omega), if_neg (by omega), if_neg (by omega)]; rfl
  obtain ⟨I3, hI3⟩ : ∃ I3, I3 = a_clr 0 (a_clr 0 (a_clr 0 (a_clr 0 I2 10 n) 11 n) 12 n) 13 n := ⟨_, rfl⟩
  obtain ⟨L3, hL3⟩ : ∃ L3, L3 = a_clr 0 (a_clr 0 (a_clr 0 (a_clr 0 L2 10 n) 11 n) 12 n) 13 n := ⟨_, rfl⟩
  obtain ⟨c3, hc3⟩ : ∃ c3, c3 = a_inc (a_inc (a_inc (a_inc c2 10) 11) 12) 13 := ⟨_, rfl⟩
  have e3 : ∀ s, c3 s = c2 s + (if s = 10 then 1 else 0) + (if s = 11 then 1 else 0) + (if s = 12 then 1 else 0) + (if s = 13 then 1 else 0) := fun s => by rw [hc3, gN, gN, gN, gN]
  have fI3 : Fn n I2 I3 := by rw [hI3]; exact (((clr_fn I2 (Or.inl (show own n 10 n from rfl))).trans (clr_fn _ (by omega))).trans (clr_fn _ (by omega))).trans (clr_fn _ (Or.inl (show own n 13 n from rfl)))
  have fL3 : Lk2 L2 L3 := by rw [hL3]; exact (((clr_lk L2 (by omega)).trans (clr_lk _ (by omega))).trans (clr_lk _ (by omega))).trans (clr_lk _ (by omega))
  obtain ⟨I4, L4, c4, q1, q2, q3, q4⟩ := N_39R hB (n := n) (S := [6, 4, 2, 1, 0]) (S9 := [5, 4]) (l := 0) (m := 4) (by decide) 40 0 I3 L3 c3 (cl + 1 + 1 + 10 + 1 + 1 + 1 + 1) (sl + 10 + 6 + 56 + 6 + 40 + 60 + 8) (by omega) (by rw [e3, e2, h14]; rfl) (by rw [e3, e2, h6]; rfl)
  obtain ⟨I5, L5, c5, d1, s1, s2, s3, s4⟩ := N_39C hB (n := n) (S := [6, 4, 2, 1, 0]) (S9 := [5, 4]) (j := 40) (m := 4) (by decide) 60 0 I4 L4 c4 (cl + 1 + 1 + 10 + 1 + 1 + 1 + 1 + 2 * 40) (sl + 10 + 6 + 56 + 6 + 40 + 60 + 8 + 34 * 40) (by omega) (by rw [q4, e3, e2, h15]; rfl) (by rw [q4, e3, e2, h4]; rfl) (by rw [q4, e3, e2, h5]; rfl)
  rw [Rg_all hB] at s1
  obtain ⟨I6, t1, t2, t3⟩ := N_40 I5 (B := B) (show B 20 n 0 = some (9, n) by rw [hB 20 (by decide)]; rfl) (show B 20 n 1 = some (10, n) by rw [hB 20 (by decide)]; rfl) (show B 20 n 6 = some (13, n) by rw [hB 20 (by decide)]; rfl) (L5, c5, cl + 1 + 1 + 10 + 1 + 1 + 1 + 1 + 2 * 40 + 3 * 60, sl + 10 + 6 + 56 + 6 + 40 + 60 + 8 + 34 * 40 + 87 * 60) r
  have e5 : ∀ s, c5 s = c s + (if s = 20 then 1 else 0) + (if s = 9 then 1 else 0) + (if s = 18 ∨ s = 19 then 4 else 0) + (if s = 16 ∨ s = 17 then 1 else 0) + (if s = 10 then 1 else 0) + (if s = 11 then 1 else 0) + (if s = 12 then 1 else 0) + (if s = 13 then 1 else 0) + (if s = 14 ∨ s = 6 then 40 else 0) + (if s = 15 ∨ s = 4 ∨ s = 5 then 60 else 0) := fun s => by rw [s4, q4, e3, e2]
  refine ⟨I6, (L5, c5, cl + 1 + 1 + 10 + 1 + 1 + 1 + 1 + 2 * 40 + 3 * 60, sl + 10 + 6 + 56 + 6 + 40 + 60 + 8 + 34 * 40 + 87 * 60), ?_, t2, (((((fI1.trans p2).trans fI3).trans q2).trans s2)).trans t3.fn, ⟨fun s hs => ?_, ?_, ?_, ?_, ?_, ?_, ?_, ?_⟩, fun s hs => ?_, ((((fL1.trans p3).trans fL3).trans q3).trans s3), by show cl + 1 + 1 + 10 + 1 + 1 + 1 + 1 + 2 * 40 + 3 * 60 = cl + 276; omega, by show sl + 10 + 6 + 56 + 6 + 40 + 60 + 8 + 34 * 40 + 87 * 60 = sl + 6766; omega⟩
  · show rn 39 (0, [some (.inr (.inr (some (20, n)))), none], [], (a_clr 0 I 20 (c 20), a_clr none B 20 (c 20), a_clr 0 L 20 (c 20), a_inc c 20, cl + 1, sl + 10)) = _
    rw [h20, Rg_c20 hB]
    refine y_t (n_aln 1 rfl rfl rfl) <| y_t (n_ob 4 (g := 0) rfl (by decide +kernel) (by decide +kernel) (by decide +kernel) rfl) <| y_t (n_aln 5 rfl rfl rfl) <| y_t (n_new 8 (s := 9) rfl (by decide +kernel) rfl) <| y_t (n_dupr 9 rfl rfl) ?_
    have e9 : a_inc c 20 9 = n := by rw [gN, h1 9 (by omega)]; rfl
    show rn 39 (9, _, .inr (.inr (some (9, a_inc c 20 9))) :: .inr (.inr (some (9, a_inc c 20 9))) :: _, (a_clr 0 (a_clr 0 I 20 n) 9 (a_inc c 20 9), a_clr none (Rg B n [] 40 60 [5, 4] 4) 9 (a_inc c 20 9), a_clr 0 (a_clr 0 L 20 n) 9 (a_inc c 20 9), a_inc (a_inc c 20) 9, cl + 1 + 1, sl + 10 + 6)) = _
    rw [e9, Rg_c9 hB, ← hI1, ← hL1, ← hc1]
    refine y_t (n_xp [.inr (.inr (some (9, n)))] [.inr (.inr (some (9, n))), .inr (.inr (some (20, n)))] rfl (g := 71) (kd := 2) (n := 1) (by decide +kernel) rfl rfl rfl rfl rfl (n_k2 (by decide +kernel))) ?_
    refine (bk_n p1).trans ?_
    refine y_t (n_pr 15 (s := 20) (q := n) (j := 0) rfl (by decide +kernel) (by decide +kernel) rfl) ?_
    show rn 39 (15, _, _, (I2, a_setR (Rg B n [] 40 60 [5, 4] 4) 20 n 0 (some (9, n)), L2, c2, cl + 1 + 1 + 10, sl + 10 + 6 + 56)) = _
    rw [Rg_set hB (show wr w 20 n 0 = some (9, n) from rfl)]
    refine y_t (n_aln 16 rfl rfl rfl) <| y_t (n_new 19 (s := 10) rfl (by decide +kernel) rfl) <| y_t (n_dupr 20 rfl rfl) ?_
    show rn 39 (20, _, .inr (.inr (some (10, c2 10))) :: .inr (.inr (some (10, c2 10))) :: _, (a_clr 0 I2 10 (c2 10), a_clr none (Rg B n [0] 40 60 [5, 4] 4) 10 (c2 10), a_clr 0 L2 10 (c2 10), a_inc c2 10, cl + 1 + 1 + 10 + 1, sl + 10 + 6 + 56 + 6)) = _
    rw [e2s 10 (by omega), Rg_rg hB (by omega) (by omega) (fun _ => rfl)]
    refine y_t (n_xp [.inr (.inr (some (10, n)))] [.inr (.inr (some (10, n))), .inr (.inr (some (20, n)))] rfl (g := 15) (kd := 6) (n := 1) (by decide +kernel) rfl rfl rfl rfl rfl (n_k6 (by decide +kernel))) ?_
    refine (bk_n (N_15 _ n)).trans ?_
    refine y_t (n_pr 26 (s := 20) (q := n) (j := 1) rfl (by decide +kernel) (by decide +kernel) rfl) ?_
    show rn 39 (26, _, _, (a_clr 0 I2 10 n, a_setR (Rg B n [0] 40 60 [5, 4] 4) 20 n 1 (some (10, n)), a_clr 0 L2 10 n, a_inc c2 10, cl + 1 + 1 + 10 + 1, sl + 10 + 6 + 56 + 6)) = _
    rw [Rg_set hB (show wr w 20 n 1 = some (10, n) from rfl)]
    refine y_t (n_aln 27 rfl rfl rfl) <| y_t (n_bi 29 40 rfl rfl rfl) <| y_t (n_an 32 (s := 11) rfl (by decide +kernel) (by decide +kernel) rfl) <| y_t (n_pr 35 (s := 20) (q := n) (j := 2) rfl (by decide +kernel) (by decide +kernel) rfl) ?_
    have e11 : a_inc c2 10 11 = n := by rw [gN, e2s 11 (by omega)]; rfl
    show rn 39 (35, _, _, (a_clr 0 (a_clr 0 I2 10 n) 11 (a_inc c2 10 11), a_setR (a_clr none (Rg B n [1, 0] 40 60 [5, 4] 4) 11 (a_inc c2 10 11)) 20 n 2 (some (11, a_inc c2 10 11)), a_clr 0 (a_clr 0 L2 10 n) 11 (a_inc c2 10 11), a_inc (a_inc c2 10) 11, cl + 1 + 1 + 10 + 1 + 1, sl + 10 + 6 + 56 + 6 + 40)) = _
    rw [e11, Rg_c11 hB, Rg_set hB (show wr w 20 n 2 = some (11, n) from rfl)]
    refine y_t (n_aln 36 rfl rfl rfl) <| y_t (n_bi 38 60 rfl rfl rfl) <| y_t (n_an 41 (s := 12) rfl (by decide +kernel) (by decide +kernel) rfl) <| y_t (n_pr 44 (s := 20) (q := n) (j := 4) rfl (by decide +kernel) (by decide +kernel) rfl) ?_
    have e12 : a_inc (a_inc c2 10) 11 12 = n := by rw [gN, gN, e2s 12 (by omega)]; rfl
    show rn 39 (44, _, _, (a_clr 0 (a_clr 0 (a_clr 0 I2 10 n) 11 n) 12 (a_inc (a_inc c2 10) 11 12), a_setR (a_clr none (Rg B n [2, 1, 0] 0 60 [5, 4] 4) 12 (a_inc (a_inc c2 10) 11 12)) 20 n 4 (some (12, a_inc (a_inc c2 10) 11 12)), a_clr 0 (a_clr 0 (a_clr 0 L2 10 n) 11 n) 12 (a_inc (a_inc c2 10) 11 12), a_inc (a_inc (a_inc c2 10) 11) 12, cl + 1 + 1 + 10 + 1 + 1 + 1, sl + 10 + 6 + 56 + 6 + 40 + 60)) = _
    rw [e12, Rg_c12 hB, Rg_set hB (show wr w 20 n 4 = some (12, n) from rfl)]
    refine y_t (n_aln 45 rfl rfl rfl) <| y_t (n_bi 47 8 rfl rfl rfl) <| y_t (n_na 49 (s := 13) rfl (by decide +kernel) (by decide +kernel) rfl) <| y_t (n_pr 52 (s := 20) (q := n) (j := 6) rfl (by decide +kernel) (by decide +kernel) rfl) ?_
    have e13 : a_inc (a_inc (a_inc c2 10) 11) 12 13 = n := by rw [gN, gN, gN, e2s 13 (by omega)]; rfl
    show rn 39 (52, _, _, (a_clr 0 (a_clr 0 (a_clr 0 (a_clr 0 I2 10 n) 11 n) 12 n) 13 (a_inc (a_inc (a_inc c2 10) 11) 12 13), a_setR (a_clr none (Rg B n [4, 2, 1, 0] 0 0 [5, 4] 4) 13 (a_inc (a_inc (a_inc c2 10) 11) 12 13)) 20 n 6 (some (13, a_inc (a_inc (a_inc c2 10) 11) 12 13)), a_clr 0 (a_clr 0 (a_clr 0 (a_clr 0 L2 10 n) 11 n) 12 n) 13 (a_inc (a_inc (a_inc c2 10) 11) 12 13), a_inc (a_inc (a_inc (a_inc c2 10) 11) 12) 13, cl + 1 + 1 + 10 + 1 + 1 + 1 + 1, sl + 10 + 6 + 56 + 6 + 40 + 60 + 8)) = _
    rw [e13, Rg_rg hB (by omega) (by omega) (fun _ => rfl), Rg_set hB (show wr w 20 n 6 = some (13, n) from rfl), ← hI3, ← hL3, ← hc3]
    refine y_t (n_ic 53 0 rfl rfl rfl) <| y_t (n_isn 54 [some (.inr (.inr (some (20, n)))), some (.inl 0)] rfl rfl rfl rfl) ?_
    refine q1.trans ?_
    refine s1.trans ?_
    refine y_t (n_aln 107 rfl rfl rfl) <| y_t (n_xv [.inr (.inr (some (20, n)))] [] rfl (g := 40) (kd := 0) (n := 1) (by decide +kernel) rfl rfl rfl rfl rfl (y_rk fR_40_20)) ?_
    refine (bk_n t1).trans ?_
    exact n_rv rfl (by decide +kernel)
  · show c5 s = n + 1
    rw [e5, h1 s hs]
    rcases hs with rfl | rfl | rfl | rfl | rfl | rfl | rfl | rfl <;> simp
  · show c5 14 = _
    rw [e5, h14]; simp; omega
  · show c5 6 = _
    rw [e5, h6]; simp; omega
  · show c5 15 = _
    rw [e5, h15]; simp; omega
  · show c5 4 = _
    rw [e5, h4]; simp; omega
  · show c5 5 = _
    rw [e5, h5]; simp; omega
  · show c5 18 = _
    rw [e5, h18]; simp; omega
  · show c5 19 = _
    rw [e5, h19]; simp; omega
  · show c5 s = c s
    rw [e5]
    rw [if_neg (by omega), if_neg (by omega), if_neg (by omega), if_neg (by omega), if_neg (by omega), if_neg (by omega), if_neg (by omega), if_neg (by omega), if_neg (by omega), if_neg (by omega)]; rfl
end
