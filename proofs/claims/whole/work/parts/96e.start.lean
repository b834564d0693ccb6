/-! ===== the law's start ===== -/
theorem n_bas {f pc len : Nat} {ls : List (Option aV)} {st : List aV} {M : aM} (pc2 n j : Nat) {x i : Int32} {s q : Nat} (v : Int32) (hi : a_ins f pc = some (.bastore, len)) (h4 : Nat.ble 4 s = true) (hk : Nat.beq (a_sk s).1 2 = true) (hn : a_ln M (s, q) = n) (hb : a_inb i n = true) (hj : i.toNatClampNeg = j) (hv : x.toInt8.toInt32 = v) (hp : pc + len = pc2) : rn f (pc, ls, .inl x :: .inl i :: .inr (.inr (some (s, q))) :: st, M) = rn f (pc2, ls, st, (a_setI M.1 s q j v, M.2)) := by
  subst hp
  subst hn
  subst hj
  subst hv
  refine y_kt hi ?_ hb
  first
    | (delta a_ex; simp only [h4, hk, cond_true]; done)
    | (delta a_ex; dsimp only; simp only [h4, hk, cond_true]; rfl)
    | (delta a_ex; dsimp only; rw [h4, hk]; done)
    | (delta a_ex; dsimp only; rw [h4, hk]; rfl)
theorem n_pn {f pc len : Nat} {ls : List (Option aV)} {st : List aV} {M : aM} (pc2 : Nat) {c s q j : Nat} (hi : a_ins f pc = some (.putfield c, len)) (hf : a_fld (a_own f) c s = some (j, 2)) (h4 : (Nat.ble 4 s && a_fin f s j) = true) (hp : pc + len = pc2) : rn f (pc, ls, .inr (.inr none) :: .inr (.inr (some (s, q))) :: st, M) = rn f (pc2, ls, st, (M.1, a_setR M.2.1 s q j none, M.2.2)) := n_pr (x := none) pc2 hi hf h4 hp
/-- the object t is being made: its fields S are laid -/
def Rh (B : Nat → Nat → Nat → Option aN) (t : Nat) (S : List Nat) : Nat → Nat → Nat → Option aN := fun s q k => if s = t ∧ q = 0 ∧ k ∉ S then none else B s q k
theorem Rh_clr (B : Nat → Nat → Nat → Option aN) (t : Nat) : a_clr none B t 0 = Rh B t [] := by
  funext s q k
  rw [gK0]
  unfold Rh
  by_cases h : s = t ∧ q = 0
  · rw [if_pos h, if_pos ⟨h.1, h.2, by simp⟩]
  · rw [if_neg h, if_neg (fun z => h ⟨z.1, z.2.1⟩)]
theorem Rh_set {B : Nat → Nat → Nat → Option aN} {t f : Nat} {S : List Nat} {v : Option aN} (hv : B t 0 f = v) : a_setR (Rh B t S) t 0 f v = Rh B t (f :: S) := by
  funext s q k
  rw [gR]
  unfold Rh
  by_cases h : s = t ∧ k = f ∧ q = 0
  · obtain ⟨rfl, rfl, rfl⟩ := h
    rw [if_pos ⟨rfl, rfl, rfl⟩, if_neg (fun z => z.2.2 List.mem_cons_self), hv]
  · rw [if_neg h]
    by_cases h2 : s = t ∧ q = 0 ∧ k ∉ S
    · rw [if_pos h2, if_pos ⟨h2.1, h2.2.1, fun z => by
        rcases List.mem_cons.mp z with y | y
        · exact h ⟨h2.1, y, h2.2.1⟩
        · exact h2.2.2 y⟩]
    · rw [if_neg h2, if_neg (fun z => h2 ⟨z.1, z.2.1, fun y => z.2.2 (List.mem_cons_of_mem _ y)⟩)]
theorem Rh_full {B : Nat → Nat → Nat → Option aN} {t : Nat} {S : List Nat} (h : ∀ k, k ∉ S → B t 0 k = none) : Rh B t S = B := by
  funext s q k
  unfold Rh
  by_cases h2 : s = t ∧ q = 0 ∧ k ∉ S
  · rw [if_pos h2, h2.1, h2.2.1, h k h2.2.2]
  · rw [if_neg h2]
theorem clr_id {B : Nat → Nat → Nat → Option aN} {t : Nat} (h : ∀ k, B t 0 k = none) : a_clr none B t 0 = B := by
  funext s q k
  rw [gK0]
  by_cases h2 : s = t ∧ q = 0
  · rw [if_pos h2, h2.1, h2.2, h k]
  · rw [if_neg h2]
theorem Rh_o {B : Nat → Nat → Nat → Option aN} {t s q k : Nat} {S : List Nat} (h : s ≠ t) : Rh B t S s q k = B s q k := if_neg (fun z => h z.1)
theorem wr21 (w : aW) {k : Nat} (h : k ∉ [7, 0]) : wr w 21 0 k = none := by
  show (match k with
    | 0 => some (7, 0)
    | 7 => some (8, 0)
    | _ => none) = none
  split
  all_goals first | rfl | exact absurd (by decide) h
theorem wr30 (w : aW) {k : Nat} (h : k ∉ [4, 3, 2, 1, 0]) : wr w 30 0 k = none := by
  show (match k with
    | 0 => some (20, 0)
    | 1 => some (21, 0)
    | 2 => some (22, 0)
    | 3 => some (23, 0)
    | 4 => w.1.map (fun i => (20, i))
    | _ => none) = none
  split
  all_goals first | rfl | exact absurd (by decide) h
theorem wr31 (w : aW) {k : Nat} (h : k ∉ [17, 9, 4, 3, 2, 1]) : wr w 31 0 k = none := by
  show (match k with
    | 1 => some (24, 0)
    | 2 => some (25, 0)
    | 3 => some (26, 0)
    | 4 => some (27, 0)
    | 9 => some (28, 0)
    | 17 => some (29, 0)
    | _ => none) = none
  split
  all_goals first | rfl | exact absurd (by decide) h
/-- the text of a new object -/
theorem N_18 {B : Nat → Nat → Nat → Option aN} (h0 : B 21 0 0 = some (7, 0)) (h8 : B 21 0 7 = some (8, 0)) (hb : ∀ k, k ∉ [7, 0] → B 21 0 k = none) (h7 : ∀ k, B 7 0 k = none) (h9 : ∀ k, B 8 0 k = none) (I : aI) (L : Nat → Nat → Nat → Int64) (c : Nat → Nat) (cl sl : Nat) (c7 : c 7 = 0) (c8 : c 8 = 0) : ∃ I' L' c', rn 18 (a_en 18 [.inr (.inr (some (21, 0)))] (I, Rh B 21 [], L, c, cl, sl)) = some (.inl none, (I', B, L', c', cl + 2, sl + 406)) ∧ (I' 21 0 1 = 0 ∧ I' 21 0 2 = 0 ∧ I' 21 0 3 = -1) ∧ (∀ s q, s ≠ 7 → s ≠ 8 → s ≠ 21 → I' s q = I s q) ∧ ∀ s, c' s = c s + if s = 7 ∨ s = 8 then 1 else 0 := by
  refine ⟨a_clr 0 (a_setI (a_setI (a_setI (a_setI (a_setI (a_setI (a_clr 0 I 7 0) 21 0 1 0) 21 0 2 0) 21 0 3 (-1)) 21 0 4 0) 21 0 5 0) 21 0 6 0) 8 0, a_clr 0 (a_clr 0 L 7 0) 8 0, a_inc (a_inc c 7) 8, ?_, ⟨?_, ?_, ?_⟩, fun s q g1 g2 g3 => ?_, fun s => ?_⟩
  · refine y_t (n_aln 1 rfl rfl rfl) <| y_t (n_ob 4 (g := 0) rfl (by decide +kernel) (by decide +kernel) (by decide +kernel) rfl) <| y_t (n_aln 5 rfl rfl rfl) <| y_t (n_si 8 400 rfl rfl rfl) <| y_t (n_na 10 (s := 7) rfl (by decide +kernel) (by decide +kernel) rfl) <| y_t (n_pr 13 (s := 21) (q := 0) (j := 0) rfl (by decide +kernel) (by decide +kernel) rfl) ?_
    show rn 18 (13, _, _, (a_clr 0 I 7 (c 7), a_setR (a_clr none (Rh B 21 []) 7 (c 7)) 21 0 0 (some (7, c 7)), a_clr 0 L 7 (c 7), a_inc c 7, cl + 1, sl + 400)) = _
    rw [c7, clr_id (fun k => by rw [Rh_o (by decide)]; exact h7 k), Rh_set h0]
    refine y_t (n_aln 14 rfl rfl rfl) <| y_t (n_ic 15 0 rfl rfl rfl) <| y_t (n_pf 18 (s := 21) (q := 0) (j := 1) rfl (by decide +kernel) rfl rfl) <| y_t (n_aln 19 rfl rfl rfl) <| y_t (n_ic 20 0 rfl rfl rfl) <| y_t (n_pf 23 (s := 21) (q := 0) (j := 2) rfl (by decide +kernel) rfl rfl) <| y_t (n_aln 24 rfl rfl rfl) <| y_t (n_ic 25 (-1) rfl rfl rfl) <| y_t (n_pf 28 (s := 21) (q := 0) (j := 3) rfl (by decide +kernel) rfl rfl) <| y_t (n_aln 29 rfl rfl rfl) <| y_t (n_ic 30 0 rfl rfl rfl) <| y_t (n_pf 33 (s := 21) (q := 0) (j := 4) rfl (by decide +kernel) rfl rfl) <| y_t (n_aln 34 rfl rfl rfl) <| y_t (n_ic 35 0 rfl rfl rfl) <| y_t (n_pf 38 (s := 21) (q := 0) (j := 5) rfl (by decide +kernel) rfl rfl) <| y_t (n_aln 39 rfl rfl rfl) <| y_t (n_ic 40 0 rfl rfl rfl) <| y_t (n_pf 43 (s := 21) (q := 0) (j := 6) rfl (by decide +kernel) rfl rfl) <| y_t (n_aln 44 rfl rfl rfl) <| y_t (n_bi 46 6 rfl rfl rfl) <| y_t (n_na 48 (s := 8) rfl (by decide +kernel) (by decide +kernel) rfl) <| y_t (n_pr 51 (s := 21) (q := 0) (j := 7) rfl (by decide +kernel) (by decide +kernel) rfl) ?_
    have e8 : a_inc c 7 8 = 0 := by rw [gN, c8]; rfl
    show rn 18 (51, _, _, (a_clr 0 (a_setI (a_setI (a_setI (a_setI (a_setI (a_setI (a_clr 0 I 7 0) 21 0 1 0) 21 0 2 0) 21 0 3 (-1)) 21 0 4 0) 21 0 5 0) 21 0 6 0) 8 (a_inc c 7 8), a_setR (a_clr none (Rh B 21 [0]) 8 (a_inc c 7 8)) 21 0 7 (some (8, a_inc c 7 8)), a_clr 0 (a_clr 0 L 7 0) 8 (a_inc c 7 8), a_inc (a_inc c 7) 8, cl + 1 + 1, sl + 400 + 6)) = _
    rw [e8, clr_id (fun k => by rw [Rh_o (by decide)]; exact h9 k), Rh_set h8, Rh_full hb]
    exact n_rv rfl (by decide +kernel)
  · rw [gK0, if_neg (by omega), set_n (by omega), set_n (by omega), set_n (by omega), set_n (by omega), set_n (by omega), set_e]
  · rw [gK0, if_neg (by omega), set_n (by omega), set_n (by omega), set_n (by omega), set_n (by omega), set_e]
  · rw [gK0, if_neg (by omega), set_n (by omega), set_n (by omega), set_n (by omega), set_e]
  · funext j
    rw [gK0, if_neg (by omega), set_o (by omega), set_o (by omega), set_o (by omega), set_o (by omega), set_o (by omega), set_o (by omega), gK0, if_neg (by omega)]
  · rw [gN, gN]
    by_cases a : s = 7
    · subst a; simp
    · by_cases b : s = 8
      · subst b; simp
      · simp [a, b]
theorem N_96 (w : aW) (h1 : w.1 = none) (h2 : w.2.1 = none) (h3 : w.2.2.1 = none) (I : aI) (L : Nat → Nat → Nat → Int64) (c : Nat → Nat) (cl sl : Nat) (hc : ∀ s, 4 ≤ s → s ≤ 23 → c s = 0) (r : aR) : ∃ I' L' c', rn 96 (a_en 96 [.inr (.inr (some (30, 0)))] (I, Rh (wr w) 30 [], L, c, cl, sl)) = some (.inl none, (I', wr w, L', c', cl + 281, sl + 7222)) ∧ Sim 0 0 I' (m_bg r) ∧ (I' 21 0 1 = 0 ∧ I' 21 0 2 = 0 ∧ I' 21 0 3 = -1) ∧ (∀ s q, (s < 4 ∨ 23 < s) → I' s q = I s q) ∧ Cn c' 1 ∧ ∀ s, (s < 4 ∨ 23 < s) → c' s = c s := by
  have hB : ∀ s, s ≠ 30 → Rh (wr w) 30 [] s = wr w s := fun s hs => by funext q k; exact Rh_o hs
  obtain ⟨I1, k1, a1, a2, a3, a4, a5, a6, a7, a8⟩ := N_39 (n := 0) hB I (L, c, cl, sl) ⟨fun s hs => hc s (by omega) (by omega), hc 14 (by omega) (by omega), hc 6 (by omega) (by omega), hc 15 (by omega) (by omega), hc 4 (by omega) (by omega), hc 5 (by omega) (by omega), hc 18 (by omega) (by omega), hc 19 (by omega) (by omega)⟩ r
  obtain ⟨L1, c1, cl1, sl1⟩ := k1
  have a7 : cl1 = cl + 276 := a7
  have a8 : sl1 = sl + 6766 := a8
  subst a7
  subst a8
  have ce : ∀ s, (s < 4 ∨ 20 < s ∨ s = 7 ∨ s = 8) → c1 s = c s := a5
  have h20 : c 20 = 0 := hc 20 (by omega) (by omega)
  have hn22 : ∀ k, wr w 22 0 k = none := fun k => by
    show (match k with
      | 0 => w.2.1.map (fun i => (20, i))
      | 1 => w.2.2.1.map (fun i => (20, i))
      | _ => none) = none
    split
    · rw [h2]; rfl
    · rw [h3]; rfl
    · rfl
  obtain ⟨I2, hI2⟩ : ∃ I2, I2 = a_clr 0 I1 21 0 := ⟨_, rfl⟩
  obtain ⟨I3, L3, c3, b1, ⟨b2, b3, b4⟩, b5, b6⟩ := N_18 (B := Rh (wr w) 30 [0]) (by rw [Rh_o (by decide)]; rfl) (by rw [Rh_o (by decide)]; rfl) (fun k hk => by rw [Rh_o (by decide)]; exact wr21 w hk) (fun k => by rw [Rh_o (by decide)]; rfl) (fun k => by rw [Rh_o (by decide)]; rfl) I2 (a_clr 0 L1 21 0) (a_inc c1 21) (cl + 276 + 1) (sl + 6766 + 8) (by rw [gN, ce 7 (by omega), hc 7 (by omega) (by omega)]; rfl) (by rw [gN, ce 8 (by omega), hc 8 (by omega) (by omega)]; rfl)
  have e3 : ∀ s, c3 s = c1 s + (if s = 21 then 1 else 0) + (if s = 7 ∨ s = 8 then 1 else 0) := fun s => by rw [b6, gN]
  refine ⟨a_clr 0 (a_clr 0 I3 22 0) 23 0, a_clr 0 (a_clr 0 L3 22 0) 23 0, a_inc (a_inc c3 22) 23, ?_, ?_, ⟨?_, ?_, ?_⟩, fun s q hs => ?_, ?_, fun s hs => ?_⟩
  · refine y_t (n_aln 1 rfl rfl rfl) <| y_t (n_ob 4 (g := 0) rfl (by decide +kernel) (by decide +kernel) (by decide +kernel) rfl) <| y_t (n_aln 5 rfl rfl rfl) <| y_t (n_new 8 (s := 20) rfl (by decide +kernel) rfl) <| y_t (n_dupr 9 rfl rfl) ?_
    show rn 96 (9, _, .inr (.inr (some (20, c 20))) :: .inr (.inr (some (20, c 20))) :: _, a_mk (I, Rh (wr w) 30 [], L, c, cl, sl) 20 10) = _
    rw [h20]
    refine y_t (n_xp [.inr (.inr (some (20, 0)))] [.inr (.inr (some (20, 0))), .inr (.inr (some (30, 0)))] rfl (g := 39) (kd := 2) (n := 1) (by decide +kernel) rfl rfl rfl rfl rfl (n_k2 (by decide +kernel))) ?_
    refine (bk_n a1).trans ?_
    refine y_t (n_pr 15 (s := 30) (q := 0) (j := 0) rfl (by decide +kernel) (by decide +kernel) rfl) ?_
    show rn 96 (15, _, _, (I1, a_setR (Rh (wr w) 30 []) 30 0 0 (some (20, 0)), L1, c1, cl + 276, sl + 6766)) = _
    rw [Rh_set (show wr w 30 0 0 = some (20, 0) from rfl)]
    refine y_t (n_aln 16 rfl rfl rfl) <| y_t (n_new 19 (s := 21) rfl (by decide +kernel) rfl) <| y_t (n_dupr 20 rfl rfl) ?_
    show rn 96 (20, _, .inr (.inr (some (21, c1 21))) :: .inr (.inr (some (21, c1 21))) :: _, (a_clr 0 I1 21 (c1 21), a_clr none (Rh (wr w) 30 [0]) 21 (c1 21), a_clr 0 L1 21 (c1 21), a_inc c1 21, cl + 276 + 1, sl + 6766 + 8)) = _
    rw [show c1 21 = 0 from (ce 21 (by omega)).trans (hc 21 (by omega) (by omega)), Rh_clr, ← hI2]
    refine y_t (n_xp [.inr (.inr (some (21, 0)))] [.inr (.inr (some (21, 0))), .inr (.inr (some (30, 0)))] rfl (g := 18) (kd := 6) (n := 1) (by decide +kernel) rfl rfl rfl rfl rfl (n_k6 (by decide +kernel))) ?_
    refine (bk_n b1).trans ?_
    refine y_t (n_pr 26 (s := 30) (q := 0) (j := 1) rfl (by decide +kernel) (by decide +kernel) rfl) ?_
    show rn 96 (26, _, _, (I3, a_setR (Rh (wr w) 30 [0]) 30 0 1 (some (21, 0)), L3, c3, cl + 276 + 1 + 2, sl + 6766 + 8 + 406)) = _
    rw [Rh_set (show wr w 30 0 1 = some (21, 0) from rfl)]
    refine y_t (n_aln 27 rfl rfl rfl) <| y_t (n_ic 28 2 rfl rfl rfl) <| y_t (n_an 31 (s := 22) rfl (by decide +kernel) (by decide +kernel) rfl) <| y_t (n_pr 34 (s := 30) (q := 0) (j := 2) rfl (by decide +kernel) (by decide +kernel) rfl) ?_
    have e22 : c3 22 = 0 := by rw [e3, ce 22 (by omega), hc 22 (by omega) (by omega)]; rfl
    show rn 96 (34, _, _, (a_clr 0 I3 22 (c3 22), a_setR (a_clr none (Rh (wr w) 30 [1, 0]) 22 (c3 22)) 30 0 2 (some (22, c3 22)), a_clr 0 L3 22 (c3 22), a_inc c3 22, cl + 276 + 1 + 2 + 1, sl + 6766 + 8 + 406 + 2)) = _
    rw [e22, clr_id (fun k => by rw [Rh_o (by decide)]; exact hn22 k), Rh_set (show wr w 30 0 2 = some (22, 0) from rfl)]
    refine y_t (n_aln 35 rfl rfl rfl) <| y_t (n_bi 37 40 rfl rfl rfl) <| y_t (n_na 39 (s := 23) rfl (by decide +kernel) (by decide +kernel) rfl) <| y_t (n_pr 42 (s := 30) (q := 0) (j := 3) rfl (by decide +kernel) (by decide +kernel) rfl) ?_
    have e23 : a_inc c3 22 23 = 0 := by rw [gN, e3, ce 23 (by omega), hc 23 (by omega) (by omega)]; rfl
    show rn 96 (42, _, _, (a_clr 0 (a_clr 0 I3 22 0) 23 (a_inc c3 22 23), a_setR (a_clr none (Rh (wr w) 30 [2, 1, 0]) 23 (a_inc c3 22 23)) 30 0 3 (some (23, a_inc c3 22 23)), a_clr 0 (a_clr 0 L3 22 0) 23 (a_inc c3 22 23), a_inc (a_inc c3 22) 23, cl + 276 + 1 + 2 + 1 + 1, sl + 6766 + 8 + 406 + 2 + 40)) = _
    rw [e23, clr_id (fun k => by rw [Rh_o (by decide)]; rfl), Rh_set (show wr w 30 0 3 = some (23, 0) from rfl)]
    refine y_t (n_aln 43 rfl rfl rfl) <| y_t (n_nul 44 rfl rfl) <| y_t (n_pn 47 (s := 30) (q := 0) (j := 4) rfl (by decide +kernel) (by decide +kernel) rfl) ?_
    show rn 96 (47, _, _, (_, a_setR (Rh (wr w) 30 [3, 2, 1, 0]) 30 0 4 none, _)) = _
    rw [Rh_set (show wr w 30 0 4 = none from (by show w.1.map (fun i => (20, i)) = none; rw [h1]; rfl)), Rh_full (fun k hk => wr30 w hk)]
    exact n_rv rfl (by decide +kernel)
  · have f : ∀ s q, s ≠ 7 → s ≠ 8 → s ≠ 21 → s ≠ 22 → s ≠ 23 → a_clr 0 (a_clr 0 I3 22 0) 23 0 s q = I1 s q := fun s q g1 g2 g3 g4 g5 => by
      funext j
      rw [gK0, if_neg (by omega), gK0, if_neg (by omega), b5 s q g1 g2 g3, hI2, gK0, if_neg (by omega)]
    obtain ⟨g1, g2, g3, g4, g5, g6⟩ := a2
    refine ⟨?_, ?_, ?_, ?_, ?_, ?_⟩
    · unfold kLow at g1 ⊢; rw [f 9 0 (by omega) (by omega) (by omega) (by omega) (by omega), f 10 0 (by omega) (by omega) (by omega) (by omega) (by omega), f 20 0 (by omega) (by omega) (by omega) (by omega) (by omega)]; exact g1
    · unfold kFig at g2 ⊢; rw [f 13 0 (by omega) (by omega) (by omega) (by omega) (by omega)]; exact g2
    · intro s hs; rw [f 18 _ (by omega) (by omega) (by omega) (by omega) (by omega), f 19 _ (by omega) (by omega) (by omega) (by omega) (by omega)]; exact g3 s hs
    · unfold kPha at g4 ⊢; rw [f 17 0 (by omega) (by omega) (by omega) (by omega) (by omega)]; exact g4
    · intro q hq; rw [f 14 _ (by omega) (by omega) (by omega) (by omega) (by omega), f 6 _ (by omega) (by omega) (by omega) (by omega) (by omega)]; exact g5 q hq
    · intro c c1 c2; rw [f 15 _ (by omega) (by omega) (by omega) (by omega) (by omega), f 4 _ (by omega) (by omega) (by omega) (by omega) (by omega), f 5 _ (by omega) (by omega) (by omega) (by omega) (by omega)]; exact g6 c c1 c2
  · rw [gK0, if_neg (by omega), gK0, if_neg (by omega)]; exact b2
  · rw [gK0, if_neg (by omega), gK0, if_neg (by omega)]; exact b3
  · rw [gK0, if_neg (by omega), gK0, if_neg (by omega)]; exact b4
  · funext j
    rw [gK0, if_neg (by omega), gK0, if_neg (by omega), b5 s q (by omega) (by omega) (by omega), hI2, gK0, if_neg (by omega)]
    exact congrFun (a3 s q (nown (by omega)) (by omega) (by omega) (by omega)) j
  · have ed : ∀ s, s ≠ 7 → s ≠ 8 → s ≠ 21 → s ≠ 22 → s ≠ 23 → a_inc (a_inc c3 22) 23 s = c1 s := fun s g1 g2 g3 g4 g5 => by
      rw [gN, gN, e3, if_neg g3, if_neg (by omega), if_neg g4, if_neg g5]; rfl
    have a4 : Cn c1 1 := a4
    obtain ⟨q1, q2, q3, q4, q5, q6, q7, q8⟩ := a4
    exact ⟨fun s hs => by rw [ed s (by omega) (by omega) (by omega) (by omega) (by omega)]; exact q1 s hs, by rw [ed _ (by omega) (by omega) (by omega) (by omega) (by omega)]; exact q2, by rw [ed _ (by omega) (by omega) (by omega) (by omega) (by omega)]; exact q3, by rw [ed _ (by omega) (by omega) (by omega) (by omega) (by omega)]; exact q4, by rw [ed _ (by omega) (by omega) (by omega) (by omega) (by omega)]; exact q5, by rw [ed _ (by omega) (by omega) (by omega) (by omega) (by omega)]; exact q6, by rw [ed _ (by omega) (by omega) (by omega) (by omega) (by omega)]; exact q7, by rw [ed _ (by omega) (by omega) (by omega) (by omega) (by omega)]; exact q8⟩
  · rw [gN, gN, e3, if_neg (by omega), if_neg (by omega), if_neg (by omega), if_neg (by omega)]
    exact ce s (by omega)
/-! the reference's words are laid -/
def zL : Nat → aI → aI
  | 0, I => I
  | j + 1, I => a_setI (zL j I) 29 0 j (wZ j)
theorem zL_v (I : aI) : ∀ (j x : Nat), x < j → zL j I 29 0 x = wZ x
  | 0, _, h => absurd h (by omega)
  | j + 1, x, h => by
    show a_setI (zL j I) 29 0 j (wZ j) 29 0 x = _
    by_cases e : x = j
    · subst e; rw [set_e]
    · rw [set_n (by omega)]; exact zL_v I j x (by omega)
theorem zL_o (I : aI) : ∀ (j s q : Nat), ¬ (s = 29 ∧ q = 0) → zL j I s q = I s q
  | 0, _, _, _ => rfl
  | j + 1, s, q, h => by
    show a_setI (zL j I) 29 0 j (wZ j) s q = _
    rw [set_o h]; exact zL_o I j s q h
theorem zw_0 (ls : List (Option aV)) (st : List aV) (M : aM) : rn 170 (57, ls, .inr (.inr (some (29, 0))) :: st, M) = rn 170 (62, ls, .inr (.inr (some (29, 0))) :: st, (a_setI M.1 29 0 0 (wZ 0), M.2)) := y_t (n_dupr 58 rfl rfl) <| y_t (n_ic 59 0 rfl rfl rfl) <| y_t (n_bi 61 111 rfl rfl rfl) <| n_bas 62 70 0 (wZ 0) rfl rfl rfl rfl (by decide) (by decide) (by decide +kernel) rfl
theorem zw_1 (ls : List (Option aV)) (st : List aV) (M : aM) : rn 170 (62, ls, .inr (.inr (some (29, 0))) :: st, M) = rn 170 (67, ls, .inr (.inr (some (29, 0))) :: st, (a_setI M.1 29 0 1 (wZ 1), M.2)) := y_t (n_dupr 63 rfl rfl) <| y_t (n_ic 64 1 rfl rfl rfl) <| y_t (n_bi 66 114 rfl rfl rfl) <| n_bas 67 70 1 (wZ 1) rfl rfl rfl rfl (by decide) (by decide) (by decide +kernel) rfl
theorem zw_2 (ls : List (Option aV)) (st : List aV) (M : aM) : rn 170 (67, ls, .inr (.inr (some (29, 0))) :: st, M) = rn 170 (72, ls, .inr (.inr (some (29, 0))) :: st, (a_setI M.1 29 0 2 (wZ 2), M.2)) := y_t (n_dupr 68 rfl rfl) <| y_t (n_ic 69 2 rfl rfl rfl) <| y_t (n_bi 71 98 rfl rfl rfl) <| n_bas 72 70 2 (wZ 2) rfl rfl rfl rfl (by decide) (by decide) (by decide +kernel) rfl
theorem zw_3 (ls : List (Option aV)) (st : List aV) (M : aM) : rn 170 (72, ls, .inr (.inr (some (29, 0))) :: st, M) = rn 170 (77, ls, .inr (.inr (some (29, 0))) :: st, (a_setI M.1 29 0 3 (wZ 3), M.2)) := y_t (n_dupr 73 rfl rfl) <| y_t (n_ic 74 3 rfl rfl rfl) <| y_t (n_bi 76 105 rfl rfl rfl) <| n_bas 77 70 3 (wZ 3) rfl rfl rfl rfl (by decide) (by decide) (by decide +kernel) rfl
theorem zw_4 (ls : List (Option aV)) (st : List aV) (M : aM) : rn 170 (77, ls, .inr (.inr (some (29, 0))) :: st, M) = rn 170 (82, ls, .inr (.inr (some (29, 0))) :: st, (a_setI M.1 29 0 4 (wZ 4), M.2)) := y_t (n_dupr 78 rfl rfl) <| y_t (n_ic 79 4 rfl rfl rfl) <| y_t (n_bi 81 116 rfl rfl rfl) <| n_bas 82 70 4 (wZ 4) rfl rfl rfl rfl (by decide) (by decide) (by decide +kernel) rfl
theorem zw_5 (ls : List (Option aV)) (st : List aV) (M : aM) : rn 170 (82, ls, .inr (.inr (some (29, 0))) :: st, M) = rn 170 (87, ls, .inr (.inr (some (29, 0))) :: st, (a_setI M.1 29 0 5 (wZ 5), M.2)) := y_t (n_dupr 83 rfl rfl) <| y_t (n_ic 84 5 rfl rfl rfl) <| y_t (n_bi 86 32 rfl rfl rfl) <| n_bas 87 70 5 (wZ 5) rfl rfl rfl rfl (by decide) (by decide) (by decide +kernel) rfl
theorem zw_6 (ls : List (Option aV)) (st : List aV) (M : aM) : rn 170 (87, ls, .inr (.inr (some (29, 0))) :: st, M) = rn 170 (93, ls, .inr (.inr (some (29, 0))) :: st, (a_setI M.1 29 0 6 (wZ 6), M.2)) := y_t (n_dupr 88 rfl rfl) <| y_t (n_bi 90 6 rfl rfl rfl) <| y_t (n_bi 92 115 rfl rfl rfl) <| n_bas 93 70 6 (wZ 6) rfl rfl rfl rfl (by decide) (by decide) (by decide +kernel) rfl
theorem zw_7 (ls : List (Option aV)) (st : List aV) (M : aM) : rn 170 (93, ls, .inr (.inr (some (29, 0))) :: st, M) = rn 170 (99, ls, .inr (.inr (some (29, 0))) :: st, (a_setI M.1 29 0 7 (wZ 7), M.2)) := y_t (n_dupr 94 rfl rfl) <| y_t (n_bi 96 7 rfl rfl rfl) <| y_t (n_bi 98 116 rfl rfl rfl) <| n_bas 99 70 7 (wZ 7) rfl rfl rfl rfl (by decide) (by decide) (by decide +kernel) rfl
theorem zw_8 (ls : List (Option aV)) (st : List aV) (M : aM) : rn 170 (99, ls, .inr (.inr (some (29, 0))) :: st, M) = rn 170 (105, ls, .inr (.inr (some (29, 0))) :: st, (a_setI M.1 29 0 8 (wZ 8), M.2)) := y_t (n_dupr 100 rfl rfl) <| y_t (n_bi 102 8 rfl rfl rfl) <| y_t (n_bi 104 97 rfl rfl rfl) <| n_bas 105 70 8 (wZ 8) rfl rfl rfl rfl (by decide) (by decide) (by decide +kernel) rfl
theorem zw_9 (ls : List (Option aV)) (st : List aV) (M : aM) : rn 170 (105, ls, .inr (.inr (some (29, 0))) :: st, M) = rn 170 (111, ls, .inr (.inr (some (29, 0))) :: st, (a_setI M.1 29 0 9 (wZ 9), M.2)) := y_t (n_dupr 106 rfl rfl) <| y_t (n_bi 108 9 rfl rfl rfl) <| y_t (n_bi 110 116 rfl rfl rfl) <| n_bas 111 70 9 (wZ 9) rfl rfl rfl rfl (by decide) (by decide) (by decide +kernel) rfl
theorem zw_10 (ls : List (Option aV)) (st : List aV) (M : aM) : rn 170 (111, ls, .inr (.inr (some (29, 0))) :: st, M) = rn 170 (117, ls, .inr (.inr (some (29, 0))) :: st, (a_setI M.1 29 0 10 (wZ 10), M.2)) := y_t (n_dupr 112 rfl rfl) <| y_t (n_bi 114 10 rfl rfl rfl) <| y_t (n_bi 116 105 rfl rfl rfl) <| n_bas 117 70 10 (wZ 10) rfl rfl rfl rfl (by decide) (by decide) (by decide +kernel) rfl
theorem zw_11 (ls : List (Option aV)) (st : List aV) (M : aM) : rn 170 (117, ls, .inr (.inr (some (29, 0))) :: st, M) = rn 170 (123, ls, .inr (.inr (some (29, 0))) :: st, (a_setI M.1 29 0 11 (wZ 11), M.2)) := y_t (n_dupr 118 rfl rfl) <| y_t (n_bi 120 11 rfl rfl rfl) <| y_t (n_bi 122 111 rfl rfl rfl) <| n_bas 123 70 11 (wZ 11) rfl rfl rfl rfl (by decide) (by decide) (by decide +kernel) rfl
theorem zw_12 (ls : List (Option aV)) (st : List aV) (M : aM) : rn 170 (123, ls, .inr (.inr (some (29, 0))) :: st, M) = rn 170 (129, ls, .inr (.inr (some (29, 0))) :: st, (a_setI M.1 29 0 12 (wZ 12), M.2)) := y_t (n_dupr 124 rfl rfl) <| y_t (n_bi 126 12 rfl rfl rfl) <| y_t (n_bi 128 110 rfl rfl rfl) <| n_bas 129 70 12 (wZ 12) rfl rfl rfl rfl (by decide) (by decide) (by decide +kernel) rfl
theorem zw_13 (ls : List (Option aV)) (st : List aV) (M : aM) : rn 170 (129, ls, .inr (.inr (some (29, 0))) :: st, M) = rn 170 (135, ls, .inr (.inr (some (29, 0))) :: st, (a_setI M.1 29 0 13 (wZ 13), M.2)) := y_t (n_dupr 130 rfl rfl) <| y_t (n_bi 132 13 rfl rfl rfl) <| y_t (n_bi 134 32 rfl rfl rfl) <| n_bas 135 70 13 (wZ 13) rfl rfl rfl rfl (by decide) (by decide) (by decide +kernel) rfl
theorem zw_14 (ls : List (Option aV)) (st : List aV) (M : aM) : rn 170 (135, ls, .inr (.inr (some (29, 0))) :: st, M) = rn 170 (141, ls, .inr (.inr (some (29, 0))) :: st, (a_setI M.1 29 0 14 (wZ 14), M.2)) := y_t (n_dupr 136 rfl rfl) <| y_t (n_bi 138 14 rfl rfl rfl) <| y_t (n_bi 140 103 rfl rfl rfl) <| n_bas 141 70 14 (wZ 14) rfl rfl rfl rfl (by decide) (by decide) (by decide +kernel) rfl
theorem zw_15 (ls : List (Option aV)) (st : List aV) (M : aM) : rn 170 (141, ls, .inr (.inr (some (29, 0))) :: st, M) = rn 170 (147, ls, .inr (.inr (some (29, 0))) :: st, (a_setI M.1 29 0 15 (wZ 15), M.2)) := y_t (n_dupr 142 rfl rfl) <| y_t (n_bi 144 15 rfl rfl rfl) <| y_t (n_bi 146 114 rfl rfl rfl) <| n_bas 147 70 15 (wZ 15) rfl rfl rfl rfl (by decide) (by decide) (by decide +kernel) rfl
theorem zw_16 (ls : List (Option aV)) (st : List aV) (M : aM) : rn 170 (147, ls, .inr (.inr (some (29, 0))) :: st, M) = rn 170 (153, ls, .inr (.inr (some (29, 0))) :: st, (a_setI M.1 29 0 16 (wZ 16), M.2)) := y_t (n_dupr 148 rfl rfl) <| y_t (n_bi 150 16 rfl rfl rfl) <| y_t (n_bi 152 111 rfl rfl rfl) <| n_bas 153 70 16 (wZ 16) rfl rfl rfl rfl (by decide) (by decide) (by decide +kernel) rfl
theorem zw_17 (ls : List (Option aV)) (st : List aV) (M : aM) : rn 170 (153, ls, .inr (.inr (some (29, 0))) :: st, M) = rn 170 (159, ls, .inr (.inr (some (29, 0))) :: st, (a_setI M.1 29 0 17 (wZ 17), M.2)) := y_t (n_dupr 154 rfl rfl) <| y_t (n_bi 156 17 rfl rfl rfl) <| y_t (n_bi 158 117 rfl rfl rfl) <| n_bas 159 70 17 (wZ 17) rfl rfl rfl rfl (by decide) (by decide) (by decide +kernel) rfl
theorem zw_18 (ls : List (Option aV)) (st : List aV) (M : aM) : rn 170 (159, ls, .inr (.inr (some (29, 0))) :: st, M) = rn 170 (165, ls, .inr (.inr (some (29, 0))) :: st, (a_setI M.1 29 0 18 (wZ 18), M.2)) := y_t (n_dupr 160 rfl rfl) <| y_t (n_bi 162 18 rfl rfl rfl) <| y_t (n_bi 164 110 rfl rfl rfl) <| n_bas 165 70 18 (wZ 18) rfl rfl rfl rfl (by decide) (by decide) (by decide +kernel) rfl
theorem zw_19 (ls : List (Option aV)) (st : List aV) (M : aM) : rn 170 (165, ls, .inr (.inr (some (29, 0))) :: st, M) = rn 170 (171, ls, .inr (.inr (some (29, 0))) :: st, (a_setI M.1 29 0 19 (wZ 19), M.2)) := y_t (n_dupr 166 rfl rfl) <| y_t (n_bi 168 19 rfl rfl rfl) <| y_t (n_bi 170 100 rfl rfl rfl) <| n_bas 171 70 19 (wZ 19) rfl rfl rfl rfl (by decide) (by decide) (by decide +kernel) rfl
theorem zw_20 (ls : List (Option aV)) (st : List aV) (M : aM) : rn 170 (171, ls, .inr (.inr (some (29, 0))) :: st, M) = rn 170 (177, ls, .inr (.inr (some (29, 0))) :: st, (a_setI M.1 29 0 20 (wZ 20), M.2)) := y_t (n_dupr 172 rfl rfl) <| y_t (n_bi 174 20 rfl rfl rfl) <| y_t (n_bi 176 32 rfl rfl rfl) <| n_bas 177 70 20 (wZ 20) rfl rfl rfl rfl (by decide) (by decide) (by decide +kernel) rfl
theorem zw_21 (ls : List (Option aV)) (st : List aV) (M : aM) : rn 170 (177, ls, .inr (.inr (some (29, 0))) :: st, M) = rn 170 (183, ls, .inr (.inr (some (29, 0))) :: st, (a_setI M.1 29 0 21 (wZ 21), M.2)) := y_t (n_dupr 178 rfl rfl) <| y_t (n_bi 180 21 rfl rfl rfl) <| y_t (n_bi 182 112 rfl rfl rfl) <| n_bas 183 70 21 (wZ 21) rfl rfl rfl rfl (by decide) (by decide) (by decide +kernel) rfl
theorem zw_22 (ls : List (Option aV)) (st : List aV) (M : aM) : rn 170 (183, ls, .inr (.inr (some (29, 0))) :: st, M) = rn 170 (189, ls, .inr (.inr (some (29, 0))) :: st, (a_setI M.1 29 0 22 (wZ 22), M.2)) := y_t (n_dupr 184 rfl rfl) <| y_t (n_bi 186 22 rfl rfl rfl) <| y_t (n_bi 188 97 rfl rfl rfl) <| n_bas 189 70 22 (wZ 22) rfl rfl rfl rfl (by decide) (by decide) (by decide +kernel) rfl
theorem zw_23 (ls : List (Option aV)) (st : List aV) (M : aM) : rn 170 (189, ls, .inr (.inr (some (29, 0))) :: st, M) = rn 170 (195, ls, .inr (.inr (some (29, 0))) :: st, (a_setI M.1 29 0 23 (wZ 23), M.2)) := y_t (n_dupr 190 rfl rfl) <| y_t (n_bi 192 23 rfl rfl rfl) <| y_t (n_bi 194 116 rfl rfl rfl) <| n_bas 195 70 23 (wZ 23) rfl rfl rfl rfl (by decide) (by decide) (by decide +kernel) rfl
theorem zw_24 (ls : List (Option aV)) (st : List aV) (M : aM) : rn 170 (195, ls, .inr (.inr (some (29, 0))) :: st, M) = rn 170 (201, ls, .inr (.inr (some (29, 0))) :: st, (a_setI M.1 29 0 24 (wZ 24), M.2)) := y_t (n_dupr 196 rfl rfl) <| y_t (n_bi 198 24 rfl rfl rfl) <| y_t (n_bi 200 105 rfl rfl rfl) <| n_bas 201 70 24 (wZ 24) rfl rfl rfl rfl (by decide) (by decide) (by decide +kernel) rfl
theorem zw_25 (ls : List (Option aV)) (st : List aV) (M : aM) : rn 170 (201, ls, .inr (.inr (some (29, 0))) :: st, M) = rn 170 (207, ls, .inr (.inr (some (29, 0))) :: st, (a_setI M.1 29 0 25 (wZ 25), M.2)) := y_t (n_dupr 202 rfl rfl) <| y_t (n_bi 204 25 rfl rfl rfl) <| y_t (n_bi 206 101 rfl rfl rfl) <| n_bas 207 70 25 (wZ 25) rfl rfl rfl rfl (by decide) (by decide) (by decide +kernel) rfl
theorem zw_26 (ls : List (Option aV)) (st : List aV) (M : aM) : rn 170 (207, ls, .inr (.inr (some (29, 0))) :: st, M) = rn 170 (213, ls, .inr (.inr (some (29, 0))) :: st, (a_setI M.1 29 0 26 (wZ 26), M.2)) := y_t (n_dupr 208 rfl rfl) <| y_t (n_bi 210 26 rfl rfl rfl) <| y_t (n_bi 212 110 rfl rfl rfl) <| n_bas 213 70 26 (wZ 26) rfl rfl rfl rfl (by decide) (by decide) (by decide +kernel) rfl
theorem zw_27 (ls : List (Option aV)) (st : List aV) (M : aM) : rn 170 (213, ls, .inr (.inr (some (29, 0))) :: st, M) = rn 170 (219, ls, .inr (.inr (some (29, 0))) :: st, (a_setI M.1 29 0 27 (wZ 27), M.2)) := y_t (n_dupr 214 rfl rfl) <| y_t (n_bi 216 27 rfl rfl rfl) <| y_t (n_bi 218 99 rfl rfl rfl) <| n_bas 219 70 27 (wZ 27) rfl rfl rfl rfl (by decide) (by decide) (by decide +kernel) rfl
theorem zw_28 (ls : List (Option aV)) (st : List aV) (M : aM) : rn 170 (219, ls, .inr (.inr (some (29, 0))) :: st, M) = rn 170 (225, ls, .inr (.inr (some (29, 0))) :: st, (a_setI M.1 29 0 28 (wZ 28), M.2)) := y_t (n_dupr 220 rfl rfl) <| y_t (n_bi 222 28 rfl rfl rfl) <| y_t (n_bi 224 101 rfl rfl rfl) <| n_bas 225 70 28 (wZ 28) rfl rfl rfl rfl (by decide) (by decide) (by decide +kernel) rfl
theorem zw_29 (ls : List (Option aV)) (st : List aV) (M : aM) : rn 170 (225, ls, .inr (.inr (some (29, 0))) :: st, M) = rn 170 (231, ls, .inr (.inr (some (29, 0))) :: st, (a_setI M.1 29 0 29 (wZ 29), M.2)) := y_t (n_dupr 226 rfl rfl) <| y_t (n_bi 228 29 rfl rfl rfl) <| y_t (n_bi 230 32 rfl rfl rfl) <| n_bas 231 70 29 (wZ 29) rfl rfl rfl rfl (by decide) (by decide) (by decide +kernel) rfl
theorem zw_30 (ls : List (Option aV)) (st : List aV) (M : aM) : rn 170 (231, ls, .inr (.inr (some (29, 0))) :: st, M) = rn 170 (237, ls, .inr (.inr (some (29, 0))) :: st, (a_setI M.1 29 0 30 (wZ 30), M.2)) := y_t (n_dupr 232 rfl rfl) <| y_t (n_bi 234 30 rfl rfl rfl) <| y_t (n_bi 236 102 rfl rfl rfl) <| n_bas 237 70 30 (wZ 30) rfl rfl rfl rfl (by decide) (by decide) (by decide +kernel) rfl
theorem zw_31 (ls : List (Option aV)) (st : List aV) (M : aM) : rn 170 (237, ls, .inr (.inr (some (29, 0))) :: st, M) = rn 170 (243, ls, .inr (.inr (some (29, 0))) :: st, (a_setI M.1 29 0 31 (wZ 31), M.2)) := y_t (n_dupr 238 rfl rfl) <| y_t (n_bi 240 31 rfl rfl rfl) <| y_t (n_bi 242 114 rfl rfl rfl) <| n_bas 243 70 31 (wZ 31) rfl rfl rfl rfl (by decide) (by decide) (by decide +kernel) rfl
theorem zw_32 (ls : List (Option aV)) (st : List aV) (M : aM) : rn 170 (243, ls, .inr (.inr (some (29, 0))) :: st, M) = rn 170 (249, ls, .inr (.inr (some (29, 0))) :: st, (a_setI M.1 29 0 32 (wZ 32), M.2)) := y_t (n_dupr 244 rfl rfl) <| y_t (n_bi 246 32 rfl rfl rfl) <| y_t (n_bi 248 101 rfl rfl rfl) <| n_bas 249 70 32 (wZ 32) rfl rfl rfl rfl (by decide) (by decide) (by decide +kernel) rfl
theorem zw_33 (ls : List (Option aV)) (st : List aV) (M : aM) : rn 170 (249, ls, .inr (.inr (some (29, 0))) :: st, M) = rn 170 (255, ls, .inr (.inr (some (29, 0))) :: st, (a_setI M.1 29 0 33 (wZ 33), M.2)) := y_t (n_dupr 250 rfl rfl) <| y_t (n_bi 252 33 rfl rfl rfl) <| y_t (n_bi 254 115 rfl rfl rfl) <| n_bas 255 70 33 (wZ 33) rfl rfl rfl rfl (by decide) (by decide) (by decide +kernel) rfl
theorem zw_34 (ls : List (Option aV)) (st : List aV) (M : aM) : rn 170 (255, ls, .inr (.inr (some (29, 0))) :: st, M) = rn 170 (261, ls, .inr (.inr (some (29, 0))) :: st, (a_setI M.1 29 0 34 (wZ 34), M.2)) := y_t (n_dupr 256 rfl rfl) <| y_t (n_bi 258 34 rfl rfl rfl) <| y_t (n_bi 260 104 rfl rfl rfl) <| n_bas 261 70 34 (wZ 34) rfl rfl rfl rfl (by decide) (by decide) (by decide +kernel) rfl
theorem zw_35 (ls : List (Option aV)) (st : List aV) (M : aM) : rn 170 (261, ls, .inr (.inr (some (29, 0))) :: st, M) = rn 170 (267, ls, .inr (.inr (some (29, 0))) :: st, (a_setI M.1 29 0 35 (wZ 35), M.2)) := y_t (n_dupr 262 rfl rfl) <| y_t (n_bi 264 35 rfl rfl rfl) <| y_t (n_bi 266 32 rfl rfl rfl) <| n_bas 267 70 35 (wZ 35) rfl rfl rfl rfl (by decide) (by decide) (by decide +kernel) rfl
theorem zw_36 (ls : List (Option aV)) (st : List aV) (M : aM) : rn 170 (267, ls, .inr (.inr (some (29, 0))) :: st, M) = rn 170 (273, ls, .inr (.inr (some (29, 0))) :: st, (a_setI M.1 29 0 36 (wZ 36), M.2)) := y_t (n_dupr 268 rfl rfl) <| y_t (n_bi 270 36 rfl rfl rfl) <| y_t (n_bi 272 109 rfl rfl rfl) <| n_bas 273 70 36 (wZ 36) rfl rfl rfl rfl (by decide) (by decide) (by decide +kernel) rfl
theorem zw_37 (ls : List (Option aV)) (st : List aV) (M : aM) : rn 170 (273, ls, .inr (.inr (some (29, 0))) :: st, M) = rn 170 (279, ls, .inr (.inr (some (29, 0))) :: st, (a_setI M.1 29 0 37 (wZ 37), M.2)) := y_t (n_dupr 274 rfl rfl) <| y_t (n_bi 276 37 rfl rfl rfl) <| y_t (n_bi 278 101 rfl rfl rfl) <| n_bas 279 70 37 (wZ 37) rfl rfl rfl rfl (by decide) (by decide) (by decide +kernel) rfl
theorem zw_38 (ls : List (Option aV)) (st : List aV) (M : aM) : rn 170 (279, ls, .inr (.inr (some (29, 0))) :: st, M) = rn 170 (285, ls, .inr (.inr (some (29, 0))) :: st, (a_setI M.1 29 0 38 (wZ 38), M.2)) := y_t (n_dupr 280 rfl rfl) <| y_t (n_bi 282 38 rfl rfl rfl) <| y_t (n_bi 284 109 rfl rfl rfl) <| n_bas 285 70 38 (wZ 38) rfl rfl rfl rfl (by decide) (by decide) (by decide +kernel) rfl
theorem zw_39 (ls : List (Option aV)) (st : List aV) (M : aM) : rn 170 (285, ls, .inr (.inr (some (29, 0))) :: st, M) = rn 170 (291, ls, .inr (.inr (some (29, 0))) :: st, (a_setI M.1 29 0 39 (wZ 39), M.2)) := y_t (n_dupr 286 rfl rfl) <| y_t (n_bi 288 39 rfl rfl rfl) <| y_t (n_bi 290 111 rfl rfl rfl) <| n_bas 291 70 39 (wZ 39) rfl rfl rfl rfl (by decide) (by decide) (by decide +kernel) rfl
theorem zw_40 (ls : List (Option aV)) (st : List aV) (M : aM) : rn 170 (291, ls, .inr (.inr (some (29, 0))) :: st, M) = rn 170 (297, ls, .inr (.inr (some (29, 0))) :: st, (a_setI M.1 29 0 40 (wZ 40), M.2)) := y_t (n_dupr 292 rfl rfl) <| y_t (n_bi 294 40 rfl rfl rfl) <| y_t (n_bi 296 114 rfl rfl rfl) <| n_bas 297 70 40 (wZ 40) rfl rfl rfl rfl (by decide) (by decide) (by decide +kernel) rfl
theorem zw_41 (ls : List (Option aV)) (st : List aV) (M : aM) : rn 170 (297, ls, .inr (.inr (some (29, 0))) :: st, M) = rn 170 (303, ls, .inr (.inr (some (29, 0))) :: st, (a_setI M.1 29 0 41 (wZ 41), M.2)) := y_t (n_dupr 298 rfl rfl) <| y_t (n_bi 300 41 rfl rfl rfl) <| y_t (n_bi 302 121 rfl rfl rfl) <| n_bas 303 70 41 (wZ 41) rfl rfl rfl rfl (by decide) (by decide) (by decide +kernel) rfl
theorem zw_42 (ls : List (Option aV)) (st : List aV) (M : aM) : rn 170 (303, ls, .inr (.inr (some (29, 0))) :: st, M) = rn 170 (309, ls, .inr (.inr (some (29, 0))) :: st, (a_setI M.1 29 0 42 (wZ 42), M.2)) := y_t (n_dupr 304 rfl rfl) <| y_t (n_bi 306 42 rfl rfl rfl) <| y_t (n_bi 308 32 rfl rfl rfl) <| n_bas 309 70 42 (wZ 42) rfl rfl rfl rfl (by decide) (by decide) (by decide +kernel) rfl
theorem zw_43 (ls : List (Option aV)) (st : List aV) (M : aM) : rn 170 (309, ls, .inr (.inr (some (29, 0))) :: st, M) = rn 170 (315, ls, .inr (.inr (some (29, 0))) :: st, (a_setI M.1 29 0 43 (wZ 43), M.2)) := y_t (n_dupr 310 rfl rfl) <| y_t (n_bi 312 43 rfl rfl rfl) <| y_t (n_bi 314 112 rfl rfl rfl) <| n_bas 315 70 43 (wZ 43) rfl rfl rfl rfl (by decide) (by decide) (by decide +kernel) rfl
theorem zw_44 (ls : List (Option aV)) (st : List aV) (M : aM) : rn 170 (315, ls, .inr (.inr (some (29, 0))) :: st, M) = rn 170 (321, ls, .inr (.inr (some (29, 0))) :: st, (a_setI M.1 29 0 44 (wZ 44), M.2)) := y_t (n_dupr 316 rfl rfl) <| y_t (n_bi 318 44 rfl rfl rfl) <| y_t (n_bi 320 111 rfl rfl rfl) <| n_bas 321 70 44 (wZ 44) rfl rfl rfl rfl (by decide) (by decide) (by decide +kernel) rfl
theorem zw_45 (ls : List (Option aV)) (st : List aV) (M : aM) : rn 170 (321, ls, .inr (.inr (some (29, 0))) :: st, M) = rn 170 (327, ls, .inr (.inr (some (29, 0))) :: st, (a_setI M.1 29 0 45 (wZ 45), M.2)) := y_t (n_dupr 322 rfl rfl) <| y_t (n_bi 324 45 rfl rfl rfl) <| y_t (n_bi 326 108 rfl rfl rfl) <| n_bas 327 70 45 (wZ 45) rfl rfl rfl rfl (by decide) (by decide) (by decide +kernel) rfl
theorem zw_46 (ls : List (Option aV)) (st : List aV) (M : aM) : rn 170 (327, ls, .inr (.inr (some (29, 0))) :: st, M) = rn 170 (333, ls, .inr (.inr (some (29, 0))) :: st, (a_setI M.1 29 0 46 (wZ 46), M.2)) := y_t (n_dupr 328 rfl rfl) <| y_t (n_bi 330 46 rfl rfl rfl) <| y_t (n_bi 332 105 rfl rfl rfl) <| n_bas 333 70 46 (wZ 46) rfl rfl rfl rfl (by decide) (by decide) (by decide +kernel) rfl
theorem zw_47 (ls : List (Option aV)) (st : List aV) (M : aM) : rn 170 (333, ls, .inr (.inr (some (29, 0))) :: st, M) = rn 170 (339, ls, .inr (.inr (some (29, 0))) :: st, (a_setI M.1 29 0 47 (wZ 47), M.2)) := y_t (n_dupr 334 rfl rfl) <| y_t (n_bi 336 47 rfl rfl rfl) <| y_t (n_bi 338 99 rfl rfl rfl) <| n_bas 339 70 47 (wZ 47) rfl rfl rfl rfl (by decide) (by decide) (by decide +kernel) rfl
theorem zw_48 (ls : List (Option aV)) (st : List aV) (M : aM) : rn 170 (339, ls, .inr (.inr (some (29, 0))) :: st, M) = rn 170 (345, ls, .inr (.inr (some (29, 0))) :: st, (a_setI M.1 29 0 48 (wZ 48), M.2)) := y_t (n_dupr 340 rfl rfl) <| y_t (n_bi 342 48 rfl rfl rfl) <| y_t (n_bi 344 121 rfl rfl rfl) <| n_bas 345 70 48 (wZ 48) rfl rfl rfl rfl (by decide) (by decide) (by decide +kernel) rfl
theorem zw_49 (ls : List (Option aV)) (st : List aV) (M : aM) : rn 170 (345, ls, .inr (.inr (some (29, 0))) :: st, M) = rn 170 (351, ls, .inr (.inr (some (29, 0))) :: st, (a_setI M.1 29 0 49 (wZ 49), M.2)) := y_t (n_dupr 346 rfl rfl) <| y_t (n_bi 348 49 rfl rfl rfl) <| y_t (n_bi 350 32 rfl rfl rfl) <| n_bas 351 70 49 (wZ 49) rfl rfl rfl rfl (by decide) (by decide) (by decide +kernel) rfl
theorem zw_50 (ls : List (Option aV)) (st : List aV) (M : aM) : rn 170 (351, ls, .inr (.inr (some (29, 0))) :: st, M) = rn 170 (357, ls, .inr (.inr (some (29, 0))) :: st, (a_setI M.1 29 0 50 (wZ 50), M.2)) := y_t (n_dupr 352 rfl rfl) <| y_t (n_bi 354 50 rfl rfl rfl) <| y_t (n_bi 356 114 rfl rfl rfl) <| n_bas 357 70 50 (wZ 50) rfl rfl rfl rfl (by decide) (by decide) (by decide +kernel) rfl
theorem zw_51 (ls : List (Option aV)) (st : List aV) (M : aM) : rn 170 (357, ls, .inr (.inr (some (29, 0))) :: st, M) = rn 170 (363, ls, .inr (.inr (some (29, 0))) :: st, (a_setI M.1 29 0 51 (wZ 51), M.2)) := y_t (n_dupr 358 rfl rfl) <| y_t (n_bi 360 51 rfl rfl rfl) <| y_t (n_bi 362 101 rfl rfl rfl) <| n_bas 363 70 51 (wZ 51) rfl rfl rfl rfl (by decide) (by decide) (by decide +kernel) rfl
theorem zw_52 (ls : List (Option aV)) (st : List aV) (M : aM) : rn 170 (363, ls, .inr (.inr (some (29, 0))) :: st, M) = rn 170 (369, ls, .inr (.inr (some (29, 0))) :: st, (a_setI M.1 29 0 52 (wZ 52), M.2)) := y_t (n_dupr 364 rfl rfl) <| y_t (n_bi 366 52 rfl rfl rfl) <| y_t (n_bi 368 99 rfl rfl rfl) <| n_bas 369 70 52 (wZ 52) rfl rfl rfl rfl (by decide) (by decide) (by decide +kernel) rfl
theorem zw_53 (ls : List (Option aV)) (st : List aV) (M : aM) : rn 170 (369, ls, .inr (.inr (some (29, 0))) :: st, M) = rn 170 (375, ls, .inr (.inr (some (29, 0))) :: st, (a_setI M.1 29 0 53 (wZ 53), M.2)) := y_t (n_dupr 370 rfl rfl) <| y_t (n_bi 372 53 rfl rfl rfl) <| y_t (n_bi 374 111 rfl rfl rfl) <| n_bas 375 70 53 (wZ 53) rfl rfl rfl rfl (by decide) (by decide) (by decide +kernel) rfl
theorem zw_54 (ls : List (Option aV)) (st : List aV) (M : aM) : rn 170 (375, ls, .inr (.inr (some (29, 0))) :: st, M) = rn 170 (381, ls, .inr (.inr (some (29, 0))) :: st, (a_setI M.1 29 0 54 (wZ 54), M.2)) := y_t (n_dupr 376 rfl rfl) <| y_t (n_bi 378 54 rfl rfl rfl) <| y_t (n_bi 380 114 rfl rfl rfl) <| n_bas 381 70 54 (wZ 54) rfl rfl rfl rfl (by decide) (by decide) (by decide +kernel) rfl
theorem zw_55 (ls : List (Option aV)) (st : List aV) (M : aM) : rn 170 (381, ls, .inr (.inr (some (29, 0))) :: st, M) = rn 170 (387, ls, .inr (.inr (some (29, 0))) :: st, (a_setI M.1 29 0 55 (wZ 55), M.2)) := y_t (n_dupr 382 rfl rfl) <| y_t (n_bi 384 55 rfl rfl rfl) <| y_t (n_bi 386 100 rfl rfl rfl) <| n_bas 387 70 55 (wZ 55) rfl rfl rfl rfl (by decide) (by decide) (by decide +kernel) rfl
theorem zw_56 (ls : List (Option aV)) (st : List aV) (M : aM) : rn 170 (387, ls, .inr (.inr (some (29, 0))) :: st, M) = rn 170 (393, ls, .inr (.inr (some (29, 0))) :: st, (a_setI M.1 29 0 56 (wZ 56), M.2)) := y_t (n_dupr 388 rfl rfl) <| y_t (n_bi 390 56 rfl rfl rfl) <| y_t (n_bi 392 32 rfl rfl rfl) <| n_bas 393 70 56 (wZ 56) rfl rfl rfl rfl (by decide) (by decide) (by decide +kernel) rfl
theorem zw_57 (ls : List (Option aV)) (st : List aV) (M : aM) : rn 170 (393, ls, .inr (.inr (some (29, 0))) :: st, M) = rn 170 (399, ls, .inr (.inr (some (29, 0))) :: st, (a_setI M.1 29 0 57 (wZ 57), M.2)) := y_t (n_dupr 394 rfl rfl) <| y_t (n_bi 396 57 rfl rfl rfl) <| y_t (n_bi 398 115 rfl rfl rfl) <| n_bas 399 70 57 (wZ 57) rfl rfl rfl rfl (by decide) (by decide) (by decide +kernel) rfl
theorem zw_58 (ls : List (Option aV)) (st : List aV) (M : aM) : rn 170 (399, ls, .inr (.inr (some (29, 0))) :: st, M) = rn 170 (405, ls, .inr (.inr (some (29, 0))) :: st, (a_setI M.1 29 0 58 (wZ 58), M.2)) := y_t (n_dupr 400 rfl rfl) <| y_t (n_bi 402 58 rfl rfl rfl) <| y_t (n_bi 404 116 rfl rfl rfl) <| n_bas 405 70 58 (wZ 58) rfl rfl rfl rfl (by decide) (by decide) (by decide +kernel) rfl
theorem zw_59 (ls : List (Option aV)) (st : List aV) (M : aM) : rn 170 (405, ls, .inr (.inr (some (29, 0))) :: st, M) = rn 170 (411, ls, .inr (.inr (some (29, 0))) :: st, (a_setI M.1 29 0 59 (wZ 59), M.2)) := y_t (n_dupr 406 rfl rfl) <| y_t (n_bi 408 59 rfl rfl rfl) <| y_t (n_bi 410 97 rfl rfl rfl) <| n_bas 411 70 59 (wZ 59) rfl rfl rfl rfl (by decide) (by decide) (by decide +kernel) rfl
theorem zw_60 (ls : List (Option aV)) (st : List aV) (M : aM) : rn 170 (411, ls, .inr (.inr (some (29, 0))) :: st, M) = rn 170 (417, ls, .inr (.inr (some (29, 0))) :: st, (a_setI M.1 29 0 60 (wZ 60), M.2)) := y_t (n_dupr 412 rfl rfl) <| y_t (n_bi 414 60 rfl rfl rfl) <| y_t (n_bi 416 121 rfl rfl rfl) <| n_bas 417 70 60 (wZ 60) rfl rfl rfl rfl (by decide) (by decide) (by decide +kernel) rfl
theorem zw_61 (ls : List (Option aV)) (st : List aV) (M : aM) : rn 170 (417, ls, .inr (.inr (some (29, 0))) :: st, M) = rn 170 (423, ls, .inr (.inr (some (29, 0))) :: st, (a_setI M.1 29 0 61 (wZ 61), M.2)) := y_t (n_dupr 418 rfl rfl) <| y_t (n_bi 420 61 rfl rfl rfl) <| y_t (n_bi 422 32 rfl rfl rfl) <| n_bas 423 70 61 (wZ 61) rfl rfl rfl rfl (by decide) (by decide) (by decide +kernel) rfl
theorem zw_62 (ls : List (Option aV)) (st : List aV) (M : aM) : rn 170 (423, ls, .inr (.inr (some (29, 0))) :: st, M) = rn 170 (429, ls, .inr (.inr (some (29, 0))) :: st, (a_setI M.1 29 0 62 (wZ 62), M.2)) := y_t (n_dupr 424 rfl rfl) <| y_t (n_bi 426 62 rfl rfl rfl) <| y_t (n_bi 428 108 rfl rfl rfl) <| n_bas 429 70 62 (wZ 62) rfl rfl rfl rfl (by decide) (by decide) (by decide +kernel) rfl
theorem zw_63 (ls : List (Option aV)) (st : List aV) (M : aM) : rn 170 (429, ls, .inr (.inr (some (29, 0))) :: st, M) = rn 170 (435, ls, .inr (.inr (some (29, 0))) :: st, (a_setI M.1 29 0 63 (wZ 63), M.2)) := y_t (n_dupr 430 rfl rfl) <| y_t (n_bi 432 63 rfl rfl rfl) <| y_t (n_bi 434 111 rfl rfl rfl) <| n_bas 435 70 63 (wZ 63) rfl rfl rfl rfl (by decide) (by decide) (by decide +kernel) rfl
theorem zw_64 (ls : List (Option aV)) (st : List aV) (M : aM) : rn 170 (435, ls, .inr (.inr (some (29, 0))) :: st, M) = rn 170 (441, ls, .inr (.inr (some (29, 0))) :: st, (a_setI M.1 29 0 64 (wZ 64), M.2)) := y_t (n_dupr 436 rfl rfl) <| y_t (n_bi 438 64 rfl rfl rfl) <| y_t (n_bi 440 110 rfl rfl rfl) <| n_bas 441 70 64 (wZ 64) rfl rfl rfl rfl (by decide) (by decide) (by decide +kernel) rfl
theorem zw_65 (ls : List (Option aV)) (st : List aV) (M : aM) : rn 170 (441, ls, .inr (.inr (some (29, 0))) :: st, M) = rn 170 (447, ls, .inr (.inr (some (29, 0))) :: st, (a_setI M.1 29 0 65 (wZ 65), M.2)) := y_t (n_dupr 442 rfl rfl) <| y_t (n_bi 444 65 rfl rfl rfl) <| y_t (n_bi 446 103 rfl rfl rfl) <| n_bas 447 70 65 (wZ 65) rfl rfl rfl rfl (by decide) (by decide) (by decide +kernel) rfl
theorem zw_66 (ls : List (Option aV)) (st : List aV) (M : aM) : rn 170 (447, ls, .inr (.inr (some (29, 0))) :: st, M) = rn 170 (453, ls, .inr (.inr (some (29, 0))) :: st, (a_setI M.1 29 0 66 (wZ 66), M.2)) := y_t (n_dupr 448 rfl rfl) <| y_t (n_bi 450 66 rfl rfl rfl) <| y_t (n_bi 452 101 rfl rfl rfl) <| n_bas 453 70 66 (wZ 66) rfl rfl rfl rfl (by decide) (by decide) (by decide +kernel) rfl
theorem zw_67 (ls : List (Option aV)) (st : List aV) (M : aM) : rn 170 (453, ls, .inr (.inr (some (29, 0))) :: st, M) = rn 170 (459, ls, .inr (.inr (some (29, 0))) :: st, (a_setI M.1 29 0 67 (wZ 67), M.2)) := y_t (n_dupr 454 rfl rfl) <| y_t (n_bi 456 67 rfl rfl rfl) <| y_t (n_bi 458 115 rfl rfl rfl) <| n_bas 459 70 67 (wZ 67) rfl rfl rfl rfl (by decide) (by decide) (by decide +kernel) rfl
theorem zw_68 (ls : List (Option aV)) (st : List aV) (M : aM) : rn 170 (459, ls, .inr (.inr (some (29, 0))) :: st, M) = rn 170 (465, ls, .inr (.inr (some (29, 0))) :: st, (a_setI M.1 29 0 68 (wZ 68), M.2)) := y_t (n_dupr 460 rfl rfl) <| y_t (n_bi 462 68 rfl rfl rfl) <| y_t (n_bi 464 116 rfl rfl rfl) <| n_bas 465 70 68 (wZ 68) rfl rfl rfl rfl (by decide) (by decide) (by decide +kernel) rfl
theorem zw_69 (ls : List (Option aV)) (st : List aV) (M : aM) : rn 170 (465, ls, .inr (.inr (some (29, 0))) :: st, M) = rn 170 (471, ls, .inr (.inr (some (29, 0))) :: st, (a_setI M.1 29 0 69 (wZ 69), M.2)) := y_t (n_dupr 466 rfl rfl) <| y_t (n_bi 468 69 rfl rfl rfl) <| y_t (n_bi 470 32 rfl rfl rfl) <| n_bas 471 70 69 (wZ 69) rfl rfl rfl rfl (by decide) (by decide) (by decide +kernel) rfl
theorem zw_all (ls : List (Option aV)) (st : List aV) (I : aI) (K : _) : rn 170 (57, ls, .inr (.inr (some (29, 0))) :: st, (I, K)) = rn 170 (471, ls, .inr (.inr (some (29, 0))) :: st, (zL 70 I, K)) :=
  y_t (zw_0 ls st (zL 0 I, K)) <| y_t (zw_1 ls st (zL 1 I, K)) <| y_t (zw_2 ls st (zL 2 I, K)) <| y_t (zw_3 ls st (zL 3 I, K)) <| y_t (zw_4 ls st (zL 4 I, K)) <| y_t (zw_5 ls st (zL 5 I, K)) <| y_t (zw_6 ls st (zL 6 I, K)) <| y_t (zw_7 ls st (zL 7 I, K)) <| y_t (zw_8 ls st (zL 8 I, K)) <| y_t (zw_9 ls st (zL 9 I, K)) <| y_t (zw_10 ls st (zL 10 I, K)) <| y_t (zw_11 ls st (zL 11 I, K)) <| y_t (zw_12 ls st (zL 12 I, K)) <| y_t (zw_13 ls st (zL 13 I, K)) <| y_t (zw_14 ls st (zL 14 I, K)) <| y_t (zw_15 ls st (zL 15 I, K)) <| y_t (zw_16 ls st (zL 16 I, K)) <| y_t (zw_17 ls st (zL 17 I, K)) <| y_t (zw_18 ls st (zL 18 I, K)) <| y_t (zw_19 ls st (zL 19 I, K)) <| y_t (zw_20 ls st (zL 20 I, K)) <| y_t (zw_21 ls st (zL 21 I, K)) <| y_t (zw_22 ls st (zL 22 I, K)) <| y_t (zw_23 ls st (zL 23 I, K)) <| y_t (zw_24 ls st (zL 24 I, K)) <| y_t (zw_25 ls st (zL 25 I, K)) <| y_t (zw_26 ls st (zL 26 I, K)) <| y_t (zw_27 ls st (zL 27 I, K)) <| y_t (zw_28 ls st (zL 28 I, K)) <| y_t (zw_29 ls st (zL 29 I, K)) <| y_t (zw_30 ls st (zL 30 I, K)) <| y_t (zw_31 ls st (zL 31 I, K)) <| y_t (zw_32 ls st (zL 32 I, K)) <| y_t (zw_33 ls st (zL 33 I, K)) <| y_t (zw_34 ls st (zL 34 I, K)) <| y_t (zw_35 ls st (zL 35 I, K)) <| y_t (zw_36 ls st (zL 36 I, K)) <| y_t (zw_37 ls st (zL 37 I, K)) <| y_t (zw_38 ls st (zL 38 I, K)) <| y_t (zw_39 ls st (zL 39 I, K)) <| y_t (zw_40 ls st (zL 40 I, K)) <| y_t (zw_41 ls st (zL 41 I, K)) <| y_t (zw_42 ls st (zL 42 I, K)) <| y_t (zw_43 ls st (zL 43 I, K)) <| y_t (zw_44 ls st (zL 44 I, K)) <| y_t (zw_45 ls st (zL 45 I, K)) <| y_t (zw_46 ls st (zL 46 I, K)) <| y_t (zw_47 ls st (zL 47 I, K)) <| y_t (zw_48 ls st (zL 48 I, K)) <| y_t (zw_49 ls st (zL 49 I, K)) <| y_t (zw_50 ls st (zL 50 I, K)) <| y_t (zw_51 ls st (zL 51 I, K)) <| y_t (zw_52 ls st (zL 52 I, K)) <| y_t (zw_53 ls st (zL 53 I, K)) <| y_t (zw_54 ls st (zL 54 I, K)) <| y_t (zw_55 ls st (zL 55 I, K)) <| y_t (zw_56 ls st (zL 56 I, K)) <| y_t (zw_57 ls st (zL 57 I, K)) <| y_t (zw_58 ls st (zL 58 I, K)) <| y_t (zw_59 ls st (zL 59 I, K)) <| y_t (zw_60 ls st (zL 60 I, K)) <| y_t (zw_61 ls st (zL 61 I, K)) <| y_t (zw_62 ls st (zL 62 I, K)) <| y_t (zw_63 ls st (zL 63 I, K)) <| y_t (zw_64 ls st (zL 64 I, K)) <| y_t (zw_65 ls st (zL 65 I, K)) <| y_t (zw_66 ls st (zL 66 I, K)) <| y_t (zw_67 ls st (zL 67 I, K)) <| y_t (zw_68 ls st (zL 68 I, K)) <| zw_69 ls st (zL 69 I, K)
