/-! ===== what holds between two calls ===== -/
theorem own_u {i j s q : Nat} (h : own i s q) (h2 : own j s q) : i = j := by
  unfold own at h h2
  split at h
  all_goals (first | (simp only at h2; omega) | exact absurd h id)
theorem Sim_own {a8 : Int32} {i : Nat} {I I' : aI} {r : aR} (h : Sim a8 i I r) (h4 : nS r ≤ 4) (h40 : nR r ≤ 40) (f : ∀ s q, own i s q → I' s q = I s q) : Sim a8 i I' r := by
  obtain ⟨g1, g2, g3, g4, g5, g6⟩ := h
  refine ⟨?_, ?_, ?_, ?_, ?_, ?_⟩
  · unfold kLow at g1 ⊢; rw [f 9 i rfl, f 10 i rfl, f 20 i rfl]; exact g1
  · unfold kFig at g2 ⊢; rw [f 13 i rfl]; exact g2
  · intro s hs; rw [f 18 _ (own_s (by omega)), f 19 _ (own_s (by omega))]; exact g3 s hs
  · unfold kPha at g4 ⊢; rw [f 17 i rfl]; exact g4
  · intro q hq; rw [f 14 _ (own_q (by omega)), f 6 _ (own_q (by omega))]; exact g5 q hq
  · intro c c1 c2
    have hm := Nat.mod_lt c (by decide : 0 < 60)
    rw [f 15 _ (own_c hm), f 4 _ (own_c hm), f 5 _ (own_c hm)]; exact g6 c c1 c2
/-- a row that agrees below 6388 -/
theorem Okt.r {T : Nat} {r r' : aR} (h : Okt T r) (e : ∀ x, x < 6388 → r' x = r x) : Okt T r' := by
  obtain ⟨hs, ho, hz⟩ := h
  have h4 := hs.1.1.2
  have h40 := hs.2.1.2
  have eR := nR_c (e 4 (by omega))
  have eC := nC_c (e 12 (by omega))
  refine ⟨Oks_c hs (fun x hx => e x (by omega)) (fun s j a b => e _ (by omega)) (fun s j a b c => e _ (by omega)) (fun p j a b => e _ (by omega)), ?_, ?_⟩
  · rw [eR]; exact fun q hq => oR_c (ho q hq) (e _ (by omega)) (e _ (by omega)) (e _ (by omega)) (e _ (by omega))
  · rw [eR, eC]; exact hz.cg (fun q f _ _ => e _ (by omega)) (fun p j _ _ _ => e _ (by omega)) (fun q j _ _ => e _ (by omega)) h40 (e _ (by omega)) (e _ (by omega)) (e _ (by omega)) (e _ (by omega))
def TxO (I : aI) : Prop := ∃ l, l ≤ 400 ∧ I 21 0 1 = nI l ∧ I 31 0 10 = nI l ∧ (∀ x, x < l → I 7 0 x = I 28 0 x ∧ By (I 28 0 x)) ∧ I 21 0 2 = I 31 0 15 ∧ I 21 0 3 = I 31 0 16
/-- the reference's saved row -/
def sr (I : aI) (j : Nat) : aR := fun x => I 26 0 (6388 * j + x)
def SvO (I : aI) (w : aW) (j : Nat) : Prop := match sv w j with
  | none => I 27 0 j = 0
  | some i => ¬ I 27 0 j = 0 ∧ ∃ T, T ≤ 20000 ∧ Okt T (sr I j) ∧ Sim 0 i I (sr I j)
def cnt (w : aW) : Nat := (if w.1 = none then 0 else 1) + (if w.2.1 = none then 0 else 1) + (if w.2.2.1 = none then 0 else 1)
def WnO (w : aW) : Prop := (∀ i, w.1 = some i → i ≠ 0 ∧ i < 1 + cnt w) ∧ (∀ j, j < 2 → ∀ i, sv w j = some i → i ≠ 0 ∧ i < 1 + cnt w) ∧ (∀ i, w.1 = some i → ∀ j, j < 2 → sv w j ≠ some i) ∧ (∀ i, sv w 0 = some i → sv w 1 ≠ some i)
def RmO (n : Nat) (w : aW) (k : aQ) : Prop := k.2.2.1 ≤ 290 + 276 * cnt w + n ∧ k.2.2.2 ≤ 33270 + 6766 * cnt w + 6 * n
def Gd (xs : Nat → Int32) (N n : Nat) (I : aI) (w : aW) (k : aQ) : Prop := (∃ T, T ≤ 20000 ∧ Okt T (I 24 0)) ∧ Sim 0 0 I (I 24 0) ∧ I 31 0 8 = 0 ∧ TxO I ∧ Wd I ∧ (SvO I w 0 ∧ SvO I w 1) ∧ WnO w ∧ Cn k.2.1 (1 + cnt w) ∧ (∀ x, I 0 0 x = xs x) ∧ k.2.1 0 = N ∧ RmO n w k
/-- places that don't matter between two calls -/
def scr (w : aW) (s q j : Nat) : Prop := (s = 31 ∧ q = 0 ∧ (j = 0 ∨ j = 5 ∨ j = 6 ∨ j = 7 ∨ (11 ≤ j ∧ j ≤ 14))) ∨ s = 25 ∨ s = 23 ∨ s = 8 ∨ (s = 21 ∧ 4 ≤ j) ∨ s = 11 ∨ s = 12 ∨ s = 16 ∨ ∃ i, w.1 = some i ∧ own i s q
theorem nscr {w : aW} {s q j : Nat} (h : ¬ (s = 31 ∧ q = 0 ∧ (j = 0 ∨ j = 5 ∨ j = 6 ∨ j = 7 ∨ (11 ≤ j ∧ j ≤ 14)))) (h2 : s ≠ 25 ∧ s ≠ 23 ∧ s ≠ 8 ∧ s ≠ 11 ∧ s ≠ 12 ∧ s ≠ 16) (h3 : ¬ (s = 21 ∧ 4 ≤ j)) (h4 : ∀ i, w.1 = some i → ¬ own i s q) : ¬ scr w s q j := by
  rintro (z | z | z | z | z | z | z | z | ⟨i, z1, z2⟩)
  · exact h z
  · omega
  · omega
  · omega
  · exact h3 z
  · omega
  · omega
  · omega
  · exact h4 i z1 z2
theorem SvO.keep {I I' : aI} {w : aW} {j : Nat} (hj : j < 2) (hW : WnO w) (h : SvO I w j) (f26 : ∀ x, I' 26 0 x = I 26 0 x) (f27 : I' 27 0 j = I 27 0 j) (f : ∀ i, sv w j = some i → ∀ s q, own i s q → I' s q = I s q) : SvO I' w j := by
  unfold SvO at h ⊢
  cases hs : sv w j with
  | none => rw [hs] at h; rw [f27]; exact h
  | some i =>
    rw [hs] at h
    obtain ⟨h1, T, hT, hO, hS⟩ := h
    have e : sr I' j = sr I j := funext (fun x => f26 _)
    refine ⟨by rw [f27]; exact h1, T, hT, by rw [e]; exact hO, ?_⟩
    rw [e]
    exact Sim_own hS hO.rs.1.2 hO.rq.2 (f i hs)
/-- the row and the live simulation have changed, and what doesn't matter -/
theorem Gd.row {xs : Nat → Int32} {N n n' : Nat} {I I' : aI} {w : aW} {k k' : aQ} (h : Gd xs N n I w k) {T : Nat} (hT : T ≤ 20000) (hO : Okt T (I' 24 0)) (hS : Sim 0 0 I' (I' 24 0)) (f : ∀ s q j, ¬ own 0 s q → ¬ (s = 24 ∧ q = 0) → ¬ scr w s q j → I' s q j = I s q j) (hc : k'.2.1 = k.2.1) (hr : RmO n' w k') : Gd xs N n' I' w k' := by
  obtain ⟨-, -, h8, ⟨l, l1, l2, l3, l4, l5, l6⟩, hW, ⟨s0, s1⟩, hN, hC, hX, hk, -⟩ := h
  have F : ∀ s q j, (s = 0 ∨ s = 1 ∨ s = 2 ∨ s = 7 ∨ s = 26 ∨ s = 27 ∨ s = 28 ∨ s = 29 ∨ (s = 31 ∧ (j = 8 ∨ j = 10 ∨ j = 15 ∨ j = 16)) ∨ (s = 21 ∧ j < 4)) → I' s q j = I s q j := fun s q j hs => f s q j (nown (by omega)) (by omega) (nscr (by omega) (by omega) (by omega) (fun i _ => nown (by omega)))
  have sF : ∀ j, j < 2 → ∀ i, sv w j = some i → ∀ s q, own i s q → I' s q = I s q := fun j hj i hi s q ho => by
    have hn := (hN.2.1 j hj i hi).1
    funext x
    have hs8 : s ≠ 24 ∧ s ≠ 31 ∧ s ≠ 25 ∧ s ≠ 23 ∧ s ≠ 8 ∧ s ≠ 21 ∧ s ≠ 11 ∧ s ≠ 12 ∧ s ≠ 16 := by
      refine ⟨?_, ?_, ?_, ?_, ?_, ?_, ?_, ?_, ?_⟩ <;> (rintro rfl; exact ho)
    refine f s q x (fun z => hn (own_u ho z)) (by omega) (nscr (by omega) (by omega) (by omega) (fun i2 h2 z => ?_))
    have := own_u ho z
    subst this
    exact hN.2.2.1 i h2 j hj hi
  refine ⟨⟨T, hT, hO⟩, hS, by rw [F _ _ _ (by omega)]; exact h8, ⟨l, l1, by rw [F _ _ _ (by omega)]; exact l2, by rw [F _ _ _ (by omega)]; exact l3, fun x hx => by rw [F 7 0 x (by omega), F 28 0 x (by omega)]; exact l4 x hx, by rw [F _ _ _ (by omega), F _ _ _ (by omega)]; exact l5, by rw [F _ _ _ (by omega), F _ _ _ (by omega)]; exact l6⟩, ⟨fun q hq => ⟨by rw [F _ _ _ (by omega)]; exact (hW.1 q hq).1, fun j hj => by rw [F _ _ _ (by omega)]; exact (hW.1 q hq).2 j hj⟩, fun x hx => by rw [F _ _ _ (by omega)]; exact hW.2 x hx⟩, ⟨s0.keep (by omega) hN (fun x => F _ _ _ (by omega)) (F _ _ _ (by omega)) (sF 0 (by omega)), s1.keep (by omega) hN (fun x => F _ _ _ (by omega)) (F _ _ _ (by omega)) (sF 1 (by omega))⟩, hN, by rw [hc]; exact hC, fun x => by rw [F _ _ _ (by omega)]; exact hX x, by rw [hc]; exact hk, hr⟩
theorem Gd.rm {xs : Nat → Int32} {N n : Nat} {I : aI} {w : aW} {k : aQ} (h : Gd xs N n I w k) : RmO (n + 1) w k := by
  obtain ⟨a, b⟩ := h.2.2.2.2.2.2.2.2.2.2
  exact ⟨by omega, by omega⟩
theorem Gd.rmx {xs : Nat → Int32} {N n : Nat} {I : aI} {w : aW} {k : aQ} (h : Gd xs N n I w k) : RmO (n + 1) w (kx k) := by
  obtain ⟨a, b⟩ := h.2.2.2.2.2.2.2.2.2.2
  exact ⟨by show k.2.2.1 + 1 ≤ _; omega, by show k.2.2.2 + 6 ≤ _; omega⟩
/-- only what doesn't matter has changed -/
theorem Gd.keep {xs : Nat → Int32} {N n n' : Nat} {I I' : aI} {w : aW} {k k' : aQ} (h : Gd xs N n I w k) (f : ∀ s q j, ¬ scr w s q j → I' s q j = I s q j) (hc : k'.2.1 = k.2.1) (hr : RmO n' w k') : Gd xs N n' I' w k' := by
  obtain ⟨T, hT, hO⟩ := h.1
  have e24 : I' 24 0 = I 24 0 := funext (fun j => f 24 0 j (nscr (by omega) (by omega) (by omega) (fun i _ => nown (by omega))))
  refine h.row hT (by rw [e24]; exact hO) ?_ (fun s q j _ _ g => f s q j g) hc hr
  rw [e24]
  refine Sim_own h.2.1 hO.rs.1.2 hO.rq.2 (fun s q ho => ?_)
  funext x
  have hs8 : s ≠ 24 ∧ s ≠ 31 ∧ s ≠ 25 ∧ s ≠ 23 ∧ s ≠ 8 ∧ s ≠ 21 ∧ s ≠ 11 ∧ s ≠ 12 ∧ s ≠ 16 := by
    refine ⟨?_, ?_, ?_, ?_, ?_, ?_, ?_, ?_, ?_⟩ <;> (rintro rfl; exact ho)
  exact f s q x (nscr (by omega) (by omega) (by omega) (fun i hi z => (h.2.2.2.2.2.2.1.1 i hi).1 (own_u z ho)))
theorem Gd.th {xs : Nat → Int32} {N n : Nat} {I : aI} {w : aW} {k : aQ} (h : Gd xs N n I w k) (c : Int32) {k' : aQ} (hc : k'.2.1 = k.2.1) {n' : Nat} (hr : RmO n' w k') : Gd xs N n' (a_setI I 31 0 0 c) w k' := h.keep (fun s q j g => set_n (fun z => g (Or.inl ⟨z.1, z.2.1, Or.inl z.2.2⟩))) hc hr
/-! the two answers agree -/
abbrev vX : aV := .inr (.inr (some (30, 0)))
abbrev vT : aV := .inr (.inr (some (31, 0)))
abbrev vO : aV := .inr (.inr (some (32, 0)))
def KH (xs : Nat → Int32) (N n : Nat) (I : aI) (w : aW) (k : aQ) (hp gm : Nat) (as : List aV) : Prop := ∃ (c v : Int32) (I1 : aI) (w1 : aW) (k1 : aQ) (I2 : aI), rn hp (a_en hp (vX :: (as ++ [vO])) (MM I w k)) = some (.inl (some (.inl c)), MM I1 w1 k1) ∧ I1 0 = I 0 ∧ k1.2.1 0 = k.2.1 0 ∧ rn gm (a_en gm (vT :: as) (MM I1 w1 k1)) = some (.inl (some (.inl v)), MM I2 w1 k1) ∧ I2 31 0 0 = c ∧ (c = 0 → k1.1 32 0 0 = v.toInt64) ∧ Gd xs N (n + 1) I2 w1 k1
def KV (xs : Nat → Int32) (N n : Nat) (I : aI) (w : aW) (k : aQ) (hp gm : Nat) (as : List aV) : Prop := ∃ (c : Int32) (I1 : aI) (w1 : aW) (k1 : aQ) (I2 : aI), rn hp (a_en hp (vX :: as) (MM I w k)) = some (.inl (some (.inl c)), MM I1 w1 k1) ∧ I1 0 = I 0 ∧ k1.2.1 0 = k.2.1 0 ∧ rn gm (a_en gm (vT :: as) (MM I1 w1 k1)) = some (.inl none, MM I2 w1 k1) ∧ I2 31 0 0 = c ∧ Gd xs N (n + 1) I2 w1 k1
def KD (xs : Nat → Int32) (N n : Nat) (I : aI) (w : aW) (k : aQ) (F gm : Nat) : Prop := ∃ (v : Int32) (I1 : aI) (w1 : aW) (k1 : aQ) (I2 : aI), rn F (a_en F [vX] (MM I w k)) = some (.inl (some (.inl v)), MM I1 w1 k1) ∧ rn gm (a_en gm [vT] (MM I1 w1 k1)) = some (.inl (some (.inl v)), MM I2 w1 k1) ∧ Gd xs N (n + 1) I2 w1 k1
section
variable {xs : Nat → Int32} {N n : Nat} {I : aI} {w : aW} {k : aQ}
/-- a call that only reads -/
theorem kd_r {F gm : Nat} {v : Int32} (G : Gd xs N n I w k) (h : rn F (a_en F [vX] (MM I w k)) = some (.inl (some (.inl v)), MM I w k)) (hm : rn gm (a_en gm [vT] (MM I w k)) = some (.inl (some (.inl v)), MM (a_setI I 31 0 0 0) w k)) : KD xs N n I w k F gm := ⟨v, I, w, k, _, h, hm, G.th 0 rfl G.rm⟩
theorem kh_r {hp gm : Nat} {as : List aV} {v : Int32} (G : Gd xs N n I w k) (h : rn hp (a_en hp (vX :: (as ++ [vO])) (MM I w k)) = some (.inl (some (.inl 0)), MM I w (a_setL k.1 32 0 0 v.toInt64, k.2))) (hm : rn gm (a_en gm (vT :: as) (MM I w (a_setL k.1 32 0 0 v.toInt64, k.2))) = some (.inl (some (.inl v)), MM (a_setI I 31 0 0 0) w (a_setL k.1 32 0 0 v.toInt64, k.2))) : KH xs N n I w k hp gm as := ⟨0, v, I, w, _, _, h, rfl, rfl, hm, set_e, fun _ => by show a_setL k.1 32 0 0 v.toInt64 32 0 0 = _; rfl, G.th 0 rfl G.rm⟩
theorem kh_x {hp gm : Nat} {as : List aV} {c v : Int32} (hc : ¬ c = 0) (G : Gd xs N n I w k) (h : rn hp (a_en hp (vX :: (as ++ [vO])) (MM I w k)) = some (.inl (some (.inl c)), MM I w (kx k))) (hm : rn gm (a_en gm (vT :: as) (MM I w (kx k))) = some (.inl (some (.inl v)), MM (a_setI I 31 0 0 c) w (kx k))) : KH xs N n I w k hp gm as := ⟨c, v, I, w, _, _, h, rfl, rfl, hm, set_e, fun z => absurd z hc, G.th c (k' := kx k) rfl G.rmx⟩
theorem kv_x {hp gm : Nat} {as : List aV} {c : Int32} (G : Gd xs N n I w k) (h : rn hp (a_en hp (vX :: as) (MM I w k)) = some (.inl (some (.inl c)), MM I w (kx k))) (hm : rn gm (a_en gm (vT :: as) (MM I w (kx k))) = some (.inl none, MM (a_setI I 31 0 0 c) w (kx k))) : KV xs N n I w k hp gm as := ⟨c, I, w, _, _, h, rfl, rfl, hm, set_e, G.th c (k' := kx k) rfl G.rmx⟩
/-- the live simulation and the row change -/
theorem kh_c {hp gm : Nat} {as : List aV} {v : Int32} {I1 : aI} {r' : aR} {T : Nat} (G : Gd xs N n I w k) (h : rn hp (a_en hp (vX :: (as ++ [vO])) (MM I w k)) = some (.inl (some (.inl 0)), MM I1 w (a_setL k.1 32 0 0 v.toInt64, k.2))) (hS : Sim 0 0 I1 r') (hF : ∀ s q j, ¬ own 0 s q → ¬ scr w s q j → I1 s q j = I s q j) (hT : T ≤ 20000) (hO : Okt T r') (hm : rn gm (a_en gm (vT :: as) (MM I1 w (a_setL k.1 32 0 0 v.toInt64, k.2))) = some (.inl (some (.inl v)), MM (pR (a_setI I1 31 0 0 0) r') w (a_setL k.1 32 0 0 v.toInt64, k.2))) : KH xs N n I w k hp gm as := by
  refine ⟨0, v, I1, w, _, _, h, ?_, rfl, hm, ?_, fun _ => by show a_setL k.1 32 0 0 v.toInt64 32 0 0 = _; rfl, G.row hT (by rw [pR_row]; exact hO) ?_ (fun s q j g1 g2 g3 => ?_) rfl G.rm⟩
  · funext q j
    exact hF 0 q j (nown (by omega)) (nscr (by omega) (by omega) (by omega) (fun i _ => nown (by omega)))
  · rw [show pR (a_setI I1 31 0 0 0) r' 31 = a_setI I1 31 0 0 0 31 from rfl, set_e]
  · rw [pR_row]
    refine Sim_own hS hO.rs.1.2 hO.rq.2 (fun s q ho => ?_)
    funext x
    unfold pR
    have hs8 : s ≠ 24 ∧ s ≠ 31 := by
      refine ⟨?_, ?_⟩ <;> (rintro rfl; exact ho)
    rw [gC, if_neg (by omega), set_n (by omega)]
  · unfold pR
    rw [gC, if_neg g2, set_n (fun z => g3 (Or.inl ⟨z.1, z.2.1, Or.inl z.2.2⟩))]
    exact hF s q j g1 g3
end
