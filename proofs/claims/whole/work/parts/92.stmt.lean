/-! ===== what a setup text says, and the class's parser ===== -/
def bnd {α β : Type} (x : (Int32 × Nat) ⊕ α) (f : α → (Int32 × Nat) ⊕ β) : (Int32 × Nat) ⊕ β := match x with
  | .inl e => .inl e
  | .inr a => f a
abbrev PR : Type := (Int32 × Nat) ⊕ (aR × Nat)
def rdN (b : aR) (n p lo hi : Nat) : (Int32 × Nat) ⊕ (Nat × Nat) := if t_k b n p = 2 then (if lo ≤ t_v b n p ∧ t_v b n p ≤ hi then .inr (t_v b n p, t_e b n p) else .inl (2, t_f b n p)) else .inl (1, t_f b n p)
/-- p: where the word stands -/
def sOrb (b : aR) (n : Nat) (r : aR) (p : Nat) : PR := bnd (rdN b n (t_e b n p) 60 200) fun x => bnd (rdN b n x.2 0 359) fun y => bnd (rdN b n y.2 0 359) fun z => .inr (upd (upd (upd r 0 (nI x.1)) 1 (nI y.1)) 2 (nI z.1), z.2)
def sSta (b : aR) (n : Nat) (r : aR) (p : Nat) : PR := if nS r = 4 then .inl (3, t_f b n p) else bnd (rdN b n (t_e b n p) 0 359) fun x0 => bnd (rdN b n x0.2 0 90) fun x1 => bnd (rdN b n x1.2 1 30) fun x2 => bnd (rdN b n x2.2 0 59) fun x3 => bnd (rdN b n x3.2 1 20) fun x4 => bnd (rdN b n x4.2 0 99) fun x5 => .inr (m_as r (nS r) (nI x0.1) (nI x1.1) (nI x2.1) (nI x3.1) (nI x4.1) (nI x5.1), x5.2)
def sOne (lo hi x : Nat) (b : aR) (n : Nat) (r : aR) (p : Nat) : PR := bnd (rdN b n (t_e b n p) lo hi) fun y => .inr (upd r x (nI y.1), y.2)
def sFre (b : aR) (n : Nat) (r : aR) (p : Nat) : PR := bnd (rdN b n (t_e b n p) 0 999) fun x => bnd (rdN b n x.2 0 9) fun y => .inr (upd (upd r 6 (nI x.1)) 7 (nI y.1), y.2)
def sMem (b : aR) (n : Nat) (r : aR) (p : Nat) : PR := bnd (rdN b n (t_e b n p) 24 960) fun x => if m_use r ≤ nI x.1 then .inr (upd r 8 (nI x.1), x.2) else .inl (3, t_f b n (t_e b n p))
def sPol (b : aR) (n : Nat) (r : aR) (p : Nat) : PR := if t_m b n (t_e b n p) 8 then .inr (upd r 9 0, t_e b n (t_e b n p)) else if t_m b n (t_e b n p) 9 then .inr (upd r 9 1, t_e b n (t_e b n p)) else .inl (1, t_f b n (t_e b n p))
def sRec (b : aR) (n : Nat) (r : aR) (p : Nat) : PR := if nR r = 40 then .inl (3, t_f b n p) else bnd (rdN b n (t_e b n p) 1 24) fun x => if m_use r + nI x.1 ≤ r 8 then (bnd (rdN b n x.2 0 9) fun y => .inr (m_ar r (nI x.1) (nI y.1), y.2)) else .inl (3, t_f b n (t_e b n p))
def sWrd (b : aR) (n : Nat) (r : aR) (p : Nat) : PR := if t_m b n p 0 then sOrb b n r p else if t_m b n p 1 then sSta b n r p else if t_m b n p 2 then sOne 0 999 10 b n r p else if t_m b n p 3 then sOne 1 9999 11 b n r p else if t_m b n p 4 then sFre b n r p else if t_m b n p 5 then sMem b n r p else if t_m b n p 6 then sPol b n r p else if t_m b n p 7 then sRec b n r p else .inl (1, t_f b n p)
def sSem (b : aR) (n : Nat) (x : aR × Nat) : PR := if t_k b n x.2 = 3 then .inr (x.1, t_e b n x.2) else .inl (1, t_f b n x.2)
def sStm (b : aR) (n : Nat) (r : aR) (p : Nat) : PR := bnd (sWrd b n r p) (sSem b n)
/-- the simulation i, the numbers and the token may have changed -/
def Fc (i : Nat) (I J : aI) : Prop := ∀ s q j, ¬ own i s q → s ≠ 8 → ¬ (s = 21 ∧ q = 0 ∧ (j = 4 ∨ j = 5 ∨ j = 6)) → J s q j = I s q j
/-- and the error -/
def Fz (i : Nat) (I J : aI) : Prop := ∀ s q j, ¬ own i s q → s ≠ 8 → ¬ (s = 21 ∧ q = 0 ∧ (j = 2 ∨ j = 3 ∨ j = 4 ∨ j = 5 ∨ j = 6)) → J s q j = I s q j
theorem Fc.refl (i : Nat) (I : aI) : Fc i I I := fun _ _ _ _ _ _ => rfl
theorem Fc.trans {i : Nat} {I J K : aI} (h : Fc i I J) (h2 : Fc i J K) : Fc i I K := fun s q j a b c => (h2 s q j a b c).trans (h s q j a b c)
theorem Fc.fz {i : Nat} {I J : aI} (h : Fc i I J) : Fz i I J := fun s q j a b c => h s q j a b (fun z => c ⟨z.1, z.2.1, by omega⟩)
theorem Fz.trans {i : Nat} {I J K : aI} (h : Fz i I J) (h2 : Fz i J K) : Fz i I K := fun s q j a b c => (h2 s q j a b c).trans (h s q j a b c)
theorem Tq.fc {I J : aI} (h : Tq I J) (i : Nat) : Fc i I J := fun s q j _ _ c => h s q j c
theorem Fr.fc {i : Nat} {I J : aI} (h : Fr i I J) : Fc i I J := fun s q j a _ _ => congrFun (h s q a) j
/-- what the class reads: text, its length, constants -/
def Cx (b : aR) (n : Nat) (I : aI) : Prop := (∀ x, x < n → I 7 0 x = b x) ∧ I 21 0 1 = nI n ∧ Wd I
theorem nown {i s q : Nat} (h : s ≠ 9 ∧ s ≠ 10 ∧ s ≠ 13 ∧ s ≠ 17 ∧ s ≠ 20 ∧ s ≠ 14 ∧ s ≠ 6 ∧ s ≠ 15 ∧ s ≠ 4 ∧ s ≠ 5 ∧ s ≠ 18 ∧ s ≠ 19) : ¬ own i s q := by
  intro z
  unfold own at z
  split at z
  all_goals omega
theorem Cx.fz {b : aR} {n i : Nat} {I J : aI} (h : Cx b n I) (f : Fz i I J) : Cx b n J := by
  refine ⟨fun x hx => ?_, ?_, fun q hq => ⟨?_, fun j hj => ?_⟩, fun x hx => ?_⟩
  · rw [f 7 0 x (nown (by omega)) (by omega) (by omega)]; exact h.1 x hx
  · rw [f 21 0 1 (nown (by omega)) (by omega) (by omega)]; exact h.2.1
  · rw [f 1 q 1 (nown (by omega)) (by omega) (by omega)]; exact (h.2.2.1 q hq).1
  · rw [f 2 q j (nown (by omega)) (by omega) (by omega)]; exact (h.2.2.1 q hq).2 j hj
  · rw [f 29 0 x (nown (by omega)) (by omega) (by omega)]; exact h.2.2.2 x hx
theorem Sim_n {a8 : Int32} {i : Nat} {I J : aI} {r : aR} (h : Sim a8 i I r) (f : ∀ s q, s ≠ 8 → s ≠ 21 → J s q = I s q) : Sim a8 i J r := by
  obtain ⟨g1, g2, g3, g4, g5, g6⟩ := h
  refine ⟨?_, ?_, ?_, ?_, ?_, ?_⟩
  · unfold kLow at g1 ⊢; rw [f 9 i (by omega) (by omega), f 10 i (by omega) (by omega), f 20 i (by omega) (by omega)]; exact g1
  · unfold kFig at g2 ⊢; rw [f 13 i (by omega) (by omega)]; exact g2
  · intro s hs; rw [f 18 _ (by omega) (by omega), f 19 _ (by omega) (by omega)]; exact g3 s hs
  · unfold kPha at g4 ⊢; rw [f 17 i (by omega) (by omega)]; exact g4
  · intro q hq; rw [f 14 _ (by omega) (by omega), f 6 _ (by omega) (by omega)]; exact g5 q hq
  · intro c c1 c2; rw [f 15 _ (by omega) (by omega), f 4 _ (by omega) (by omega), f 5 _ (by omega) (by omega)]; exact g6 c c1 c2
/-- only numbers, token and error changed -/
def Nq (I J : aI) : Prop := ∀ s q, s ≠ 8 → s ≠ 21 → J s q = I s q
section
variable {b : aR} {n : Nat}
theorem C_22 (I : aI) (w : aW) (k : aQ) (c : Int32) : rn 22 (a_en 22 [.inr (.inr (some (21, 0))), .inl c] (MM I w k)) = some (.inl (some (.inl 0)), MM (a_setI (a_setI I 21 0 2 c) 21 0 3 (I 21 0 5)) w k) := e22_0 I w k c
/-- a number is read: place c -/
theorem C_33 (I : aI) (w : aW) (k : aQ) (hn : n ≤ 400) (hX : Cx b n I) {p : Nat} (hp : p ≤ n) (h7 : I 21 0 6 = nI p) {c lo hi : Nat} (hc : c < 6) (hlo : lo < 2 ^ 31) (hhi : hi < 99999) : (∀ v p', rdN b n p lo hi = .inr (v, p') → p' ≤ n ∧ lo ≤ v ∧ v ≤ hi ∧ ∃ J, rn 33 (a_en 33 [.inr (.inr (some (21, 0))), .inl (nI c), .inl (nI lo), .inl (nI hi)] (MM I w k)) = some (.inl (some (.inl 1)), MM J w k) ∧ J 8 0 c = nI v ∧ J 21 0 6 = nI p' ∧ ∀ s q j, ¬ (s = 8 ∧ q = 0 ∧ j = c) → ¬ (s = 21 ∧ q = 0 ∧ (j = 4 ∨ j = 5 ∨ j = 6)) → J s q j = I s q j) ∧ (∀ e x, rdN b n p lo hi = .inl (e, x) → ∃ J, rn 33 (a_en 33 [.inr (.inr (some (21, 0))), .inl (nI c), .inl (nI lo), .inl (nI hi)] (MM I w k)) = some (.inl (some (.inl 0)), MM J w k) ∧ J 21 0 2 = e ∧ J 21 0 3 = nI x ∧ ∀ s q j, ¬ (s = 8 ∧ q = 0 ∧ j = c) → ¬ (s = 21 ∧ q = 0 ∧ (j = 2 ∨ j = 3 ∨ j = 4 ∨ j = 5 ∨ j = 6)) → J s q j = I s q j) := by
  obtain ⟨A, a1, ⟨a5, a6, a7⟩, aq⟩ := C_36 I w k hn hp hX.1 hX.2.1 h7
  have he := t_e_r b hp
  have hk4 := t_k_r b n p
  have hbA : ∀ x, x < n → A 7 0 x = b x := fun x hx => by rw [aq _ _ _ (by omega)]; exact hX.1 x hx
  have start : rn 33 (a_en 33 [.inr (.inr (some (21, 0))), .inl (nI c), .inl (nI lo), .inl (nI hi)] (MM I w k)) = cond (decide (¬ nI (t_k b n p) = 2)) ((rn 22 (a_en 22 [.inr (.inr (some (21, 0))), .inl 1] (MM A w k))).bind (fun o => a_bk 33 22 (29, [some (.inr (.inr (some (21, 0)))), some (.inl (nI c)), some (.inl (nI lo)), some (.inl (nI hi))], [], MM A w k) o (rn 33))) ((rn 159 (a_en 159 [.inl (nI c), .inl 0, .inl (6 - 1)] (MM A w k))).bind (fun o => a_bk 33 159 (21, [some (.inr (.inr (some (21, 0)))), some (.inl (nI c)), some (.inl (nI lo)), some (.inl (nI hi))], [], MM A w k) o (rn 33))) := by
    refine (e33_0 I w k _ _ _).trans ?_
    refine (bk_n a1).trans ?_
    refine (e33_4 A w k _ _ _).trans ?_
    rw [a5]
  by_cases h2 : t_k b n p = 2
  · have hv := C_34 A w k hn hp hbA h2 a6 a7
    have hv1 : t_v b n p ≤ 1000000 := vl_r b _ _ _ (by omega) (fun x g1 g2 => by rw [t_in b (Or.inr h2) g1 (by omega)]; exact h2)
    have s8 : a_setI A 8 0 c (nI (t_v b n p)) 8 0 c = nI (t_v b n p) := set_e
    have mid : rn 33 (a_en 33 [.inr (.inr (some (21, 0))), .inl (nI c), .inl (nI lo), .inl (nI hi)] (MM I w k)) = cond (decide (tf (¬ (nI lo ≤ nI (t_v b n p) ∧ nI (t_v b n p) ≤ nI hi)) = 0)) (some (.inl (some (.inl 1)), MM (a_setI A 8 0 c (nI (t_v b n p))) w k)) ((rn 22 (a_en 22 [.inr (.inr (some (21, 0))), .inl 2] (MM (a_setI A 8 0 c (nI (t_v b n p))) w k))).bind (fun o => a_bk 33 22 (59, [some (.inr (.inr (some (21, 0)))), some (.inl (nI c)), some (.inl (nI lo)), some (.inl (nI hi))], [], MM (a_setI A 8 0 c (nI (t_v b n p))) w k) o (rn 33))) := by
      refine start.trans ((zc_f (fun z => z (by rw [h2]; rfl))).trans ?_)
      refine (bk_v (C_159 A w k _ _ _)).trans ?_
      have hz : ¬ ¬ ((0 : Int32) ≤ nI c ∧ nI c ≤ 6 - 1) := fun z => z ⟨nI_le (a := 0) (by omega) (by omega), nI_le (b := 5) (by omega) (by omega)⟩
      refine (e33_24 A w k _ _ _ _).trans ?_
      refine (zc_t (tff hz)).trans ?_
      refine (bk_v hv).trans ?_
      refine (e33_42 A w k _ _ _ _ _).trans ?_
      rw [z_in hc (by decide), cond_true, cond_true, nI_clamp (by omega), s8]
      refine (bk_v (C_159 _ w k _ _ _)).trans ?_
      exact e33_54 _ w k _ _ _ _
    have hin : (nI lo ≤ nI (t_v b n p) ∧ nI (t_v b n p) ≤ nI hi) ↔ (lo ≤ t_v b n p ∧ t_v b n p ≤ hi) := by
      rw [fa_le, fa_le, nI_toInt hlo, nI_toInt (by omega), nI_toInt (by omega)]; omega
    constructor
    · intro v p' hr
      unfold rdN at hr
      rw [if_pos h2] at hr
      by_cases h3 : lo ≤ t_v b n p ∧ t_v b n p ≤ hi
      · rw [if_pos h3] at hr
        obtain ⟨rfl, rfl⟩ := Prod.mk.inj (Sum.inr.inj hr)
        refine ⟨he.2.1, h3.1, h3.2, a_setI A 8 0 c (nI (t_v b n p)), mid.trans (zc_t (tff (fun z => z (hin.mpr h3)))), set_e, by rw [set_n (by omega)]; exact a7, fun s q j g1 g2 => ?_⟩
        rw [set_n g1]; exact aq s q j g2
      · rw [if_neg h3] at hr; cases hr
    · intro e x hr
      unfold rdN at hr
      rw [if_pos h2] at hr
      by_cases h3 : lo ≤ t_v b n p ∧ t_v b n p ≤ hi
      · rw [if_pos h3] at hr; cases hr
      · rw [if_neg h3] at hr
        obtain ⟨rfl, rfl⟩ := Prod.mk.inj (Sum.inl.inj hr)
        refine ⟨_, mid.trans ((zc_f ?_).trans ((bk_v (C_22 _ w k 2)).trans ((e33_62 _ w k _ _ _ _ _).trans (zc_t rfl)))), by rw [set_n (by omega), set_e], ?_, fun s q j g1 g2 => ?_⟩
        · have hz : ¬ (nI lo ≤ nI (t_v b n p) ∧ nI (t_v b n p) ≤ nI hi) := fun z => h3 (hin.mp z)
          rw [tft hz]; decide
        · rw [set_e, set_n (by omega)]; exact a6
        · rw [set_n (by omega), set_n (by omega), set_n g1]; exact aq s q j (by omega)
  · constructor
    · intro v p' hr
      unfold rdN at hr
      rw [if_neg h2] at hr; cases hr
    · intro e x hr
      unfold rdN at hr
      rw [if_neg h2] at hr
      obtain ⟨rfl, rfl⟩ := Prod.mk.inj (Sum.inl.inj hr)
      have hz : ¬ nI (t_k b n p) = 2 := fun z => h2 ((nI_eq (b := 2) (by omega) (by omega)).mp z)
      refine ⟨a_setI (a_setI A 21 0 2 1) 21 0 3 (A 21 0 5), start.trans ((zc_t hz).trans ((bk_v (C_22 A w k 1)).trans ((e33_32 _ w k _ _ _ _ _).trans ?_))), by rw [set_n (by omega), set_e], by rw [set_e]; exact a6, fun s q j g1 g2 => ?_⟩
      · rw [show a_bz 0 = true from rfl, cond_true]
      · rw [set_n (by omega), set_n (by omega)]; exact aq s q j (by omega)
end
