/-! ===== tokens of a setup text: b its bytes, n their number ===== -/
def kB (x : Int32) : Nat := if 97 ≤ x ∧ x ≤ 122 then 1 else if 48 ≤ x ∧ x ≤ 57 then 2 else if x = 59 then 3 else 4
def t_sk (b : aR) : Nat → Nat → Nat
  | 0, p => p
  | d + 1, p => if b p = 32 ∨ b p = 10 then t_sk b d (p + 1) else p
def t_rn (b : aR) (K : Nat) : Nat → Nat → Nat
  | 0, p => p
  | d + 1, p => if kB (b p) = K then t_rn b K d (p + 1) else p
/-- where the token behind p starts, its kind, where it ends -/
def t_f (b : aR) (n p : Nat) : Nat := t_sk b (n - p) p
def t_k (b : aR) (n p : Nat) : Nat := if t_f b n p < n then kB (b (t_f b n p)) else 0
def t_e (b : aR) (n p : Nat) : Nat := if t_k b n p = 1 ∨ t_k b n p = 2 then t_rn b (t_k b n p) (n - t_f b n p) (t_f b n p) else if t_k b n p = 0 then t_f b n p else t_f b n p + 1
theorem sk_r (b : aR) : ∀ (d p : Nat), p ≤ t_sk b d p ∧ t_sk b d p ≤ p + d
  | 0, p => ⟨Nat.le_refl _, Nat.le_refl _⟩
  | d + 1, p => by
    unfold t_sk
    split
    · have := sk_r b d (p + 1); omega
    · omega
theorem rn_r (b : aR) (K : Nat) : ∀ (d p : Nat), p ≤ t_rn b K d p ∧ t_rn b K d p ≤ p + d
  | 0, p => ⟨Nat.le_refl _, Nat.le_refl _⟩
  | d + 1, p => by
    unfold t_rn
    split
    · have := rn_r b K d (p + 1); omega
    · omega
theorem rn_in (b : aR) (K : Nat) : ∀ (d p x : Nat), p ≤ x → x < t_rn b K d p → kB (b x) = K
  | 0, p, x, h1, h2 => by unfold t_rn at h2; omega
  | d + 1, p, x, h1, h2 => by
    unfold t_rn at h2
    split at h2
    · by_cases hx : x = p
      · subst hx; assumption
      · exact rn_in b K d (p + 1) x (by omega) h2
    · omega
theorem t_f_r (b : aR) {n p : Nat} (h : p ≤ n) : p ≤ t_f b n p ∧ t_f b n p ≤ n := by
  have := sk_r b (n - p) p
  unfold t_f; omega
theorem kB_r (x : Int32) : 1 ≤ kB x ∧ kB x ≤ 4 := by
  unfold kB
  repeat' split
  all_goals omega
theorem t_k_r (b : aR) (n p : Nat) : t_k b n p ≤ 4 := by
  unfold t_k
  split
  · exact (kB_r _).2
  · omega
theorem t_k_0 (b : aR) {n p : Nat} : t_k b n p = 0 ↔ ¬ t_f b n p < n := by
  unfold t_k
  split
  · have := (kB_r (b (t_f b n p))).1; constructor
    · intro h; omega
    · intro h; contradiction
  · constructor
    · intro _; assumption
    · intro _; rfl
theorem t_e_r (b : aR) {n p : Nat} (h : p ≤ n) : t_f b n p ≤ t_e b n p ∧ t_e b n p ≤ n ∧ (t_k b n p ≠ 0 → t_f b n p < t_e b n p) := by
  have hf := t_f_r b h
  have hr := rn_r b (t_k b n p) (n - t_f b n p) (t_f b n p)
  have h0 := t_k_0 b (n := n) (p := p)
  unfold t_e
  by_cases h1 : t_k b n p = 1 ∨ t_k b n p = 2
  · rw [if_pos h1]
    have hlt : t_f b n p < n := by
      refine Classical.byContradiction (fun z => ?_)
      have := h0.mpr z; omega
    refine ⟨hr.1, by omega, fun _ => ?_⟩
    obtain ⟨d, hd⟩ : ∃ d, n - t_f b n p = d + 1 := ⟨n - t_f b n p - 1, by omega⟩
    rw [hd]
    have hk : t_k b n p = kB (b (t_f b n p)) := by unfold t_k; rw [if_pos hlt]
    show t_f b n p < (if kB (b (t_f b n p)) = t_k b n p then t_rn b (t_k b n p) d (t_f b n p + 1) else t_f b n p)
    rw [if_pos hk.symm]
    have := rn_r b (t_k b n p) d (t_f b n p + 1)
    omega
  · rw [if_neg h1]
    by_cases h2 : t_k b n p = 0
    · rw [if_pos h2]; exact ⟨Nat.le_refl _, hf.2, fun z => absurd h2 z⟩
    · rw [if_neg h2]
      have hlt : t_f b n p < n := by
        refine Classical.byContradiction (fun z => ?_)
        exact h2 (h0.mpr z)
      exact ⟨by omega, by omega, fun _ => by omega⟩
/-! the class's tokens -/
theorem C_37 (I : aI) (w : aW) (k : aQ) (x : Int32) : rn 37 (a_en 37 [.inl x] (MM I w k)) = some (.inl (some (.inl (tf (x = 32 ∨ x = 10)))), MM I w k) := by
  refine (e37_0 I w k _).trans ?_
  by_cases h1 : x = 32
  · rw [zc_t h1, tft (Or.inl h1)]
  · rw [zc_f h1]
    by_cases h2 : x = 10
    · rw [zc_f (fun z => z h2), tft (Or.inr h2)]
    · rw [zc_t h2, tff (fun z => z.elim h1 h2)]
theorem C_38 (I : aI) (w : aW) (k : aQ) (x : Int32) : rn 38 (a_en 38 [.inl x] (MM I w k)) = some (.inl (some (.inl (nI (kB x)))), MM I w k) := by
  have hb : (if (48 ≤ x ∧ x ≤ 57) then 2 else if x = 59 then 3 else 4 : Nat) = if x < 48 then (if x = 59 then 3 else 4) else if 57 < x then (if x = 59 then 3 else 4) else 2 := by
    by_cases h1 : x < 48
    · rw [if_pos h1, if_neg (fun z => Int32.not_le.mpr h1 z.1)]
    · rw [if_neg h1]
      by_cases h2 : 57 < x
      · rw [if_pos h2, if_neg (fun z => Int32.not_le.mpr h2 z.2)]
      · rw [if_neg h2, if_pos ⟨Int32.not_lt.mp h1, Int32.not_lt.mp h2⟩]
  have tail : cond (decide (x < 48)) (cond (decide (¬ x = 59)) (some (.inl (some (.inl 4)), MM I w k) : Option aO) (some (.inl (some (.inl 3)), MM I w k))) (cond (decide (57 < x)) (cond (decide (¬ x = 59)) (some (.inl (some (.inl 4)), MM I w k) : Option aO) (some (.inl (some (.inl 3)), MM I w k))) (some (.inl (some (.inl 2)), MM I w k))) = some (.inl (some (.inl (nI (if (48 ≤ x ∧ x ≤ 57) then 2 else if x = 59 then 3 else 4)))), MM I w k) := by
    rw [hb]
    have e59 : cond (decide (¬ x = 59)) (some (.inl (some (.inl 4)), MM I w k) : Option aO) (some (.inl (some (.inl 3)), MM I w k)) = some (.inl (some (.inl (nI (if x = 59 then 3 else 4)))), MM I w k) := by
      by_cases h : x = 59
      · rw [zc_f (fun z => z h), if_pos h]; rfl
      · rw [zc_t h, if_neg h]; rfl
    rw [e59]
    by_cases h1 : x < 48
    · rw [zc_t h1, if_pos h1]
    · rw [zc_f h1, if_neg h1]
      by_cases h2 : 57 < x
      · rw [zc_t h2, if_pos h2]
      · rw [zc_f h2, if_neg h2]; rfl
  refine (e38_0 I w k _).trans ?_
  unfold kB
  by_cases h1 : x < 97
  · rw [zc_t h1, if_neg (fun z => Int32.not_le.mpr h1 z.1)]; exact tail
  · rw [zc_f h1]
    by_cases h2 : 122 < x
    · rw [zc_t h2, if_neg (fun z => Int32.not_le.mpr h2 z.2)]; exact tail
    · rw [zc_f h2, if_pos ⟨Int32.not_lt.mp h1, Int32.not_lt.mp h2⟩]; rfl
/-- only the token of the class's text may have changed -/
def Tq (I J : aI) : Prop := ∀ s q j, ¬ (s = 21 ∧ q = 0 ∧ (j = 4 ∨ j = 5 ∨ j = 6)) → J s q j = I s q j
theorem Tq.refl (I : aI) : Tq I I := fun _ _ _ _ => rfl
theorem Tq.trans {I J K : aI} (h : Tq I J) (h2 : Tq J K) : Tq I K := fun s q j z => (h2 s q j z).trans (h s q j z)
theorem Tq.set {I : aI} {j : Nat} (v : Int32) (h : j = 4 ∨ j = 5 ∨ j = 6) : Tq I (a_setI I 21 0 j v) := fun s q j' z => by
  rw [gI, if_neg (fun y => z ⟨y.1, y.2.2, by rw [y.2.1]; exact h⟩)]
theorem set_e {I : aI} {s q j : Nat} {v : Int32} : a_setI I s q j v s q j = v := by rw [gI, if_pos ⟨rfl, rfl, rfl⟩]
theorem set_n {I : aI} {s q j : Nat} {v : Int32} {s' q' j' : Nat} (h : ¬ (s' = s ∧ q' = q ∧ j' = j)) : a_setI I s q j v s' q' j' = I s' q' j' := by rw [gI, if_neg (fun z => h ⟨z.1, z.2.2, z.2.1⟩)]
theorem C_36R (w : aW) (k : aQ) {b : aR} {n K : Nat} (hn : n ≤ 400) (hK : K ≤ 4) (d : Nat) : ∀ (p : Nat) (J : aI), p + d = n → (∀ x, x < n → J 7 0 x = b x) → J 21 0 1 = nI n → J 21 0 4 = nI K → J 21 0 6 = nI p → ∃ J', rn 36 (102, [some (.inr (.inr (some (21, 0))))], [], MM J w k) = some (.inl none, MM J' w k) ∧ J' 21 0 6 = nI (t_rn b K d p) ∧ ∀ s q j, ¬ (s = 21 ∧ q = 0 ∧ j = 6) → J' s q j = J s q j := by
  induction d with
  | zero =>
    intro p J hp hb h1 h5 h7
    refine ⟨J, (e36_102 J w k).trans ?_, h7, fun _ _ _ _ => rfl⟩
    rw [h1, h7]
    exact zc_t (nI_le (by omega) (by omega))
  | succ d ih =>
    intro p J hp hb h1 h5 h7
    have start : rn 36 (102, [some (.inr (.inr (some (21, 0))))], [], MM J w k) = cond (decide (¬ nI (kB (b p)) = nI K)) (some (.inl none, MM J w k)) (rn 36 (102, [some (.inr (.inr (some (21, 0))))], [], MM (a_setI J 21 0 6 (nI (p + 1))) w k)) := by
      refine (e36_102 J w k).trans ?_
      rw [h1, h7]
      refine (zc_f (nI_ge (by omega) (by omega))).trans ?_
      rw [z_in (by omega) (by decide), nI_clamp (by omega), cond_true, hb p (by omega)]
      refine (bk_v (C_38 J w k (b p))).trans ?_
      refine (e36_125 J w k _).trans ?_
      rw [h5, h7, nI_1]
    have hk := (kB_r (b p)).2
    by_cases h : kB (b p) = K
    · obtain ⟨J', j1, j2, j3⟩ := ih (p + 1) (a_setI J 21 0 6 (nI (p + 1))) (by omega) (fun x hx => by rw [set_n (by omega)]; exact hb x hx) (by rw [set_n (by omega)]; exact h1) (by rw [set_n (by omega)]; exact h5) set_e
      refine ⟨J', start.trans ((zc_f (fun z => z (by rw [h]))).trans j1), ?_, fun s q j z => (j3 s q j z).trans (set_n (by omega))⟩
      rw [j2]
      show _ = nI (if kB (b p) = K then t_rn b K d (p + 1) else p)
      rw [if_pos h]
    · have hz : ¬ nI (kB (b p)) = nI K := fun z => h ((nI_eq (by omega) (by omega)).mp z)
      refine ⟨J, start.trans (zc_t hz), ?_, fun _ _ _ _ => rfl⟩
      rw [h7]
      show _ = nI (if kB (b p) = K then t_rn b K d (p + 1) else p)
      rw [if_neg h]
/-- behind the blanks -/
theorem C_36T (w : aW) (k : aQ) {b : aR} {n f : Nat} (hn : n ≤ 400) (hf : f < n) (J : aI) (hb : ∀ x, x < n → J 7 0 x = b x) (h1 : J 21 0 1 = nI n) (h6 : J 21 0 5 = nI f) : ∃ J', (rn 38 (a_en 38 [.inl (b f)] (MM J w k))).bind (fun o => a_bk 36 38 (68, [some (.inr (.inr (some (21, 0))))], [.inr (.inr (some (21, 0)))], MM J w k) o (rn 36)) = some (.inl none, MM J' w k) ∧ (J' 21 0 4 = nI (kB (b f)) ∧ J' 21 0 5 = nI f ∧ J' 21 0 6 = nI (if kB (b f) = 1 ∨ kB (b f) = 2 then t_rn b (kB (b f)) (n - f) f else f + 1)) ∧ Tq J J' := by
  have hk := kB_r (b f)
  have st : (rn 38 (a_en 38 [.inl (b f)] (MM J w k))).bind (fun o => a_bk 36 38 (68, [some (.inr (.inr (some (21, 0))))], [.inr (.inr (some (21, 0)))], MM J w k) o (rn 36)) = _ := (bk_v (C_38 J w k (b f))).trans (e36_71 J w k _)
  obtain ⟨R, r1, r2, r3⟩ := C_36R w k (b := b) (n := n) (K := kB (b f)) hn hk.2 (n - f) f (a_setI (a_setI J 21 0 4 (nI (kB (b f)))) 21 0 6 (J 21 0 5)) (by omega) (fun x hx => by rw [set_n (by omega), set_n (by omega)]; exact hb x hx) (by rw [set_n (by omega), set_n (by omega)]; exact h1) (by rw [set_n (by omega), set_e]) (by rw [set_e]; exact h6)
  have tq0 : Tq J (a_setI (a_setI J 21 0 4 (nI (kB (b f)))) 21 0 6 (J 21 0 5)) := (Tq.set _ (by omega)).trans (Tq.set _ (by omega))
  have s6 : a_setI J 21 0 4 (nI (kB (b f))) 21 0 5 = nI f := by rw [set_n (by omega)]; exact h6
  by_cases h : kB (b f) = 1 ∨ kB (b f) = 2
  · refine ⟨R, ?_, ⟨?_, ?_, ?_⟩, fun s q j z => (r3 s q j (by omega)).trans (tq0 s q j z)⟩
    · refine st.trans ?_
      rcases h with h | h
      · rw [h] at r1 ⊢
        exact (zc_t rfl).trans r1
      · rw [h] at r1 ⊢
        exact (zc_f (by decide)).trans ((zc_f (by decide)).trans r1)
    · rw [r3 _ _ _ (by omega), set_n (by omega), set_e]
    · rw [r3 _ _ _ (by omega), set_n (by omega)]; exact s6
    · rw [r2, if_pos h]
  · refine ⟨a_setI (a_setI (a_setI J 21 0 4 (nI (kB (b f)))) 21 0 6 (J 21 0 5)) 21 0 6 (J 21 0 5 + 1), ?_, ⟨?_, ?_, ?_⟩, tq0.trans (Tq.set _ (by omega))⟩
    · refine st.trans ?_
      refine (zc_f (fun z => h (Or.inl ((nI_eq (b := 1) (by omega) (by omega)).mp z)))).trans ?_
      have hz : ¬ nI (kB (b f)) = 2 := fun z => h (Or.inr ((nI_eq (b := 2) (by omega) (by omega)).mp z))
      refine (zc_t hz).trans ?_
      exact zc_f (nI_ne0 (by omega) (by omega))
    · rw [set_n (by omega), set_n (by omega), set_e]
    · rw [set_n (by omega), set_n (by omega)]; exact s6
    · rw [set_e, h6, nI_1, if_neg h]
theorem C_36L (w : aW) (k : aQ) {b : aR} {n : Nat} (hn : n ≤ 400) (d : Nat) : ∀ (p : Nat) (J : aI), p + d = n → (∀ x, x < n → J 7 0 x = b x) → J 21 0 1 = nI n → J 21 0 5 = nI p → ∃ J', rn 36 (8, [some (.inr (.inr (some (21, 0))))], [], MM J w k) = some (.inl none, MM J' w k) ∧ (J' 21 0 4 = nI (if t_sk b d p < n then kB (b (t_sk b d p)) else 0) ∧ J' 21 0 5 = nI (t_sk b d p) ∧ J' 21 0 6 = nI (if t_sk b d p < n then (if kB (b (t_sk b d p)) = 1 ∨ kB (b (t_sk b d p)) = 2 then t_rn b (kB (b (t_sk b d p))) (n - t_sk b d p) (t_sk b d p) else t_sk b d p + 1) else t_sk b d p)) ∧ Tq J J' := by
  induction d with
  | zero =>
    intro p J hp hb h1 h6
    refine ⟨a_setI (a_setI J 21 0 4 0) 21 0 6 (J 21 0 5), (e36_8 J w k).trans ?_, ⟨?_, ?_, ?_⟩, (Tq.set _ (by omega)).trans (Tq.set _ (by omega))⟩
    · rw [h1, h6]
      exact (zc_t (nI_le (by omega) (by omega))).trans (zc_t (nI_le (by omega) (by omega)))
    · rw [set_n (by omega), set_e, show t_sk b 0 p = p from rfl, if_neg (by omega)]; rfl
    · rw [set_n (by omega), set_n (by omega)]; exact h6
    · rw [set_e, h6, show t_sk b 0 p = p from rfl, if_neg (by omega)]
  | succ d ih =>
    intro p J hp hb h1 h6
    have start : rn 36 (8, [some (.inr (.inr (some (21, 0))))], [], MM J w k) = cond (decide (tf (b p = 32 ∨ b p = 10) = 0)) ((rn 38 (a_en 38 [.inl (b p)] (MM J w k))).bind (fun o => a_bk 36 38 (68, [some (.inr (.inr (some (21, 0))))], [.inr (.inr (some (21, 0)))], MM J w k) o (rn 36))) (rn 36 (8, [some (.inr (.inr (some (21, 0))))], [], MM (a_setI J 21 0 5 (nI (p + 1))) w k)) := by
      refine (e36_8 J w k).trans ?_
      rw [h1, h6]
      refine (zc_f (nI_ge (by omega) (by omega))).trans ?_
      rw [z_in (by omega) (by decide), nI_clamp (by omega), cond_true, hb p (by omega)]
      refine (bk_v (C_37 J w k (b p))).trans ?_
      refine (e36_31 J w k _).trans ?_
      rw [h1, h6, zc_f (nI_ge (by omega) (by omega)), z_in (by omega) (by decide), nI_clamp (by omega), cond_true, hb p (by omega), nI_1]
    by_cases h : b p = 32 ∨ b p = 10
    · obtain ⟨J', j1, j2, j3⟩ := ih (p + 1) (a_setI J 21 0 5 (nI (p + 1))) (by omega) (fun x hx => by rw [set_n (by omega)]; exact hb x hx) (by rw [set_n (by omega)]; exact h1) set_e
      have et : t_sk b (d + 1) p = t_sk b d (p + 1) := by
        show (if b p = 32 ∨ b p = 10 then t_sk b d (p + 1) else p) = _
        rw [if_pos h]
      rw [et]
      exact ⟨J', start.trans ((zc_f (by rw [tft h]; decide)).trans j1), j2, (Tq.set _ (by omega)).trans j3⟩
    · have et : t_sk b (d + 1) p = p := by
        show (if b p = 32 ∨ b p = 10 then t_sk b d (p + 1) else p) = _
        rw [if_neg h]
      rw [et]
      obtain ⟨J', j1, j2, j3⟩ := C_36T w k hn (show p < n by omega) J hb h1 h6
      rw [if_pos (show p < n by omega), if_pos (show p < n by omega)]
      exact ⟨J', start.trans ((zc_t (tff h)).trans j1), j2, j3⟩
/-- the next token of the class -/
theorem C_36 (I : aI) (w : aW) (k : aQ) {b : aR} {n p : Nat} (hn : n ≤ 400) (hp : p ≤ n) (hb : ∀ x, x < n → I 7 0 x = b x) (h1 : I 21 0 1 = nI n) (h7 : I 21 0 6 = nI p) : ∃ J, rn 36 (a_en 36 [.inr (.inr (some (21, 0)))] (MM I w k)) = some (.inl none, MM J w k) ∧ (J 21 0 4 = nI (t_k b n p) ∧ J 21 0 5 = nI (t_f b n p) ∧ J 21 0 6 = nI (t_e b n p)) ∧ Tq I J := by
  obtain ⟨J, j1, ⟨j2, j3, j4⟩, j5⟩ := C_36L w k (b := b) hn (n - p) p (a_setI I 21 0 5 (I 21 0 6)) (by omega) (fun x hx => by rw [set_n (by omega)]; exact hb x hx) (by rw [set_n (by omega)]; exact h1) (by rw [set_e]; exact h7)
  have j4 : J 21 0 6 = nI (if t_f b n p < n then (if kB (b (t_f b n p)) = 1 ∨ kB (b (t_f b n p)) = 2 then t_rn b (kB (b (t_f b n p))) (n - t_f b n p) (t_f b n p) else t_f b n p + 1) else t_f b n p) := j4
  refine ⟨J, (e36_0 I w k).trans j1, ⟨j2, j3, j4.trans ?_⟩, (Tq.set _ (by omega)).trans j5⟩
  have hk := kB_r (b (t_f b n p))
  by_cases h : t_f b n p < n
  · have ek : t_k b n p = kB (b (t_f b n p)) := by unfold t_k; rw [if_pos h]
    rw [if_pos h]
    unfold t_e
    rw [ek]
    by_cases h1 : kB (b (t_f b n p)) = 1 ∨ kB (b (t_f b n p)) = 2
    · rw [if_pos h1, if_pos h1]
    · rw [if_neg h1, if_neg h1, if_neg (show ¬ kB (b (t_f b n p)) = 0 by omega)]
  · have ek : t_k b n p = 0 := (t_k_0 b).mpr h
    rw [if_neg h]
    unfold t_e
    rw [ek, if_neg (by decide), if_pos rfl]
/-! its value -/
def t_d (x : Int32) : Nat := (x - 48).toNatClampNeg
def t_vl (b : aR) : Nat → Nat → Nat → Nat
  | 0, _, v => v
  | d + 1, j, v => t_vl b d (j + 1) (if v < 100000 then 10 * v + t_d (b j) else v)
def t_v (b : aR) (n p : Nat) : Nat := t_vl b (t_e b n p - t_f b n p) (t_f b n p) 0
theorem t_d_r {x : Int32} (h : kB x = 2) : t_d x ≤ 9 ∧ x = nI (48 + t_d x) := by
  have h2 : 48 ≤ x ∧ x ≤ 57 := by
    unfold kB at h
    by_cases h1 : 97 ≤ x ∧ x ≤ 122
    · rw [if_pos h1] at h; omega
    · rw [if_neg h1] at h
      by_cases h3 : 48 ≤ x ∧ x ≤ 57
      · exact h3
      · rw [if_neg h3] at h
        split at h <;> omega
  obtain ⟨m, m1, m2, m3⟩ := z_nI (a := 48) (b := 57) h2 (by decide) (by decide)
  have : t_d x = m - 48 := by
    unfold t_d
    rw [m3, show nI m - 48 = nI (m - 48) from z_sub (b := 48) m1, nI_clamp (by omega)]
  rw [this, m3]
  exact ⟨by omega, by rw [show 48 + (m - 48) = m by omega]⟩
theorem C_34L (I : aI) (w : aW) (k : aQ) {b : aR} {n e : Nat} (hn : n ≤ 400) (he : e ≤ n) (hb : ∀ x, x < n → I 7 0 x = b x) (h7 : I 21 0 6 = nI e) : ∀ (d j v : Nat), j + d = e → v < 2000000 → (∀ x, j ≤ x → x < e → kB (b x) = 2) → rn 34 (7, [some (.inr (.inr (some (21, 0)))), some (.inl (nI v)), some (.inl (nI j))], [], MM I w k) = some (.inl (some (.inl (nI (t_vl b d j v)))), MM I w k) := by
  intro d
  induction d with
  | zero =>
    intro j v hj hv hx
    refine (e34_7 I w k _ _).trans ?_
    rw [h7]
    exact zc_t (nI_le (by omega) (by omega))
  | succ d ih =>
    intro j v hj hv hx
    obtain ⟨g1, g2⟩ := t_d_r (hx j (Nat.le_refl _) (by omega))
    refine (e34_7 I w k _ _).trans ?_
    rw [h7]
    refine (zc_f (nI_ge (by omega) (by omega))).trans ?_
    unfold t_vl
    have hbj := hb j (by omega)
    generalize hδ : t_d (b j) = δ at g1 g2
    by_cases h : v < 100000
    · refine (zc_f (show ¬ (100000 : Int32) ≤ nI v from nI_ge (b := 100000) (by omega) (by omega))).trans ?_
      rw [z_in (by omega) (by decide), nI_clamp (by omega), cond_true, hbj, g2, show (10 : Int32) * nI v = nI (10 * v) from z_mul 10 v, nI_add, show nI (10 * v + (48 + δ)) - 48 = nI (10 * v + (48 + δ) - 48) from z_sub (b := 48) (by omega)]
      refine (e34_36 I w k _ _).trans ?_
      rw [nI_1, if_pos h, show 10 * v + (48 + δ) - 48 = 10 * v + δ by omega]
      exact ih (j + 1) _ (by omega) (by omega) (fun x h1 h2 => hx x (by omega) h2)
    · refine (zc_t (show (100000 : Int32) ≤ nI v from nI_le (a := 100000) (by omega) (by omega))).trans ?_
      refine (e34_36 I w k _ _).trans ?_
      rw [nI_1, if_neg h]
      exact ih (j + 1) _ (by omega) hv (fun x h1 h2 => hx x (by omega) h2)
theorem t_in (b : aR) {n p x : Nat} (hk : t_k b n p = 1 ∨ t_k b n p = 2) (h1 : t_f b n p ≤ x) (h2 : x < t_e b n p) : kB (b x) = t_k b n p := by
  unfold t_e at h2
  rw [if_pos hk] at h2
  exact rn_in b _ _ _ _ h1 h2
theorem C_34 (I : aI) (w : aW) (k : aQ) {b : aR} {n p : Nat} (hn : n ≤ 400) (hp : p ≤ n) (hb : ∀ x, x < n → I 7 0 x = b x) (hk : t_k b n p = 2) (h6 : I 21 0 5 = nI (t_f b n p)) (h7 : I 21 0 6 = nI (t_e b n p)) : rn 34 (a_en 34 [.inr (.inr (some (21, 0)))] (MM I w k)) = some (.inl (some (.inl (nI (t_v b n p)))), MM I w k) := by
  have he := t_e_r b hp
  refine (e34_0 I w k).trans ?_
  rw [h6]
  exact C_34L I w k hn he.2.1 hb h7 (t_e b n p - t_f b n p) (t_f b n p) 0 (by omega) (by omega) (fun x h1 h2 => by rw [t_in b (Or.inr hk) h1 h2]; exact hk)
theorem vl_r (b : aR) : ∀ (d j v : Nat), v ≤ 1000000 → (∀ x, j ≤ x → x < j + d → kB (b x) = 2) → t_vl b d j v ≤ 1000000
  | 0, _, v, h, _ => h
  | d + 1, j, v, h, hx => by
    have := (t_d_r (hx j (Nat.le_refl _) (by omega))).1
    unfold t_vl
    refine vl_r b d (j + 1) _ ?_ (fun x h1 h2 => hx x (by omega) (by omega))
    split <;> omega
