/-! ===== how the machine's heap and frame stand to the memory here ===== -/
/-- the machine's value, where al says the addresses -/
def cv (al : Nat → Nat → Nat) : aV → Value
  | .inl x => .int x
  | .inr (.inl x) => .long x
  | .inr (.inr none) => .null
  | .inr (.inr (some n)) => .ref (al n.1 n.2)
theorem cv_cat (al : Nat → Nat → Nat) (v : aV) : (cv al v).category = a_cat v := by
  rcases v with x | x | (_ | x) <;> rfl
def a_kc (n : aN) : Bool := match n.1 with
  | 0 => Nat.beq n.2 0
  | 1 => Nat.blt n.2 10
  | 2 => Nat.blt n.2 10
  | 3 => Nat.beq n.2 0
  | _ => false
/-- a name that is there -/
def a_okn (M : aM) (n : aN) : Prop := (n.1 < 4 ∧ a_kc n = true) ∨ (4 ≤ n.1 ∧ n.2 < M.2.2.2.1 n.1)
def a_okv (M : aM) : aV → Prop
  | .inr (.inr (some n)) => a_okn M n
  | _ => True
def a_cls : List vw_C := [(RX0, TX0, 7), (RX1, TX1, 10), (RX2, TX2, 6), (RX3, TX3, 8), (RX4, TX4, 10), (RX5, TX5, 6), (RX6, TX6, 7), (RX7, TX7, 5), (RX8, TX8, 18)]
def a_Rn (c : Nat) : String := match c with
  | 0 => RX0
  | 1 => RX1
  | 2 => RX2
  | 3 => RX3
  | 4 => RX4
  | 5 => RX5
  | 6 => RX6
  | 7 => RX7
  | 8 => RX8
  | 9 => RL
  | 10 => RJ0
  | 11 => RJ1
  | 12 => RJ6
  | 13 => RJ9
  | 14 => RJ7
  | 15 => RJ3
  | _ => ""
def a_tys (tyc : Nat → ClassId) : List (ClassId × FieldType) := [(tyc 1, .int), (tyc 2, .byte), (tyc 3, .boolean), (tyc 4, .long), (tyc 10, .object RX0), (tyc 11, .object RX1), (tyc 14, .object RX4), (tyc 16, .object RX6)]
/-- the cell of a name -/
def a_ce (tyc : Nat → ClassId) (al : Nat → Nat → Nat) (M : aM) (s q : Nat) : va_E := match (a_sk s).1 with
  | 0 => .inr ((a_sk s).2.1, (List.range (a_sk s).2.2).map (fun k => bif Nat.beq (a_fr (a_sk s).2.1 k) 2 then cv al (.inr (.inr (M.2.1 s q k))) else .int (M.1 s q k)))
  | 4 => .inl (tyc 4, (a_sk s).2.2, .inr (.inl (fun k => M.2.2.1 s q k)))
  | 5 => .inl (tyc (10 + (a_sk s).2.1), (a_sk s).2.2, .inr (.inr (.inr (.inr (fun k => (M.2.1 s q k).map (fun n => al n.1 n.2))))))
  | t => .inl (tyc t, (a_sk s).2.2, .inl (fun k => M.1 s q k))
def a_A (s0 : State) : Nat → Prop := fun q => s0.heap.size ≤ q
/-- the heap holds the memory -/
def a_HR (D : va_G) (tyc : Nat → ClassId) (s0 : State) (al : Nat → Nat → Nat) (M : aM) (H : Heap) : Prop := ∃ (LP : List Nat) (fE : Nat → va_E), va_P D a_cls (va_pl LP fE) H ∧ va_D (a_A s0) (va_pl LP fE) ∧ (∀ s q, 4 ≤ s → q < M.2.2.2.1 s → al s q ∈ LP ∧ fE (al s q) = a_ce tyc al M s q) ∧
  ∀ s q s' q', 4 ≤ s → q < M.2.2.2.1 s → 4 ≤ s' → q' < M.2.2.2.1 s' → al s q = al s' q' → s = s' ∧ q = q'
/-- the index formatter: null or a cell, by the last list -/
def a_fz (sb : List (List Int32)) : Option aN := match sb.getD 10 [] with
  | [] => none
  | _ => some (3, 0)
/-- the memory is in order: references lead to what is there; the script and the strings stand as they are -/
def a_MW (L : Nat) (xs : Nat → Int32) (sb : List (List Int32)) (M : aM) : Prop := (∀ s q k, 4 ≤ s → q < M.2.2.2.1 s → a_okv M (.inr (.inr (M.2.1 s q k)))) ∧ (M.2.2.2.1 0 = L ∧ ∀ j, j < L → M.1 0 0 j = xs j) ∧ (∀ i, i < 10 → M.2.1 1 i 0 = some (2, i) ∧ M.1 1 i 1 = 0 ∧ ∀ j, j < a_sl i → M.1 2 i j = (sb.getD i []).getD j 0) ∧ M.2.1 3 0 0 = a_fz sb
def a_AL (b fm : Nat) (adK adV : Nat → Nat) (al : Nat → Nat → Nat) : Prop := al 0 0 = b ∧ (∀ i, i < 10 → al 1 i = adK i ∧ al 2 i = adV i) ∧ al 3 0 = fm
def a_ext (al al' : Nat → Nat → Nat) (M : aM) : Prop := ∀ s q, (s < 4 ∨ q < M.2.2.2.1 s) → al' s q = al s q
theorem a_ext.refl {al : Nat → Nat → Nat} {M : aM} : a_ext al al M := fun _ _ _ => rfl
theorem cv_ext {al al' : Nat → Nat → Nat} {M : aM} (h : a_ext al al' M) {v : aV} (hv : a_okv M v) : cv al' v = cv al v := by
  rcases v with x | x | (_ | n)
  · rfl
  · rfl
  · rfl
  · show Value.ref (al' n.1 n.2) = .ref (al n.1 n.2)
    rcases hv with h1 | h1
    · rw [h n.1 n.2 (Or.inl h1.1)]
    · rw [h n.1 n.2 (Or.inr h1.2)]
/-- the locals -/
def a_LR (nL : Nat) (al : Nat → Nat → Nat) (M : aM) (lsA : Array Slot) (ls : List (Option aV)) : Prop := lsA.size = nL ∧ lv_wf lsA ∧ ls.length = nL ∧ ∀ (i : Nat) (v : aV), a_lg ls i = some v → lsA[i]? = some (.val (cv al v)) ∧ a_okv M v ∧ a_cat v = 1
/-- what a step leaves to be shown: kd of an end, kw of what comes next, kc of a call -/
def a_pick : List (Bool × aS) → aS → aS
  | [], d => d
  | (b, s) :: r, d => cond b s (a_pick r d)
def a_Th (kd : aO → Prop) (kw : aS → Prop) (kc : Nat → List aV → aS → Prop) : aA → Prop
  | .inl (b, o) => b = true ∧ kd o
  | .inr (.inl (b, s)) => b = true ∧ kw s
  | .inr (.inr (.inl (l, d))) => kw (a_pick l d)
  | .inr (.inr (.inr (g, as, s))) => kc g as s
theorem a_stk_no {kd : aO → Prop} {kw : aS → Prop} {kc : Nat → List aV → aS → Prop} {x : aS} {P : Prop} (h : a_Th kd kw kc (a_stk x)) : P := by
  have h1 : false = true := h.1
  cases h1
theorem a_lg_set {v : Option aV} : ∀ (ls : List (Option aV)) (n j : Nat), n < ls.length → a_lg (ls.set n v) j = if j = n then v else a_lg ls j
  | [], n, j, h => absurd h (Nat.not_lt_zero _)
  | x :: r, 0, 0, h => rfl
  | x :: r, 0, j + 1, h => by
    show a_lg r j = _
    rw [if_neg (by omega)]
    rfl
  | x :: r, n + 1, 0, h => by
    show x = _
    rw [if_neg (by omega)]
    rfl
  | x :: r, n + 1, j + 1, h => by
    show a_lg (r.set n v) j = _
    rw [a_lg_set r n j (by simpa using h)]
    by_cases hj : j = n
    · rw [if_pos hj, if_pos (by omega)]
    · rw [if_neg hj, if_neg (by omega)]
      rfl
theorem a_lg_lt : ∀ (ls : List (Option aV)) (i : Nat) (v : aV), a_lg ls i = some v → i < ls.length
  | [], i, v, h => by cases h
  | x :: r, 0, v, h => Nat.succ_pos _
  | x :: r, i + 1, v, h => Nat.succ_lt_succ (a_lg_lt r i v h)
/-- the listed locals -/
def a_lvl (al : Nat → Nat → Nat) (ls : List (Option aV)) : List (Nat × Value) := (List.range ls.length).filterMap (fun i => (a_lg ls i).map (fun v => (i, cv al v)))
theorem a_lvl_mem {al : Nat → Nat → Nat} {ls : List (Option aV)} {q : Nat × Value} : q ∈ a_lvl al ls ↔ ∃ v, a_lg ls q.1 = some v ∧ q.2 = cv al v := by
  constructor
  · intro h
    obtain ⟨i, -, hi⟩ := List.mem_filterMap.mp h
    cases hv : a_lg ls i with
    | none => rw [hv] at hi; cases hi
    | some v =>
      rw [hv] at hi
      cases hi
      exact ⟨v, hv, rfl⟩
  · rintro ⟨v, h1, h2⟩
    refine List.mem_filterMap.mpr ⟨q.1, List.mem_range.mpr (a_lg_lt _ _ _ h1), ?_⟩
    rw [h1]
    show some (q.1, cv al v) = some q
    rw [← h2]
theorem a_LR.has {nL : Nat} {al : Nat → Nat → Nat} {M : aM} {lsA : Array Slot} {ls : List (Option aV)} (h : a_LR nL al M lsA ls) : lv_has lsA nL (a_lvl al ls) := by
  refine ⟨h.1, h.2.1, fun q hq => ?_⟩
  obtain ⟨v, h1, h2⟩ := a_lvl_mem.mp hq
  rw [h2]
  exact (h.2.2.2 q.1 v h1).1
/-- a store of one slot -/
theorem a_LR.store {nL : Nat} {al : Nat → Nat → Nat} {M : aM} {lsA lsB : Array Slot} {ls : List (Option aV)} {i : Nat} {v : aV} (h : a_LR nL al M lsA ls) (hi : i < nL) (hv : a_okv M v) (hc : a_cat v = 1)
    (hB : lv_has lsB nL ((i, cv al v) :: (a_lvl al ls).filter (fun q => !(q.1 == i) && !(q.1 + 1 == i && q.2.category == 2)))) : a_LR nL al M lsB (ls.set i (some v)) := by
  obtain ⟨h1, h2, h3, h4⟩ := h
  refine ⟨hB.1, hB.2.1, by rw [List.length_set]; exact h3, fun j w hj => ?_⟩
  rw [a_lg_set ls i j (by omega)] at hj
  by_cases hji : j = i
  · rw [if_pos hji] at hj
    cases hj
    subst hji
    exact ⟨hB.2.2 _ List.mem_cons_self, hv, hc⟩
  · rw [if_neg hji] at hj
    obtain ⟨g1, g2, g3⟩ := h4 j w hj
    refine ⟨hB.2.2 (j, cv al w) (List.mem_cons_of_mem _ (List.mem_filter.mpr ⟨a_lvl_mem.mpr ⟨w, hj, rfl⟩, ?_⟩)), g2, g3⟩
    have e1 : (j == i) = false := by simpa using hji
    have e2 : (cv al w).category = 1 := by rw [cv_cat]; exact g3
    simp [e1, e2]
/-- a local is lost -/
theorem a_LR.lose {nL : Nat} {al : Nat → Nat → Nat} {M : aM} {lsA lsB : Array Slot} {ls : List (Option aV)} {i : Nat} {v : Value} (h : a_LR nL al M lsA ls) (hi : i < nL)
    (hB : lv_has lsB nL ((i, v) :: (a_lvl al ls).filter (fun q => !(q.1 == i) && !(q.1 + 1 == i && q.2.category == 2)))) : a_LR nL al M lsB (ls.set i none) := by
  obtain ⟨h1, h2, h3, h4⟩ := h
  refine ⟨hB.1, hB.2.1, by rw [List.length_set]; exact h3, fun j w hj => ?_⟩
  rw [a_lg_set ls i j (by omega)] at hj
  by_cases hji : j = i
  · rw [if_pos hji] at hj
    cases hj
  · rw [if_neg hji] at hj
    obtain ⟨g1, g2, g3⟩ := h4 j w hj
    refine ⟨hB.2.2 (j, cv al w) (List.mem_cons_of_mem _ (List.mem_filter.mpr ⟨a_lvl_mem.mpr ⟨w, hj, rfl⟩, ?_⟩)), g2, g3⟩
    have e1 : (j == i) = false := by simpa using hji
    have e2 : (cv al w).category = 1 := by rw [cv_cat]; exact g3
    simp [e1, e2]
