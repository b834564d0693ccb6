/-! ===== rows of instructions: fields and arrays ===== -/
/-- what the tables say of the classes and their fields -/
def a_tCls : Prop := ∀ (ci : Nat) (C : String) (T : u_T) (N : Nat), a_cls[ci]? = some (C, T, N) → C = a_Rn ci ∧ (∀ w ∈ u_ws C T N, w ∈ lw_gd) ∧ (∃ ty0 : Nat → FieldType, (∀ k, k < N → parseFieldDescriptor (T k).2.2.1 = some (ty0 k)) ∧ ∀ k, k < N → (a_fr ci k = 0 ∧ ty0 k = .int) ∨ (a_fr ci k = 1 ∧ ty0 k = .boolean) ∨ (a_fr ci k = 2 ∧ ((∃ n, ty0 k = .object n) ∨ ∃ t, ty0 k = .array t))) ∧
  (∀ a, a < N → ∀ b, b < N → a ≠ b → (T a).2.1 ≠ (T b).2.1) ∧ ∀ k, k < N → (T k).1 = C ∧ ((T k).2.2.2 = false ∨ ((T k).2.2.2 = true ∧ a_find a_finl (100 * ci + k) = some true))
def a_tF : Prop := ∀ e ∈ a_cpFl, (∃ C T N, a_cls[e.2.1]? = some (C, T, N) ∧ e.2.2 < N ∧ Cond.fieldLink (a_Rn (e.1 % 16)) (e.1 / 16) (T e.2.2).1 (T e.2.2).2.1 (T e.2.2).2.2.1 ∈ lw_gd) ∨
  (e.2 = (10, 0) ∧ Cond.fieldLink (a_Rn (e.1 % 16)) (e.1 / 16) "java/lang/String" "value" "[B" ∈ lw_gd) ∨ (e.2 = (10, 1) ∧ Cond.fieldLink (a_Rn (e.1 % 16)) (e.1 / 16) "java/lang/String" "coder" "B" ∈ lw_gd)
def a_tI : Prop := ∀ ci, ci < 9 → (a_y (a_initl.getD ci 9999)).name = "<init>" ∧ a_own (a_initl.getD ci 9999) = ci
theorem a_beq {a b : Nat} (h : Nat.beq a b = true) : a = b := Nat.eq_of_beq_eq_true h
theorem a_and {a b : Bool} (h : (a && b) = true) : a = true ∧ b = true := Bool.and_eq_true_iff.mp h
/-- the field that an entry names, of a cell of the place s -/
theorem a_fld_eq {cc idx s j kd : Nat} (h : a_fld cc idx s = some (j, kd)) : ∃ ci, a_cpF cc idx = some (ci, j) ∧ (a_sk s).1 = 0 ∧ (a_sk s).2.1 = ci ∧ a_fr ci j = kd := by
  unfold a_fld at h
  cases hx : a_cpF cc idx with
  | none => rw [hx] at h; cases h
  | some q =>
    obtain ⟨ci, j'⟩ := q
    rw [hx] at h
    cases hb : (Nat.beq (a_sk s).1 0 && Nat.beq (a_sk s).2.1 ci) with
    | false => simp only [hb, cond_false] at h; cases h
    | true =>
      simp only [hb, cond_true] at h
      cases h
      obtain ⟨h1, h2⟩ := a_and hb
      exact ⟨ci, rfl, a_beq h1, a_beq h2, rfl⟩
theorem a_sk_obj {s : Nat} (h : (a_sk s).1 = 0) (h4 : 4 ≤ s) : ∃ C T, a_cls[(a_sk s).2.1]? = some (C, T, (a_sk s).2.2) := by
  by_cases hs : s < 33
  · have : ∀ s, s < 33 → 4 ≤ s → (a_sk s).1 = 0 → ∃ C T, a_cls[(a_sk s).2.1]? = some (C, T, (a_sk s).2.2) := by
      intro s hs h4 h
      match s, hs, h4, h with
      | 9, _, _, _ => exact ⟨_, _, rfl⟩
      | 10, _, _, _ => exact ⟨_, _, rfl⟩
      | 14, _, _, _ => exact ⟨_, _, rfl⟩
      | 15, _, _, _ => exact ⟨_, _, rfl⟩
      | 18, _, _, _ => exact ⟨_, _, rfl⟩
      | 20, _, _, _ => exact ⟨_, _, rfl⟩
      | 21, _, _, _ => exact ⟨_, _, rfl⟩
      | 30, _, _, _ => exact ⟨_, _, rfl⟩
      | 31, _, _, _ => exact ⟨_, _, rfl⟩
      | 4, _, _, h => cases h
      | 5, _, _, h => cases h
      | 6, _, _, h => cases h
      | 7, _, _, h => cases h
      | 8, _, _, h => cases h
      | 11, _, _, h => cases h
      | 12, _, _, h => cases h
      | 13, _, _, h => cases h
      | 16, _, _, h => cases h
      | 17, _, _, h => cases h
      | 19, _, _, h => cases h
      | 22, _, _, h => cases h
      | 23, _, _, h => cases h
      | 24, _, _, h => cases h
      | 25, _, _, h => cases h
      | 26, _, _, h => cases h
      | 27, _, _, h => cases h
      | 28, _, _, h => cases h
      | 29, _, _, h => cases h
      | 32, _, _, h => cases h
    exact this s hs h4 h
  · exfalso
    match s, hs, h with
    | n + 33, _, h => cases h
/-- the cells of a heap by the names -/
theorem a_HR.at {D : va_G} {tyc : Nat → ClassId} {s0 : State} {al : Nat → Nat → Nat} {M : aM} {LP : List Nat} {fE : Nat → va_E} (hal : ∀ s q, 4 ≤ s → q < M.2.2.2.1 s → al s q ∈ LP ∧ fE (al s q) = a_ce tyc al M s q) {s q : Nat} (h4 : 4 ≤ s) (hq : q < M.2.2.2.1 s) : ∃ k : Nat, (va_pl LP fE)[k]? = some (al s q, a_ce tyc al M s q) := by
  obtain ⟨h1, h2⟩ := hal s q h4 hq
  obtain ⟨k, hk⟩ := va_pl_get (X := []) (f := fE) h1
  rw [h2] at hk
  exact ⟨k, hk⟩
/-- one cell has changed -/
theorem a_HR.upd {D : va_G} {tyc : Nat → ClassId} {s0 : State} {al : Nat → Nat → Nat} {M M' : aM} {LP : List Nat} {fE : Nat → va_E} {H1 : Heap} {s q k : Nat} (hD : va_D (a_A s0) (va_pl LP fE)) (hal : ∀ s q, 4 ≤ s → q < M.2.2.2.1 s → al s q ∈ LP ∧ fE (al s q) = a_ce tyc al M s q)
    (hin : ∀ s q s' q', 4 ≤ s → q < M.2.2.2.1 s → 4 ≤ s' → q' < M.2.2.2.1 s' → al s q = al s' q' → s = s' ∧ q = q') (h4 : 4 ≤ s) (hq : q < M.2.2.2.1 s) (hk : (va_pl LP fE)[k]? = some (al s q, a_ce tyc al M s q)) (hc : M'.2.2.2.1 = M.2.2.2.1)
    (hsame : ∀ s' q', ¬ (s' = s ∧ q' = q) → a_ce tyc al M' s' q' = a_ce tyc al M s' q') (hP : va_P D a_cls ((va_pl LP fE).set k (al s q, a_ce tyc al M' s q)) H1) (hD1 : va_D (a_A s0) ((va_pl LP fE).set k (al s q, a_ce tyc al M' s q))) : a_HR D tyc s0 al M' H1 := by
  obtain ⟨h1, h2⟩ := hal s q h4 hq
  have hk' : ([] ++ va_pl LP fE)[k]? = some (al s q, fE (al s q)) := by rw [h2]; exact hk
  have hset : (va_pl LP fE).set k (al s q, a_ce tyc al M' s q) = va_pl LP (va_up fE (al s q) (a_ce tyc al M' s q)) := va_pl_set (X := []) (e := a_ce tyc al M' s q) hD h1 hk'
  rw [hset] at hP hD1
  refine ⟨LP, _, hP, hD1, fun s' q' g4 gq => ?_, fun a b a' b' g1 g2 g3 g4 => ?_⟩
  · rw [hc] at gq
    obtain ⟨e1, e2⟩ := hal s' q' g4 gq
    refine ⟨e1, ?_⟩
    by_cases he : s' = s ∧ q' = q
    · obtain ⟨rfl, rfl⟩ := he
      exact va_up_self _ _ _
    · rw [va_up_ne _ _ (fun z => he (hin _ _ _ _ g4 gq h4 hq z)), e2, hsame s' q' he]
  · rw [hc] at g2 g4
    exact hin a b a' b' g1 g2 g3 g4
theorem a_nn {s' s q' q : Nat} (h : ¬ (s' = s ∧ q' = q)) (b : Bool) : (Nat.beq s' s && (Nat.beq q' q && b)) = false := by
  by_cases h1 : s' = s
  · have h2 : ¬ q' = q := fun z => h ⟨h1, z⟩
    have : Nat.beq q' q = false := Bool.eq_false_iff.mpr (fun z => h2 (a_beq z))
    rw [this]
    simp
  · have : Nat.beq s' s = false := Bool.eq_false_iff.mpr (fun z => h1 (a_beq z))
    rw [this]
    rfl
theorem a_nn2 {s' s q' q : Nat} (h : ¬ (s' = s ∧ q' = q)) (b : Bool) : (Nat.beq s' s && (b && Nat.beq q' q)) = false := by
  rw [Bool.and_comm b]
  exact a_nn h b
theorem a_setI_ne {I : Nat → Nat → Nat → Int32} {s q k : Nat} {v : Int32} {s' q' : Nat} (h : ¬ (s' = s ∧ q' = q)) (j : Nat) : a_setI I s q k v s' q' j = I s' q' j := by
  unfold a_setI
  rw [a_nn2 h]
  rfl
theorem a_setR_ne {I : Nat → Nat → Nat → Option aN} {s q k : Nat} {v : Option aN} {s' q' : Nat} (h : ¬ (s' = s ∧ q' = q)) (j : Nat) : a_setR I s q k v s' q' j = I s' q' j := by
  unfold a_setR
  rw [a_nn2 h]
  rfl
theorem a_setL_ne {I : Nat → Nat → Nat → Int64} {s q k : Nat} {v : Int64} {s' q' : Nat} (h : ¬ (s' = s ∧ q' = q)) (j : Nat) : a_setL I s q k v s' q' j = I s' q' j := by
  unfold a_setL
  rw [a_nn2 h]
  rfl
theorem a_rb (n : Nat) : Nat.beq n n = true := Nat.beq_refl n
theorem a_setI_at {I : Nat → Nat → Nat → Int32} {s q k : Nat} {v : Int32} (j : Nat) : a_setI I s q k v s q j = if j = k then v else I s q j := by
  unfold a_setI
  rw [a_rb s, a_rb q]
  by_cases h : j = k
  · subst h
    rw [a_rb, if_pos rfl]
    rfl
  · have : Nat.beq j k = false := Bool.eq_false_iff.mpr (fun z => h (a_beq z))
    rw [this, if_neg h]
    rfl
theorem a_setR_at {I : Nat → Nat → Nat → Option aN} {s q k : Nat} {v : Option aN} (j : Nat) : a_setR I s q k v s q j = if j = k then v else I s q j := by
  unfold a_setR
  rw [a_rb s, a_rb q]
  by_cases h : j = k
  · subst h
    rw [a_rb, if_pos rfl]
    rfl
  · have : Nat.beq j k = false := Bool.eq_false_iff.mpr (fun z => h (a_beq z))
    rw [this, if_neg h]
    rfl
theorem a_setL_at {I : Nat → Nat → Nat → Int64} {s q k : Nat} {v : Int64} (j : Nat) : a_setL I s q k v s q j = if j = k then v else I s q j := by
  unfold a_setL
  rw [a_rb s, a_rb q]
  by_cases h : j = k
  · subst h
    rw [a_rb, if_pos rfl]
    rfl
  · have : Nat.beq j k = false := Bool.eq_false_iff.mpr (fun z => h (a_beq z))
    rw [this, if_neg h]
    rfl
/-- cells that read the same memory are the same -/
theorem a_ce_congr {tyc : Nat → ClassId} {al : Nat → Nat → Nat} {M M' : aM} {s q : Nat} (h1 : ∀ k, M'.1 s q k = M.1 s q k) (h2 : ∀ k, M'.2.1 s q k = M.2.1 s q k) (h3 : ∀ k, M'.2.2.1 s q k = M.2.2.1 s q k) : a_ce tyc al M' s q = a_ce tyc al M s q := by
  unfold a_ce
  simp only [h1, h2, h3]
theorem a_ce_obj {tyc : Nat → ClassId} {al : Nat → Nat → Nat} {M : aM} {s q : Nat} (h : (a_sk s).1 = 0) : a_ce tyc al M s q = .inr ((a_sk s).2.1, (List.range (a_sk s).2.2).map (fun k => bif Nat.beq (a_fr (a_sk s).2.1 k) 2 then cv al (.inr (.inr (M.2.1 s q k))) else .int (M.1 s q k))) := by
  unfold a_ce
  rw [h]
  rfl
theorem a_okv_of {M M' : aM} (hc : M'.2.2.2.1 = M.2.2.2.1) {v : aV} (h : a_okv M v) : a_okv M' v := by
  rcases v with x | x | (_ | n)
  · trivial
  · trivial
  · trivial
  · show a_okn M' n
    unfold a_okn
    rw [hc]
    exact h
theorem a_LR.mem {nL : Nat} {al : Nat → Nat → Nat} {M M' : aM} {lsA : Array Slot} {ls : List (Option aV)} (hc : M'.2.2.2.1 = M.2.2.2.1) (h : a_LR nL al M lsA ls) : a_LR nL al M' lsA ls := ⟨h.1, h.2.1, h.2.2.1, fun i v hv => ⟨(h.2.2.2 i v hv).1, a_okv_of hc (h.2.2.2 i v hv).2.1, (h.2.2.2 i v hv).2.2⟩⟩
