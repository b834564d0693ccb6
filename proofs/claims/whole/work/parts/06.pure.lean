/-! ===== more fuel changes nothing; the answer of a run; its equation ===== -/
theorem a_alt_mono {k k' : aS → Option aO} (h : ∀ s o, k s = some o → k' s = some o) : ∀ (l : List (Bool × aS)) (d : aS) (o : aO), a_alt k l d = some o → a_alt k' l d = some o
  | [], d, o, ho => h d o ho
  | (b, s) :: r, d, o, ho => by
    cases b with
    | true => exact h s o ho
    | false => exact a_alt_mono h r d o ho
theorem a_bk_mono {k k' : aS → Option aO} (h : ∀ s o, k s = some o → k' s = some o) (f g : Nat) (s : aS) (x o : aO) (ho : a_bk f g s x k = some o) : a_bk f g s x k' = some o := by
  obtain ⟨r, M⟩ := x
  rcases r with r | e
  · cases r with
    | none => exact h _ _ ho
    | some v => exact h _ _ ho
  · simp only [a_bk] at ho ⊢
    cases hn : a_nt g with
    | true => rw [hn] at ho; cases ho
    | false =>
      rw [hn] at ho
      simp only [cond_false] at ho ⊢
      cases hh : a_hd e s.1 (a_hn f) with
      | none => rw [hh] at ho; exact ho
      | some q =>
        rw [hh] at ho
        exact h _ _ ho
theorem a_st_mono {kf kf' : aS → Option aO} {kg kg' : Nat → aS → Option aO} (h : ∀ s o, kf s = some o → kf' s = some o) (hg : ∀ g s o, kg g s = some o → kg' g s = some o) (f : Nat) (s : aS) (o : aO) (ho : a_st kf kg f s = some o) : a_st kf' kg' f s = some o := by
  unfold a_st at ho ⊢
  cases hx : a_one f s with
  | inl q =>
    rw [hx] at ho
    exact ho
  | inr q =>
    rw [hx] at ho
    rcases q with ⟨b, s'⟩ | ⟨l, d⟩ | ⟨g, as, s'⟩
    · cases b with
      | true => exact h _ _ ho
      | false => cases ho
    · exact a_alt_mono h _ _ _ ho
    · have ho : (kg g (a_en g as s'.2.2.2)).bind (fun o => a_bk f g s' o kf) = some o := ho
      show (kg' g (a_en g as s'.2.2.2)).bind (fun o => a_bk f g s' o kf') = some o
      cases hk : kg g (a_en g as s'.2.2.2) with
      | none => rw [hk] at ho; cases ho
      | some x =>
        rw [hk] at ho
        rw [hg _ _ _ hk]
        exact a_bk_mono h f g s' x o ho
theorem a_run_succ : ∀ (n f : Nat) (s : aS) (o : aO), a_run n f s = some o → a_run (n + 1) f s = some o
  | 0, _, _, _, h => by cases h
  | n + 1, f, s, o, h => a_st_mono (fun s o h => a_run_succ n f s o h) (fun g s o h => a_run_succ n g s o h) f s o h
theorem a_run_le {n m f : Nat} {s : aS} {o : aO} (h : a_run n f s = some o) (hm : n ≤ m) : a_run m f s = some o := by
  induction hm with
  | refl => exact h
  | step _ ih => exact a_run_succ _ _ _ _ ih
/-- the answer of a run, if it comes to one -/
noncomputable def rn (f : Nat) (s : aS) : Option aO := @dite (Option aO) (∃ (n : Nat) (o : aO), a_run n f s = some o) (Classical.propDecidable _) (fun h => some h.choose_spec.choose) (fun _ => none)
theorem rn_of {n f : Nat} {s : aS} {o : aO} (h : a_run n f s = some o) : rn f s = some o := by
  have hx : ∃ (n : Nat) (o : aO), a_run n f s = some o := ⟨n, o, h⟩
  unfold rn
  rw [dif_pos hx]
  have h1 := hx.choose_spec.choose_spec
  have h2 := a_run_le h1 (Nat.le_max_left hx.choose n)
  have h3 := a_run_le h (Nat.le_max_right hx.choose n)
  exact h2.symm.trans h3
theorem rn_ex {f : Nat} {s : aS} {o : aO} (h : rn f s = some o) : ∃ n, a_run n f s = some o := by
  unfold rn at h
  by_cases hx : ∃ (n : Nat) (o : aO), a_run n f s = some o
  · rw [dif_pos hx] at h
    exact ⟨hx.choose, by rw [← h]; exact hx.choose_spec.choose_spec⟩
  · rw [dif_neg hx] at h
    cases h
theorem a_alt_ex {f : Nat} : ∀ (l : List (Bool × aS)) (d : aS) (o : aO), a_alt (rn f) l d = some o → ∃ n, a_alt (a_run n f) l d = some o
  | [], d, o, ho => rn_ex ho
  | (b, s) :: r, d, o, ho => by
    cases b with
    | true => exact rn_ex (show rn f s = some o from ho)
    | false => exact a_alt_ex r d o ho
theorem a_bk_ex {f g : Nat} {s : aS} {x o : aO} (ho : a_bk f g s x (rn f) = some o) : ∃ n, a_bk f g s x (a_run n f) = some o := by
  obtain ⟨r, M⟩ := x
  rcases r with r | e
  · cases r with
    | none => exact rn_ex (show rn f _ = some o from ho)
    | some v => exact rn_ex (show rn f _ = some o from ho)
  · simp only [a_bk] at ho ⊢
    cases hn : a_nt g with
    | true => rw [hn] at ho; cases ho
    | false =>
      rw [hn] at ho
      simp only [cond_false] at ho ⊢
      cases hh : a_hd e s.1 (a_hn f) with
      | none => rw [hh] at ho; exact ⟨0, ho⟩
      | some q =>
        rw [hh] at ho
        exact rn_ex ho
/-- THE EQUATION of a run -/
theorem rn_eq (f : Nat) (s : aS) : rn f s = a_st (rn f) rn f s := by
  apply Option.ext
  intro o
  constructor
  · intro h
    obtain ⟨n, hn⟩ := rn_ex h
    cases n with
    | zero => cases hn
    | succ n => exact a_st_mono (fun _ _ h => rn_of h) (fun _ _ _ h => rn_of h) f s o hn
  · intro h
    unfold a_st at h
    cases hx : a_one f s with
    | inl q =>
      rw [hx] at h
      exact rn_of (n := 1) (by show a_st _ _ f s = _; unfold a_st; rw [hx]; exact h)
    | inr q =>
      rw [hx] at h
      rcases q with ⟨b, s'⟩ | ⟨l, d⟩ | ⟨g, as, s'⟩
      · cases b with
        | true =>
          obtain ⟨n, hn⟩ := rn_ex (show rn f s' = some o from h)
          exact rn_of (n := n + 1) (by show a_st _ _ f s = _; unfold a_st; rw [hx]; exact hn)
        | false => cases h
      · obtain ⟨n, hn⟩ := a_alt_ex l d o h
        exact rn_of (n := n + 1) (by show a_st _ _ f s = _; unfold a_st; rw [hx]; exact hn)
      · have h : (rn g (a_en g as s'.2.2.2)).bind (fun o => a_bk f g s' o (rn f)) = some o := h
        cases hk : rn g (a_en g as s'.2.2.2) with
        | none => rw [hk] at h; cases h
        | some x =>
          rw [hk] at h
          obtain ⟨n1, h1⟩ := rn_ex hk
          obtain ⟨n2, h2⟩ := a_bk_ex (show a_bk f g s' x (rn f) = some o from h)
          refine rn_of (n := max n1 n2 + 1) ?_
          show a_st _ _ f s = _
          unfold a_st
          rw [hx]
          show (a_run (max n1 n2) g (a_en g as s'.2.2.2)).bind (fun o => a_bk f g s' o (a_run (max n1 n2) f)) = some o
          rw [a_run_le h1 (Nat.le_max_left n1 n2)]
          exact a_bk_mono (fun _ _ h => a_run_le h (Nat.le_max_right n1 n2)) f g s' x o h2
/-- a part of a run: at most n instructions, up to the places in cs -/
noncomputable def a_tr (cs : List Nat) (f : Nat) : Nat → aS → Option aO
  | 0, s => rn f s
  | n + 1, s => bif cs.any (fun c => Nat.beq c s.1) then rn f s else a_st (a_tr cs f n) rn f s
theorem a_tr_eq (cs : List Nat) (f : Nat) : ∀ (n : Nat) (s : aS), a_tr cs f n s = rn f s
  | 0, s => rfl
  | n + 1, s => by
    show (bif cs.any (fun c => Nat.beq c s.1) then rn f s else a_st (a_tr cs f n) rn f s) = rn f s
    cases cs.any (fun c => Nat.beq c s.1) with
    | true => rfl
    | false =>
      show a_st (a_tr cs f n) rn f s = rn f s
      rw [show a_tr cs f n = rn f from funext (a_tr_eq cs f n)]
      exact (rn_eq f s).symm
/-- the equation at a place: one instruction, then up to the places in cs -/
theorem rn_to (cs : List Nat) (n f : Nat) (s : aS) : rn f s = a_st (a_tr cs f n) rn f s := by
  rw [show a_tr cs f n = rn f from funext (a_tr_eq cs f n)]
  exact rn_eq f s
