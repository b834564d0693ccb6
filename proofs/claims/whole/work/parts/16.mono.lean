/-! ===== what is made stays made ===== -/
def a_le (M M' : aM) : Prop := M.2.2.2.2.1 ≤ M'.2.2.2.2.1 ∧ M.2.2.2.2.2 ≤ M'.2.2.2.2.2 ∧ ∀ s, M.2.2.2.1 s ≤ M'.2.2.2.1 s
theorem a_le.refl {M : aM} : a_le M M := ⟨Nat.le_refl _, Nat.le_refl _, fun _ => Nat.le_refl _⟩
theorem a_le.trans {M M' M'' : aM} (h : a_le M M') (h' : a_le M' M'') : a_le M M'' := ⟨Nat.le_trans h.1 h'.1, Nat.le_trans h.2.1 h'.2.1, fun s => Nat.le_trans (h.2.2 s) (h'.2.2 s)⟩
theorem a_le.of {M M' : aM} (h : M'.2.2.2 = M.2.2.2) : a_le M M' := by
  unfold a_le
  rw [h]
  exact a_le.refl
theorem a_le_mk {M : aM} {s n : Nat} : a_le M (a_mk M s n) := ⟨Nat.le_succ _, Nat.le_add_right _ _, fun _ => a_inc_le⟩
def a_AL2 (M : aM) : aA → Prop
  | .inl (_, o) => a_le M o.2
  | .inr (.inl (_, s)) => a_le M s.2.2.2
  | .inr (.inr (.inl (l, d))) => (∀ e ∈ l, a_le M e.2.2.2.2) ∧ a_le M d.2.2.2
  | .inr (.inr (.inr (_, _, s))) => a_le M s.2.2.2
theorem a_swl_le {pc : Nat} {ls : List (Option aV)} {st : List aV} {M : aM} {x : Int32} : ∀ (o : List Int) (lo : Int), ∀ e ∈ a_swl pc ls st M x lo o, a_le M e.2.2.2.2
  | [], _, e, h => by cases h
  | t :: r, lo, e, h => by
    rcases List.mem_cons.mp h with rfl | h
    · exact a_le.refl
    · exact a_swl_le r (lo + 1) e h
theorem a_br_le {M : aM} {b : Bool} {s1 s2 : aS} (h1 : a_le M s1.2.2.2) (h2 : a_le M s2.2.2.2) : a_AL2 M (a_br b s1 s2) := ⟨fun e h => by rw [List.mem_singleton.mp h]; exact h1, h2⟩
theorem a_bif_le {M : aM} {b : Bool} {x y : aA} (hx : a_AL2 M x) (hy : a_AL2 M y) : a_AL2 M (bif b then x else y) := by
  cases b
  · exact hy
  · exact hx
set_option maxHeartbeats 4000000 in
theorem a_call_le {f pc idx op : Nat} {ls : List (Option aV)} {st : List aV} {M : aM} : a_AL2 M (a_call f pc idx op ls st M) := by
  unfold a_call
  split
  · exact a_le.refl
  · next g kd _ =>
    split
    · split
      · cases (Nat.beq op 2 && Nat.ble 1 (a_rF f) && Nat.ble (a_cs _ + 12) (a_rL f)) <;> exact a_le.refl
      · exact a_le.refl
    · split
      · exact a_bif_le a_le.refl a_le.refl
      · exact a_le.refl
    · split
      · exact a_bif_le a_le.refl a_le.refl
      · exact a_le.refl
    · split
      · exact a_bif_le a_le.refl a_le.refl
      · exact a_le.refl
    · split
      · exact a_bif_le a_le.refl a_le.refl
      · exact a_le.refl
    · exact a_bif_le a_le.refl a_le.refl
set_option maxHeartbeats 4000000 in
theorem a_ex_le {f pc len : Nat} {ls : List (Option aV)} {st : List aV} {M : aM} {i : Instr} : a_AL2 M (a_ex f pc len ls st M i) := by
  unfold a_ex
  split
  all_goals first
    | exact a_le.refl
    | exact a_call_le
    | (split <;> first
        | exact a_le.refl
        | exact a_br_le a_le.refl a_le.refl
        | exact a_le_mk
        | (split <;> first
            | exact a_le.refl
            | exact a_le_mk
            | (generalize (Nat.ble 4 _ : Bool) = bb; cases bb <;> exact a_le.refl)
            | (generalize (Nat.ble 4 _ && _ : Bool) = bb; cases bb <;> exact a_le.refl)
            | (generalize (Nat.ble 6 _ && _ : Bool) = bb; cases bb <;> first | exact a_le.refl | exact ⟨Nat.le_succ _, Nat.le_add_right _ _, fun _ => Nat.le_refl _⟩))
        | (generalize (Nat.blt _ _ : Bool) = bb; cases bb <;> exact a_le.refl)
        | (generalize (Nat.beq _ _ || _ : Bool) = bb; cases bb <;> exact a_le.refl)
        | (generalize (_ && _ : Bool) = bb; cases bb <;> first | exact a_le.refl | exact ⟨a_swl_le _ _, a_le.refl⟩)
        | (generalize (Nat.beq _ _ : Bool) = bb; cases bb <;> exact a_le.refl)
        | (generalize (Nat.ble 4 _ : Bool) = bb; cases bb <;> first | exact a_le.refl | (generalize (Nat.beq _ 2 : Bool) = b2; cases b2 <;> first | exact a_le.refl | (generalize (Nat.beq _ 3 : Bool) = b3; cases b3 <;> exact a_le.refl))))
theorem a_pick_le {M : aM} : ∀ (l : List (Bool × aS)) (d : aS), (∀ e ∈ l, a_le M e.2.2.2.2) → a_le M d.2.2.2 → a_le M (a_pick l d).2.2.2
  | [], d, _, h => h
  | (b, s) :: r, d, h1, h2 => by
    cases b with
    | true => exact h1 (true, s) List.mem_cons_self
    | false => exact a_pick_le r d (fun e he => h1 e (List.mem_cons_of_mem _ he)) h2
theorem a_alt_pick (k : aS → Option aO) : ∀ (l : List (Bool × aS)) (d : aS), a_alt k l d = k (a_pick l d)
  | [], d => rfl
  | (b, s) :: r, d => by
    cases b with
    | true => rfl
    | false => exact a_alt_pick k r d
theorem a_one_le {f : Nat} {x : aS} : a_AL2 x.2.2.2 (a_one f x) := by
  unfold a_one
  split
  · exact a_ex_le
  · exact a_le.refl
theorem a_run_mono : ∀ (n f : Nat) (x : aS) (o : aO), a_run n f x = some o → a_le x.2.2.2 o.2
  | 0, _, _, _, h => by cases h
  | n + 1, f, x, o, h => by
    have hl := a_one_le (f := f) (x := x)
    have h : a_st (a_run n f) (a_run n) f x = some o := h
    unfold a_st at h
    cases hx : a_one f x with
    | inl q =>
      rw [hx] at h hl
      obtain ⟨b, o'⟩ := q
      cases b with
      | false => cases h
      | true =>
        have h : some o' = some o := h
        cases h
        exact hl
    | inr q =>
      rw [hx] at h hl
      rcases q with ⟨b, s'⟩ | ⟨l, d⟩ | ⟨g, as, s'⟩
      · cases b with
        | false => cases h
        | true => exact a_le.trans hl (a_run_mono n f s' o h)
      · have h : a_alt (a_run n f) l d = some o := h
        rw [a_alt_pick] at h
        exact a_le.trans (a_pick_le l d hl.1 hl.2) (a_run_mono n f _ o h)
      · have h : (a_run n g (a_en g as s'.2.2.2)).bind (fun o => a_bk f g s' o (a_run n f)) = some o := h
        cases hk : a_run n g (a_en g as s'.2.2.2) with
        | none => rw [hk] at h; cases h
        | some x1 =>
          rw [hk] at h
          have h1 := a_run_mono n g _ x1 hk
          have h : a_bk f g s' x1 (a_run n f) = some o := h
          have h2 : a_le x1.2 o.2 := by
            obtain ⟨r, M1⟩ := x1
            rcases r with r | e
            · cases r with
              | none => exact a_run_mono n f _ o h
              | some v => exact a_run_mono n f _ o h
            · simp only [a_bk] at h
              cases hn : a_nt g with
              | true => rw [hn] at h; cases h
              | false =>
                rw [hn] at h
                simp only [cond_false] at h
                cases hh : a_hd e s'.1 (a_hn f) with
                | none =>
                  rw [hh] at h
                  have h : some (.inr e, M1) = some o := h
                  cases h
                  exact a_le.refl
                | some q =>
                  rw [hh] at h
                  exact a_run_mono n f _ o h
          exact a_le.trans hl (a_le.trans h1 h2)
