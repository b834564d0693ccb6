/-! ===== rows of instructions: what is made ===== -/
theorem a_clr_ne {α : Type} {z : α} {I : Nat → Nat → Nat → α} {s q s' q' : Nat} (h : ¬ (s' = s ∧ q' = q)) (k : Nat) : a_clr z I s q s' q' k = I s' q' k := by
  have h1 := a_nn h true
  unfold a_clr
  rw [show (Nat.beq s' s && Nat.beq q' q) = false by simpa using h1]
  rfl
theorem a_clr_at {α : Type} {z : α} {I : Nat → Nat → Nat → α} {s q : Nat} (k : Nat) : a_clr z I s q s q k = z := by
  unfold a_clr
  rw [a_rb, a_rb]
  rfl
theorem a_inc_at {c : Nat → Nat} {s : Nat} : a_inc c s s = c s + 1 := by
  unfold a_inc
  rw [a_rb]
  rfl
theorem a_inc_ne {c : Nat → Nat} {s s' : Nat} (h : s' ≠ s) : a_inc c s s' = c s' := by
  unfold a_inc
  rw [show Nat.beq s' s = false from Bool.eq_false_iff.mpr (fun z => h (a_beq z))]
  rfl
theorem a_inc_le {c : Nat → Nat} {s s' : Nat} : c s' ≤ a_inc c s s' := by
  by_cases h : s' = s
  · subst h; rw [a_inc_at]; omega
  · rw [a_inc_ne h]; exact Nat.le_refl _
theorem a_ce_ext {tyc : Nat → ClassId} {al al' : Nat → Nat → Nat} {M M' : aM} {s q : Nat} (hx : a_ext al al' M) (hok : ∀ k, a_okv M (.inr (.inr (M.2.1 s q k)))) (h1 : ∀ k, M'.1 s q k = M.1 s q k) (h2 : ∀ k, M'.2.1 s q k = M.2.1 s q k) (h3 : ∀ k, M'.2.2.1 s q k = M.2.2.1 s q k) : a_ce tyc al' M' s q = a_ce tyc al M s q := by
  have e1 : ∀ k, cv al' (.inr (.inr (M.2.1 s q k))) = cv al (.inr (.inr (M.2.1 s q k))) := fun k => cv_ext hx (hok k)
  have e2 : ∀ k, (M.2.1 s q k).map (fun n => al' n.1 n.2) = (M.2.1 s q k).map (fun n => al n.1 n.2) := by
    intro k
    have h9 := e1 k
    cases hr : M.2.1 s q k with
    | none => rfl
    | some n =>
      rw [hr] at h9
      have h9 : Value.ref (al' n.1 n.2) = .ref (al n.1 n.2) := h9
      have h9 : al' n.1 n.2 = al n.1 n.2 := by injection h9
      show some (al' n.1 n.2) = some (al n.1 n.2)
      rw [h9]
  unfold a_ce
  simp only [h1, h2, h3, e1, e2]
def a_nal (al : Nat → Nat → Nat) (s q a : Nat) : Nat → Nat → Nat := fun s' q' => if s' = s ∧ q' = q then a else al s' q'
theorem a_okv_mk {M : aM} {s n : Nat} {v : aV} (h : a_okv M v) : a_okv (a_mk M s n) v := by
  rcases v with x | x | (_ | y)
  · trivial
  · trivial
  · trivial
  · rcases h with h1 | ⟨h1, h2⟩
    · exact Or.inl h1
    · exact Or.inr ⟨h1, Nat.lt_of_lt_of_le h2 a_inc_le⟩
section
variable {s : State} {G : aG} {f c0 k0 : Nat} {al : Nat → Nat → Nat} {H : Heap} {locs : List Loc} {lsA : Array Slot} {pc pc' : Nat} {ls : List (Option aV)} {st r : List aV} {M : aM}
/-- what holds behind the making of a cell of the place si at the address q -/
theorem a_born {si n q : Nat} {LP : List Nat} {fE : Nat → va_E} {H1 : Heap} {E : va_E} (J : a_J f s G c0 k0 al H locs lsA (pc, ls, st, M)) (h4 : 4 ≤ si) (hal : ∀ s q, 4 ≤ s → q < M.2.2.2.1 s → al s q ∈ LP ∧ fE (al s q) = a_ce G.2.2.1 al M s q)
    (hin : ∀ s q s' q', 4 ≤ s → q < M.2.2.2.1 s → 4 ≤ s' → q' < M.2.2.2.1 s' → al s q = al s' q' → s = s' ∧ q = q') (hP1 : va_P G.2.1 a_cls (va_pl LP fE ++ [(q, E)]) H1) (hD1 : va_D (a_A G.1) (va_pl LP fE ++ [(q, E)])) (hS1 : va_S (a_A G.1) s.heap H1 locs)
    (hE : E = a_ce G.2.2.1 (a_nal al si (M.2.2.2.1 si) q) (a_mk M si n) si (M.2.2.2.1 si)) (hr : ∀ v ∈ r, a_okv M v) :
    a_J f s G c0 k0 (a_nal al si (M.2.2.2.1 si) q) H1 locs lsA (pc', ls, .inr (.inr (some (si, M.2.2.2.1 si))) :: r, a_mk M si n) ∧ a_ext al (a_nal al si (M.2.2.2.1 si) q) M ∧ r.map (cv (a_nal al si (M.2.2.2.1 si) q)) = r.map (cv al) := by
  have hx : a_ext al (a_nal al si (M.2.2.2.1 si) q) M := by
    intro s' q' h
    unfold a_nal
    rw [if_neg]
    rintro ⟨rfl, rfl⟩
    omega
  have hqn : q ∉ LP := by
    intro hm
    obtain ⟨k, hk⟩ := List.getElem?_of_mem (show (q, fE q) ∈ va_pl LP fE from List.mem_map.mpr ⟨q, hm, rfl⟩)
    have hl := (List.getElem?_eq_some_iff.mp hk).1
    have e1 : (va_pl LP fE ++ [(q, E)])[k]? = some (q, fE q) := by rw [List.getElem?_append_left hl]; exact hk
    have e2 : (va_pl LP fE ++ [(q, E)])[(va_pl LP fE).length]? = some (q, E) := by rw [List.getElem?_append_right (Nat.le_refl _), Nat.sub_self]; rfl
    have := hD1.1 _ _ _ _ e1 e2 rfl
    omega
  rw [va_pl_push hqn] at hP1 hD1
  have hlow : ∀ s' q', s' < 4 → ¬ (s' = si ∧ q' = M.2.2.2.1 si) := fun s' q' h5 h6 => by omega
  have hold : ∀ s' q', q' < M.2.2.2.1 s' → ¬ (s' = si ∧ q' = M.2.2.2.1 si) := by
    rintro s' q' h5 ⟨rfl, rfl⟩
    omega
  have hnew : ∀ s' q', q' < (a_mk M si n).2.2.2.1 s' → q' < M.2.2.2.1 s' ∨ (s' = si ∧ q' = M.2.2.2.1 si) := by
    intro s' q' h5
    have h5 : q' < a_inc M.2.2.2.1 si s' := h5
    by_cases h6 : s' = si
    · subst h6
      rw [a_inc_at] at h5
      by_cases h7 : q' = M.2.2.2.1 s'
      · exact Or.inr ⟨rfl, h7⟩
      · exact Or.inl (by omega)
    · rw [a_inc_ne h6] at h5
      exact Or.inl h5
  have hHR : a_HR G.2.1 G.2.2.1 G.1 (a_nal al si (M.2.2.2.1 si) q) (a_mk M si n) H1 := by
    refine ⟨_, _, hP1, hD1, fun s' q' g4 gq => ?_, fun a b a' b' g1 g2 g3 g4 he => ?_⟩
    · rcases hnew s' q' gq with gq | ⟨rfl, rfl⟩
      · obtain ⟨e1, e2⟩ := hal s' q' g4 gq
        have e3 := hx s' q' (Or.inr gq)
        rw [e3]
        refine ⟨List.mem_append_left _ e1, ?_⟩
        rw [va_up_ne _ _ (fun z => hqn (by rw [← z]; exact e1)), e2]
        exact (a_ce_ext hx (fun k => J.2.1.1 s' q' k g4 gq) (a_clr_ne (hold s' q' gq)) (a_clr_ne (hold s' q' gq)) (a_clr_ne (hold s' q' gq))).symm
      · have e3 : a_nal al s' (M.2.2.2.1 s') q s' (M.2.2.2.1 s') = q := by unfold a_nal; rw [if_pos ⟨rfl, rfl⟩]
        rw [e3]
        exact ⟨List.mem_append_right _ List.mem_cons_self, by rw [va_up_self]; exact hE⟩
    · rcases hnew a b g2 with g5 | ⟨rfl, rfl⟩
      · rw [hx a b (Or.inr g5)] at he
        rcases hnew a' b' g4 with g6 | ⟨rfl, rfl⟩
        · rw [hx a' b' (Or.inr g6)] at he
          exact hin a b a' b' g1 g5 g3 g6 he
        · exfalso
          have e3 : a_nal al a' (M.2.2.2.1 a') q a' (M.2.2.2.1 a') = q := by unfold a_nal; rw [if_pos ⟨rfl, rfl⟩]
          rw [e3] at he
          exact hqn (by rw [← he]; exact (hal a b g1 g5).1)
      · have e3 : a_nal al a (M.2.2.2.1 a) q a (M.2.2.2.1 a) = q := by unfold a_nal; rw [if_pos ⟨rfl, rfl⟩]
        rw [e3] at he
        rcases hnew a' b' g4 with g6 | ⟨rfl, rfl⟩
        · exfalso
          rw [hx a' b' (Or.inr g6)] at he
          exact hqn (by rw [he]; exact (hal a' b' g3 g6).1)
        · exact ⟨rfl, rfl⟩
  have hMW : a_MW G.2.2.2.2.1 G.2.2.2.2.2.2.1 G.2.2.2.2.2.2.2.2.2 (a_mk M si n) := by
    obtain ⟨w1, ⟨w2, w3⟩, w4, w5⟩ := J.2.1
    refine ⟨fun s' q' i g4 gq => ?_, ⟨?_, fun j hj => ?_⟩, fun i hi => ?_, ?_⟩
    · rcases hnew s' q' gq with gq | ⟨rfl, rfl⟩
      · show a_okv (a_mk M si n) (.inr (.inr (a_clr none M.2.1 si (M.2.2.2.1 si) s' q' i)))
        rw [a_clr_ne (hold s' q' gq)]
        exact a_okv_mk (w1 s' q' i g4 gq)
      · show a_okv (a_mk M s' n) (.inr (.inr (a_clr none M.2.1 s' (M.2.2.2.1 s') s' (M.2.2.2.1 s') i)))
        rw [a_clr_at]
        trivial
    · show a_inc M.2.2.2.1 si 0 = _
      rw [a_inc_ne (by omega)]
      exact w2
    · show a_clr 0 M.1 si (M.2.2.2.1 si) 0 0 j = _
      rw [a_clr_ne (hlow 0 0 (by decide))]
      exact w3 j hj
    · obtain ⟨u1, u2, u3⟩ := w4 i hi
      refine ⟨?_, ?_, fun j hj => ?_⟩
      · show a_clr none M.2.1 si (M.2.2.2.1 si) 1 i 0 = _
        rw [a_clr_ne (hlow 1 i (by decide))]
        exact u1
      · show a_clr 0 M.1 si (M.2.2.2.1 si) 1 i 1 = _
        rw [a_clr_ne (hlow 1 i (by decide))]
        exact u2
      · show a_clr 0 M.1 si (M.2.2.2.1 si) 2 i j = _
        rw [a_clr_ne (hlow 2 i (by decide))]
        exact u3 j hj
    · show a_clr none M.2.1 si (M.2.2.2.1 si) 3 0 0 = _
      rw [a_clr_ne (hlow 3 0 (by decide))]
      exact w5
  have hAL : a_AL G.2.2.2.1 G.2.2.2.2.2.1 G.2.2.2.2.2.2.2.1 G.2.2.2.2.2.2.2.2.1 (a_nal al si (M.2.2.2.1 si) q) := by
    obtain ⟨w1, w2, w3⟩ := J.2.2.1
    exact ⟨by rw [hx 0 0 (Or.inl (by decide))]; exact w1, fun i hi => ⟨by rw [hx 1 i (Or.inl (by decide))]; exact (w2 i hi).1, by rw [hx 2 i (Or.inl (by decide))]; exact (w2 i hi).2⟩, by rw [hx 3 0 (Or.inl (by decide))]; exact w3⟩
  have hLR : a_LR (a_ml f) (a_nal al si (M.2.2.2.1 si) q) (a_mk M si n) lsA ls := by
    obtain ⟨w1, w2, w3, w4⟩ := J.2.2.2.2.1
    exact ⟨w1, w2, w3, fun i v hv => ⟨by rw [cv_ext hx (w4 i v hv).2.1]; exact (w4 i v hv).1, a_okv_mk (w4 i v hv).2.1, (w4 i v hv).2.2⟩⟩
  refine ⟨⟨hHR, hMW, hAL, hS1, hLR, ok_c (Or.inr ⟨h4, ?_⟩) (fun v hv => a_okv_mk (hr v hv)), ?_, ?_⟩, hx, ?_⟩
  · show M.2.2.2.1 si < a_inc M.2.2.2.1 si si
    rw [a_inc_at]
    omega
  · show c0 ≤ M.2.2.2.2.1 + 1
    have : c0 ≤ M.2.2.2.2.1 := J.2.2.2.2.2.2.1
    omega
  · show k0 ≤ M.2.2.2.2.2 + n
    have : k0 ≤ M.2.2.2.2.2 := J.2.2.2.2.2.2.2
    omega
  · exact List.map_congr_left (fun v hv => cv_ext hx (hr v hv))
end
/-- what the tables say of the places where cells are made -/
def a_aty (k : Nat) : FieldType := match k with
  | 1 => .int
  | 2 => .byte
  | 3 => .boolean
  | _ => .long
def a_tS : Prop := ∀ e ∈ a_sitel, 4 ≤ e.2 ∧ e.2 < 33 ∧
  (((a_sk e.2).1 = 0 ∧ ∃ k, decode (a_c (e.1 % 512)) (e.1 / 512) = .ok (.new k, 3) ∧ Cond.classLink (a_Rn (a_own (e.1 % 512))) k (a_Rn (a_sk e.2).2.1) ∈ lw_gd ∧ Cond.instantiable (a_Rn (a_sk e.2).2.1) (a_sk e.2).2.2 ∈ lw_gd ∧ Cond.initialized (a_Rn (a_sk e.2).2.1) ∈ lw_gd) ∨
  ((1 ≤ (a_sk e.2).1 ∧ (a_sk e.2).1 ≤ 4) ∧ ∃ t, decode (a_c (e.1 % 512)) (e.1 / 512) = .ok (.newarray t, 2) ∧ newarray.typeOf t = a_aty (a_sk e.2).1 ∧ Cond.arrayClass (a_aty (a_sk e.2).1) ∈ lw_gd) ∨
  ((a_sk e.2).1 = 5 ∧ ∃ k, decode (a_c (e.1 % 512)) (e.1 / 512) = .ok (.anewarray k, 3) ∧ Cond.classLink (a_Rn (a_own (e.1 % 512))) k (a_Rn (a_sk e.2).2.1) ∈ lw_gd))
theorem a_len_ok : ∀ s, s < 33 → ¬ Int32.ofNat (a_sk s).2.2 < 0 ∧ (Int32.ofNat (a_sk s).2.2).toNatClampNeg = (a_sk s).2.2 ∧ (a_sk s).2.2 * 8 ≤ 536870912 := by decide +kernel
