/-! ===== the law's walk out of the law's run ===== -/
def a_I0 (xs : Nat → Int32) : aI := fun s q k => match s with
  | 0 => xs k
  | 2 => ((a_sbl []).getD q []).getD k 0
  | _ => 0
def a_cn0 (L : Nat) : Nat → Nat := fun s => bif Nat.beq s 0 then L else 0
/-- the memory at the law's start -/
def a_M0 (L : Nat) (xs : Nat → Int32) (z : Option aN) : aM := MM (a_I0 xs) (none, none, none, none, z) (fun _ _ _ => 0, a_cn0 L, 0, 0)
def a_s0 (L : Nat) (xs : Nat → Int32) (z : Option aN) : aS := (0, [some (.inr (.inr (some (0, 0)))), none, none, none, none, none, none], [], a_M0 L xs z)
def a_al0 (b fm : Nat) (adK adV : Nat → Nat) : Nat → Nat → Nat := fun s q => match s with
  | 0 => b
  | 1 => adK q
  | 2 => adV q
  | _ => fm
set_option maxHeartbeats 2000000 in
theorem a_link {p : Program} {e : Env} {s : State} {m : MethodId} {below : List Frame} {meth : Method} {c : Code} (l : Launch) (hflags : l.flags = flags0) {b L : Nat} {xs : Nat → Int32} (C0 : lw_At p s m meth c b L xs)
    (hrun : ∀ z, ∃ M' : aM, rn 354 (a_s0 L xs z) = some (.inl (some (.inl 1)), M') ∧ M'.2.2.2.2.1 ≤ room_1.cells ∧ M'.2.2.2.2.2 ≤ room_1.slots) : W p l e room_1 s m #[Value.ref b] below meth c s.heap [] 0 0 (lw_Z below #[Value.ref b] s) (entryFrame m ([Value.ref b] : List Value).toArray 7) := by
  obtain ⟨G, z, g1, g2, g3, g4, g5, hG, hW0, tA⟩ := a_begin l hflags C0
  obtain ⟨hx, hb, hr, hml, hown, ht, hX, hbl, hlocks, hgv, hname, htab⟩ := C0
  subst g1; subst g2; subst g3; subst g4
  obtain ⟨M', hM', hc1, hc2⟩ := hrun (a_fz (a_sbl z))
  obtain ⟨n, hn⟩ := rn_ex hM'
  have hB : a_B 354 p G.1 m #[Value.ref G.2.2.2.1] meth c room_1 G := by
    refine ⟨hx, hb, hml, hr, hlocks, hown, fun w hw => ht w (List.mem_filter.mp hw).1, hname, by rw [htab]; rfl, by decide +kernel, by decide +kernel, State.WarmedH.refl _, fun _ _ => rfl, Nat.le_refl _⟩
  have hl := lv_entry ([.ref G.2.2.2.1]) (n := 7) (Nat.le_of_ble_eq_true rfl)
  rw [lg_entry_eq]
  generalize (lg_sl ([.ref G.2.2.2.1]) ++ List.replicate (7 - (lg_sl ([.ref G.2.2.2.1])).length) Slot.unset).toArray = lsA at hl ⊢
  have hl : lv_has lsA 7 [(0, .ref G.2.2.2.1)] := hl
  have J : a_J 354 G.1 G 0 0 (a_al0 G.2.2.2.1 G.2.2.2.2.2.1 G.2.2.2.2.2.2.2.1 G.2.2.2.2.2.2.2.2.1) G.1.heap [] lsA (a_s0 G.2.2.2.2.1 G.2.2.2.2.2.2.1 (a_fz (a_sbl z))) := by
    refine ⟨⟨[], fun _ => .inr (0, []), fun k q h => by simp [va_pl] at h, ⟨fun i j p q h => by simp [va_pl] at h, fun k q h => by simp [va_pl] at h⟩, fun s q h4 hq => ?_, fun s q s' q' h4 hq => ?_⟩, ⟨fun s q k h4 hq => ?_, ⟨rfl, fun j hj => rfl⟩, fun i hi => ⟨rfl, rfl, fun j hj => ?_⟩, ?_⟩, ⟨rfl, fun i hi => ⟨rfl, rfl⟩, rfl⟩, va_S.rf, ⟨hl.1, hl.2.1, rfl, fun i v hv => ?_⟩, fun v hv => (by cases hv), Nat.le_refl _, Nat.le_refl _⟩
    · exfalso
      have hq : q < a_cn0 G.2.2.2.2.1 s := hq
      unfold a_cn0 at hq
      rw [show Nat.beq s 0 = false from Bool.eq_false_iff.mpr (fun z => by have := a_beq z; omega)] at hq
      exact absurd hq (Nat.not_lt_zero _)
    · exfalso
      have hq : q < a_cn0 G.2.2.2.2.1 s := hq
      unfold a_cn0 at hq
      rw [show Nat.beq s 0 = false from Bool.eq_false_iff.mpr (fun z => by have := a_beq z; omega)] at hq
      exact absurd hq (Nat.not_lt_zero _)
    · exfalso
      have hq : q < a_cn0 G.2.2.2.2.1 s := hq
      unfold a_cn0 at hq
      rw [show Nat.beq s 0 = false from Bool.eq_false_iff.mpr (fun z => by have := a_beq z; omega)] at hq
      exact absurd hq (Nat.not_lt_zero _)
    · rw [g5]
      show ((a_sbl []).getD i []).getD j 0 = ((a_sbl z).getD i []).getD j 0
      match i, hi with
      | 0, _ => rfl
      | 1, _ => rfl
      | 2, _ => rfl
      | 3, _ => rfl
      | 4, _ => rfl
      | 5, _ => rfl
      | 6, _ => rfl
      | 7, _ => rfl
      | 8, _ => rfl
      | 9, _ => rfl
    · rw [g5]
      rfl
    · match i, hv with
      | 0, hv =>
        have hv : some (.inr (.inr (some (0, 0)))) = some v := hv
        cases hv
        exact ⟨hl.2.2 (0, .ref G.2.2.2.1) List.mem_cons_self, Or.inl ⟨by decide, rfl⟩, rfl⟩
      | 1, hv => cases hv
      | 2, hv => cases hv
      | 3, hv => cases hv
      | 4, hv => cases hv
      | 5, hv => cases hv
      | 6, hv => cases hv
      | n + 7, hv => cases hv
  have hT := a_sound hG hW0 tA n 354 (by decide) _ _ hn p e room_1 G.1 m #[Value.ref G.2.2.2.1] below meth c _ (a_M0 G.2.2.2.2.1 G.2.2.2.2.2.2.1 (a_fz (a_sbl z))) _ G.1.heap [] lsA hB ⟨hc1, hc2⟩ a_ext.refl (fun _ => Nat.le_refl _) J
  intro T hT0 X
  obtain ⟨t, a1, o, b1, b2, b3⟩ := hT T hT0 X
  refine ⟨t, a1, o, b1, b2, ?_⟩
  rcases b3 with ⟨⟨al', rv, q1, q2, -⟩, L', ⟨f1, f2, f3⟩, hfr⟩ | ⟨q, -, E, ce, L', ⟨al', ex, q1, -⟩, -⟩
  · have q1 : (Sum.inl (some (.inl 1)) : Option aV ⊕ Nat) = .inl rv := q1
    cases q1
    have q2 : o = .returned (some (.int 1)) := q2
    refine ⟨q2, f1, f2, f3.weaken (fun y hy hlt => absurd hlt (Nat.not_lt.mpr (hfr y hy))) hc1 hc2⟩
  · have q1 : (Sum.inl (some (.inl 1)) : Option aV ⊕ Nat) = .inr ex := q1
    cases q1
