/-! ===== rows of instructions: new arrays; Object's constructor; arraycopy ===== -/
theorem a_RA_eq {s : State} {cA cB : ClassId} {ty : FieldType} (h1 : va_RA s cA ty) (h2 : va_RA s cB ty) : cA = cB := by
  cases ty with
  | object C =>
    obtain ⟨_, _, _, _, _, h4⟩ := h1
    obtain ⟨_, _, _, _, _, h5⟩ := h2
    exact Option.some.inj (h4.symm.trans h5)
  | _ => exact Option.some.inj (h1.symm.trans h2)
section
variable {p : Program} {l : Launch} {e : Env} {R : Room} {s : State} {m : MethodId} {args : Array Value} {below : List Frame} {meth : Method} {c : Code} {Q : State → Prop}
variable {G : aG} {f c0 k0 : Nat} {kd : aO → Prop} {kc : Nat → List aV → aS → Prop}
variable {al : Nat → Nat → Nat} {H : Heap} {locs : List Loc} {lsA : Array Slot} {pc : Nat} {ls : List (Option aV)} {st : List aV} {M : aM}
set_option maxHeartbeats 1000000 in
theorem sx_newarray (hG : a_G l G) (tS : a_tS) (hf : f < 355) {t : ArrayType} (hB : a_B f p s m args meth c R G) (hd : decode (a_c f) pc = .ok (.newarray t, 2)) (J : a_J f s G c0 k0 al H locs lsA (pc, ls, st, M)) (h : a_Th kd (a_K f p l e R s m args below meth c G c0 k0 Q al M) kc (a_ex f pc 2 ls st M (.newarray t))) : a_T p l e R s m args below meth c c0 k0 Q al H locs lsA (pc, ls, st, M) := by
  have hkey : (f + 512 * pc) % 512 = f ∧ (f + 512 * pc) / 512 = pc := by omega
  simp only [a_ex] at h
  split at h
  · next n r si hsi =>
    obtain ⟨hn, hR, hK⟩ := h
    have hn : n = Int32.ofNat (a_sk si).2.2 := of_decide_eq_true hn
    have hR : M.2.2.2.2.1 + 1 - c0 ≤ R.cells ∧ M.2.2.2.2.2 + (a_sk si).2.2 - k0 ≤ R.slots := hR
    have hc0 : c0 ≤ M.2.2.2.2.1 := J.2.2.2.2.2.2.1
    have hk0 : k0 ≤ M.2.2.2.2.2 := J.2.2.2.2.2.2.2
    obtain ⟨h4, h33, hs⟩ := tS _ (a_find_mem hsi)
    simp only [hkey.1, hkey.2] at hs
    obtain ⟨l1, l2, l3⟩ := a_len_ok si h33
    subst hn
    rcases hs with ⟨hs0, k', hd', -⟩ | ⟨⟨hs1, hs2⟩, t', hd', hty, hw⟩ | ⟨hs0, k', hd', -⟩
    · rw [hd] at hd'; cases hd'
    · rw [hd] at hd'
      have htt : t = t' := by injection hd' with h1; injection h1 with h1 h2; injection h1
      subst htt
      obtain ⟨LP, fE, hP, hD, hal, hin⟩ := J.1
      have fin : ∀ (t0 : Nat) (a0 : vp_A), (a_tys G.2.2.1)[t0]? = some (G.2.2.1 (a_sk si).1, a_aty (a_sk si).1) → (∀ cA : ClassId, vp_cell cA a0 = arrV cA (a_sk si).2.2 (fun _ => defaultValue (a_aty (a_sk si).1))) → (a_sk si).2.2 * componentBytes (a_aty (a_sk si).1) ≤ 536870912 →
          (∀ q, (Sum.inl (G.2.2.1 (a_sk si).1, a0) : va_E) = a_ce G.2.2.1 (a_nal al si (M.2.2.2.1 si) q) (a_mk M si (a_sk si).2.2) si (M.2.2.2.1 si)) → a_T p l e R s m args below meth c c0 k0 Q al H locs lsA (pc, ls, .inl (Int32.ofNat (a_sk si).2.2) :: r, M) := by
        intro t0 a0 ht0 ha0 hb0 hE0
        refine va_newa (a0 := a0) (ty := a_aty (a_sk si).1) hB.1 hB.2.1 (by rw [hty]; exact hB.tbl _ hw) hty (hB.K hG) hP hD J.2.2.2.1 hB.hA ha0 l1 l2 hb0 (by show M.2.2.2.2.1 - c0 + 1 ≤ _; omega) (by show M.2.2.2.2.2 - k0 + _ ≤ _; omega) hd (fun q cA H1 hK1 hP1 hD1 hS1 => ?_)
        have hcA : cA = G.2.2.1 (a_sk si).1 := by
          refine a_RA_eq (hK1.2 8 (cA, a_aty (a_sk si).1) rfl).2 ?_
          exact ((hB.K hG).2 t0 _ ht0).2
        subst hcA
        obtain ⟨J1, hx, hm⟩ := a_born (pc' := pc + 2) (n := (a_sk si).2.2) J h4 hal hin hP1 hD1 hS1 (hE0 q) (ok_t J.2.2.2.2.2.1)
        have hT := hK _ _ _ _ J1 hx
        have hT : W p l e R s m args below meth c H1 locs (M.2.2.2.2.1 + 1 - c0) (M.2.2.2.2.2 + (a_sk si).2.2 - k0) _ (F0 m (pc + 2) lsA (.ref (a_nal al si (M.2.2.2.1 si) q si (M.2.2.2.1 si)) :: r.map (cv (a_nal al si (M.2.2.2.1 si) q)))) := hT
        rw [hm, show a_nal al si (M.2.2.2.1 si) q si (M.2.2.2.1 si) = q from if_pos ⟨rfl, rfl⟩, show M.2.2.2.2.1 + 1 - c0 = M.2.2.2.2.1 - c0 + 1 by omega, show M.2.2.2.2.2 + (a_sk si).2.2 - k0 = M.2.2.2.2.2 - k0 + (a_sk si).2.2 by omega] at hT
        exact hT
      rcases (show (a_sk si).1 = 1 ∨ (a_sk si).1 = 2 ∨ (a_sk si).1 = 3 ∨ (a_sk si).1 = 4 by omega) with hs | hs | hs | hs
      · refine fin 0 ((a_sk si).2.2, .inl (fun _ => 0)) (by rw [hs]; rfl) (fun cA => by rw [hs]; rfl) (by rw [hs]; show _ * 4 ≤ _; omega) (fun q => ?_)
        rw [a_ce1 hs, hs]
        congr 3
        exact congrArg Sum.inl (funext fun j => (a_clr_at j).symm)
      · refine fin 1 ((a_sk si).2.2, .inl (fun _ => 0)) (by rw [hs]; rfl) (fun cA => by rw [hs]; rfl) (by rw [hs]; show _ * 1 ≤ _; omega) (fun q => ?_)
        rw [a_ce2 hs, hs]
        congr 3
        exact congrArg Sum.inl (funext fun j => (a_clr_at j).symm)
      · refine fin 2 ((a_sk si).2.2, .inl (fun _ => 0)) (by rw [hs]; rfl) (fun cA => by rw [hs]; rfl) (by rw [hs]; show _ * 1 ≤ _; omega) (fun q => ?_)
        rw [a_ce3 hs, hs]
        congr 3
        exact congrArg Sum.inl (funext fun j => (a_clr_at j).symm)
      · refine fin 3 ((a_sk si).2.2, .inr (.inl (fun _ => 0))) (by rw [hs]; rfl) (fun cA => by rw [hs]; rfl) (by rw [hs]; show _ * 8 ≤ _; omega) (fun q => ?_)
        rw [a_ce4 hs, hs]
        congr 4
        exact congrArg Sum.inl (funext fun j => (a_clr_at j).symm)
    · rw [hd] at hd'; cases hd'
  · exact a_stk_no h
set_option maxHeartbeats 1000000 in
theorem sx_anewarray (hG : a_G l G) (tS : a_tS) (tAO : a_tAO G) (tCls : a_tCls) (hf : f < 355) {k : Nat} (hB : a_B f p s m args meth c R G) (hd : decode (a_c f) pc = .ok (.anewarray k, 3)) (J : a_J f s G c0 k0 al H locs lsA (pc, ls, st, M)) (h : a_Th kd (a_K f p l e R s m args below meth c G c0 k0 Q al M) kc (a_ex f pc 3 ls st M (.anewarray k))) : a_T p l e R s m args below meth c c0 k0 Q al H locs lsA (pc, ls, st, M) := by
  have hkey : (f + 512 * pc) % 512 = f ∧ (f + 512 * pc) / 512 = pc := by omega
  simp only [a_ex] at h
  split at h
  · next n r si hsi =>
    obtain ⟨hn, hR, hK⟩ := h
    have hn : n = Int32.ofNat (a_sk si).2.2 := of_decide_eq_true hn
    have hR : M.2.2.2.2.1 + 1 - c0 ≤ R.cells ∧ M.2.2.2.2.2 + (a_sk si).2.2 - k0 ≤ R.slots := hR
    have hc0 : c0 ≤ M.2.2.2.2.1 := J.2.2.2.2.2.2.1
    have hk0 : k0 ≤ M.2.2.2.2.2 := J.2.2.2.2.2.2.2
    obtain ⟨h4, h33, hs⟩ := tS _ (a_find_mem hsi)
    simp only [hkey.1, hkey.2] at hs
    obtain ⟨l1, l2, l3⟩ := a_len_ok si h33
    subst hn
    rcases hs with ⟨hs0, k', hd', -⟩ | ⟨-, t', hd', -⟩ | ⟨hs0, k', hd', hw⟩
    · rw [hd] at hd'; cases hd'
    · rw [hd] at hd'; cases hd'
    · rw [hd] at hd'
      have hkk : k = k' := by injection hd' with h1; injection h1 with h1 h2; injection h1
      subst hkk
      obtain ⟨LP, fE, hP, hD, hal, hin⟩ := J.1
      obtain ⟨t0, C, T, N, ht0, hcl⟩ := a_t5 hs0 G.2.2.1
      obtain ⟨hC, -⟩ := tCls _ C T _ hcl
      have hAO := tAO si h33 hs0
      rw [← hC] at hw hAO
      refine va_newq hB.1 hB.2.1 hB.own (hB.tbl _ hw) (hAO.moved hB.warm.alike) (hB.K hG) hP hD J.2.2.2.1 hB.hA l1 l2 (by omega) (by show M.2.2.2.2.1 - c0 + 1 ≤ _; omega) (by show M.2.2.2.2.2 - k0 + _ ≤ _; omega) hd (fun q cA H1 hK1 hP1 hD1 hS1 => ?_)
      have hcA : cA = G.2.2.1 (10 + (a_sk si).2.1) := by
        refine a_RA_eq (hK1.2 8 (cA, .object C) rfl).2 ?_
        exact ((hB.K hG).2 t0 _ ht0).2
      subst hcA
      have hE : (Sum.inl (G.2.2.1 (10 + (a_sk si).2.1), (a_sk si).2.2, .inr (.inr (.inr (.inr (fun _ => none))))) : va_E) = a_ce G.2.2.1 (a_nal al si (M.2.2.2.1 si) q) (a_mk M si (a_sk si).2.2) si (M.2.2.2.1 si) := by
        rw [a_ce5 hs0]
        congr 7
        funext j
        show none = (a_clr none M.2.1 si (M.2.2.2.1 si) si (M.2.2.2.1 si) j).map _
        rw [a_clr_at]
        rfl
      obtain ⟨J1, hx, hm⟩ := a_born (pc' := pc + 3) (n := (a_sk si).2.2) J h4 hal hin hP1 hD1 hS1 hE (ok_t J.2.2.2.2.2.1)
      have hT := hK _ _ _ _ J1 hx
      have hT : W p l e R s m args below meth c H1 locs (M.2.2.2.2.1 + 1 - c0) (M.2.2.2.2.2 + (a_sk si).2.2 - k0) _ (F0 m (pc + 3) lsA (.ref (a_nal al si (M.2.2.2.1 si) q si (M.2.2.2.1 si)) :: r.map (cv (a_nal al si (M.2.2.2.1 si) q)))) := hT
      rw [hm, show a_nal al si (M.2.2.2.1 si) q si (M.2.2.2.1 si) = q from if_pos ⟨rfl, rfl⟩, show M.2.2.2.2.1 + 1 - c0 = M.2.2.2.2.1 - c0 + 1 by omega, show M.2.2.2.2.2 + (a_sk si).2.2 - k0 = M.2.2.2.2.2 - k0 + (a_sk si).2.2 by omega] at hT
      exact hT
  · exact a_stk_no h
end
