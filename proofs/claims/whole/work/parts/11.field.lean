theorem a_rs {N j : Nat} {g g' : Nat → Value} {V : Value} (hj : g' j = V) (hne : ∀ k, k ≠ j → g' k = g k) : ((List.range N).map g).set j V = (List.range N).map g' := by
  apply List.ext_getElem?
  intro i
  by_cases hi : i = j
  · subst hi
    by_cases hl : i < N
    · rw [List.getElem?_set_self (by simpa using hl), List.getElem?_map, List.getElem?_range hl]
      show some V = some (g' i)
      rw [hj]
    · rw [List.getElem?_eq_none (by simpa using hl), List.getElem?_eq_none (by simpa using hl)]
  · rw [List.getElem?_set_ne (Ne.symm hi), List.getElem?_map, List.getElem?_map]
    by_cases hl : i < N
    · rw [List.getElem?_range hl]
      show some (g i) = some (g' i)
      rw [hne i hi]
    · rw [List.getElem?_eq_none (by simpa using hl)]
      rfl
theorem a_rg {N j : Nat} {g : Nat → Value} (hj : j < N) : ((List.range N).map g)[j]? = some (g j) := by
  rw [List.getElem?_map, List.getElem?_range hj]
  rfl
theorem a_kc_of {n : aN} (h : n.1 < 4) (hk : a_kc n = true) : n = (0, 0) ∨ (∃ i, i < 10 ∧ n = (1, i)) ∨ (∃ i, i < 10 ∧ n = (2, i)) ∨ n = (3, 0) := by
  obtain ⟨a, b⟩ := n
  match a, h, hk with
  | 0, _, hk => left; rw [a_beq (show Nat.beq b 0 = true from hk)]
  | 1, _, hk => right; left; exact ⟨b, Nat.blt_eq.mp (show Nat.blt b 10 = true from hk), rfl⟩
  | 2, _, hk => right; right; left; exact ⟨b, Nat.blt_eq.mp (show Nat.blt b 10 = true from hk), rfl⟩
  | 3, _, hk => right; right; right; rw [a_beq (show Nat.beq b 0 = true from hk)]
theorem a_bz_or {x : Int32} (h : a_bz x = true) : x = 0 ∨ x = 1 := by
  unfold a_bz at h
  simpa using h
section
variable {p : Program} {l : Launch} {e : Env} {R : Room} {s : State} {m : MethodId} {args : Array Value} {below : List Frame} {meth : Method} {c : Code} {Q : State → Prop}
variable {G : aG} {f c0 k0 : Nat} {kd : aO → Prop} {kc : Nat → List aV → aS → Prop}
variable {al : Nat → Nat → Nat} {H : Heap} {locs : List Loc} {lsA : Array Slot} {pc : Nat} {ls : List (Option aV)} {st : List aV} {M : aM}
set_option maxHeartbeats 1000000 in
theorem sx_getfield (hG : a_G l G) (tCls : a_tCls) (tF : a_tF) {k : Nat} (hB : a_B f p s m args meth c R G) (hd : decode (a_c f) pc = .ok (.getfield k, 3)) (J : a_J f s G c0 k0 al H locs lsA (pc, ls, st, M)) (h : a_Th kd (a_K f p l e R s m args below meth c G c0 k0 Q al M) kc (a_ex f pc 3 ls st M (.getfield k))) : a_T p l e R s m args below meth c c0 k0 Q al H locs lsA (pc, ls, st, M) := by
  simp only [a_ex] at h
  split at h
  · next n r =>
    have hok : a_okn M n := ok_h J.2.2.2.2.2.1
    have key : ∀ (j kk : Nat), a_fld (a_own f) k n.1 = some (j, kk) → (a_K f p l e R s m args below meth c G c0 k0 Q al M (pc + 3, ls, (bif Nat.beq kk 2 then .inr (.inr (M.2.1 n.1 n.2 j)) else .inl (M.1 n.1 n.2 j)) :: r, M)) → a_T p l e R s m args below meth c c0 k0 Q al H locs lsA (pc, ls, .inr (.inr (some n)) :: r, M) := by
      intro j kk hfld hK
      obtain ⟨ci, hc1, hs0, hci, hfr⟩ := a_fld_eq hfld
      obtain ⟨q1, q2⟩ := a_key (i := k) (a_own_lt f)
      have tf := tF _ (a_find_mem hc1)
      simp only [q1, q2] at tf
      rcases hok with ⟨h4, hkc⟩ | ⟨h4, hq⟩
      · rcases a_kc_of h4 hkc with rfl | ⟨i, hi, rfl⟩ | ⟨i, hi, rfl⟩ | rfl
        · cases hs0
        · have hci : 10 = ci := hci
          subst hci
          have hAl := J.2.2.1.2.1 i hi
          have hM := J.2.1.2.2.1 i hi
          have hSt := hG.2.2.2.2.1.1 i hi
          rcases tf with ⟨C, T, N, hx, -⟩ | ⟨hx, hw⟩ | ⟨hx, hw⟩
          · cases hx
          · have hj : j = 0 := congrArg Prod.snd hx
            subst hj
            have hkk : kk = 2 := hfr.symm
            subst hkk
            have hT := hK.2 al H locs lsA (J.st (ok_c (v := .inr (.inr (M.2.1 1 i 0))) (by rw [hM.1]; exact Or.inl ⟨by show 2 < 4; decide, Nat.blt_eq.mpr hi⟩) (ok_t J.2.2.2.2.2.1))) a_ext.refl
            have hT : W p l e R s m args below meth c H locs _ _ Q (F0 m (pc + 3) lsA (cv al (.inr (.inr (M.2.1 1 i 0))) :: r.map (cv al))) := hT
            rw [hM.1] at hT
            have hT : W p l e R s m args below meth c H locs _ _ Q (F0 m (pc + 3) lsA (.ref (al 2 i) :: r.map (cv al))) := hT
            rw [hAl.2] at hT
            show W p l e R s m args below meth c H locs _ _ Q (F0 m pc lsA (.ref (al 1 i) :: r.map (cv al)))
            rw [hAl.1]
            exact vk_getf hB.1 hB.2.1 (va_OF.kept (va_OF.moved hB.warm.alike hSt.2.2.1) hB.low) J.2.2.2.1 hB.own (hB.tbl _ hw) (fun _ h => h) hd hT
          · have hj : j = 1 := congrArg Prod.snd hx
            subst hj
            have hkk : kk = 0 := hfr.symm
            subst hkk
            have hT := hK.2 al H locs lsA (J.st (ok_c (v := .inl (M.1 1 i 1)) trivial (ok_t J.2.2.2.2.2.1))) a_ext.refl
            have hT : W p l e R s m args below meth c H locs _ _ Q (F0 m (pc + 3) lsA (.int (M.1 1 i 1) :: r.map (cv al))) := hT
            rw [hM.2.1] at hT
            show W p l e R s m args below meth c H locs _ _ Q (F0 m pc lsA (.ref (al 1 i) :: r.map (cv al)))
            rw [hAl.1]
            exact vk_getf hB.1 hB.2.1 (va_OF.kept (va_OF.moved hB.warm.alike hSt.2.1) hB.low) J.2.2.2.1 hB.own (hB.tbl _ hw) (fun _ h => h) hd hT
        · cases hs0
        · cases hs0
      · obtain ⟨LP, fE, hP, hD, hal, hin⟩ := J.1
        obtain ⟨q0, hq0⟩ := a_HR.at (D := G.2.1) (s0 := G.1) hal h4 hq
        rw [a_ce_obj hs0] at hq0
        obtain ⟨C, T, hcl⟩ := a_sk_obj hs0 h4
        rw [hci] at hcl hq0
        rcases tf with ⟨C', T', N', hx, hjN, hw⟩ | ⟨hx, hw⟩ | ⟨hx, hw⟩
        · have hx : a_cls[ci]? = some (C', T', N') := hx
          rw [hcl] at hx
          cases hx
          obtain ⟨-, hws, -⟩ := tCls ci C T _ hcl
          refine va_get hB.1 hB.2.1 hB.tbl hws hB.own (hB.K hG) hP q0 hq0 hcl j hjN (hB.tbl _ hw) (fun _ h => h) (a_rg hjN) hd ?_
          rw [hfr]
          cases hk2 : Nat.beq kk 2 with
          | true =>
            rw [hk2] at hK
            exact hK.2 al H locs lsA (J.st (ok_c (v := .inr (.inr (M.2.1 n.1 n.2 j))) (J.2.1.1 n.1 n.2 j h4 hq) (ok_t J.2.2.2.2.2.1))) a_ext.refl
          | false =>
            rw [hk2] at hK
            exact hK.2 al H locs lsA (J.st (ok_c (v := .inl (M.1 n.1 n.2 j)) trivial (ok_t J.2.2.2.2.2.1))) a_ext.refl
        · have hx : ci = 10 := congrArg Prod.fst hx
          rw [hx] at hcl
          cases hcl
        · have hx : ci = 10 := congrArg Prod.fst hx
          rw [hx] at hcl
          cases hcl
    split at h
    · next j hf => exact key j 2 hf h.2
    · next j kk hne hf =>
      refine key j kk hf ?_
      have : Nat.beq kk 2 = false := Bool.eq_false_iff.mpr (fun z => hne (a_beq z))
      rw [this]
      exact h.2
    · exact a_stk_no h
  · exact a_stk_no h
set_option maxHeartbeats 1000000 in
theorem sx_putfield (hG : a_G l G) (tCls : a_tCls) (tF : a_tF) (tI : a_tI) {k : Nat} (hB : a_B f p s m args meth c R G) (hd : decode (a_c f) pc = .ok (.putfield k, 3)) (J : a_J f s G c0 k0 al H locs lsA (pc, ls, st, M)) (h : a_Th kd (a_K f p l e R s m args below meth c G c0 k0 Q al M) kc (a_ex f pc 3 ls st M (.putfield k))) : a_T p l e R s m args below meth c c0 k0 Q al H locs lsA (pc, ls, st, M) := by
  have key : ∀ (j kk : Nat) (n : aN) (v : aV) (r : List aV) (M' : aM), st = v :: .inr (.inr (some n)) :: r → a_fld (a_own f) k n.1 = some (j, kk) → 4 ≤ n.1 → M'.2.2.2 = M.2.2.2 → (∀ s' q', ¬ (s' = n.1 ∧ q' = n.2) → (∀ k, M'.1 s' q' k = M.1 s' q' k) ∧ (∀ k, M'.2.1 s' q' k = M.2.1 s' q' k) ∧ (∀ k, M'.2.2.1 s' q' k = M.2.2.1 s' q' k)) →
      (∀ i, i ≠ j → M'.1 n.1 n.2 i = M.1 n.1 n.2 i ∧ M'.2.1 n.1 n.2 i = M.2.1 n.1 n.2 i) → (bif Nat.beq kk 2 then cv al (.inr (.inr (M'.2.1 n.1 n.2 j))) else .int (M'.1 n.1 n.2 j)) = cv al v → a_okv M (.inr (.inr (M'.2.1 n.1 n.2 j))) → (kk = 0 ∧ (∃ x, v = .inl x)) ∨ (kk = 1 ∧ (∃ x, v = .inl x ∧ a_bz x = true)) ∨ (kk = 2 ∧ (∃ x, v = .inr (.inr x))) → a_fin f n.1 j = true ∨ kk ≠ 2 →
      a_K f p l e R s m args below meth c G c0 k0 Q al M (pc + 3, ls, r, M') → a_T p l e R s m args below meth c c0 k0 Q al H locs lsA (pc, ls, st, M) := by
    intro j kk n v r M' est hfld h4 hc hsm hsj hval hokn hty hfi hK
    subst est
    obtain ⟨ci, hc1, hs0, hci, hfr⟩ := a_fld_eq hfld
    obtain ⟨q1, q2⟩ := a_key (i := k) (a_own_lt f)
    have tf := tF _ (a_find_mem hc1)
    simp only [q1, q2] at tf
    have hok : a_okn M n := ok_h (ok_t J.2.2.2.2.2.1)
    have hq : n.2 < M.2.2.2.1 n.1 := by
      rcases hok with ⟨h5, -⟩ | ⟨-, h5⟩
      · omega
      · exact h5
    obtain ⟨LP, fE, hP, hD, hal, hin⟩ := J.1
    obtain ⟨q0, hq0⟩ := a_HR.at (D := G.2.1) (s0 := G.1) hal h4 hq
    have hq0' := hq0
    rw [a_ce_obj hs0] at hq0
    obtain ⟨C, T, hcl⟩ := a_sk_obj hs0 h4
    rw [hci] at hcl hq0
    rcases tf with ⟨C', T', N', hx, hjN, hw⟩ | ⟨hx, hw⟩ | ⟨hx, hw⟩
    · have hx : a_cls[ci]? = some (C', T', N') := hx
      rw [hcl] at hx
      cases hx
      have hjN : j < (a_sk n.1).2.2 := hjN
      obtain ⟨hC, hws, ⟨ty0, ht0, htk⟩, hnm, hdf⟩ := tCls ci C T _ hcl
      obtain ⟨hdc, hfin⟩ := hdf j hjN
      have hcnt : M'.2.2.2.1 = M.2.2.2.1 := by rw [hc]
      have hce : a_ce G.2.2.1 al M' n.1 n.2 = .inr (ci, ((List.range (a_sk n.1).2.2).map (fun k => bif Nat.beq (a_fr ci k) 2 then cv al (.inr (.inr (M.2.1 n.1 n.2 k))) else .int (M.1 n.1 n.2 k))).set j (cv al v)) := by
        rw [a_ce_obj hs0, hci]
        congr 2
        refine (a_rs ?_ (fun i hi => ?_)).symm
        · rw [hfr]; exact hval
        · rw [(hsj i hi).1, (hsj i hi).2]
      have hn : narrow (ty0 j) (cv al v) = cv al v ∧ fits (ty0 j) (cv al v) = true := by
        rcases htk j hjN with ⟨g1, g2⟩ | ⟨g1, g2⟩ | ⟨g1, g2⟩
        · rcases hty with ⟨-, x, rfl⟩ | ⟨g3, -⟩ | ⟨g3, -⟩
          · rw [g2]; exact ⟨rfl, rfl⟩
          · omega
          · omega
        · rcases hty with ⟨g3, -⟩ | ⟨-, x, rfl, hx⟩ | ⟨g3, -⟩
          · omega
          · rw [g2]
            rcases a_bz_or hx with rfl | rfl
            · exact ⟨rfl, rfl⟩
            · exact ⟨rfl, rfl⟩
          · omega
        · rcases hty with ⟨g3, -⟩ | ⟨g3, -⟩ | ⟨-, x, rfl⟩
          · omega
          · omega
          · rcases g2 with ⟨z, g2⟩ | ⟨z, g2⟩ <;> rw [g2] <;> cases x <;> exact ⟨rfl, rfl⟩
      have fin : ∀ (H1 : Heap) (locs1 : List Loc), va_P G.2.1 a_cls ((va_pl LP fE).set q0 (al n.1 n.2, .inr (ci, ((List.range (a_sk n.1).2.2).map (fun k => bif Nat.beq (a_fr ci k) 2 then cv al (.inr (.inr (M.2.1 n.1 n.2 k))) else .int (M.1 n.1 n.2 k))).set j (cv al v)))) H1 → va_D (a_A G.1) ((va_pl LP fE).set q0 (al n.1 n.2, .inr (ci, ((List.range (a_sk n.1).2.2).map (fun k => bif Nat.beq (a_fr ci k) 2 then cv al (.inr (.inr (M.2.1 n.1 n.2 k))) else .int (M.1 n.1 n.2 k))).set j (cv al v)))) → va_S (a_A G.1) s.heap H1 locs1 → W p l e R s m args below meth c H1 locs1 (M.2.2.2.2.1 - c0) (M.2.2.2.2.2 - k0) Q (F0 m (pc + 3) lsA (r.map (cv al))) := by
        intro H1 locs1 hP1 hD1 hS1
        rw [← hce] at hP1 hD1
        have hHR := a_HR.upd hD hal hin h4 hq hq0' hcnt (fun s' q' hne => a_ce_congr (hsm s' q' hne).1 (hsm s' q' hne).2.1 (hsm s' q' hne).2.2) hP1 hD1
        have hMW : a_MW G.2.2.2.2.1 G.2.2.2.2.2.2.1 G.2.2.2.2.2.2.2.2.2 M' := by
          obtain ⟨w1, ⟨w2, w3⟩, w4, w5⟩ := J.2.1
          have hlow : ∀ s' q', s' < 4 → ¬ (s' = n.1 ∧ q' = n.2) := fun s' q' h5 h6 => by omega
          refine ⟨fun s' q' i g4 gq => ?_, ⟨by rw [hcnt]; exact w2, fun j hj => by rw [(hsm 0 0 (hlow 0 0 (by decide))).1]; exact w3 j hj⟩, fun i hi => ?_, by rw [(hsm 3 0 (hlow 3 0 (by decide))).2.1]; exact w5⟩
          · rw [hcnt] at gq
            by_cases he : s' = n.1 ∧ q' = n.2
            · obtain ⟨rfl, rfl⟩ := he
              by_cases hij : i = j
              · subst hij; exact a_okv_of hcnt hokn
              · rw [(hsj i hij).2]; exact a_okv_of hcnt (w1 _ _ i g4 gq)
            · rw [(hsm s' q' he).2.1]; exact a_okv_of hcnt (w1 _ _ i g4 gq)
          · obtain ⟨u1, u2, u3⟩ := w4 i hi
            exact ⟨by rw [(hsm 1 i (hlow 1 i (by decide))).2.1]; exact u1, by rw [(hsm 1 i (hlow 1 i (by decide))).1]; exact u2, fun j hj => by rw [(hsm 2 i (hlow 2 i (by decide))).1]; exact u3 j hj⟩
        have hcc : M'.2.2.2.2.1 = M.2.2.2.2.1 ∧ M'.2.2.2.2.2 = M.2.2.2.2.2 := by rw [hc]; exact ⟨rfl, rfl⟩
        have hT := hK.2 al H1 locs1 lsA ⟨hHR, hMW, J.2.2.1, hS1, J.2.2.2.2.1.mem hcnt, fun w hw => a_okv_of hcnt (ok_t (ok_t J.2.2.2.2.2.1) w hw), by show c0 ≤ M'.2.2.2.2.1; rw [hcc.1]; exact J.2.2.2.2.2.2.1, by show k0 ≤ M'.2.2.2.2.2; rw [hcc.2]; exact J.2.2.2.2.2.2.2⟩ a_ext.refl
        have hT : W p l e R s m args below meth c H1 locs1 (M'.2.2.2.2.1 - c0) (M'.2.2.2.2.2 - k0) Q (F0 m (pc + 3) lsA (r.map (cv al))) := hT
        rw [hcc.1, hcc.2] at hT
        exact hT
      rcases hfin with hnf | ⟨hft, hff⟩
      · exact va_put hB.1 hB.2.1 hB.tbl hws ty0 ht0 hnm hB.own (hB.K hG) hP hD J.2.2.2.1 q0 hq0 hcl j hjN (hB.tbl _ hw) (fun _ h => h) hnf (ht0 j hjN) hn.1 hn.2 (by simpa using hjN) hd fin
      · have hk2 : kk = 2 := by
          rcases hfi with hfi | hfi
          · rcases hty with ⟨g3, x, rfl⟩ | ⟨g3, x, rfl, -⟩ | ⟨g3, -⟩
            · exfalso
              have : ∀ e ∈ a_finl, a_fr (e.1 / 100) (e.1 % 100) = 2 := by decide
              have h9 := this _ (a_find_mem hff)
              have hj99 : j < 100 := by
                have : ∀ s, s < 33 → (a_sk s).2.2 < 100 ∨ (a_sk s).1 ≠ 0 := by decide
                by_cases hs : n.1 < 33
                · rcases this n.1 hs with g | g
                  · omega
                  · exact absurd hs0 g
                · exfalso
                  have hx : ∀ z, (a_sk (z + 33)).1 = 9 := fun z => rfl
                  have := hx (n.1 - 33)
                  rw [show n.1 - 33 + 33 = n.1 by omega] at this
                  omega
              simp only at h9
              rw [show (100 * ci + j) / 100 = ci by omega, show (100 * ci + j) % 100 = j by omega] at h9
              omega
            · exfalso
              have : ∀ e ∈ a_finl, a_fr (e.1 / 100) (e.1 % 100) = 2 := by decide
              have h9 := this _ (a_find_mem hff)
              have hj99 : j < 100 := by
                have : ∀ s, s < 33 → (a_sk s).2.2 < 100 ∨ (a_sk s).1 ≠ 0 := by decide
                by_cases hs : n.1 < 33
                · rcases this n.1 hs with g | g
                  · omega
                  · exact absurd hs0 g
                · exfalso
                  have hx : ∀ z, (a_sk (z + 33)).1 = 9 := fun z => rfl
                  have := hx (n.1 - 33)
                  rw [show n.1 - 33 + 33 = n.1 by omega] at this
                  omega
              simp only at h9
              rw [show (100 * ci + j) / 100 = ci by omega, show (100 * ci + j) % 100 = j by omega] at h9
              omega
            · exact g3
          · exfalso
            have : ∀ e ∈ a_finl, a_fr (e.1 / 100) (e.1 % 100) = 2 := by decide
            have h9 := this _ (a_find_mem hff)
            have hj99 : j < 100 := by
              have : ∀ s, s < 33 → (a_sk s).2.2 < 100 ∨ (a_sk s).1 ≠ 0 := by decide
              by_cases hs : n.1 < 33
              · rcases this n.1 hs with g | g
                · omega
                · exact absurd hs0 g
              · exfalso
                have hx : ∀ z, (a_sk (z + 33)).1 = 9 := fun z => rfl
                have := hx (n.1 - 33)
                rw [show n.1 - 33 + 33 = n.1 by omega] at this
                omega
            simp only at h9
            rw [show (100 * ci + j) / 100 = ci by omega, show (100 * ci + j) % 100 = j by omega] at h9
            omega
        have hfi : a_fin f n.1 j = true := hfi.resolve_right (fun g => g hk2)
        unfold a_fin at hfi
        rw [hci, hff] at hfi
        have hf9 : a_initl.getD ci 9999 = f := a_beq hfi
        have hc9 : ci < 9 := by
          have := (List.getElem?_eq_some_iff.mp hcl).1
          exact this
        obtain ⟨i1, i2⟩ := tI ci hc9
        rw [hf9] at i1 i2
        have hmn : meth.name = "<init>" := hB.2.2.2.2.2.2.2.1.trans i1
        exact va_putF hB.1 hB.2.1 hB.tbl hws ty0 ht0 hnm hB.own (hB.K hG) hP hD J.2.2.2.1 q0 hq0 hcl j hjN (hB.tbl _ hw) (fun _ h => h) hft hmn (by rw [hdc, hC, i2]) (ht0 j hjN) hn.1 hn.2 (by simpa using hjN) hd fin
    · have hx : ci = 10 := congrArg Prod.fst hx
      rw [hx] at hcl
      cases hcl
    · have hx : ci = 10 := congrArg Prod.fst hx
      rw [hx] at hcl
      cases hcl
  simp only [a_ex] at h
  split at h
  · next x n r =>
    split at h
    · next j hf =>
      cases hb : Nat.ble 4 n.1 with
      | false => rw [hb] at h; exact a_stk_no h
      | true =>
        rw [hb] at h
        exact key j 0 n (.inl x) r (a_setI M.1 n.1 n.2 j x, M.2) rfl hf (Nat.le_of_ble_eq_true hb) rfl (fun s' q' hne => ⟨a_setI_ne hne, fun _ => rfl, fun _ => rfl⟩) (fun i hi => ⟨by show a_setI M.1 n.1 n.2 j x n.1 n.2 i = _; rw [a_setI_at, if_neg hi], rfl⟩) (by show Value.int (a_setI M.1 n.1 n.2 j x n.1 n.2 j) = _; rw [a_setI_at, if_pos rfl]; rfl) (J.2.1.1 n.1 n.2 j (Nat.le_of_ble_eq_true hb) (by rcases (ok_h (ok_t J.2.2.2.2.2.1) : a_okn M n) with ⟨h5, -⟩ | ⟨-, h5⟩; exact absurd (Nat.le_of_ble_eq_true hb) (by omega); exact h5)) (Or.inl ⟨rfl, x, rfl⟩) (Or.inr (by decide)) h.2
    · next j hf =>
      cases hb : Nat.ble 4 n.1 with
      | false => rw [hb] at h; exact a_stk_no h
      | true =>
        rw [hb] at h
        have hz : a_bz x = true := h.1
        exact key j 1 n (.inl x) r (a_setI M.1 n.1 n.2 j x, M.2) rfl hf (Nat.le_of_ble_eq_true hb) rfl (fun s' q' hne => ⟨a_setI_ne hne, fun _ => rfl, fun _ => rfl⟩) (fun i hi => ⟨by show a_setI M.1 n.1 n.2 j x n.1 n.2 i = _; rw [a_setI_at, if_neg hi], rfl⟩) (by show Value.int (a_setI M.1 n.1 n.2 j x n.1 n.2 j) = _; rw [a_setI_at, if_pos rfl]; rfl) (J.2.1.1 n.1 n.2 j (Nat.le_of_ble_eq_true hb) (by rcases (ok_h (ok_t J.2.2.2.2.2.1) : a_okn M n) with ⟨h5, -⟩ | ⟨-, h5⟩; exact absurd (Nat.le_of_ble_eq_true hb) (by omega); exact h5)) (Or.inr (Or.inl ⟨rfl, x, rfl, hz⟩)) (Or.inr (by decide)) h.2
    · exact a_stk_no h
  · next x n r =>
    split at h
    · next j hf =>
      cases hb : (Nat.ble 4 n.1 && a_fin f n.1 j) with
      | false => rw [hb] at h; exact a_stk_no h
      | true =>
        rw [hb] at h
        obtain ⟨hb1, hb2⟩ := a_and hb
        refine key j 2 n (.inr (.inr x)) r (M.1, a_setR M.2.1 n.1 n.2 j x, M.2.2) rfl hf (Nat.le_of_ble_eq_true hb1) rfl (fun s' q' hne => ⟨fun _ => rfl, a_setR_ne hne, fun _ => rfl⟩) (fun i hi => ⟨rfl, by show a_setR M.2.1 n.1 n.2 j x n.1 n.2 i = _; rw [a_setR_at, if_neg hi]⟩) (by show cv al (.inr (.inr (a_setR M.2.1 n.1 n.2 j x n.1 n.2 j))) = _; rw [a_setR_at, if_pos rfl]) (by show a_okv M (.inr (.inr (a_setR M.2.1 n.1 n.2 j x n.1 n.2 j))); rw [a_setR_at, if_pos rfl]; exact ok_h J.2.2.2.2.2.1) (Or.inr (Or.inr ⟨rfl, x, rfl⟩)) (Or.inl hb2) h.2
    · exact a_stk_no h
  · exact a_stk_no h
end
