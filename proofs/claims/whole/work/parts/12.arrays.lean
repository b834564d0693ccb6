/-! ===== rows of instructions: arrays (by wip/whole/gen12.py) ===== -/
theorem a_ce1 {tyc : Nat → ClassId} {al : Nat → Nat → Nat} {M : aM} {s q : Nat} (h : (a_sk s).1 = 1) : a_ce tyc al M s q = .inl (tyc 1, (a_sk s).2.2, .inl (fun k => M.1 s q k)) := by
  unfold a_ce
  rw [h]
  rfl
theorem a_ce2 {tyc : Nat → ClassId} {al : Nat → Nat → Nat} {M : aM} {s q : Nat} (h : (a_sk s).1 = 2) : a_ce tyc al M s q = .inl (tyc 2, (a_sk s).2.2, .inl (fun k => M.1 s q k)) := by
  unfold a_ce
  rw [h]
  rfl
theorem a_ce3 {tyc : Nat → ClassId} {al : Nat → Nat → Nat} {M : aM} {s q : Nat} (h : (a_sk s).1 = 3) : a_ce tyc al M s q = .inl (tyc 3, (a_sk s).2.2, .inl (fun k => M.1 s q k)) := by
  unfold a_ce
  rw [h]
  rfl
theorem a_ce4 {tyc : Nat → ClassId} {al : Nat → Nat → Nat} {M : aM} {s q : Nat} (h : (a_sk s).1 = 4) : a_ce tyc al M s q = .inl (tyc 4, (a_sk s).2.2, .inr (.inl (fun k => M.2.2.1 s q k))) := by
  unfold a_ce
  rw [h]
  rfl
theorem a_ce5 {tyc : Nat → ClassId} {al : Nat → Nat → Nat} {M : aM} {s q : Nat} (h : (a_sk s).1 = 5) : a_ce tyc al M s q = .inl (tyc (10 + (a_sk s).2.1), (a_sk s).2.2, .inr (.inr (.inr (.inr (fun k => (M.2.1 s q k).map (fun n => al n.1 n.2)))))) := by
  unfold a_ce
  rw [h]
  rfl
theorem a_ln_own {M : aM} {n : aN} (h : 4 ≤ n.1) : a_ln M n = (a_sk n.1).2.2 := by
  obtain ⟨a, b⟩ := n
  match a, h with
  | a + 4, _ => rfl
theorem a_sk_hi {s : Nat} (h : (a_sk s).1 ≠ 9) : s < 33 := by
  refine Nat.lt_of_not_le (fun h1 => h ?_)
  have hx : ∀ z, (a_sk (z + 33)).1 = 9 := fun z => rfl
  have := hx (s - 33)
  rwa [show s - 33 + 33 = s by omega] at this
/-- the classes of arrays of references -/
theorem a_t5 {s : Nat} (h : (a_sk s).1 = 5) (tyc : Nat → ClassId) : ∃ (t0 : Nat) (C : String) (T : u_T) (N : Nat), (a_tys tyc)[t0]? = some (tyc (10 + (a_sk s).2.1), FieldType.object C) ∧ a_cls[(a_sk s).2.1]? = some (C, T, N) := by
  have hs : s < 33 := a_sk_hi (by omega)
  have : ∀ s, s < 33 → (a_sk s).1 = 5 → s = 11 ∨ s = 12 ∨ s = 16 ∨ s = 22 := by decide
  rcases this s hs h with rfl | rfl | rfl | rfl
  · exact ⟨5, _, _, _, rfl, rfl⟩
  · exact ⟨4, _, _, _, rfl, rfl⟩
  · exact ⟨7, _, _, _, rfl, rfl⟩
  · exact ⟨6, _, _, _, rfl, rfl⟩
theorem a_inb_in {i : Int32} {n : Nat} (h : a_inb i n = true) : vp_in i n := by
  unfold a_inb at h
  have h1 := of_decide_eq_true h
  exact h1
theorem a_cvr {al : Nat → Nat → Nat} (x : Option aN) : cv al (.inr (.inr x)) = va_rf (x.map (fun n => al n.1 n.2)) := by
  cases x <;> rfl
theorem a_upd {f g : Nat → Int32} {k : Nat} {x : Int32} (h : ∀ j, g j = if j = k then x else f j) : g = upd f k x := funext h
section
variable {p : Program} {l : Launch} {e : Env} {R : Room} {s : State} {m : MethodId} {args : Array Value} {below : List Frame} {meth : Method} {c : Code} {Q : State → Prop}
variable {G : aG} {f c0 k0 : Nat} {kd : aO → Prop} {kc : Nat → List aV → aS → Prop}
variable {al : Nat → Nat → Nat} {H : Heap} {locs : List Loc} {lsA : Array Slot} {pc pc' : Nat} {ls : List (Option aV)} {st r : List aV} {M M' : aM}
/-- behind a store into one cell -/
theorem a_after {n : aN} {LP : List Nat} {fE : Nat → va_E} {q0 : Nat} (J : a_J f s G c0 k0 al H locs lsA (pc, ls, st, M)) (h4 : 4 ≤ n.1) (hq : n.2 < M.2.2.2.1 n.1) (hD : va_D (a_A G.1) (va_pl LP fE)) (hal : ∀ s q, 4 ≤ s → q < M.2.2.2.1 s → al s q ∈ LP ∧ fE (al s q) = a_ce G.2.2.1 al M s q)
    (hin : ∀ s q s' q', 4 ≤ s → q < M.2.2.2.1 s → 4 ≤ s' → q' < M.2.2.2.1 s' → al s q = al s' q' → s = s' ∧ q = q') (hq0 : (va_pl LP fE)[q0]? = some (al n.1 n.2, a_ce G.2.2.1 al M n.1 n.2)) (hc : M'.2.2.2 = M.2.2.2)
    (hsm : ∀ s' q', ¬ (s' = n.1 ∧ q' = n.2) → (∀ k, M'.1 s' q' k = M.1 s' q' k) ∧ (∀ k, M'.2.1 s' q' k = M.2.1 s' q' k) ∧ (∀ k, M'.2.2.1 s' q' k = M.2.2.1 s' q' k)) (hok : ∀ i, a_okv M (.inr (.inr (M'.2.1 n.1 n.2 i)))) (hr : ∀ v ∈ r, a_okv M v)
    (hK : a_K f p l e R s m args below meth c G c0 k0 Q al M (pc', ls, r, M')) {E : va_E} (hE : E = a_ce G.2.2.1 al M' n.1 n.2) : ∀ (H1 : Heap) (locs1 : List Loc), va_P G.2.1 a_cls ((va_pl LP fE).set q0 (al n.1 n.2, E)) H1 → va_D (a_A G.1) ((va_pl LP fE).set q0 (al n.1 n.2, E)) → va_S (a_A G.1) s.heap H1 locs1 →
      W p l e R s m args below meth c H1 locs1 (M.2.2.2.2.1 - c0) (M.2.2.2.2.2 - k0) Q (F0 m pc' lsA (r.map (cv al))) := by
  intro H1 locs1 hP1 hD1 hS1
  subst hE
  have hcnt : M'.2.2.2.1 = M.2.2.2.1 := by rw [hc]
  have hHR := a_HR.upd hD hal hin h4 hq hq0 hcnt (fun s' q' hne => a_ce_congr (hsm s' q' hne).1 (hsm s' q' hne).2.1 (hsm s' q' hne).2.2) hP1 hD1
  have hMW : a_MW G.2.2.2.2.1 G.2.2.2.2.2.2.1 G.2.2.2.2.2.2.2.2.2 M' := by
    obtain ⟨w1, ⟨w2, w3⟩, w4, w5⟩ := J.2.1
    have hlow : ∀ s' q', s' < 4 → ¬ (s' = n.1 ∧ q' = n.2) := fun s' q' h5 h6 => by omega
    refine ⟨fun s' q' i g4 gq => ?_, ⟨by rw [hcnt]; exact w2, fun j hj => by rw [(hsm 0 0 (hlow 0 0 (by decide))).1]; exact w3 j hj⟩, fun i hi => ?_, by rw [(hsm 3 0 (hlow 3 0 (by decide))).2.1]; exact w5⟩
    · rw [hcnt] at gq
      by_cases he : s' = n.1 ∧ q' = n.2
      · obtain ⟨rfl, rfl⟩ := he
        exact a_okv_of hcnt (hok i)
      · rw [(hsm s' q' he).2.1]; exact a_okv_of hcnt (w1 _ _ i g4 gq)
    · obtain ⟨u1, u2, u3⟩ := w4 i hi
      exact ⟨by rw [(hsm 1 i (hlow 1 i (by decide))).2.1]; exact u1, by rw [(hsm 1 i (hlow 1 i (by decide))).1]; exact u2, fun j hj => by rw [(hsm 2 i (hlow 2 i (by decide))).1]; exact u3 j hj⟩
  have hcc : M'.2.2.2.2.1 = M.2.2.2.2.1 ∧ M'.2.2.2.2.2 = M.2.2.2.2.2 := by rw [hc]; exact ⟨rfl, rfl⟩
  have hT := hK.2 al H1 locs1 lsA ⟨hHR, hMW, J.2.2.1, hS1, J.2.2.2.2.1.mem hcnt, fun w hw => a_okv_of hcnt (hr w hw), by show c0 ≤ M'.2.2.2.2.1; rw [hcc.1]; exact J.2.2.2.2.2.2.1, by show k0 ≤ M'.2.2.2.2.2; rw [hcc.2]; exact J.2.2.2.2.2.2.2⟩ a_ext.refl
  have hT : W p l e R s m args below meth c H1 locs1 (M'.2.2.2.2.1 - c0) (M'.2.2.2.2.2 - k0) Q (F0 m pc' lsA (r.map (cv al))) := hT
  rw [hcc.1, hcc.2] at hT
  exact hT
set_option maxHeartbeats 1000000 in
theorem sx_iaload (hG : a_G l G) (hB : a_B f p s m args meth c R G) (hd : decode (a_c f) pc = .ok (.iaload, 1)) (J : a_J f s G c0 k0 al H locs lsA (pc, ls, st, M)) (h : a_Th kd (a_K f p l e R s m args below meth c G c0 k0 Q al M) kc (a_ex f pc 1 ls st M (.iaload))) : a_T p l e R s m args below meth c c0 k0 Q al H locs lsA (pc, ls, st, M) := by
  simp only [a_ex] at h
  split at h
  · next i n r =>
    cases hb : Nat.beq (a_sk n.1).1 1 with
    | false => rw [hb] at h; exact a_stk_no h
    | true =>
      rw [hb] at h
      have hs := a_beq hb
      have hinb : vp_in i (a_ln M n) := a_inb_in h.1
      have hT := h.2.2 al H locs lsA (J.st (ok_c trivial (ok_t (ok_t J.2.2.2.2.2.1)))) a_ext.refl
      rcases (ok_h (ok_t J.2.2.2.2.2.1) : a_okn M n) with ⟨h4, hkc⟩ | ⟨h4, hq⟩
      · rcases a_kc_of h4 hkc with rfl | ⟨i, hi, rfl⟩ | ⟨i, hi, rfl⟩ | rfl
        · have hinb : vp_in i G.2.2.2.2.1 := by
            have h9 : vp_in i (M.2.2.2.1 0) := hinb
            rw [J.2.1.2.1.1] at h9
            exact h9
          have hlt : i.toNatClampNeg < G.2.2.2.2.1 := Nat.not_le.mp fun q => hinb (Or.inr q)
          have hbl := hG.2.2.2.1.2
          have hbA : ¬ a_A G.1 G.2.2.2.1 := Nat.not_le.mpr hbl
          have hX := va_X.kept (va_X.moved hB.warm.alike hG.2.2.2.1.1) (hB.low _ hbl hbA)
          have hT : W p l e R s m args below meth c H locs _ _ Q (F0 m (pc + 1) lsA (.int (M.1 0 0 i.toNatClampNeg) :: r.map (cv al))) := hT
          rw [J.2.1.2.1.2 _ hlt] at hT
          show W p l e R s m args below meth c H locs _ _ Q (F0 m pc lsA (.int i :: .ref (al 0 0) :: r.map (cv al)))
          rw [J.2.2.1.1]
          exact va_sld hB.1 hB.2.1 hX (Nat.lt_of_lt_of_le hbl hB.size) hbA J.2.2.2.1 hinb hd hT
        · cases hs
        · cases hs
        · cases hs
      · obtain ⟨LP, fE, hP, hD, hal, hin⟩ := J.1
        obtain ⟨q0, hq0⟩ := a_HR.at (D := G.2.1) (s0 := G.1) hal h4 hq
        rw [a_ce1 hs] at hq0
        rw [a_ln_own h4] at hinb
        exact va_iald hB.1 hB.2.1 (hB.K hG) hP q0 0 hq0 rfl hinb hd hT
  · exact a_stk_no h
set_option maxHeartbeats 1000000 in
theorem sx_baload (hG : a_G l G) (hB : a_B f p s m args meth c R G) (hd : decode (a_c f) pc = .ok (.baload, 1)) (J : a_J f s G c0 k0 al H locs lsA (pc, ls, st, M)) (h : a_Th kd (a_K f p l e R s m args below meth c G c0 k0 Q al M) kc (a_ex f pc 1 ls st M (.baload))) : a_T p l e R s m args below meth c c0 k0 Q al H locs lsA (pc, ls, st, M) := by
  simp only [a_ex] at h
  split at h
  · next i n r =>
    cases hb : (Nat.beq (a_sk n.1).1 2 || Nat.beq (a_sk n.1).1 3) with
    | false => rw [hb] at h; exact a_stk_no h
    | true =>
      rw [hb] at h
      have hinb : vp_in i (a_ln M n) := a_inb_in h.1
      have hT := h.2.2 al H locs lsA (J.st (ok_c trivial (ok_t (ok_t J.2.2.2.2.2.1)))) a_ext.refl
      have hs : (a_sk n.1).1 = 2 ∨ (a_sk n.1).1 = 3 := (Bool.or_eq_true_iff.mp hb).elim (fun z => Or.inl (a_beq z)) (fun z => Or.inr (a_beq z))
      rcases (ok_h (ok_t J.2.2.2.2.2.1) : a_okn M n) with ⟨h4, hkc⟩ | ⟨h4, hq⟩
      · rcases a_kc_of h4 hkc with rfl | ⟨i2, hi, rfl⟩ | ⟨i2, hi, rfl⟩ | rfl
        · rcases hs with hs | hs <;> cases hs
        · rcases hs with hs | hs <;> cases hs
        · have hinb : vp_in i (a_sl i2) := hinb
          have hlt : i.toNatClampNeg < a_sl i2 := Nat.not_le.mp fun q => hinb (Or.inr q)
          have hAl := J.2.2.1.2.1 i2 hi
          have hM := J.2.1.2.2.1 i2 hi
          have hSt := hG.2.2.2.2.1.1 i2 hi
          have hT : W p l e R s m args below meth c H locs _ _ Q (F0 m (pc + 1) lsA (.int (M.1 2 i2 i.toNatClampNeg) :: r.map (cv al))) := hT
          rw [hM.2.2 _ hlt] at hT
          show W p l e R s m args below meth c H locs _ _ Q (F0 m pc lsA (.int i :: .ref (al 2 i2) :: r.map (cv al)))
          rw [hAl.2]
          exact va_tb hB.1 hB.2.1 (va_T.kept (va_T.moved hB.warm.alike hSt.2.2.2) hB.low) J.2.2.2.1 hinb rfl hd hT
        · rcases hs with hs | hs <;> cases hs
      · obtain ⟨LP, fE, hP, hD, hal, hin⟩ := J.1
        obtain ⟨q0, hq0⟩ := a_HR.at (D := G.2.1) (s0 := G.1) hal h4 hq
        rw [a_ln_own h4] at hinb
        rcases hs with hs | hs
        · rw [a_ce2 hs] at hq0
          exact va_bald hB.1 hB.2.1 (hB.K hG) hP q0 1 hq0 rfl hinb hd hT
        · rw [a_ce3 hs] at hq0
          exact va_zald hB.1 hB.2.1 (hB.K hG) hP q0 2 hq0 rfl hinb hd hT
  · exact a_stk_no h
set_option maxHeartbeats 1000000 in
theorem sx_laload (hG : a_G l G) (hB : a_B f p s m args meth c R G) (hd : decode (a_c f) pc = .ok (.laload, 1)) (J : a_J f s G c0 k0 al H locs lsA (pc, ls, st, M)) (h : a_Th kd (a_K f p l e R s m args below meth c G c0 k0 Q al M) kc (a_ex f pc 1 ls st M (.laload))) : a_T p l e R s m args below meth c c0 k0 Q al H locs lsA (pc, ls, st, M) := by
  simp only [a_ex] at h
  split at h
  · next i n r =>
    cases hb : Nat.beq (a_sk n.1).1 4 with
    | false => rw [hb] at h; exact a_stk_no h
    | true =>
      rw [hb] at h
      have hs := a_beq hb
      have hinb : vp_in i (a_ln M n) := a_inb_in h.1
      have hT := h.2.2 al H locs lsA (J.st (ok_c trivial (ok_t (ok_t J.2.2.2.2.2.1)))) a_ext.refl
      rcases (ok_h (ok_t J.2.2.2.2.2.1) : a_okn M n) with ⟨h4, hkc⟩ | ⟨h4, hq⟩
      · rcases a_kc_of h4 hkc with rfl | ⟨i, hi, rfl⟩ | ⟨i, hi, rfl⟩ | rfl <;> cases hs
      · obtain ⟨LP, fE, hP, hD, hal, hin⟩ := J.1
        obtain ⟨q0, hq0⟩ := a_HR.at (D := G.2.1) (s0 := G.1) hal h4 hq
        rw [a_ce4 hs] at hq0
        rw [a_ln_own h4] at hinb
        exact va_lald hB.1 hB.2.1 (hB.K hG) hP q0 3 hq0 rfl hinb hd hT
  · exact a_stk_no h
set_option maxHeartbeats 1000000 in
theorem sx_aaload (hG : a_G l G) (hB : a_B f p s m args meth c R G) (hd : decode (a_c f) pc = .ok (.aaload, 1)) (J : a_J f s G c0 k0 al H locs lsA (pc, ls, st, M)) (h : a_Th kd (a_K f p l e R s m args below meth c G c0 k0 Q al M) kc (a_ex f pc 1 ls st M (.aaload))) : a_T p l e R s m args below meth c c0 k0 Q al H locs lsA (pc, ls, st, M) := by
  simp only [a_ex] at h
  split at h
  · next i n r =>
    cases hb : Nat.beq (a_sk n.1).1 5 with
    | false => rw [hb] at h; exact a_stk_no h
    | true =>
      rw [hb] at h
      have hs := a_beq hb
      have hinb : vp_in i (a_ln M n) := a_inb_in h.1
      rcases (ok_h (ok_t J.2.2.2.2.2.1) : a_okn M n) with ⟨h4, hkc⟩ | ⟨h4, hq⟩
      · rcases a_kc_of h4 hkc with rfl | ⟨i, hi, rfl⟩ | ⟨i, hi, rfl⟩ | rfl <;> cases hs
      · have hT := h.2.2 al H locs lsA (J.st (ok_c (J.2.1.1 n.1 n.2 i.toNatClampNeg h4 hq) (ok_t (ok_t J.2.2.2.2.2.1)))) a_ext.refl
        have hT : W p l e R s m args below meth c H locs _ _ Q (F0 m (pc + 1) lsA (cv al (.inr (.inr (M.2.1 n.1 n.2 i.toNatClampNeg))) :: r.map (cv al))) := hT
        rw [a_cvr] at hT
        obtain ⟨LP, fE, hP, hD, hal, hin⟩ := J.1
        obtain ⟨q0, hq0⟩ := a_HR.at (D := G.2.1) (s0 := G.1) hal h4 hq
        rw [a_ce5 hs] at hq0
        rw [a_ln_own h4] at hinb
        obtain ⟨t0, C, T, N, ht, -⟩ := a_t5 hs G.2.2.1
        exact va_aldq hB.1 hB.2.1 (hB.K hG) hP q0 t0 hq0 ht hinb hd hT
  · exact a_stk_no h
set_option maxHeartbeats 1000000 in
theorem sx_arraylength (hG : a_G l G) (hB : a_B f p s m args meth c R G) (hd : decode (a_c f) pc = .ok (.arraylength, 1)) (J : a_J f s G c0 k0 al H locs lsA (pc, ls, st, M)) (h : a_Th kd (a_K f p l e R s m args below meth c G c0 k0 Q al M) kc (a_ex f pc 1 ls st M (.arraylength))) : a_T p l e R s m args below meth c c0 k0 Q al H locs lsA (pc, ls, st, M) := by
  simp only [a_ex] at h
  split at h
  · next n r =>
    cases hb : (Nat.ble 1 (a_sk n.1).1 && Nat.ble (a_sk n.1).1 5) with
    | false => rw [hb] at h; exact a_stk_no h
    | true =>
      rw [hb] at h
      obtain ⟨hb1, hb2⟩ := a_and hb
      have hb1 := Nat.le_of_ble_eq_true hb1
      have hb2 := Nat.le_of_ble_eq_true hb2
      have hT := h.2.2 al H locs lsA (J.st (ok_c trivial (ok_t J.2.2.2.2.2.1))) a_ext.refl
      have hT : W p l e R s m args below meth c H locs _ _ Q (F0 m (pc + 1) lsA (.int (Int32.ofNat (a_ln M n)) :: r.map (cv al))) := hT
      rcases (ok_h J.2.2.2.2.2.1 : a_okn M n) with ⟨h4, hkc⟩ | ⟨h4, hq⟩
      · rcases a_kc_of h4 hkc with rfl | ⟨i2, hi, rfl⟩ | ⟨i2, hi, rfl⟩ | rfl
        · have hbl := hG.2.2.2.1.2
          have hbA : ¬ a_A G.1 G.2.2.2.1 := Nat.not_le.mpr hbl
          have hX := va_X.kept (va_X.moved hB.warm.alike hG.2.2.2.1.1) (hB.low _ hbl hbA)
          have hT : W p l e R s m args below meth c H locs _ _ Q (F0 m (pc + 1) lsA (.int (Int32.ofNat (M.2.2.2.1 0)) :: r.map (cv al))) := hT
          rw [J.2.1.2.1.1] at hT
          show W p l e R s m args below meth c H locs _ _ Q (F0 m pc lsA (.ref (al 0 0) :: r.map (cv al)))
          rw [J.2.2.1.1]
          exact va_slen hB.1 hB.2.1 hX (Nat.lt_of_lt_of_le hbl hB.size) hbA J.2.2.2.1 hd hT
        · have : 1 ≤ 0 := hb1
          omega
        · have hAl := J.2.2.1.2.1 i2 hi
          have hSt := hG.2.2.2.2.1.1 i2 hi
          show W p l e R s m args below meth c H locs _ _ Q (F0 m pc lsA (.ref (al 2 i2) :: r.map (cv al)))
          rw [hAl.2]
          exact va_tlen hB.1 hB.2.1 (va_T.kept (va_T.moved hB.warm.alike hSt.2.2.2) hB.low) J.2.2.2.1 rfl hd hT
        · have : 9 ≤ 5 := hb2
          omega
      · obtain ⟨LP, fE, hP, hD, hal, hin⟩ := J.1
        obtain ⟨q0, hq0⟩ := a_HR.at (D := G.2.1) (s0 := G.1) hal h4 hq
        rw [a_ln_own h4] at hT
        rcases (show (a_sk n.1).1 = 1 ∨ (a_sk n.1).1 = 2 ∨ (a_sk n.1).1 = 3 ∨ (a_sk n.1).1 = 4 ∨ (a_sk n.1).1 = 5 by omega) with hs | hs | hs | hs | hs
        · rw [a_ce1 hs] at hq0
          exact va_alen hB.1 hB.2.1 (hB.K hG) hP q0 0 hq0 rfl rfl hd hT
        · rw [a_ce2 hs] at hq0
          exact va_alen hB.1 hB.2.1 (hB.K hG) hP q0 1 hq0 rfl rfl hd hT
        · rw [a_ce3 hs] at hq0
          exact va_alen hB.1 hB.2.1 (hB.K hG) hP q0 2 hq0 rfl rfl hd hT
        · rw [a_ce4 hs] at hq0
          exact va_alen hB.1 hB.2.1 (hB.K hG) hP q0 3 hq0 rfl rfl hd hT
        · rw [a_ce5 hs] at hq0
          obtain ⟨t0, C, T, N, ht, -⟩ := a_t5 hs G.2.2.1
          exact va_alen hB.1 hB.2.1 (hB.K hG) hP q0 t0 hq0 ht rfl hd hT
  · exact a_stk_no h
set_option maxHeartbeats 1000000 in
theorem sx_iastore (hG : a_G l G) (hB : a_B f p s m args meth c R G) (hd : decode (a_c f) pc = .ok (.iastore, 1)) (J : a_J f s G c0 k0 al H locs lsA (pc, ls, st, M)) (h : a_Th kd (a_K f p l e R s m args below meth c G c0 k0 Q al M) kc (a_ex f pc 1 ls st M (.iastore))) : a_T p l e R s m args below meth c c0 k0 Q al H locs lsA (pc, ls, st, M) := by
  simp only [a_ex] at h
  split at h
  · next x i n r =>
    cases hb : (Nat.beq (a_sk n.1).1 1 && Nat.ble 4 n.1) with
    | false => rw [hb] at h; exact a_stk_no h
    | true =>
      rw [hb] at h
      obtain ⟨hb1, hb2⟩ := a_and hb
      have hs := a_beq hb1
      have h4 := Nat.le_of_ble_eq_true hb2
      have hinb : vp_in i (a_ln M n) := a_inb_in h.1
      have hK := h.2
      rcases (ok_h (ok_t (ok_t J.2.2.2.2.2.1)) : a_okn M n) with ⟨h5, -⟩ | ⟨-, hq⟩
      · omega
      obtain ⟨LP, fE, hP, hD, hal, hin⟩ := J.1
      obtain ⟨q0, hq0⟩ := a_HR.at (D := G.2.1) (s0 := G.1) hal h4 hq
      have hq1 := hq0
      rw [a_ce1 hs] at hq0
      rw [a_ln_own h4] at hinb
      refine va_iast hB.1 hB.2.1 (hB.K hG) hP hD J.2.2.2.1 q0 0 hq0 rfl hinb hd (a_after (M' := (a_setI M.1 n.1 n.2 i.toNatClampNeg x, M.2)) J h4 hq hD hal hin hq1 rfl (fun s' q' hne => ⟨a_setI_ne hne, fun _ => rfl, fun _ => rfl⟩) (fun i => J.2.1.1 n.1 n.2 i h4 hq) (ok_t (ok_t (ok_t J.2.2.2.2.2.1))) hK ?_)
      rw [a_ce1 hs]
      congr 3
      exact congrArg Sum.inl (funext fun j => (a_setI_at j).symm)
  · exact a_stk_no h
set_option maxHeartbeats 1000000 in
theorem sx_bastore (hG : a_G l G) (hB : a_B f p s m args meth c R G) (hd : decode (a_c f) pc = .ok (.bastore, 1)) (J : a_J f s G c0 k0 al H locs lsA (pc, ls, st, M)) (h : a_Th kd (a_K f p l e R s m args below meth c G c0 k0 Q al M) kc (a_ex f pc 1 ls st M (.bastore))) : a_T p l e R s m args below meth c c0 k0 Q al H locs lsA (pc, ls, st, M) := by
  simp only [a_ex] at h
  split at h
  · next x i n r =>
    cases hb : Nat.ble 4 n.1 with
    | false => rw [hb] at h; exact a_stk_no h
    | true =>
      rw [hb] at h
      have h4 := Nat.le_of_ble_eq_true hb
      rcases (ok_h (ok_t (ok_t J.2.2.2.2.2.1)) : a_okn M n) with ⟨h5, -⟩ | ⟨-, hq⟩
      · omega
      cases hb2 : Nat.beq (a_sk n.1).1 2 with
      | true =>
        rw [hb2] at h
        have hs := a_beq hb2
        have hinb : vp_in i (a_ln M n) := a_inb_in h.1
        have hK := h.2
        obtain ⟨LP, fE, hP, hD, hal, hin⟩ := J.1
        obtain ⟨q0, hq0⟩ := a_HR.at (D := G.2.1) (s0 := G.1) hal h4 hq
        have hq1 := hq0
        rw [a_ce2 hs] at hq0
        rw [a_ln_own h4] at hinb
        refine va_bast hB.1 hB.2.1 (hB.K hG) hP hD J.2.2.2.1 q0 1 hq0 rfl hinb hd (a_after (M' := (a_setI M.1 n.1 n.2 i.toNatClampNeg x.toInt8.toInt32, M.2)) J h4 hq hD hal hin hq1 rfl (fun s' q' hne => ⟨a_setI_ne hne, fun _ => rfl, fun _ => rfl⟩) (fun i => J.2.1.1 n.1 n.2 i h4 hq) (ok_t (ok_t (ok_t J.2.2.2.2.2.1))) hK ?_)
        rw [a_ce2 hs]
        congr 3
        exact congrArg Sum.inl (funext fun j => (a_setI_at j).symm)
      | false =>
        rw [hb2] at h
        simp only [cond_true, cond_false] at h
        cases hb3 : Nat.beq (a_sk n.1).1 3 with
        | false => rw [hb3] at h; exact a_stk_no h
        | true =>
          rw [hb3] at h
          have hs := a_beq hb3
          have hg : (a_inb i (a_ln M n) && a_bz x) = true := h.1
          obtain ⟨hg1, hg2⟩ := a_and hg
          have hinb : vp_in i (a_ln M n) := a_inb_in hg1
          have hK := h.2
          obtain ⟨LP, fE, hP, hD, hal, hin⟩ := J.1
          obtain ⟨q0, hq0⟩ := a_HR.at (D := G.2.1) (s0 := G.1) hal h4 hq
          have hq1 := hq0
          rw [a_ce3 hs] at hq0
          rw [a_ln_own h4] at hinb
          refine va_zast hB.1 hB.2.1 (hB.K hG) hP hD J.2.2.2.1 q0 2 hq0 rfl hinb hd (a_after (M' := (a_setI M.1 n.1 n.2 i.toNatClampNeg x, M.2)) J h4 hq hD hal hin hq1 rfl (fun s' q' hne => ⟨a_setI_ne hne, fun _ => rfl, fun _ => rfl⟩) (fun i => J.2.1.1 n.1 n.2 i h4 hq) (ok_t (ok_t (ok_t J.2.2.2.2.2.1))) hK ?_)
          rw [a_ce3 hs]
          have hx : vp_nar .boolean x = x := by
            rcases a_bz_or hg2 with rfl | rfl <;> rfl
          rw [hx]
          congr 3
          exact congrArg Sum.inl (funext fun j => (a_setI_at j).symm)
  · exact a_stk_no h
set_option maxHeartbeats 1000000 in
theorem sx_lastore (hG : a_G l G) (hB : a_B f p s m args meth c R G) (hd : decode (a_c f) pc = .ok (.lastore, 1)) (J : a_J f s G c0 k0 al H locs lsA (pc, ls, st, M)) (h : a_Th kd (a_K f p l e R s m args below meth c G c0 k0 Q al M) kc (a_ex f pc 1 ls st M (.lastore))) : a_T p l e R s m args below meth c c0 k0 Q al H locs lsA (pc, ls, st, M) := by
  simp only [a_ex] at h
  split at h
  · next x i n r =>
    cases hb : (Nat.beq (a_sk n.1).1 4 && Nat.ble 4 n.1) with
    | false => rw [hb] at h; exact a_stk_no h
    | true =>
      rw [hb] at h
      obtain ⟨hb1, hb2⟩ := a_and hb
      have hs := a_beq hb1
      have h4 := Nat.le_of_ble_eq_true hb2
      have hinb : vp_in i (a_ln M n) := a_inb_in h.1
      have hK := h.2
      rcases (ok_h (ok_t (ok_t J.2.2.2.2.2.1)) : a_okn M n) with ⟨h5, -⟩ | ⟨-, hq⟩
      · omega
      obtain ⟨LP, fE, hP, hD, hal, hin⟩ := J.1
      obtain ⟨q0, hq0⟩ := a_HR.at (D := G.2.1) (s0 := G.1) hal h4 hq
      have hq1 := hq0
      rw [a_ce4 hs] at hq0
      rw [a_ln_own h4] at hinb
      refine va_last hB.1 hB.2.1 (hB.K hG) hP hD J.2.2.2.1 q0 3 hq0 rfl hinb hd (a_after (M' := (M.1, M.2.1, a_setL M.2.2.1 n.1 n.2 i.toNatClampNeg x, M.2.2.2)) J h4 hq hD hal hin hq1 rfl (fun s' q' hne => ⟨fun _ => rfl, fun _ => rfl, a_setL_ne hne⟩) (fun i => J.2.1.1 n.1 n.2 i h4 hq) (ok_t (ok_t (ok_t J.2.2.2.2.2.1))) hK ?_)
      rw [a_ce4 hs]
      congr 4
      exact congrArg Sum.inl (funext fun j => (a_setL_at j).symm)
  · exact a_stk_no h
set_option maxHeartbeats 1000000 in
theorem sx_aastore (hG : a_G l G) (hB : a_B f p s m args meth c R G) (hd : decode (a_c f) pc = .ok (.aastore, 1)) (J : a_J f s G c0 k0 al H locs lsA (pc, ls, st, M)) (h : a_Th kd (a_K f p l e R s m args below meth c G c0 k0 Q al M) kc (a_ex f pc 1 ls st M (.aastore))) : a_T p l e R s m args below meth c c0 k0 Q al H locs lsA (pc, ls, st, M) := by
  simp only [a_ex] at h
  split at h
  · next x i n r =>
    cases hb : (Nat.beq (a_sk n.1).1 5 && Nat.ble 4 n.1 && Nat.beq (a_sk x.1).1 0 && Nat.beq (a_sk x.1).2.1 (a_sk n.1).2.1) with
    | false => rw [hb] at h; exact a_stk_no h
    | true =>
      rw [hb] at h
      obtain ⟨hb1, hb6⟩ := a_and hb
      obtain ⟨hb1, hb5⟩ := a_and hb1
      obtain ⟨hb1, hb2⟩ := a_and hb1
      have hs := a_beq hb1
      have h4 := Nat.le_of_ble_eq_true hb2
      have hx0 := a_beq hb5
      have hxc := a_beq hb6
      have hinb : vp_in i (a_ln M n) := a_inb_in h.1
      have hK := h.2
      rcases (ok_h (ok_t (ok_t J.2.2.2.2.2.1)) : a_okn M n) with ⟨h5, -⟩ | ⟨-, hq⟩
      · omega
      obtain ⟨t0, C, T, N, ht, hcl⟩ := a_t5 hs G.2.2.1
      have hxo : a_okn M x := ok_h J.2.2.2.2.2.1
      rcases hxo with ⟨h5, hkc⟩ | ⟨hx4, hxq⟩
      · exfalso
        rcases a_kc_of h5 hkc with rfl | ⟨i2, hi, rfl⟩ | ⟨i2, hi, rfl⟩ | rfl
        · cases hx0
        · have hxc : 10 = (a_sk n.1).2.1 := hxc
          rw [← hxc] at hcl
          cases hcl
        · cases hx0
        · cases hx0
      · obtain ⟨LP, fE, hP, hD, hal, hin⟩ := J.1
        obtain ⟨q0, hq0⟩ := a_HR.at (D := G.2.1) (s0 := G.1) hal h4 hq
        obtain ⟨qk, hqk⟩ := a_HR.at (D := G.2.1) (s0 := G.1) hal hx4 hxq
        have hq1 := hq0
        rw [a_ce5 hs] at hq0
        rw [a_ce_obj hx0, hxc] at hqk
        rw [a_ln_own h4] at hinb
        refine va_astq hB.1 hB.2.1 (hB.K hG) hP hD J.2.2.2.1 q0 t0 qk (a_sk n.1).2.1 hq0 ht hqk hcl hinb hd (a_after (M' := (M.1, a_setR M.2.1 n.1 n.2 i.toNatClampNeg (some x), M.2.2)) J h4 hq hD hal hin hq1 rfl (fun s' q' hne => ⟨fun _ => rfl, a_setR_ne hne, fun _ => rfl⟩) (fun j => ?_) (ok_t (ok_t (ok_t J.2.2.2.2.2.1))) hK ?_)
        · show a_okv M (.inr (.inr (a_setR M.2.1 n.1 n.2 i.toNatClampNeg (some x) n.1 n.2 j)))
          rw [a_setR_at]
          by_cases hj : j = i.toNatClampNeg
          · rw [if_pos hj]
            exact ok_h J.2.2.2.2.2.1
          · rw [if_neg hj]
            exact J.2.1.1 n.1 n.2 j h4 hq
        · rw [a_ce5 hs]
          congr 7
          funext j
          show va_up _ _ _ j = (a_setR M.2.1 n.1 n.2 i.toNatClampNeg (some x) n.1 n.2 j).map _
          rw [a_setR_at]
          unfold va_up
          by_cases hj : j = i.toNatClampNeg
          · rw [if_pos hj, if_pos hj]
            rfl
          · rw [if_neg hj, if_neg hj]
  · exact a_stk_no h
end
