/-! ===== SOUNDNESS: what a run says, the machine does (by wip/whole/gen20.py) ===== -/
def a_X3 : aA → Prop
  | .inl (_, o) => ∀ ex, o.1 = .inr ex → ex < 3
  | _ => True
theorem a_bif_3 {b : Bool} {x y : aA} (hx : a_X3 x) (hy : a_X3 y) : a_X3 (bif b then x else y) := by
  cases b
  · exact hy
  · exact hx
theorem a_thr_3 {f pc e : Nat} (h : a_thr f pc = some e) : e < 3 := by
  have : ∀ q ∈ a_thrl, q.2 < 3 := by decide
  exact this _ (a_find_mem h)
set_option maxHeartbeats 4000000 in
theorem a_call_3 {f pc idx op : Nat} {ls : List (Option aV)} {st : List aV} {M : aM} : a_X3 (a_call f pc idx op ls st M) := by
  unfold a_call
  split
  · trivial
  · split
    · split
      · exact a_bif_3 trivial trivial
      · trivial
    · split
      · exact a_bif_3 trivial trivial
      · trivial
    · split
      · exact a_bif_3 trivial trivial
      · trivial
    · split
      · exact a_bif_3 trivial trivial
      · trivial
    · split
      · exact a_bif_3 trivial trivial
      · trivial
    · exact a_bif_3 trivial trivial
set_option maxHeartbeats 4000000 in
theorem a_ex_3 {f pc len : Nat} {ls : List (Option aV)} {st : List aV} {M : aM} {i : Instr} : a_X3 (a_ex f pc len ls st M i) := by
  unfold a_ex
  split
  all_goals first
    | exact trivial
    | exact a_call_3
    | (split <;> first
        | exact trivial
        | exact a_bif_3 trivial trivial
        | exact a_bif_3 (a_bif_3 trivial (a_bif_3 trivial trivial)) trivial
        | exact (fun ex h => by cases h)
        | (split <;> first
            | exact trivial
            | exact a_bif_3 trivial trivial
            | exact (fun ex h => by cases h)
            | (next e he => exact a_bif_3 (fun ex h => by cases h; exact a_thr_3 he) trivial)))
theorem a_bk_le {n f g : Nat} {x : aS} {o1 o : aO} (h : a_bk f g x o1 (a_run n f) = some o) : a_le o1.2 o.2 := by
  obtain ⟨r, M1⟩ := o1
  rcases r with r | e
  · cases r with
    | none => exact a_run_mono n f _ o h
    | some v => exact a_run_mono n f _ o h
  · simp only [a_bk] at h
    cases hn : a_nt g with
    | true => rw [hn] at h; cases h
    | false =>
      rw [hn] at h
      simp only [cond_false] at h
      cases hh : a_hd e x.1 (a_hn f) with
      | none =>
        rw [hh] at h
        have h : some (.inr e, M1) = some o := h
        cases h
        exact a_le.refl
      | some q =>
        rw [hh] at h
        exact a_run_mono n f _ o h
theorem a_run_3 : ∀ (n f : Nat) (x : aS) (o : aO), a_run n f x = some o → ∀ ex, o.1 = .inr ex → ex < 3
  | 0, _, _, _, h => by cases h
  | n + 1, f, x, o, h => by
    have h : a_st (a_run n f) (a_run n) f x = some o := h
    have h3 : a_X3 (a_one f x) := by
      unfold a_one
      split
      · exact a_ex_3
      · trivial
    unfold a_st at h
    cases hx : a_one f x with
    | inl q =>
      rw [hx] at h h3
      obtain ⟨b, o'⟩ := q
      cases b with
      | false => cases h
      | true =>
        have h : some o' = some o := h
        cases h
        exact h3
    | inr q =>
      rw [hx] at h
      rcases q with ⟨b, s'⟩ | ⟨l, d⟩ | ⟨g, as, s'⟩
      · cases b with
        | false => cases h
        | true => exact a_run_3 n f s' o h
      · have h : a_alt (a_run n f) l d = some o := h
        rw [a_alt_pick] at h
        exact a_run_3 n f _ o h
      · have h : (a_run n g (a_en g as s'.2.2.2)).bind (fun o => a_bk f g s' o (a_run n f)) = some o := h
        cases hk : a_run n g (a_en g as s'.2.2.2) with
        | none => rw [hk] at h; cases h
        | some x1 =>
          rw [hk] at h
          have h1 := a_run_3 n g _ x1 hk
          have h : a_bk f g s' x1 (a_run n f) = some o := h
          obtain ⟨r, M1⟩ := x1
          rcases r with r | e
          · cases r with
            | none => exact a_run_3 n f _ o h
            | some v => exact a_run_3 n f _ o h
          · simp only [a_bk] at h
            cases hn : a_nt g with
            | true => rw [hn] at h; cases h
            | false =>
              rw [hn] at h
              simp only [cond_false] at h
              cases hh : a_hd e s'.1 (a_hn f) with
              | none =>
                rw [hh] at h
                have h : some (.inr e, M1) = some o := h
                cases h
                exact h1
              | some q =>
                rw [hh] at h
                exact a_run_3 n f _ o h
theorem a_cpI_ne {I : Nat → Nat → Nat → Int32} {s q : Nat} {g : Nat → Int32} {s' q' : Nat} (h : ¬ (s' = s ∧ q' = q)) (j : Nat) : a_cpI I s q g s' q' j = I s' q' j := by
  have h1 := a_nn h true
  unfold a_cpI
  rw [show (Nat.beq s' s && Nat.beq q' q) = false by simpa using h1]
  rfl
theorem a_cpI_at {I : Nat → Nat → Nat → Int32} {s q : Nat} {g : Nat → Int32} (j : Nat) : a_cpI I s q g s q j = g j := by
  unfold a_cpI
  rw [a_rb, a_rb]
  rfl
def a_tIns : Prop := ∀ f, f < 355 → ∀ pc i len, a_ins f pc = some (i, len) → decode (a_c f) pc = .ok (i, len) ∧ a_lok i len = true
/-- all that the tables say -/
def a_tAll (G : aG) : Prop := a_tC ∧ a_tL ∧ a_tG ∧ a_tCls ∧ a_tF ∧ a_tI ∧ a_tS ∧ a_tT G ∧ a_tAO G ∧ a_tH ∧ a_tNc G ∧ a_tCall ∧ a_tIns
section
variable {p : Program} {l : Launch} {e : Env} {R : Room} {s : State} {m : MethodId} {args : Array Value} {below : List Frame} {meth : Method} {c : Code}
variable {G : aG} {f n : Nat} {al0 : Nat → Nat → Nat} {M0 : aM} {o : aO} {kd : aO → Prop}
variable {al : Nat → Nat → Nat} {H : Heap} {locs : List Loc} {lsA : Array Slot} {pc : Nat} {ls : List (Option aV)} {st : List aV} {M : aM}
set_option maxHeartbeats 4000000 in
theorem sx_invoke {idx op : Nat} {ig : Instr} (hG : a_G l G) (hW0 : ∀ w ∈ lw_gd, ∃ a0, w.before a0 G.1 = true) (hS : a_Snd l G n) (tA : a_tAll G) (hf : f < 355) (hB : a_B f p s m args meth c R G) (hop : (op = 0 ∧ ig = .invokevirtual idx) ∨ (op = 1 ∧ ig = .invokestatic idx) ∨ (op = 2 ∧ ig = .invokespecial idx)) (hd : decode (a_c f) pc = .ok (ig, 3))
    (J : a_J f s G M0.2.2.2.2.1 M0.2.2.2.2.2 al H locs lsA (pc, ls, st, M)) (hRo : o.2.2.2.2.2.1 - M0.2.2.2.2.1 ≤ R.cells ∧ o.2.2.2.2.2.2 - M0.2.2.2.2.2 ≤ R.slots) (hx0 : a_ext al0 al M0) (hm0 : ∀ s, M0.2.2.2.1 s ≤ M.2.2.2.1 s)
    (h : a_Th kd (a_K f p l e R s m args below meth c G M0.2.2.2.2.1 M0.2.2.2.2.2 (a_Q G al0 M0 o below args s M0.2.2.2.2.1 M0.2.2.2.2.2) al M) (fun g as x => ∃ o1, a_run n g (a_en g as x.2.2.2) = some o1 ∧ a_bk f g x o1 (a_run n f) = some o) (a_call f pc idx op ls st M)) :
    a_T p l e R s m args below meth c M0.2.2.2.2.1 M0.2.2.2.2.2 (a_Q G al0 M0 o below args s M0.2.2.2.2.1 M0.2.2.2.2.2) al H locs lsA (pc, ls, st, M) := by
  obtain ⟨tC, tL, tG, tCls, tF, tI, tS, tT, tAO, tH, tNc, tCall, tIns⟩ := tA
  have hFR := hB.2.2.2.2.2.2.2.2.2.1
  have hLR := hB.2.2.2.2.2.2.2.2.2.2.1
  unfold a_call at h
  split at h
  · exact a_stk_no h
  · next g kdd hcp =>
    have hCE := tCall _ (a_find_mem hcp)
    obtain ⟨q1, q2⟩ := a_key (i := idx) (a_own_lt f)
    simp only [q1, q2] at hCE
    split at h
    · split at h
      · next nn r =>
        cases hb : (Nat.beq op 2 && Nat.ble 1 (a_rF f) && Nat.ble (a_cs r + 12) (a_rL f)) with
        | false => rw [hb] at h; exact a_stk_no h
        | true =>
          rw [hb] at h
          obtain ⟨hb1, hb3⟩ := a_and hb
          obtain ⟨hb1, hb2⟩ := a_and hb1
          have hb1 := a_beq hb1
          have hb2 := Nat.le_of_ble_eq_true hb2
          have hb3 := Nat.le_of_ble_eq_true hb3
          obtain ⟨-, -, hK⟩ := h
          have hig : ig = .invokespecial idx := by
            rcases hop with ⟨h, -⟩ | ⟨h, -⟩ | ⟨-, h⟩
            · omega
            · omega
            · exact h
          rw [hig] at hd
          obtain ⟨w1, w2, w3⟩ := hCE
          refine W.objInit hB.1 hB.2.1 hB.own (hB.tbl _ w1) (hB.tbl _ w2) (hB.tbl _ w3) rfl (by rw [hB.2.2.1]; exact J.2.2.2.2.1.1) rfl hd (by omega) ?_ (hK al H locs lsA (J.st (ok_t J.2.2.2.2.2.1)) a_ext.refl)
          show 2 * 0 + ((r.map (cv al)).map fun v => v.category).sum + 12 ≤ _
          rw [a_cats]
          omega
      · exact a_stk_no h
    · split at h
      · next nn dp d sp b r =>
        cases hb : (Nat.beq op 1 && Nat.ble 1 (a_rF f) && Nat.ble (a_cs r + 40) (a_rL f) && Nat.beq (a_sk d.1).1 1 && Nat.beq (a_sk b.1).1 1 && Nat.ble 4 d.1 && Nat.ble 4 b.1) with
        | false => rw [hb] at h; exact a_stk_no h
        | true =>
          rw [hb] at h
          obtain ⟨hb1, hb7⟩ := a_and hb
          obtain ⟨hb1, hb6⟩ := a_and hb1
          obtain ⟨hb1, hb5⟩ := a_and hb1
          obtain ⟨hb1, hb4⟩ := a_and hb1
          obtain ⟨hb1, hb3⟩ := a_and hb1
          obtain ⟨hb1, hb2⟩ := a_and hb1
          have hb1 := a_beq hb1
          have hb2 := Nat.le_of_ble_eq_true hb2
          have hb3 := Nat.le_of_ble_eq_true hb3
          have hd1 := a_beq hb4
          have hs1 := a_beq hb5
          have hd4 := Nat.le_of_ble_eq_true hb6
          have hs4 := Nat.le_of_ble_eq_true hb7
          have hig : ig = .invokestatic idx := by
            rcases hop with ⟨h, -⟩ | ⟨-, h⟩ | ⟨h, -⟩
            · omega
            · exact h
            · omega
          rw [hig] at hd
          obtain ⟨w1, w2, w3, w4⟩ := hCE
          have hg : (decide (¬ sp < 0) && decide (¬ dp < 0) && decide (¬ nn < 0) && decide (sp.toNatClampNeg + nn.toNatClampNeg ≤ (a_sk b.1).2.2) && decide (dp.toNatClampNeg + nn.toNatClampNeg ≤ (a_sk d.1).2.2)) = true := h.1
          obtain ⟨g1, g5⟩ := a_and hg
          obtain ⟨g1, g4⟩ := a_and g1
          obtain ⟨g1, g3⟩ := a_and g1
          obtain ⟨g1, g2⟩ := a_and g1
          have g1 := of_decide_eq_true g1
          have g2 := of_decide_eq_true g2
          have g3 := of_decide_eq_true g3
          have g4 := of_decide_eq_true g4
          have g5 := of_decide_eq_true g5
          have hK := h.2
          have hdq : d.2 < M.2.2.2.1 d.1 := by
            rcases (ok_h (ok_t (ok_t J.2.2.2.2.2.1)) : a_okn M d) with ⟨h5, -⟩ | ⟨-, h5⟩
            · omega
            · exact h5
          have hsq : b.2 < M.2.2.2.1 b.1 := by
            rcases (ok_h (ok_t (ok_t (ok_t (ok_t J.2.2.2.2.2.1)))) : a_okn M b) with ⟨h5, -⟩ | ⟨-, h5⟩
            · omega
            · exact h5
          obtain ⟨LP, fE, hP, hD, hal, hin⟩ := J.1
          obtain ⟨q0, hq0⟩ := a_HR.at (D := G.2.1) (s0 := G.1) hal hs4 hsq
          obtain ⟨q9, hq9⟩ := a_HR.at (D := G.2.1) (s0 := G.1) hal hd4 hdq
          have hq9' := hq9
          rw [a_ce1 hs1] at hq0
          rw [a_ce1 hd1] at hq9
          refine va_copyi hB.1 hB.2.1 (by rw [hB.2.2.1]; exact J.2.2.2.2.1.1.symm) hB.own (hB.tbl _ w1) (hB.tbl _ w2) (hB.tbl _ w3) (hB.tbl _ w4) (hB.K hG) hP hD J.2.2.2.1 q0 q9 0 0 hq0 hq9 rfl rfl rfl g1 g2 g3 g4 g5 (fun _ _ => rfl) (by omega) ?_ hd (a_after (M' := (a_cpI M.1 d.1 d.2 (va_cpy (M.1 b.1 b.2) (M.1 d.1 d.2) sp.toNatClampNeg dp.toNatClampNeg nn.toNatClampNeg), M.2)) J hd4 hdq hD hal hin hq9' rfl (fun s' q' hne => ⟨a_cpI_ne hne, fun _ => rfl, fun _ => rfl⟩) (fun i => J.2.1.1 d.1 d.2 i hd4 hdq) (ok_t (ok_t (ok_t (ok_t (ok_t J.2.2.2.2.2.1))))) hK ?_)
          · rw [a_cats]
            show a_cs r + (nativeFrameWords "java/lang/System" "arraycopy" 5 + 11) ≤ _
            rw [show nativeFrameWords "java/lang/System" "arraycopy" 5 = 7 by decide +kernel]
            omega
          · rw [a_ce1 hd1]
            congr 3
            exact congrArg Sum.inl (funext fun j => (a_cpI_at j).symm)
      · exact a_stk_no h
    · split at h
      · next xx r =>
        cases hb : (Nat.beq op 1 && Nat.ble 1 (a_rF f) && Nat.ble (a_cs r + 13) (a_rL f)) with
        | false => rw [hb] at h; exact a_stk_no h
        | true =>
          rw [hb] at h
          obtain ⟨hb1, hb3⟩ := a_and hb
          obtain ⟨hb1, hb2⟩ := a_and hb1
          have hb1 := a_beq hb1
          have hb2 := Nat.le_of_ble_eq_true hb2
          have hb3 := Nat.le_of_ble_eq_true hb3
          obtain ⟨-, hR, hK⟩ := h
          have hig : ig = .invokestatic idx := by
            rcases hop with ⟨h, -⟩ | ⟨-, h⟩ | ⟨h, -⟩
            · omega
            · exact h
            · omega
          rw [hig] at hd
          obtain ⟨w1, w2, w3, w4⟩ := hCE
          exact va_mabs hB.1 hB.2.1 (by rw [hB.2.2.1]; exact J.2.2.2.2.1.1.symm) hB.own (hB.tbl _ w1) (hB.tbl _ w2) (hB.tbl _ w3) (hB.tbl _ w4) (by omega) (by rw [a_cats]; omega) hR.1 hR.2 hd (hK al H locs lsA (J.st (ok_c trivial (ok_t J.2.2.2.2.2.1))) a_ext.refl)
      · exact a_stk_no h
    · split at h
      · next yy xx r =>
        cases hb : (Nat.beq op 1 && Nat.ble 1 (a_rF f) && Nat.ble (a_cs r + 13) (a_rL f)) with
        | false => rw [hb] at h; exact a_stk_no h
        | true =>
          rw [hb] at h
          obtain ⟨hb1, hb3⟩ := a_and hb
          obtain ⟨hb1, hb2⟩ := a_and hb1
          have hb1 := a_beq hb1
          have hb2 := Nat.le_of_ble_eq_true hb2
          have hb3 := Nat.le_of_ble_eq_true hb3
          obtain ⟨-, hR, hK⟩ := h
          have hig : ig = .invokestatic idx := by
            rcases hop with ⟨h, -⟩ | ⟨-, h⟩ | ⟨h, -⟩
            · omega
            · exact h
            · omega
          rw [hig] at hd
          obtain ⟨w1, w2, w3, w4⟩ := hCE
          exact va_mmin hB.1 hB.2.1 (by rw [hB.2.2.1]; exact J.2.2.2.2.1.1.symm) hB.own (hB.tbl _ w1) (hB.tbl _ w2) (hB.tbl _ w3) (hB.tbl _ w4) (by omega) (by rw [a_cats]; omega) hR.1 hR.2 hd (hK al H locs lsA (J.st (ok_c trivial (ok_t (ok_t J.2.2.2.2.2.1)))) a_ext.refl)
      · exact a_stk_no h
    · split at h
      · next yy xx r =>
        cases hb : (Nat.beq op 1 && Nat.ble 1 (a_rF f) && Nat.ble (a_cs r + 13) (a_rL f)) with
        | false => rw [hb] at h; exact a_stk_no h
        | true =>
          rw [hb] at h
          obtain ⟨hb1, hb3⟩ := a_and hb
          obtain ⟨hb1, hb2⟩ := a_and hb1
          have hb1 := a_beq hb1
          have hb2 := Nat.le_of_ble_eq_true hb2
          have hb3 := Nat.le_of_ble_eq_true hb3
          obtain ⟨-, hR, hK⟩ := h
          have hig : ig = .invokestatic idx := by
            rcases hop with ⟨h, -⟩ | ⟨-, h⟩ | ⟨h, -⟩
            · omega
            · exact h
            · omega
          rw [hig] at hd
          obtain ⟨w1, w2, w3, w4⟩ := hCE
          exact va_mmax hB.1 hB.2.1 (by rw [hB.2.2.1]; exact J.2.2.2.2.1.1.symm) hB.own (hB.tbl _ w1) (hB.tbl _ w2) (hB.tbl _ w3) (hB.tbl _ w4) (by omega) (by rw [a_cats]; omega) hR.1 hR.2 hd (hK al H locs lsA (J.st (ok_c trivial (ok_t (ok_t J.2.2.2.2.2.1)))) a_ext.refl)
      · exact a_stk_no h
    · next hk3 hk4 hk9 hk10 hk11 =>
      generalize hbb : (Nat.beq (a_ko kdd) op && Nat.ble (a_na g) (a_ml g) && Nat.ble (a_na g) st.length && Nat.ble (a_rF g + 1) (a_rF f) && Nat.ble (8 + (a_ml g + 11) + a_rL g) (a_rL f) && Nat.ble (a_cs (st.drop (a_na g))) 8 && ((st.take (a_na g)).all (fun v => Nat.beq (a_cat v) 1)) && a_rck kdd g (st.take (a_na g)).reverse) = bb at h
      cases bb with
      | false => exact a_stk_no h
      | true =>
        obtain ⟨b1, b8⟩ := a_and hbb
        obtain ⟨b1, b7⟩ := a_and b1
        obtain ⟨b1, b6⟩ := a_and b1
        obtain ⟨b1, b5⟩ := a_and b1
        obtain ⟨b1, b4⟩ := a_and b1
        obtain ⟨b1, b3⟩ := a_and b1
        obtain ⟨b1, b2⟩ := a_and b1
        obtain ⟨o1, hrun, hback⟩ := h
        have hle := a_bk_le hback
        have hRo1 : o1.2.2.2.2.2.1 - M0.2.2.2.2.1 ≤ R.cells ∧ o1.2.2.2.2.2.2 - M0.2.2.2.2.2 ≤ R.slots := by
          have h1 := hle.1
          have h2 := hle.2.1
          omega
        refine a_inv hG hW0 hS tCls tH tNc (fun g as M o1 hr => a_run_3 n g _ o1 hr) hf hB hop hd J hCE (a_beq b1) (Nat.le_of_ble_eq_true b2) (Nat.le_of_ble_eq_true b3) (Nat.le_of_ble_eq_true b4) (Nat.le_of_ble_eq_true b5) (Nat.le_of_ble_eq_true b6) (fun v hv => a_beq (List.all_eq_true.mp b7 v hv)) ⟨?_, ?_, ?_⟩ hrun hback hRo hRo1 hx0 hm0
        · rintro (rfl | rfl) <;> exact b8
        · rintro (rfl | rfl) <;> exact a_and b8
        · rintro rfl
          exact b8
end
set_option maxHeartbeats 8000000 in
/-- SOUNDNESS -/
theorem a_sound {l : Launch} {G : aG} (hG : a_G l G) (hW0 : ∀ w ∈ lw_gd, ∃ a0, w.before a0 G.1 = true) (tA : a_tAll G) : ∀ n, a_Snd l G n := by
  have tA' := tA
  obtain ⟨tC, tL, tG, tCls, tF, tI, tS, tT, tAO, tH, tNc, tCall, tIns⟩ := tA'
  intro n
  induction n with
  | zero =>
    intro f hf x o hr
    cases hr
  | succ n ih =>
    intro f hf x o hrun p e R s m args below meth c al0 M0 al H locs lsA hB hRo hx0 hm0 J
    obtain ⟨pc, ls, st, M⟩ := x
    have hst : a_st (a_run n f) (a_run n) f (pc, ls, st, M) = some o := hrun
    unfold a_st a_one at hst
    cases hins : a_ins f pc with
    | none =>
      simp only [hins] at hst
      cases hst
    | some q =>
      obtain ⟨i, len⟩ := q
      simp only [hins] at hst
      obtain ⟨hd, hlen⟩ := tIns f hf pc i len hins
      have hKW : ∀ x', a_le M x'.2.2.2 → a_run n f x' = some o → a_K f p l e R s m args below meth c G M0.2.2.2.2.1 M0.2.2.2.2.2 (a_Q G al0 M0 o below args s M0.2.2.2.2.1 M0.2.2.2.2.2) al M x' := by
        intro x' hle hx'
        have hmo := a_run_mono n f x' o hx'
        refine ⟨⟨?_, ?_⟩, fun al' H' locs' lsA' J' hx => ?_⟩
        · have := hmo.1; omega
        · have := hmo.2.1; omega
        · exact ih f hf x' o hx' p e R s m args below meth c al0 M0 al' H' locs' lsA' hB hRo (hx0.trans hx hm0) (fun z => Nat.le_trans (hm0 z) (hle.2.2 z)) J'
      have h : a_Th (fun o' => o' = o) (a_K f p l e R s m args below meth c G M0.2.2.2.2.1 M0.2.2.2.2.2 (a_Q G al0 M0 o below args s M0.2.2.2.2.1 M0.2.2.2.2.2) al M) (fun g as x => ∃ o1, a_run n g (a_en g as x.2.2.2) = some o1 ∧ a_bk f g x o1 (a_run n f) = some o) (a_ex f pc len ls st M i) := by
        have hle := a_ex_le (f := f) (pc := pc) (len := len) (ls := ls) (st := st) (M := M) (i := i)
        cases hx : a_ex f pc len ls st M i with
        | inl q =>
          rw [hx] at hst
          obtain ⟨b, o'⟩ := q
          cases b with
          | false => cases hst
          | true =>
            have hst : some o' = some o := hst
            exact ⟨rfl, Option.some.inj hst⟩
        | inr q =>
          rw [hx] at hst hle
          rcases q with ⟨b, s'⟩ | ⟨l', d⟩ | ⟨g, as, s'⟩
          · cases b with
            | false => cases hst
            | true => exact ⟨rfl, hKW s' hle hst⟩
          · have hst : a_alt (a_run n f) l' d = some o := hst
            rw [a_alt_pick] at hst
            exact hKW _ (a_pick_le l' d hle.1 hle.2) hst
          · have hst : (a_run n g (a_en g as s'.2.2.2)).bind (fun o => a_bk f g s' o (a_run n f)) = some o := hst
            cases hk : a_run n g (a_en g as s'.2.2.2) with
            | none => rw [hk] at hst; cases hst
            | some x1 =>
              rw [hk] at hst
              exact ⟨x1, hk, hst⟩
      cases i with
      | aaload => have hl := a_beq hlen; subst hl; exact sx_aaload hG hB hd J h
      | aastore => have hl := a_beq hlen; subst hl; exact sx_aastore hG hB hd J h
      | aconst_null => have hl := a_beq hlen; subst hl; exact sx_null hB hd J h
      | aload x0 => have hl := a_beq hlen; subst hl; exact sx_aload hB hd J h
      | aload_n x0 => have hl := a_beq hlen; subst hl; exact sx_aload_n hB hd J h
      | anewarray x0 => have hl := a_beq hlen; subst hl; exact sx_anewarray hG tS tAO tCls hf hB hd J h
      | areturn => have hl := a_beq hlen; subst hl; exact sx_areturn hx0 hB hd J h
      | arraylength => have hl := a_beq hlen; subst hl; exact sx_arraylength hG hB hd J h
      | astore x0 => have hl := a_beq hlen; subst hl; exact sx_astore hB hd J h
      | astore_n x0 => have hl := a_beq hlen; subst hl; exact sx_astore_n hB hd J h
      | athrow => exact a_stk_no h
      | baload => have hl := a_beq hlen; subst hl; exact sx_baload hG hB hd J h
      | bastore => have hl := a_beq hlen; subst hl; exact sx_bastore hG hB hd J h
      | bipush x0 => have hl := a_beq hlen; subst hl; exact sx_bipush hB hd J h
      | caload => exact a_stk_no h
      | castore => exact a_stk_no h
      | checkcast x0 => exact a_stk_no h
      | d2f => exact a_stk_no h
      | d2i => exact a_stk_no h
      | d2l => exact a_stk_no h
      | dadd => exact a_stk_no h
      | daload => exact a_stk_no h
      | dastore => exact a_stk_no h
      | dcmp x0 => exact a_stk_no h
      | dconst x0 => exact a_stk_no h
      | ddiv => exact a_stk_no h
      | dload x0 => exact a_stk_no h
      | dload_n x0 => exact a_stk_no h
      | dmul => exact a_stk_no h
      | dneg => exact a_stk_no h
      | drem => exact a_stk_no h
      | dreturn => exact a_stk_no h
      | dstore x0 => exact a_stk_no h
      | dstore_n x0 => exact a_stk_no h
      | dsub => exact a_stk_no h
      | dup => have hl := a_beq hlen; subst hl; exact sx_dup hB hd J h
      | dup_x1 => exact a_stk_no h
      | dup_x2 => exact a_stk_no h
      | dup2 => have hl := a_beq hlen; subst hl; exact sx_dup2 hB hd J h
      | dup2_x1 => exact a_stk_no h
      | dup2_x2 => exact a_stk_no h
      | f2d => exact a_stk_no h
      | f2i => exact a_stk_no h
      | f2l => exact a_stk_no h
      | fadd => exact a_stk_no h
      | faload => exact a_stk_no h
      | fastore => exact a_stk_no h
      | fcmp x0 => exact a_stk_no h
      | fconst x0 => exact a_stk_no h
      | fdiv => exact a_stk_no h
      | fload x0 => exact a_stk_no h
      | fload_n x0 => exact a_stk_no h
      | fmul => exact a_stk_no h
      | fneg => exact a_stk_no h
      | frem => exact a_stk_no h
      | freturn => exact a_stk_no h
      | fstore x0 => exact a_stk_no h
      | fstore_n x0 => exact a_stk_no h
      | fsub => exact a_stk_no h
      | getfield x0 => have hl := a_beq hlen; subst hl; exact sx_getfield hG tCls tF hB hd J h
      | getstatic x0 => have hl := a_beq hlen; subst hl; exact sx_getstatic hG tG hB hd J h
      | goto x0 => have hl := a_beq hlen; subst hl; exact sx_goto hB hd J h
      | goto_w x0 => exact a_stk_no h
      | i2b => have hl := a_beq hlen; subst hl; exact sx_i2b hB hd J h
      | i2c => have hl := a_beq hlen; subst hl; exact sx_i2c hB hd J h
      | i2d => exact a_stk_no h
      | i2f => exact a_stk_no h
      | i2l => have hl := a_beq hlen; subst hl; exact sx_i2l hB hd J h
      | i2s => exact a_stk_no h
      | iadd => have hl := a_beq hlen; subst hl; exact sx_iadd hB hd J h
      | iaload => have hl := a_beq hlen; subst hl; exact sx_iaload hG hB hd J h
      | iand => have hl := a_beq hlen; subst hl; exact sx_iand hB hd J h
      | iastore => have hl := a_beq hlen; subst hl; exact sx_iastore hG hB hd J h
      | iconst x0 => have hl := a_beq hlen; subst hl; exact sx_iconst hB hd J h
      | idiv => have hl := a_beq hlen; subst hl; exact sx_idiv hB hd J h
      | if_acmp x0 x1 => exact a_stk_no h
      | if_icmp x0 x1 => have hl := a_beq hlen; subst hl; exact sx_if_icmp hB hd J h
      | ifCond x0 x1 => have hl := a_beq hlen; subst hl; exact sx_ifCond hB hd J h
      | ifnonnull x0 => have hl := a_beq hlen; subst hl; exact sx_ifnonnull hB hd J h
      | ifnull x0 => exact a_stk_no h
      | iinc x0 x1 => have hl := a_beq hlen; subst hl; exact sx_iinc hB hd J h
      | iload x0 => have hl := a_beq hlen; subst hl; exact sx_iload hB hd J h
      | iload_n x0 => have hl := a_beq hlen; subst hl; exact sx_iload_n hB hd J h
      | imul => have hl := a_beq hlen; subst hl; exact sx_imul hB hd J h
      | ineg => have hl := a_beq hlen; subst hl; exact sx_ineg hB hd J h
      | instanceof x0 => exact a_stk_no h
      | invokedynamic x0 => exact a_stk_no h
      | invokeinterface x0 x1 => exact a_stk_no h
      | invokespecial x0 => have hl := a_beq hlen; subst hl; exact sx_invoke hG hW0 ih tA hf hB (Or.inr (Or.inr ⟨rfl, rfl⟩)) hd J hRo hx0 hm0 h
      | invokestatic x0 => have hl := a_beq hlen; subst hl; exact sx_invoke hG hW0 ih tA hf hB (Or.inr (Or.inl ⟨rfl, rfl⟩)) hd J hRo hx0 hm0 h
      | invokevirtual x0 => have hl := a_beq hlen; subst hl; exact sx_invoke hG hW0 ih tA hf hB (Or.inl ⟨rfl, rfl⟩) hd J hRo hx0 hm0 h
      | ior => have hl := a_beq hlen; subst hl; exact sx_ior hB hd J h
      | irem => have hl := a_beq hlen; subst hl; exact sx_irem hB hd J h
      | ireturn => have hl := a_beq hlen; subst hl; exact sx_ireturn hx0 hB hd J h
      | ishl => have hl := a_beq hlen; subst hl; exact sx_ishl hB hd J h
      | ishr => have hl := a_beq hlen; subst hl; exact sx_ishr hB hd J h
      | istore x0 => have hl := a_beq hlen; subst hl; exact sx_istore hB hd J h
      | istore_n x0 => have hl := a_beq hlen; subst hl; exact sx_istore_n hB hd J h
      | isub => have hl := a_beq hlen; subst hl; exact sx_isub hB hd J h
      | iushr => have hl := a_beq hlen; subst hl; exact sx_iushr hB hd J h
      | ixor => have hl := a_beq hlen; subst hl; exact sx_ixor hB hd J h
      | jsr x0 => exact a_stk_no h
      | jsr_w x0 => exact a_stk_no h
      | l2d => exact a_stk_no h
      | l2f => exact a_stk_no h
      | l2i => have hl := a_beq hlen; subst hl; exact sx_l2i hB hd J h
      | ladd => have hl := a_beq hlen; subst hl; exact sx_ladd hB hd J h
      | laload => have hl := a_beq hlen; subst hl; exact sx_laload hG hB hd J h
      | land => exact a_stk_no h
      | lastore => have hl := a_beq hlen; subst hl; exact sx_lastore hG hB hd J h
      | lcmp => have hl := a_beq hlen; subst hl; exact sx_lcmp hB hd J h
      | lconst x0 => have hl := a_beq hlen; subst hl; exact sx_lconst hB hd J h
      | ldc x0 => have hl := a_beq hlen; subst hl; exact sx_ldc hG tC hB hd J h
      | ldc_w x0 => have hl := a_beq hlen; subst hl; exact sx_ldc_w hG tC hB hd J h
      | ldc2_w x0 => have hl := a_beq hlen; subst hl; exact sx_ldc2_w tL hB hd J h
      | ldiv => exact a_stk_no h
      | lload x0 => exact a_stk_no h
      | lload_n x0 => exact a_stk_no h
      | lmul => have hl := a_beq hlen; subst hl; exact sx_lmul hB hd J h
      | lneg => exact a_stk_no h
      | lookupswitch x0 x1 => exact a_stk_no h
      | lor => exact a_stk_no h
      | lrem => have hl := a_beq hlen; subst hl; exact sx_lrem hB hd J h
      | lreturn => exact a_stk_no h
      | lshl => exact a_stk_no h
      | lshr => exact a_stk_no h
      | lstore x0 => exact a_stk_no h
      | lstore_n x0 => exact a_stk_no h
      | lsub => exact a_stk_no h
      | lushr => exact a_stk_no h
      | lxor => exact a_stk_no h
      | monitorenter => exact a_stk_no h
      | monitorexit => exact a_stk_no h
      | multianewarray x0 x1 => exact a_stk_no h
      | new x0 => have hl := a_beq hlen; subst hl; exact sx_new hG tCls tS tT hf hx0 hB hd J hRo h
      | newarray x0 => have hl := a_beq hlen; subst hl; exact sx_newarray hG tS hf hB hd J h
      | nop => exact a_stk_no h
      | pop => have hl := a_beq hlen; subst hl; exact sx_pop hB hd J h
      | pop2 => exact a_stk_no h
      | putfield x0 => have hl := a_beq hlen; subst hl; exact sx_putfield hG tCls tF tI hB hd J h
      | putstatic x0 => exact a_stk_no h
      | ret x0 => exact a_stk_no h
      | return_ => have hl := a_beq hlen; subst hl; exact sx_return hx0 hB hd J h
      | saload => exact a_stk_no h
      | sastore => exact a_stk_no h
      | sipush x0 => have hl := a_beq hlen; subst hl; exact sx_sipush hB hd J h
      | swap => exact a_stk_no h
      | tableswitch x0 x1 x2 x3 => exact sx_tableswitch hB hd J h
