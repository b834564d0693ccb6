/-! ===== behind a call ===== -/
theorem a_okv.le {M M' : aM} (h : a_le M M') {v : aV} (hv : a_okv M v) : a_okv M' v := by
  rcases v with x | x | (_ | n)
  · trivial
  · trivial
  · trivial
  · rcases hv with h1 | ⟨h1, h2⟩
    · exact Or.inl h1
    · exact Or.inr ⟨h1, Nat.lt_of_lt_of_le h2 (h.2.2 _)⟩
theorem a_LR.ext {nL : Nat} {al al1 : Nat → Nat → Nat} {M M1 : aM} {lsA : Array Slot} {ls : List (Option aV)} (h : a_LR nL al M lsA ls) (hx : a_ext al al1 M) (hle : a_le M M1) : a_LR nL al1 M1 lsA ls :=
  ⟨h.1, h.2.1, h.2.2.1, fun i v hv => ⟨by rw [cv_ext hx (h.2.2.2 i v hv).2.1]; exact (h.2.2.2 i v hv).1, (h.2.2.2 i v hv).2.1.le hle, (h.2.2.2 i v hv).2.2⟩⟩
theorem a_ext.trans {al0 al al1 : Nat → Nat → Nat} {M0 M : aM} (h0 : a_ext al0 al M0) (h1 : a_ext al al1 M) (hm : ∀ s, M0.2.2.2.1 s ≤ M.2.2.2.1 s) : a_ext al0 al1 M0 := by
  intro s q h
  rw [h1 s q (h.imp id (fun z => Nat.lt_of_lt_of_le z (hm s)))]
  exact h0 s q h
/-- what the tables say of handlers -/
def a_tH : Prop := ∀ f, f < 355 → ∀ t ∈ a_hn f, t.2.2.2.2.2.2 ≠ 0 ∧ t.2.2.2.1 < 3 ∧ Cond.classLink (a_Rn (a_own f)) t.2.2.2.2.2.2 (a_En t.2.2.2.1) ∈ lw_gd ∧ Cond.castable (a_En t.2.2.2.1) (a_En t.2.2.2.1) ∈ lw_gd ∧ t.2.2.2.2.1 < a_ml f ∧
  ((∃ k : Fin 4, (k : Nat) = t.2.2.2.2.1 ∧ decode (a_c f) t.2.2.1 = .ok (.astore_n k, 1) ∧ t.2.2.2.2.2.1 = 1) ∨ (decode (a_c f) t.2.2.1 = .ok (.astore t.2.2.2.2.1, 2) ∧ t.2.2.2.2.2.1 = 2))
def a_tNc (G : aG) : Prop := ∀ i j, i < 3 → j < 3 → i ≠ j → va_Nc (a_En i) (a_En j) G.1
def a_ent (t : Nat × Nat × Nat × Nat × Nat × Nat × Nat) : ExceptionTableEntry := ⟨t.1, t.2.1, t.2.2.1, t.2.2.2.2.2.2⟩
theorem a_tab_eq (f : Nat) : tableOf (a_hh f) = (a_hn f).map a_ent := by
  unfold tableOf a_hh
  rw [List.map_map]
  rfl
/-- the first handler that takes it -/
theorem a_hd_some {ex pc : Nat} : ∀ (l : List (Nat × Nat × Nat × Nat × Nat × Nat × Nat)) (h loc : Nat), a_hd ex pc l = some (h, loc) → ∃ pre t suf, l = pre ++ t :: suf ∧ covers (a_ent t) pc = true ∧ t.2.2.2.1 = ex ∧ h = t.2.2.1 + t.2.2.2.2.2.1 ∧ loc = t.2.2.2.2.1 ∧ ∀ z ∈ pre, covers (a_ent z) pc = false ∨ z.2.2.2.1 ≠ ex
  | [], h, loc, hh => by cases hh
  | (lo, hi, hp, cc, lc, ln, ct) :: r, h, loc, hh => by
    unfold a_hd at hh
    cases hb : (Nat.ble lo pc && Nat.blt pc hi && Nat.beq cc ex) with
    | true =>
      rw [hb] at hh
      cases hh
      obtain ⟨hb1, hb2⟩ := a_and hb
      obtain ⟨hb3, hb4⟩ := a_and hb1
      refine ⟨[], _, r, rfl, ?_, a_beq hb2, rfl, rfl, fun z hz => by cases hz⟩
      have e3 := Nat.le_of_ble_eq_true hb3
      have e4 := Nat.blt_eq.mp hb4
      simp [covers, a_ent, e3, e4]
    | false =>
      rw [hb] at hh
      obtain ⟨pre, t, suf, e1, e2, e3, e4, e5, e6⟩ := a_hd_some r h loc hh
      refine ⟨(lo, hi, hp, cc, lc, ln, ct) :: pre, t, suf, by rw [e1]; rfl, e2, e3, e4, e5, fun z hz => ?_⟩
      rcases List.mem_cons.mp hz with rfl | hz
      · by_cases hcc : cc = ex
        · left
          have hb9 : ¬ (lo ≤ pc ∧ pc < hi) := by
            rintro ⟨q1, q2⟩
            rw [Nat.ble_eq_true_of_le q1, Nat.blt_eq.mpr q2, hcc, a_rb] at hb
            cases hb
          simp only [covers, a_ent]
          by_cases q1 : lo ≤ pc
          · have q2 : ¬ pc < hi := fun z => hb9 ⟨q1, z⟩
            simp [q2]
          · simp [q1]
        · exact Or.inr hcc
      · exact e6 z hz
theorem a_hd_none {ex pc : Nat} : ∀ (l : List (Nat × Nat × Nat × Nat × Nat × Nat × Nat)), a_hd ex pc l = none → ∀ z ∈ l, covers (a_ent z) pc = false ∨ z.2.2.2.1 ≠ ex
  | [], _, z, hz => by cases hz
  | (lo, hi, hp, cc, lc, ln, ct) :: r, hh, z, hz => by
    unfold a_hd at hh
    cases hb : (Nat.ble lo pc && Nat.blt pc hi && Nat.beq cc ex) with
    | true => rw [hb] at hh; cases hh
    | false =>
      rw [hb] at hh
      rcases List.mem_cons.mp hz with rfl | hz
      · by_cases hcc : cc = ex
        · left
          have hb9 : ¬ (lo ≤ pc ∧ pc < hi) := by
            rintro ⟨q1, q2⟩
            rw [Nat.ble_eq_true_of_le q1, Nat.blt_eq.mpr q2, hcc, a_rb] at hb
            cases hb
          simp only [covers, a_ent]
          by_cases q1 : lo ≤ pc
          · have q2 : ¬ pc < hi := fun z => hb9 ⟨q1, z⟩
            simp [q2]
          · simp [q1]
        · exact Or.inr hcc
      · exact a_hd_none r hh z hz
section
variable {p : Program} {l : Launch} {e : Env} {R : Room} {s : State} {m : MethodId} {args : Array Value} {below : List Frame} {meth : Method} {c : Code}
variable {G : aG} {f n g : Nat} {al0 : Nat → Nat → Nat} {M0 : aM} {o o1 : aO}
variable {al : Nat → Nat → Nat} {H : Heap} {locs : List Loc} {lsA : Array Slot} {pc : Nat} {ls : List (Option aV)} {st rest as : List aV} {M : aM} {A : Array Value}
set_option maxHeartbeats 2000000 in
theorem a_goes (hS : a_Snd l G n) (tH : a_tH) (tNc : a_tNc G) (tE : ∀ g as M o1, a_run n g (a_en g as M) = some o1 → ∀ ex, o1.1 = .inr ex → ex < 3) (hf : f < 355) (hB : a_B f p s m args meth c R G) (J : a_J f s G M0.2.2.2.2.1 M0.2.2.2.2.2 al H locs lsA (pc, ls, st, M)) (hrun : a_run n g (a_en g as M) = some o1) (hback : a_bk f g (pc, ls, rest, M) o1 (a_run n f) = some o) (hrest : ∀ v ∈ rest, a_okv M v)
    (hRo : o.2.2.2.2.2.1 - M0.2.2.2.2.1 ≤ R.cells ∧ o.2.2.2.2.2.2 - M0.2.2.2.2.2 ≤ R.slots) (hx0 : a_ext al0 al M0) (hm0 : ∀ s, M0.2.2.2.1 s ≤ M.2.2.2.1 s)
    (hRun : vx_Run p l e R s m args below meth c H locs (M.2.2.2.2.1 - M0.2.2.2.2.1) (M.2.2.2.2.2 - M0.2.2.2.2.2) (o1.2.2.2.2.2.1 - M.2.2.2.2.1) (o1.2.2.2.2.2.2 - M.2.2.2.2.2) (F0 m pc lsA (st.map (cv al))) (rest.map (cv al)) (a_Qc G al M o1 A) (a_XC G al M o1) (a_A G.1)) :
    a_T p l e R s m args below meth c M0.2.2.2.2.1 M0.2.2.2.2.2 (a_Q G al0 M0 o below args s M0.2.2.2.2.1 M0.2.2.2.2.2) al H locs lsA (pc, ls, st, M) := by
  have hle : a_le M o1.2 := a_run_mono n g _ o1 hrun
  have hc0 : M0.2.2.2.2.1 ≤ M.2.2.2.2.1 := J.2.2.2.2.2.2.1
  have hk0 : M0.2.2.2.2.2 ≤ M.2.2.2.2.2 := J.2.2.2.2.2.2.2
  have e1c : M.2.2.2.2.1 - M0.2.2.2.2.1 + (o1.2.2.2.2.2.1 - M.2.2.2.2.1) = o1.2.2.2.2.2.1 - M0.2.2.2.2.1 := by have := hle.1; omega
  have e1k : M.2.2.2.2.2 - M0.2.2.2.2.2 + (o1.2.2.2.2.2.2 - M.2.2.2.2.2) = o1.2.2.2.2.2.2 - M0.2.2.2.2.2 := by have := hle.2.1; omega
  intro T hT X
  rcases hRun T hT X with ⟨v, st₀, t, T', L, h0, X', hL, e1, e2, hq, stp⟩ | ⟨q, st₀, t, T', L, E, ce, h0, X', hL, e1, e2, hxc, hce, hcv, hcl, stp⟩
  · obtain ⟨al1, rv, ho, hv, hx1, hHR, hMW, hAL, hrv, hF⟩ := hq
    obtain ⟨r1, M1⟩ := o1
    have ho : r1 = .inl rv := ho
    subst ho
    have hv : v = rv.map (cv al1) := by injection hv
    subst hv
    have hrm : rest.map (cv al1) = rest.map (cv al) := List.map_congr_left (fun w hw => cv_ext hx1 (hrest w hw))
    obtain ⟨k1, k2, k3⟩ := vx_keep h0 e1 J.2.2.2.1 (fun _ _ h => h) (fun _ h => h) hL hF
    rw [e1c, e1k] at X'
    have fin : ∀ x2 : aS, x2 = (pc + 3, ls, rv.toList ++ rest, M1) → a_run n f x2 = some o → ∃ t2, Steps p.tables e below (T.setTop (F0 m pc lsA (st.map (cv al)))) t2 ∧ a_Q G al0 M0 o below args s M0.2.2.2.2.1 M0.2.2.2.2.2 t2 := by
      intro x2 ex2 hc2
      subst ex2
      have J2 : a_J f s G M0.2.2.2.2.1 M0.2.2.2.2.2 al1 T'.heap (locs ++ L) lsA (pc + 3, ls, rv.toList ++ rest, M1) := by
        refine ⟨by rw [e1]; exact hHR, hMW, hAL, k3, J.2.2.2.2.1.ext hx1 hle, fun w hw => ?_, Nat.le_trans hc0 hle.1, Nat.le_trans hk0 hle.2.1⟩
        rcases List.mem_append.mp hw with hw | hw
        · cases rv with
          | none => cases hw
          | some z => rw [List.mem_singleton.mp hw]; exact hrv z rfl
        · exact (hrest w hw).le hle
      obtain ⟨t2, a1, b1⟩ := hS f hf _ o hc2 p e R s m args below meth c al0 M0 al1 T'.heap (locs ++ L) lsA hB hRo (hx0.trans hx1 hm0) (fun s => Nat.le_trans (hm0 s) (hle.2.2 s)) J2 T' rfl X'
      refine ⟨t2, stp t2 ?_, b1⟩
      have hst : (rv.map (cv al1)).toList ++ rest.map (cv al) = (rv.toList ++ rest).map (cv al1) := by
        rw [List.map_append, hrm]
        cases rv <;> rfl
      show Steps p.tables e below (T'.setTop (F0 m (pc + 3) lsA ((rv.map (cv al1)).toList ++ rest.map (cv al)))) t2
      rw [hst]
      exact a1
    cases rv with
    | none => exact fin _ rfl hback
    | some z => exact fin _ rfl hback
  · obtain ⟨al1, ex, ho, hE, hx1, hHR, hMW, hAL, hF⟩ := hxc
    obtain ⟨r1, M1⟩ := o1
    have hex3 : ex < 3 := tE g as M _ hrun ex ho
    have ho : r1 = .inr ex := ho
    subst ho
    subst hE
    obtain ⟨k1, k2, k3⟩ := vx_keep h0 e1 J.2.2.2.1 (fun _ _ h => h) (fun _ h => h) hL hF
    rw [e1c, e1k] at X'
    simp only [a_bk] at hback
    cases hnt : a_nt g with
    | true => rw [hnt] at hback; cases hback
    | false =>
      rw [hnt] at hback
      simp only [cond_false] at hback
      have hown := hB.own
      have htab : c.exceptionTable.toList = (a_hn f).map a_ent := by rw [hB.2.2.2.2.2.2.2.2.1, a_tab_eq]
      have hpz : ∀ z ∈ a_hn f, (covers (a_ent z) pc = false ∨ z.2.2.2.1 ≠ ex) → covers (a_ent z) pc = false ∨ ((a_ent z).catchType ≠ 0 ∧ ∃ nm : String, (Cond.classLink (a_Rn (a_own f)) (a_ent z).catchType nm).before args s = true ∧ va_Nc (a_En ex) nm s) := by
        intro z hz hh
        obtain ⟨t1, t2, t3, -⟩ := tH f hf z hz
        refine hh.imp id (fun hne => ⟨t1, a_En z.2.2.2.1, hB.tbl _ t3, ?_⟩)
        exact va_Nc.moved hB.warm.alike (tNc ex z.2.2.2.1 hex3 t2 (Ne.symm hne))
      cases hh : a_hd ex pc (a_hn f) with
      | none =>
        rw [hh] at hback
        have hback : some (.inr ex, M1) = some o := hback
        cases hback
        have hno := a_hd_none _ hh
        have hout : vx_W p l e R s m args below meth c T'.heap (locs ++ L) (M1.2.2.2.2.1 - M0.2.2.2.2.1) (M1.2.2.2.2.2 - M0.2.2.2.2.2) (a_Q G al0 M0 (.inr ex, M1) below args s M0.2.2.2.2.1 M0.2.2.2.2.2) (F0 m pc lsA (rest.map (cv al))) q := by
          refine vx_outP (E := a_En ex) (ce := ce) hown hB.2.2.2.2.1 (fun z hz => ?_) (by rw [e1]; exact hce) hcv hcl (fun t' ht' hv' => ?_) k3.2.2 (Nat.le_refl _) (Nat.le_refl _)
          · rw [htab] at hz
            obtain ⟨z', hz', rfl⟩ := List.mem_map.mp hz
            exact hpz z' hz' (hno z' hz')
          · exact ⟨al1, ex, rfl, rfl, hx0.trans hx1 hm0, by rw [ht', e1]; exact hHR, hMW, hAL, k3.F ht'⟩
        obtain ⟨t2, a1, b1⟩ := hout T' rfl X'
        exact ⟨t2, stp.trans a1, b1⟩
      | some hq =>
        obtain ⟨h', loc⟩ := hq
        rw [hh] at hback
        have hback : a_run n f (h', ls.set loc none, [], M1) = some o := hback
        obtain ⟨pre, tt, suf, hsp, hcov, hee, hh', hloc, hpre⟩ := a_hd_some _ _ _ hh
        subst hee
        have htm : tt ∈ a_hn f := by rw [hsp]; exact List.mem_append_right _ List.mem_cons_self
        obtain ⟨t1, t2, t3, t4, t5, t6⟩ := tH f hf tt htm
        have hLR1 := J.2.2.2.2.1.ext hx1 hle
        have hcat : vx_W p l e R s m args below meth c T'.heap (locs ++ L) (M1.2.2.2.2.1 - M0.2.2.2.2.1) (M1.2.2.2.2.2 - M0.2.2.2.2.2) (a_Q G al0 M0 o below args s M0.2.2.2.2.1 M0.2.2.2.2.2) (F0 m pc lsA (rest.map (cv al))) q := by
          refine vx_catch (E := a_En tt.2.2.2.1) (ce := ce) (name := a_En tt.2.2.2.1) hown (pre.map a_ent) (a_ent tt) (suf.map a_ent) (by rw [htab, hsp, List.map_append]; rfl) (fun z hz => ?_) hcov t1 (hB.tbl _ t3) (hB.tbl _ t4) (by rw [e1]; exact hce) hcv hcl ?_
          · obtain ⟨z', hz', rfl⟩ := List.mem_map.mp hz
            exact hpz z' (by rw [hsp]; exact List.mem_append_left _ hz') (hpre z' hz')
          · have fin : ∀ (len : Nat) (lsB : Array Slot), tt.2.2.2.2.2.1 = len → lv_has lsB (a_ml f) ((tt.2.2.2.2.1, Value.ref q) :: (a_lvl al1 ls).filter (fun q => !(q.1 == tt.2.2.2.2.1) && !(q.1 + 1 == tt.2.2.2.2.1 && q.2.category == 2))) → W p l e R s m args below meth c T'.heap (locs ++ L) (M1.2.2.2.2.1 - M0.2.2.2.2.1) (M1.2.2.2.2.2 - M0.2.2.2.2.2) (a_Q G al0 M0 o below args s M0.2.2.2.2.1 M0.2.2.2.2.2) (F0 m (tt.2.2.1 + len) lsB []) := by
              intro len lsB hlen hlsB
              have J2 : a_J f s G M0.2.2.2.2.1 M0.2.2.2.2.2 al1 T'.heap (locs ++ L) lsB (h', ls.set loc none, [], M1) := by
                refine ⟨by rw [e1]; exact hHR, hMW, hAL, k3, ?_, fun w hw => (by cases hw), Nat.le_trans hc0 hle.1, Nat.le_trans hk0 hle.2.1⟩
                rw [hloc]
                exact hLR1.lose t5 hlsB
              have hT2 := hS f hf _ o hback p e R s m args below meth c al0 M0 al1 T'.heap (locs ++ L) lsB hB hRo (hx0.trans hx1 hm0) (fun s => Nat.le_trans (hm0 s) (hle.2.2 s)) J2
              rw [← hlen, ← hh']
              exact hT2
            rcases t6 with ⟨k, hk, hdk, hl1⟩ | ⟨hdk, hl1⟩
            · exact lv_astore_n hB.1 hB.2.1 hdk hk hLR1.has t5 rfl (fun lsB hlsB => fin 1 lsB hl1 hlsB)
            · exact lv_astore hB.1 hB.2.1 hdk hLR1.has t5 rfl (fun lsB hlsB => fin 2 lsB hl1 hlsB)
        obtain ⟨t2, a1, b1⟩ := hcat T' rfl X'
        exact ⟨t2, stp.trans a1, b1⟩
end
