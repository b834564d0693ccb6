/-! ===== rows of instructions: new cells, throws, returns ===== -/
def a_En (e : Nat) : String := match e with
  | 0 => "java/lang/IllegalArgumentException"
  | 1 => "java/lang/IllegalStateException"
  | _ => "java/lang/IndexOutOfBoundsException"
/-- what a run leaves: its answer, and a heap that holds the new memory -/
def a_Qc (G : aG) (al0 : Nat → Nat → Nat) (M0 : aM) (o : aO) : Array Value → State → Outcome → State → Prop := fun _ st oc t => ∃ (al' : Nat → Nat → Nat) (rv : Option aV), o.1 = .inl rv ∧ oc = .returned (rv.map (cv al')) ∧ a_ext al0 al' M0 ∧ a_HR G.2.1 G.2.2.1 G.1 al' o.2 t.heap ∧ a_MW G.2.2.2.2.1 G.2.2.2.2.2.2.1 G.2.2.2.2.2.2.2.2.2 o.2 ∧ a_AL G.2.2.2.1 G.2.2.2.2.2.1 G.2.2.2.2.2.2.2.1 G.2.2.2.2.2.2.2.2.1 al' ∧ (∀ v, rv = some v → a_okv o.2 v) ∧ va_F (a_A G.1) st t
def a_XC (G : aG) (al0 : Nat → Nat → Nat) (M0 : aM) (o : aO) : String → State → State → Prop := fun E st t => ∃ (al' : Nat → Nat → Nat) (ex : Nat), o.1 = .inr ex ∧ E = a_En ex ∧ a_ext al0 al' M0 ∧ a_HR G.2.1 G.2.2.1 G.1 al' o.2 t.heap ∧ a_MW G.2.2.2.2.1 G.2.2.2.2.2.2.1 G.2.2.2.2.2.2.2.2.2 o.2 ∧ a_AL G.2.2.2.1 G.2.2.2.2.2.1 G.2.2.2.2.2.2.2.1 G.2.2.2.2.2.2.2.2.1 al' ∧ va_F (a_A G.1) st t
def a_Q (G : aG) (al0 : Nat → Nat → Nat) (M0 : aM) (o : aO) (below : List Frame) (args : Array Value) (s : State) (c0 k0 : Nat) : State → Prop := vx_MQ below (a_Qc G al0 M0 o) (a_XC G al0 M0 o) args s (o.2.2.2.2.2.1 - c0) (o.2.2.2.2.2.2 - k0) (a_A G.1)
def a_nm : List String := ["java/lang/RuntimeException", "java/lang/Exception"]
/-- what the tables say of throws -/
def a_tT (G : aG) : Prop := ∀ e ∈ a_thrl, a_hh (e.1 % 512) = [] ∧ a_own (e.1 % 512) = 7 ∧ e.2 < 3 ∧ ∃ (ik is ic : Nat) (text : String) (sa : Nat), decode (a_c (e.1 % 512)) (e.1 / 512) = .ok (.new ik, 3) ∧ decode (a_c (e.1 % 512)) (e.1 / 512 + 3) = .ok (.dup, 1) ∧
  ((decode (a_c (e.1 % 512)) (e.1 / 512 + 4) = .ok (.ldc is, 2) ∧ decode (a_c (e.1 % 512)) (e.1 / 512 + 6) = .ok (.invokespecial ic, 3) ∧ decode (a_c (e.1 % 512)) (e.1 / 512 + 9) = .ok (.athrow, 1)) ∨ (decode (a_c (e.1 % 512)) (e.1 / 512 + 4) = .ok (.ldc_w is, 3) ∧ decode (a_c (e.1 % 512)) (e.1 / 512 + 7) = .ok (.invokespecial ic, 3) ∧ decode (a_c (e.1 % 512)) (e.1 / 512 + 10) = .ok (.athrow, 1))) ∧
  Cond.classLink RX7 ik (a_En e.2) ∈ lw_gd ∧ Cond.initialized (a_En e.2) ∈ lw_gd ∧ vk_R RX7 is text sa G.1 ∧ (∀ w ∈ vx_atS RX7 ic (a_En e.2) a_nm, w ∈ lw_gd) ∧ ∀ w ∈ Cond.classLink RX7 ik (a_En e.2) :: Cond.initialized (a_En e.2) :: vx_atS RX7 ic (a_En e.2) a_nm, vx_ot w = true
def a_tAO (G : aG) : Prop := ∀ s, s < 33 → (a_sk s).1 = 5 → va_AO (a_Rn (a_sk s).2.1) G.1
theorem a_HR.kept {D : va_G} {tyc : Nat → ClassId} {s0 : State} {al : Nat → Nat → Nat} {M M' : aM} {H H1 : Heap} (h : a_HR D tyc s0 al M H) (hk : ∀ q, q < H.size → H1[q]? = H[q]?) (h1 : M'.1 = M.1) (h2 : M'.2.1 = M.2.1) (h3 : M'.2.2.1 = M.2.2.1) (h4 : M'.2.2.2.1 = M.2.2.2.1) : a_HR D tyc s0 al M' H1 := by
  obtain ⟨LP, fE, hP, hD, hal, hin⟩ := h
  refine ⟨LP, fE, hP.kept (fun k q hq => hk q.1 (hP k q hq).lt), hD, fun s q g4 gq => ?_, ?_⟩
  · rw [h4] at gq
    rw [a_ce_congr (M := M) (fun k => by rw [h1]) (fun k => by rw [h2]) (fun k => by rw [h3])]
    exact hal s q g4 gq
  · rw [h4]
    exact hin
theorem a_MW.same {L : Nat} {xs : Nat → Int32} {sb : List (List Int32)} {M M' : aM} (h : a_MW L xs sb M) (h1 : M'.1 = M.1) (h2 : M'.2.1 = M.2.1) (h4 : M'.2.2.2.1 = M.2.2.2.1) : a_MW L xs sb M' := by
  obtain ⟨w1, w2, w3⟩ := h
  refine ⟨fun s q k g4 gq => ?_, ?_, ?_⟩
  · rw [h4] at gq
    rw [h2]
    exact a_okv_of h4 (w1 s q k g4 gq)
  · rw [h1, h4]
    exact w2
  · rw [h1, h2]
    exact w3
section
variable {p : Program} {l : Launch} {e : Env} {R : Room} {s : State} {m : MethodId} {args : Array Value} {below : List Frame} {meth : Method} {c : Code}
variable {G : aG} {f c0 k0 : Nat} {kc : Nat → List aV → aS → Prop} {al0 : Nat → Nat → Nat} {M0 : aM} {o : aO}
variable {al : Nat → Nat → Nat} {H : Heap} {locs : List Loc} {lsA : Array Slot} {pc : Nat} {ls : List (Option aV)} {st : List aV} {M : aM}
theorem sx_ireturn (hx0 : a_ext al0 al M0) (hB : a_B f p s m args meth c R G) (hd : decode (a_c f) pc = .ok (.ireturn, 1)) (J : a_J f s G c0 k0 al H locs lsA (pc, ls, st, M)) (h : a_Th (fun o' => o' = o) (a_K f p l e R s m args below meth c G c0 k0 (a_Q G al0 M0 o below args s c0 k0) al M) kc (a_ex f pc 1 ls st M .ireturn)) : a_T p l e R s m args below meth c c0 k0 (a_Q G al0 M0 o below args s c0 k0) al H locs lsA (pc, ls, st, M) := by
  simp only [a_ex] at h
  split at h
  · next x =>
    obtain ⟨hr, ho⟩ := h
    subst ho
    have hrt := hB.2.2.2.1
    have hlk := hB.2.2.2.2.1
    have fin : ∀ ty, a_rt f = some ty → narrow ty (.int x) = .int x → a_T p l e R s m args below meth c c0 k0 (a_Q G al0 M0 (.inl (some (.inl x)), M) below args s c0 k0) al H locs lsA (pc, ls, [.inl x], M) := by
      intro ty ht hn
      rw [ht] at hrt
      exact vx_ret (W.zret hB.1 hB.2.1 hrt hn (fun t hh hW => ⟨al, some (.inl x), rfl, rfl, hx0, by rw [hh]; exact J.1, J.2.1, J.2.2.1, fun v hv => by cases hv; trivial, J.2.2.2.1.F hh⟩) J.2.2.2.1.2.2 hd hlk)
    unfold a_rok at hr
    split at hr
    · next ht => exact fin _ ht rfl
    · next ht => exact fin _ ht (by rcases a_bz_or hr with rfl | rfl <;> rfl)
    · next ty _ _ ht => exact fin _ ht (of_decide_eq_true hr)
    · cases hr
  · exact a_stk_no h
theorem sx_return (hx0 : a_ext al0 al M0) (hB : a_B f p s m args meth c R G) (hd : decode (a_c f) pc = .ok (.return_, 1)) (J : a_J f s G c0 k0 al H locs lsA (pc, ls, st, M)) (h : a_Th (fun o' => o' = o) (a_K f p l e R s m args below meth c G c0 k0 (a_Q G al0 M0 o below args s c0 k0) al M) kc (a_ex f pc 1 ls st M .return_)) : a_T p l e R s m args below meth c c0 k0 (a_Q G al0 M0 o below args s c0 k0) al H locs lsA (pc, ls, st, M) := by
  simp only [a_ex] at h
  split at h
  · next ht =>
    obtain ⟨-, ho⟩ := h
    subst ho
    have hrt := hB.2.2.2.1
    have hlk := hB.2.2.2.2.1
    rw [ht] at hrt
    exact vx_ret (W.vret hB.1 hB.2.1 hrt (fun t hh hW => ⟨al, none, rfl, rfl, hx0, by rw [hh]; exact J.1, J.2.1, J.2.2.1, fun v hv => (by cases hv), J.2.2.2.1.F hh⟩) J.2.2.2.1.2.2 hd hlk)
  · exact a_stk_no h
theorem sx_areturn (hx0 : a_ext al0 al M0) (hB : a_B f p s m args meth c R G) (hd : decode (a_c f) pc = .ok (.areturn, 1)) (J : a_J f s G c0 k0 al H locs lsA (pc, ls, st, M)) (h : a_Th (fun o' => o' = o) (a_K f p l e R s m args below meth c G c0 k0 (a_Q G al0 M0 o below args s c0 k0) al M) kc (a_ex f pc 1 ls st M .areturn)) : a_T p l e R s m args below meth c c0 k0 (a_Q G al0 M0 o below args s c0 k0) al H locs lsA (pc, ls, st, M) := by
  simp only [a_ex] at h
  split at h
  · next x =>
    have hrt := hB.2.2.2.1
    have hlk := hB.2.2.2.2.1
    have fin : ∀ rt, a_rt f = some rt → ((∃ n, rt = .object n) ∨ ∃ t, rt = .array t) → o = (.inl (some (.inr (.inr x))), M) → a_T p l e R s m args below meth c c0 k0 (a_Q G al0 M0 o below args s c0 k0) al H locs lsA (pc, ls, [.inr (.inr x)], M) := by
      intro rt ht hk ho
      subst ho
      rw [ht] at hrt
      have hv : cv al (.inr (.inr x)) = .null ∨ ∃ a, cv al (.inr (.inr x)) = .ref a := by
        cases x with
        | none => exact Or.inl rfl
        | some n => exact Or.inr ⟨_, rfl⟩
      exact vx_ret (W.aret hB.1 hB.2.1 hrt hk hv (fun t hh hW => ⟨al, some (.inr (.inr x)), rfl, rfl, hx0, by rw [hh]; exact J.1, J.2.1, J.2.2.1, fun v hv => by cases hv; exact ok_h J.2.2.2.2.2.1, J.2.2.2.1.F hh⟩) J.2.2.2.1.2.2 hd hlk)
    split at h
    · next n ht => exact fin _ ht (Or.inl ⟨n, rfl⟩) h.2.symm
    · next n ht => exact fin _ ht (Or.inr ⟨n, rfl⟩) h.2.symm
    · exact a_stk_no h
  · exact a_stk_no h
set_option maxHeartbeats 1000000 in
theorem sx_new (hG : a_G l G) (tCls : a_tCls) (tS : a_tS) (tT : a_tT G) (hf : f < 355) {k : Nat} (hx0 : a_ext al0 al M0) (hB : a_B f p s m args meth c R G) (hd : decode (a_c f) pc = .ok (.new k, 3)) (J : a_J f s G c0 k0 al H locs lsA (pc, ls, st, M)) (hRo : o.2.2.2.2.2.1 - c0 ≤ R.cells ∧ o.2.2.2.2.2.2 - k0 ≤ R.slots) (h : a_Th (fun o' => o' = o) (a_K f p l e R s m args below meth c G c0 k0 (a_Q G al0 M0 o below args s c0 k0) al M) kc (a_ex f pc 3 ls st M (.new k))) : a_T p l e R s m args below meth c c0 k0 (a_Q G al0 M0 o below args s c0 k0) al H locs lsA (pc, ls, st, M) := by
  have hkey : (f + 512 * pc) % 512 = f ∧ (f + 512 * pc) / 512 = pc := by omega
  simp only [a_ex] at h
  split at h
  · next si hsi =>
    obtain ⟨-, hR, hK⟩ := h
    have hR : M.2.2.2.2.1 + 1 - c0 ≤ R.cells ∧ M.2.2.2.2.2 + (a_sk si).2.2 - k0 ≤ R.slots := hR
    have hc0 : c0 ≤ M.2.2.2.2.1 := J.2.2.2.2.2.2.1
    have hk0 : k0 ≤ M.2.2.2.2.2 := J.2.2.2.2.2.2.2
    obtain ⟨h4, h33, hs⟩ := tS _ (a_find_mem hsi)
    simp only [hkey.1, hkey.2] at hs
    rcases hs with ⟨hs0, k', hd', hw1, hw2, hw3⟩ | ⟨hs0, t, hd', -⟩ | ⟨hs0, k', hd', -⟩
    · rw [hd] at hd'
      have hkk : k = k' := by injection hd' with h1; injection h1 with h1 h2; injection h1
      subst hkk
      obtain ⟨LP, fE, hP, hD, hal, hin⟩ := J.1
      obtain ⟨C, T, hcl⟩ := a_sk_obj hs0 h4
      obtain ⟨hC, hws, ⟨ty0, ht0, htk⟩, -, -⟩ := tCls _ C T _ hcl
      rw [← hC] at hw1 hw2 hw3
      refine va_new (fs := (List.range (a_sk si).2.2).map (fun k => bif Nat.beq (a_fr (a_sk si).2.1 k) 2 then .null else .int 0)) hB.1 hB.2.1 hB.tbl hws ty0 ht0 hB.own (hB.tbl _ hw1) (hB.tbl _ hw2) (hB.tbl _ hw3) (hB.K hG) hP hD J.2.2.2.1 hB.hA hcl (fun j hj => ?_) (by show M.2.2.2.2.1 - c0 + 1 ≤ _; omega) (by show M.2.2.2.2.2 - k0 + _ ≤ _; omega) hd (fun q H1 hP1 hD1 hS1 => ?_)
      · unfold vp_V
        rw [List.getD_eq_getElem?_getD, a_rg hj]
        rcases htk j hj with ⟨g1, g2⟩ | ⟨g1, g2⟩ | ⟨g1, ⟨z, g2⟩ | ⟨z, g2⟩⟩ <;> rw [g1, g2] <;> rfl
      · have hE : (Sum.inr ((a_sk si).2.1, (List.range (a_sk si).2.2).map (fun k => bif Nat.beq (a_fr (a_sk si).2.1 k) 2 then Value.null else .int 0)) : va_E) = a_ce G.2.2.1 (a_nal al si (M.2.2.2.1 si) q) (a_mk M si (a_sk si).2.2) si (M.2.2.2.1 si) := by
          rw [a_ce_obj hs0]
          congr 2
          apply List.map_congr_left
          intro k hk
          show (bif _ then Value.null else .int 0) = bif _ then cv _ (.inr (.inr (a_clr none M.2.1 si (M.2.2.2.1 si) si (M.2.2.2.1 si) k))) else .int (a_clr 0 M.1 si (M.2.2.2.1 si) si (M.2.2.2.1 si) k)
          rw [a_clr_at, a_clr_at]
          rfl
        obtain ⟨J1, hx, hm⟩ := a_born (pc' := pc + 3) (n := (a_sk si).2.2) J h4 hal hin hP1 hD1 hS1 hE J.2.2.2.2.2.1
        have hT := hK _ _ _ _ J1 hx
        have hT : W p l e R s m args below meth c H1 locs (M.2.2.2.2.1 + 1 - c0) (M.2.2.2.2.2 + (a_sk si).2.2 - k0) _ (F0 m (pc + 3) lsA (.ref (a_nal al si (M.2.2.2.1 si) q si (M.2.2.2.1 si)) :: st.map (cv (a_nal al si (M.2.2.2.1 si) q)))) := hT
        rw [hm, show a_nal al si (M.2.2.2.1 si) q si (M.2.2.2.1 si) = q from if_pos ⟨rfl, rfl⟩, show M.2.2.2.2.1 + 1 - c0 = M.2.2.2.2.1 - c0 + 1 by omega, show M.2.2.2.2.2 + (a_sk si).2.2 - k0 = M.2.2.2.2.2 - k0 + (a_sk si).2.2 by omega] at hT
        exact hT
    · rw [hd] at hd'; cases hd'
    · rw [hd] at hd'; cases hd'
  · split at h
    · next ex hex =>
      cases hb : (Nat.ble 6 (a_rF f) && Nat.ble (a_cs st + 82) (a_rL f)) with
      | false => rw [hb] at h; exact a_stk_no h
      | true =>
        rw [hb] at h
        obtain ⟨hb1, hb2⟩ := a_and hb
        have hb1 := Nat.le_of_ble_eq_true hb1
        have hb2 := Nat.le_of_ble_eq_true hb2
        obtain ⟨-, ho⟩ := h
        subst ho
        have hc0 : c0 ≤ M.2.2.2.2.1 := J.2.2.2.2.2.2.1
        have hk0 : k0 ≤ M.2.2.2.2.2 := J.2.2.2.2.2.2.2
        have hRo : M.2.2.2.2.1 + 1 - c0 ≤ R.cells ∧ M.2.2.2.2.2 + 6 - k0 ≤ R.slots := hRo
        obtain ⟨t1, t2, t3, ik, is, ic, text, sa, d0, d3, d4, w1, w2, w3, w4, w5⟩ := tT _ (a_find_mem hex)
        simp only [hkey.1, hkey.2] at t1 t2 d0 d3 d4
        have hown := hB.own
        rw [t2] at hown
        have hx : ∀ t : State, s.vm.Alike t.vm → H.size ≤ t.heap.size → (∀ q : Nat, q < H.size → t.heap[q]? = H[q]?) → a_XC G al0 M0 (.inr ex, (M.1, M.2.1, M.2.2.1, M.2.2.2.1, M.2.2.2.2.1 + 1, M.2.2.2.2.2 + 6)) (a_En ex) s t := by
          intro t hv hz hk
          refine ⟨al, ex, rfl, rfl, hx0, J.1.kept hk rfl rfl rfl rfl, J.2.1.same rfl rfl rfl, J.2.2.1, Nat.le_trans J.2.2.2.1.1 hz, fun q hq hA => ?_⟩
          rw [hk q (Nat.lt_of_lt_of_le hq J.2.2.2.1.1)]
          exact J.2.2.2.1.2.1 q hq hA
        have hcats : ((st.map (cv al)).map fun v => v.category).sum = a_cs st := by
          unfold a_cs
          rw [List.map_map]
          congr 1
          apply List.map_congr_left
          intro v _
          exact cv_cat al v
        have hF := hB.2.2.2.2.2.2.2.2.2.1
        have hLo := hB.2.2.2.2.2.2.2.2.2.2.1
        have hsz : lsA.size = c.maxLocals := by rw [hB.2.2.1]; exact J.2.2.2.2.1.1
        have hout : ∀ pc', ∀ x ∈ c.exceptionTable.toList, covers x pc' = false := by
          intro pc' x hx
          rw [hB.2.2.2.2.2.2.2.2.1, t1] at hx
          cases hx
        have hZ1 : vx_Zq Bundle.tN "UNASSIGNED_STACK" Bundle.steD (a_A G.1) s s.heap := ⟨(hG.2.2.1.1.1.moved hB.warm.alike).kept hB.low, (hG.2.2.1.1.2.moved hB.warm.alike).kept hB.low⟩
        have hZ2 : vx_Zq Bundle.tN "SUPPRESSED_SENTINEL" Bundle.listD (a_A G.1) s s.heap := ⟨(hG.2.2.1.2.1.moved hB.warm.alike).kept hB.low, (hG.2.2.1.2.2.moved hB.warm.alike).kept hB.low⟩
        have hfit : ∀ n ∈ a_nm, Bundle.fit n = true := by decide +kernel
        have hcf : Bundle.fit (a_En ex) = true := by
          rcases (show ex = 0 ∨ ex = 1 ∨ ex = 2 by omega) with rfl | rfl | rfl <;> decide +kernel
        rcases d4 with ⟨e4, e6, e9⟩ | ⟨e4, e7, e10⟩
        · exact vx_throwS hB.1 hB.2.1 hG.1 hown hcf hfit (hB.tbl _ w1) (hB.tbl _ w2) (w3.warm hB.warm) (fun w hw => hB.tbl _ (w4 w hw)) w5 hZ1 hZ2 J.2.2.2.1 hsz d0 d3 e4 e6 e9 (hout _) (by show 2 + 3 < _; omega) (by rw [hcats]; show a_cs st + (13 * (2 + 1) + 43) ≤ _; omega) (by show M.2.2.2.2.1 - c0 + 1 ≤ _; omega) (by show M.2.2.2.2.2 - k0 + 6 ≤ _; omega) hB.2.2.2.2.1 hx J.2.2.2.1.2.2 (by show M.2.2.2.2.1 - c0 + 1 ≤ M.2.2.2.2.1 + 1 - c0; omega) (by show M.2.2.2.2.2 - k0 + 6 ≤ M.2.2.2.2.2 + 6 - k0; omega)
        · exact vx_throwSW hB.1 hB.2.1 hG.1 hown hcf hfit (hB.tbl _ w1) (hB.tbl _ w2) (w3.warm hB.warm) (fun w hw => hB.tbl _ (w4 w hw)) w5 hZ1 hZ2 J.2.2.2.1 hsz d0 d3 e4 e7 e10 (hout _) (by show 2 + 3 < _; omega) (by rw [hcats]; show a_cs st + (13 * (2 + 1) + 43) ≤ _; omega) (by show M.2.2.2.2.1 - c0 + 1 ≤ _; omega) (by show M.2.2.2.2.2 - k0 + 6 ≤ _; omega) hB.2.2.2.2.1 hx J.2.2.2.1.2.2 (by show M.2.2.2.2.1 - c0 + 1 ≤ M.2.2.2.2.1 + 1 - c0; omega) (by show M.2.2.2.2.2 - k0 + 6 ≤ M.2.2.2.2.2 + 6 - k0; omega)
    · exact a_stk_no h
end
