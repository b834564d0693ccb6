/-! ===== a method's contract out of its run ===== -/
def a_Pc (G : aG) (al : Nat → Nat → Nat) (M : aM) (as : List aV) : Array Value → State → Prop := fun a U => a = (as.map (cv al)).toArray ∧ G.1.WarmedH U.vm ∧ (∀ q, q < G.1.heap.size → U.heap[q]? = G.1.heap[q]?) ∧ G.1.heap.size ≤ U.heap.size ∧ a_HR G.2.1 G.2.2.1 G.1 al M U.heap ∧ a_MW G.2.2.2.2.1 G.2.2.2.2.2.2.1 G.2.2.2.2.2.2.2.2.2 M ∧ a_AL G.2.2.2.1 G.2.2.2.2.2.1 G.2.2.2.2.2.2.2.1 G.2.2.2.2.2.2.2.2.1 al
theorem a_Pc_blind {G : aG} {al : Nat → Nat → Nat} {M : aM} {as : List aV} : FrameBlind (a_Pc G al M as) := fun _ _ _ _ h => h
/-- soundness, as far as n instructions deep -/
def a_Snd (l : Launch) (G : aG) (n : Nat) : Prop := ∀ (f : Nat), f < 355 → ∀ (x : aS) (o : aO), a_run n f x = some o → ∀ (p : Program) (e : Env) (R : Room) (s : State) (m : MethodId) (args : Array Value) (below : List Frame) (meth : Method) (c : Code) (al0 : Nat → Nat → Nat) (M0 : aM) (al : Nat → Nat → Nat) (H : Heap) (locs : List Loc) (lsA : Array Slot),
  a_B f p s m args meth c R G → (o.2.2.2.2.2.1 - M0.2.2.2.2.1 ≤ R.cells ∧ o.2.2.2.2.2.2 - M0.2.2.2.2.2 ≤ R.slots) → a_ext al0 al M0 → (∀ s, M0.2.2.2.1 s ≤ x.2.2.2.2.2.2.1 s) → a_J f s G M0.2.2.2.2.1 M0.2.2.2.2.2 al H locs lsA x → a_T p l e R s m args below meth c M0.2.2.2.2.1 M0.2.2.2.2.2 (a_Q G al0 M0 o below args s M0.2.2.2.2.1 M0.2.2.2.2.2) al H locs lsA x
theorem a_args_mem {al : Nat → Nat → Nat} {k : Nat} : ∀ (as : List aV) (j i : Nat) (v : aV), (∀ w ∈ as, a_cat w = 1) → a_lg (as.map some ++ List.replicate k none) i = some v → (j + i, cv al v) ∈ lv_args j (as.map (cv al)) ∧ v ∈ as
  | [], j, i, v, _, h => by
    exfalso
    have : ∀ (k i : Nat), a_lg (List.replicate k none) i = none := by
      intro k
      induction k with
      | zero => intro i; rfl
      | succ k ih =>
        intro i
        cases i with
        | zero => rfl
        | succ i => exact ih i
    rw [show (([] : List aV).map some ++ List.replicate k none) = List.replicate k none from rfl, this] at h
    cases h
  | w :: r, j, 0, v, _, h => by
    have h : some w = some v := h
    cases h
    exact ⟨List.mem_cons_self, List.mem_cons_self⟩
  | w :: r, j, i + 1, v, hc, h => by
    have h : a_lg (r.map some ++ List.replicate k none) i = some v := h
    obtain ⟨h1, h2⟩ := a_args_mem (al := al) r (j + 1) i v (fun z hz => hc z (List.mem_cons_of_mem _ hz)) h
    refine ⟨List.mem_cons_of_mem _ ?_, List.mem_cons_of_mem _ h2⟩
    rw [if_neg (by rw [cv_cat, hc w List.mem_cons_self]; decide), show j + (i + 1) = j + 1 + i by omega]
    exact h1
theorem a_sl_len {al : Nat → Nat → Nat} : ∀ (as : List aV), (∀ w ∈ as, a_cat w = 1) → (lg_sl (as.map (cv al))).length = as.length
  | [], _ => rfl
  | w :: r, h => by
    show ((if (cv al w).category = 2 then [Slot.val (cv al w), Slot.second] else [Slot.val (cv al w)]) ++ lg_sl (r.map (cv al))).length = _
    rw [if_neg (by rw [cv_cat, h w List.mem_cons_self]; decide), List.length_append, a_sl_len r (fun z hz => h z (List.mem_cons_of_mem _ hz)), List.length_cons, Nat.add_comm]
    rfl
/-- what the tables say of a method that is called -/
def a_mk0 (g : Nat) : Prop := g < 355 ∧ plainName (a_y g).cls = true ∧ ((a_y g).cls ≠ "java/lang/invoke/MethodHandle" ∧ (a_y g).cls ≠ "java/lang/invoke/VarHandle") ∧ Cond.initialized (a_y g).cls ∈ lw_gd ∧ (a_y g).cls = a_Rn (a_own g)
def a_rm (g mc ms : Nat) : Room := { frames := a_rF g, cells := mc, slots := ms, locals := a_rL g }
set_option maxHeartbeats 1000000 in
theorem a_body {l : Launch} {G : aG} {n : Nat} (hW0 : ∀ w ∈ lw_gd, ∃ a0, w.before a0 G.1 = true) (hS : a_Snd l G n) {g : Nat} (hg : a_mk0 g) {as : List aV} {M : aM} {o1 : aO} (hr : a_run n g (a_en g as M) = some o1) (hlen : as.length ≤ a_ml g) (hok : ∀ v ∈ as, a_okv M v) (hcat : ∀ v ∈ as, a_cat v = 1) {al : Nat → Nat → Nat}
    {p : Program} {e : Env} {s : State} {m : MethodId} {args : Array Value} {below : List Frame} {meth : Method} {c : Code} {s₁ : State} {ws : List Cond} (B : BodyLoose p l (a_y g) (headSpec ws (a_rm g (o1.2.2.2.2.2.1 - M.2.2.2.2.1) (o1.2.2.2.2.2.2 - M.2.2.2.2.2))) (a_c g) (a_ml g) (a_rt g) e s m args below meth c s₁) (hml : c.maxLocals = a_ml g) (htab : c.exceptionTable.toList = tableOf (a_hh g)) (hPc : a_Pc G al M as args s) :
    W p l e (headSpec ws (a_rm g (o1.2.2.2.2.2.1 - M.2.2.2.2.1) (o1.2.2.2.2.2.2 - M.2.2.2.2.2))).room s m args below meth c s.heap [] 0 0 (vx_MQ below (a_Qc G al M o1) (a_XC G al M o1) args s (o1.2.2.2.2.2.1 - M.2.2.2.2.1) (o1.2.2.2.2.2.2 - M.2.2.2.2.2) (a_A G.1)) (entryFrame m args (a_ml g)) := by
  obtain ⟨rfl, hw, hlow, hsz, hHR, hMW, hAL⟩ := hPc
  have hB : a_B g p s m (as.map (cv al)).toArray meth c (headSpec ws (a_rm g (o1.2.2.2.2.2.1 - M.2.2.2.2.1) (o1.2.2.2.2.2.2 - M.2.2.2.2.2))).room G := by
    refine ⟨B.exec, B.bytes, hml, B.returns, B.notSynchronized, ?_, fun w hwm => ?_, (name_of_methodNamed B.named B.method).1, htab, Nat.le_refl _, Nat.le_refl _, hw, hlow, hsz⟩
    · rw [← hg.2.2.2.2]
      exact findClass_of_methodNamed B.named
    · obtain ⟨a0, h0⟩ := hW0 w hwm
      exact a_gw_at hw (List.mem_filter.mp hwm).2 h0
  have hl := lv_entry (as.map (cv al)) (n := a_ml g) (by rw [a_sl_len as hcat]; exact hlen)
  rw [lg_entry_eq]
  generalize (lg_sl (as.map (cv al)) ++ List.replicate (a_ml g - (lg_sl (as.map (cv al))).length) Slot.unset).toArray = lsA at hl ⊢
  have hLR : a_LR (a_ml g) al M lsA (a_en g as M).2.1 := by
    refine ⟨hl.1, hl.2.1, ?_, fun i v hv => ?_⟩
    · show (as.map some ++ List.replicate (a_ml g - as.length) none).length = _
      rw [List.length_append, List.length_map, List.length_replicate]
      omega
    · obtain ⟨h1, h2⟩ := a_args_mem (al := al) as 0 i v hcat hv
      rw [Nat.zero_add] at h1
      exact ⟨hl.2.2 _ h1, hok v h2, hcat v h2⟩
  have hT := hS g hg.1 _ _ hr p e _ s m _ below meth c al M al s.heap [] lsA hB ⟨Nat.le_refl _, Nat.le_refl _⟩ a_ext.refl (fun _ => Nat.le_refl _) ⟨hHR, hMW, hAL, va_S.rf, hLR, fun v hv => (by cases hv), Nat.le_refl _, Nat.le_refl _⟩
  have hT : W p l e _ s m _ below meth c s.heap [] (M.2.2.2.2.1 - M.2.2.2.2.1) (M.2.2.2.2.2 - M.2.2.2.2.2) _ (F0 m 0 lsA []) := hT
  rw [Nat.sub_self, Nat.sub_self] at hT
  exact hT
theorem a_met {l : Launch} {G : aG} {n : Nat} (hW0 : ∀ w ∈ lw_gd, ∃ a0, w.before a0 G.1 = true) (hS : a_Snd l G n) {g : Nat} (hg : a_mk0 g) (hhh : a_hh g = []) {as : List aV} {M : aM} {o1 : aO} (hr : a_run n g (a_en g as M) = some o1) (hlen : as.length ≤ a_ml g) (hok : ∀ v ∈ as, a_okv M v) (hcat : ∀ v ∈ as, a_cat v = 1) {al : Nat → Nat → Nat} :
    vx_Met l (a_y g) [Cond.code (a_y g) (a_c g) (a_ml g) (a_rt g)] (a_rm g (o1.2.2.2.2.2.1 - M.2.2.2.2.1) (o1.2.2.2.2.2.2 - M.2.2.2.2.2)) (a_Pc G al M as) (a_Qc G al M o1) (a_XC G al M o1) (o1.2.2.2.2.2.1 - M.2.2.2.2.1) (o1.2.2.2.2.2.2 - M.2.2.2.2.2) (a_A G.1) := by
  refine vx_ofW hg.2.1 rfl (fun p e s m args below meth c s₁ B hml ht hPc => ?_)
  refine a_body hW0 hS hg hr hlen hok hcat B hml ?_ hPc
  rw [hhh]
  cases hc : c.exceptionTable.toList with
  | nil => rfl
  | cons x r => exact (ht x (by rw [hc]; exact List.mem_cons_self)).elim
theorem a_metW {l : Launch} {G : aG} {n : Nat} (hW0 : ∀ w ∈ lw_gd, ∃ a0, w.before a0 G.1 = true) (hS : a_Snd l G n) {g : Nat} (hg : a_mk0 g) {as : List aV} {M : aM} {o1 : aO} (hr : a_run n g (a_en g as M) = some o1) (hlen : as.length ≤ a_ml g) (hok : ∀ v ∈ as, a_okv M v) (hcat : ∀ v ∈ as, a_cat v = 1) {al : Nat → Nat → Nat} :
    vx_Met l (a_y g) [Cond.codeWith (a_y g) (a_c g) (a_ml g) (a_rt g) (a_hh g)] (a_rm g (o1.2.2.2.2.2.1 - M.2.2.2.2.1) (o1.2.2.2.2.2.2 - M.2.2.2.2.2)) (a_Pc G al M as) (a_Qc G al M o1) (a_XC G al M o1) (o1.2.2.2.2.2.1 - M.2.2.2.2.1) (o1.2.2.2.2.2.2 - M.2.2.2.2.2) (a_A G.1) := by
  refine vx_ofWH (hh := a_hh g) hg.2.1 rfl (fun p e s m args below meth c s₁ B hml hPc => ?_)
  exact a_body hW0 hS hg hr hlen hok hcat B hml (vx_table (x := a_y g) B (atoms_spec (ws := [Cond.codeWith (a_y g) (a_c g) (a_ml g) (a_rt g) (a_hh g)]) B.pre _ List.mem_cons_self)) hPc
/-- a method that doesn't throw -/
theorem a_noX {l : Launch} {G : aG} {y : MethodName} {ws : List Cond} {rm : Room} {Pc : Array Value → State → Prop} {al : Nat → Nat → Nat} {M : aM} {o1 : aO} {mc ms : Nat} (h : vx_Met l y ws rm Pc (a_Qc G al M o1) (a_XC G al M o1) mc ms (a_A G.1)) {rv : Option aV} (ho : o1.1 = .inl rv) : Met l y ws rm Pc (a_Qc G al M o1) mc ms (a_A G.1) := by
  intro p e ha hc hk s m args below hf happ hP hK
  obtain ⟨k, o, h1, h2, h3, h4⟩ := h p e ha hc hk s m args below hf happ hP hK
  refine ⟨k, o, h1, h2, h3, ?_⟩
  rcases h4 with h4 | ⟨q, -, E, ce, L, ⟨al', ex, hx, -⟩, -⟩
  · exact h4
  · rw [ho] at hx
    cases hx
