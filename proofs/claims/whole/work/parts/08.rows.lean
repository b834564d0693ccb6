/-! ===== rows of instructions: stack and locals (by wip/whole/gen8.py) ===== -/
/-- words that hold on, once they hold -/
def a_gw : Cond → Bool
  | .declares _ => true
  | .castable _ _ => true
  | .methodLinkNest _ _ _ _ => true
  | w => goodWord w
theorem a_gw_at {w : Cond} {args a' : Array Value} {s U : State} (hW : s.WarmedH U.vm) (hg : a_gw w = true) (h : w.before args s = true) : w.before a' U = true := by
  unfold a_gw at hg
  split at hg
  · exact va_Nw.use rfl (va_Nw.warmD hW (va_Nw.of rfl h))
  · exact va_Nw.use rfl (va_Nw.warmC hW (va_Nw.of rfl h))
  · exact va_Nw.use rfl (va_Nw.warmM hW (va_Nw.of rfl h))
  · exact word_at hW (good_of_word hg) h
def lw_gd : List Cond := lw_tbl.filter a_gw
/-- what the law's start gives: its state, the classes' numbers, the arrays' classes, the script's cell and length, the formatter's cell, the script, the strings' cells and their arrays, their bytes -/
abbrev aG : Type := State × va_G × (Nat → ClassId) × Nat × Nat × Nat × (Nat → Int32) × (Nat → Nat) × (Nat → Nat) × List (List Int32)
/-- a frame's method, as the tables say -/
def a_B (f : Nat) (p : Program) (s : State) (m : MethodId) (args : Array Value) (meth : Method) (c : Code) (R : Room) (G : aG) : Prop :=
  p.tables.exec = Jvm.exec ∧ c.code = a_c f ∧ c.maxLocals = a_ml f ∧ meth.sig.returnType = a_rt f ∧ meth.locks = false ∧ s.vm.findClass (a_Rn (a_own f)) = some m.cls ∧ (∀ w ∈ lw_gd, w.before args s = true) ∧ meth.name = (a_y f).name ∧ c.exceptionTable.toList = tableOf (a_hh f) ∧ a_rF f ≤ R.frames ∧ a_rL f ≤ R.locals ∧ G.1.WarmedH s.vm ∧ (∀ q, q < G.1.heap.size → s.heap[q]? = G.1.heap[q]?) ∧ G.1.heap.size ≤ s.heap.size
/-- what holds where the machine stands: the heap, the memory, the fixed addresses, what was written, the locals, the stack, what was made -/
def a_J (f : Nat) (s : State) (G : aG) (c0 k0 : Nat) (al : Nat → Nat → Nat) (H : Heap) (locs : List Loc) (lsA : Array Slot) (x : aS) : Prop :=
  a_HR G.2.1 G.2.2.1 G.1 al x.2.2.2 H ∧ a_MW G.2.2.2.2.1 G.2.2.2.2.2.2.1 G.2.2.2.2.2.2.2.2.2 x.2.2.2 ∧ a_AL G.2.2.2.1 G.2.2.2.2.2.1 G.2.2.2.2.2.2.2.1 G.2.2.2.2.2.2.2.2.1 al ∧ va_S (a_A G.1) s.heap H locs ∧ a_LR (a_ml f) al x.2.2.2 lsA x.2.1 ∧ (∀ v ∈ x.2.2.1, a_okv x.2.2.2 v) ∧ c0 ≤ x.2.2.2.2.2.2.2.1 ∧ k0 ≤ x.2.2.2.2.2.2.2.2
def a_T (p : Program) (l : Launch) (e : Env) (R : Room) (s : State) (m : MethodId) (args : Array Value) (below : List Frame) (meth : Method) (c : Code) (c0 k0 : Nat) (Q : State → Prop) (al : Nat → Nat → Nat) (H : Heap) (locs : List Loc) (lsA : Array Slot) (x : aS) : Prop :=
  W p l e R s m args below meth c H locs (x.2.2.2.2.2.2.2.1 - c0) (x.2.2.2.2.2.2.2.2 - k0) Q (F0 m x.1 lsA (x.2.2.1.map (cv al)))
def a_K (f : Nat) (p : Program) (l : Launch) (e : Env) (R : Room) (s : State) (m : MethodId) (args : Array Value) (below : List Frame) (meth : Method) (c : Code) (G : aG) (c0 k0 : Nat) (Q : State → Prop) (al : Nat → Nat → Nat) (M : aM) (x : aS) : Prop :=
  (x.2.2.2.2.2.2.2.1 - c0 ≤ R.cells ∧ x.2.2.2.2.2.2.2.2 - k0 ≤ R.slots) ∧ ∀ (al' : Nat → Nat → Nat) (H' : Heap) (locs' : List Loc) (lsA' : Array Slot), a_J f s G c0 k0 al' H' locs' lsA' x → a_ext al al' M → a_T p l e R s m args below meth c c0 k0 Q al' H' locs' lsA' x
theorem a_J.st {f : Nat} {s : State} {G : aG} {c0 k0 : Nat} {al : Nat → Nat → Nat} {H : Heap} {locs : List Loc} {lsA : Array Slot} {pc pc' : Nat} {ls : List (Option aV)} {st st' : List aV} {M : aM} (J : a_J f s G c0 k0 al H locs lsA (pc, ls, st, M)) (h : ∀ v ∈ st', a_okv M v) : a_J f s G c0 k0 al H locs lsA (pc', ls, st', M) :=
  ⟨J.1, J.2.1, J.2.2.1, J.2.2.2.1, J.2.2.2.2.1, h, J.2.2.2.2.2.2⟩
theorem ok_c {M : aM} {v : aV} {st : List aV} (h : a_okv M v) (t : ∀ w ∈ st, a_okv M w) : ∀ w ∈ v :: st, a_okv M w := fun w hw => (List.mem_cons.mp hw).elim (fun e => e ▸ h) (t w)
theorem ok_t {M : aM} {v : aV} {st : List aV} (h : ∀ w ∈ v :: st, a_okv M w) : ∀ w ∈ st, a_okv M w := fun w hw => h w (List.mem_cons_of_mem _ hw)
theorem ok_h {M : aM} {v : aV} {st : List aV} (h : ∀ w ∈ v :: st, a_okv M w) : a_okv M v := h v List.mem_cons_self
theorem a_tg_eq {pc t : Nat} {off : Int} (h : a_tg pc off = some t) : (pc : Int) + off = (t : Int) := by
  unfold a_tg at h
  cases hx : (pc : Int) + off with
  | ofNat n =>
    rw [hx] at h
    cases h
    rfl
  | negSucc n =>
    rw [hx] at h
    cases h
section
variable {p : Program} {l : Launch} {e : Env} {R : Room} {s : State} {m : MethodId} {args : Array Value} {below : List Frame} {meth : Method} {c : Code} {Q : State → Prop}
variable {G : aG} {f c0 k0 : Nat} {kd : aO → Prop} {kc : Nat → List aV → aS → Prop}
variable {al : Nat → Nat → Nat} {H : Heap} {locs : List Loc} {lsA : Array Slot} {pc : Nat} {ls : List (Option aV)} {st : List aV} {M : aM}
theorem sx_iadd (hB : a_B f p s m args meth c R G) (hd : decode (a_c f) pc = .ok (.iadd, 1)) (J : a_J f s G c0 k0 al H locs lsA (pc, ls, st, M)) (h : a_Th kd (a_K f p l e R s m args below meth c G c0 k0 Q al M) kc (a_ex f pc 1 ls st M (.iadd))) : a_T p l e R s m args below meth c c0 k0 Q al H locs lsA (pc, ls, st, M) := by
  simp only [a_ex] at h
  split at h
  · obtain ⟨-, -, hK⟩ := h
    exact lv_iadd hB.1 hB.2.1 hd (hK al H locs lsA (J.st (ok_c trivial (ok_t (ok_t J.2.2.2.2.2.1)))) a_ext.refl)
  · exact a_stk_no h
theorem sx_isub (hB : a_B f p s m args meth c R G) (hd : decode (a_c f) pc = .ok (.isub, 1)) (J : a_J f s G c0 k0 al H locs lsA (pc, ls, st, M)) (h : a_Th kd (a_K f p l e R s m args below meth c G c0 k0 Q al M) kc (a_ex f pc 1 ls st M (.isub))) : a_T p l e R s m args below meth c c0 k0 Q al H locs lsA (pc, ls, st, M) := by
  simp only [a_ex] at h
  split at h
  · obtain ⟨-, -, hK⟩ := h
    exact lv_isub hB.1 hB.2.1 hd (hK al H locs lsA (J.st (ok_c trivial (ok_t (ok_t J.2.2.2.2.2.1)))) a_ext.refl)
  · exact a_stk_no h
theorem sx_imul (hB : a_B f p s m args meth c R G) (hd : decode (a_c f) pc = .ok (.imul, 1)) (J : a_J f s G c0 k0 al H locs lsA (pc, ls, st, M)) (h : a_Th kd (a_K f p l e R s m args below meth c G c0 k0 Q al M) kc (a_ex f pc 1 ls st M (.imul))) : a_T p l e R s m args below meth c c0 k0 Q al H locs lsA (pc, ls, st, M) := by
  simp only [a_ex] at h
  split at h
  · obtain ⟨-, -, hK⟩ := h
    exact lv_imul hB.1 hB.2.1 hd (hK al H locs lsA (J.st (ok_c trivial (ok_t (ok_t J.2.2.2.2.2.1)))) a_ext.refl)
  · exact a_stk_no h
theorem sx_iand (hB : a_B f p s m args meth c R G) (hd : decode (a_c f) pc = .ok (.iand, 1)) (J : a_J f s G c0 k0 al H locs lsA (pc, ls, st, M)) (h : a_Th kd (a_K f p l e R s m args below meth c G c0 k0 Q al M) kc (a_ex f pc 1 ls st M (.iand))) : a_T p l e R s m args below meth c c0 k0 Q al H locs lsA (pc, ls, st, M) := by
  simp only [a_ex] at h
  split at h
  · obtain ⟨-, -, hK⟩ := h
    exact lv_iand hB.1 hB.2.1 hd (hK al H locs lsA (J.st (ok_c trivial (ok_t (ok_t J.2.2.2.2.2.1)))) a_ext.refl)
  · exact a_stk_no h
theorem sx_ior (hB : a_B f p s m args meth c R G) (hd : decode (a_c f) pc = .ok (.ior, 1)) (J : a_J f s G c0 k0 al H locs lsA (pc, ls, st, M)) (h : a_Th kd (a_K f p l e R s m args below meth c G c0 k0 Q al M) kc (a_ex f pc 1 ls st M (.ior))) : a_T p l e R s m args below meth c c0 k0 Q al H locs lsA (pc, ls, st, M) := by
  simp only [a_ex] at h
  split at h
  · obtain ⟨-, -, hK⟩ := h
    exact lv_ior hB.1 hB.2.1 hd (hK al H locs lsA (J.st (ok_c trivial (ok_t (ok_t J.2.2.2.2.2.1)))) a_ext.refl)
  · exact a_stk_no h
theorem sx_ixor (hB : a_B f p s m args meth c R G) (hd : decode (a_c f) pc = .ok (.ixor, 1)) (J : a_J f s G c0 k0 al H locs lsA (pc, ls, st, M)) (h : a_Th kd (a_K f p l e R s m args below meth c G c0 k0 Q al M) kc (a_ex f pc 1 ls st M (.ixor))) : a_T p l e R s m args below meth c c0 k0 Q al H locs lsA (pc, ls, st, M) := by
  simp only [a_ex] at h
  split at h
  · obtain ⟨-, -, hK⟩ := h
    exact lv_ixor hB.1 hB.2.1 hd (hK al H locs lsA (J.st (ok_c trivial (ok_t (ok_t J.2.2.2.2.2.1)))) a_ext.refl)
  · exact a_stk_no h
theorem sx_ishl (hB : a_B f p s m args meth c R G) (hd : decode (a_c f) pc = .ok (.ishl, 1)) (J : a_J f s G c0 k0 al H locs lsA (pc, ls, st, M)) (h : a_Th kd (a_K f p l e R s m args below meth c G c0 k0 Q al M) kc (a_ex f pc 1 ls st M (.ishl))) : a_T p l e R s m args below meth c c0 k0 Q al H locs lsA (pc, ls, st, M) := by
  simp only [a_ex] at h
  split at h
  · obtain ⟨-, -, hK⟩ := h
    exact lv_ishl hB.1 hB.2.1 hd (hK al H locs lsA (J.st (ok_c trivial (ok_t (ok_t J.2.2.2.2.2.1)))) a_ext.refl)
  · exact a_stk_no h
theorem sx_ishr (hB : a_B f p s m args meth c R G) (hd : decode (a_c f) pc = .ok (.ishr, 1)) (J : a_J f s G c0 k0 al H locs lsA (pc, ls, st, M)) (h : a_Th kd (a_K f p l e R s m args below meth c G c0 k0 Q al M) kc (a_ex f pc 1 ls st M (.ishr))) : a_T p l e R s m args below meth c c0 k0 Q al H locs lsA (pc, ls, st, M) := by
  simp only [a_ex] at h
  split at h
  · obtain ⟨-, -, hK⟩ := h
    exact lv_ishr hB.1 hB.2.1 hd (hK al H locs lsA (J.st (ok_c trivial (ok_t (ok_t J.2.2.2.2.2.1)))) a_ext.refl)
  · exact a_stk_no h
theorem sx_iushr (hB : a_B f p s m args meth c R G) (hd : decode (a_c f) pc = .ok (.iushr, 1)) (J : a_J f s G c0 k0 al H locs lsA (pc, ls, st, M)) (h : a_Th kd (a_K f p l e R s m args below meth c G c0 k0 Q al M) kc (a_ex f pc 1 ls st M (.iushr))) : a_T p l e R s m args below meth c c0 k0 Q al H locs lsA (pc, ls, st, M) := by
  simp only [a_ex] at h
  split at h
  · obtain ⟨-, -, hK⟩ := h
    exact lv_iushr hB.1 hB.2.1 hd rfl (hK al H locs lsA (J.st (ok_c trivial (ok_t (ok_t J.2.2.2.2.2.1)))) a_ext.refl)
  · exact a_stk_no h
theorem sx_idiv (hB : a_B f p s m args meth c R G) (hd : decode (a_c f) pc = .ok (.idiv, 1)) (J : a_J f s G c0 k0 al H locs lsA (pc, ls, st, M)) (h : a_Th kd (a_K f p l e R s m args below meth c G c0 k0 Q al M) kc (a_ex f pc 1 ls st M (.idiv))) : a_T p l e R s m args below meth c c0 k0 Q al H locs lsA (pc, ls, st, M) := by
  simp only [a_ex] at h
  split at h
  · obtain ⟨hg, -, hK⟩ := h
    exact lv_idiv hB.1 hB.2.1 hd (of_decide_eq_true hg) (hK al H locs lsA (J.st (ok_c trivial (ok_t (ok_t J.2.2.2.2.2.1)))) a_ext.refl)
  · exact a_stk_no h
theorem sx_irem (hB : a_B f p s m args meth c R G) (hd : decode (a_c f) pc = .ok (.irem, 1)) (J : a_J f s G c0 k0 al H locs lsA (pc, ls, st, M)) (h : a_Th kd (a_K f p l e R s m args below meth c G c0 k0 Q al M) kc (a_ex f pc 1 ls st M (.irem))) : a_T p l e R s m args below meth c c0 k0 Q al H locs lsA (pc, ls, st, M) := by
  simp only [a_ex] at h
  split at h
  · obtain ⟨hg, -, hK⟩ := h
    exact lv_irem hB.1 hB.2.1 hd (of_decide_eq_true hg) (hK al H locs lsA (J.st (ok_c trivial (ok_t (ok_t J.2.2.2.2.2.1)))) a_ext.refl)
  · exact a_stk_no h
theorem sx_ladd (hB : a_B f p s m args meth c R G) (hd : decode (a_c f) pc = .ok (.ladd, 1)) (J : a_J f s G c0 k0 al H locs lsA (pc, ls, st, M)) (h : a_Th kd (a_K f p l e R s m args below meth c G c0 k0 Q al M) kc (a_ex f pc 1 ls st M (.ladd))) : a_T p l e R s m args below meth c c0 k0 Q al H locs lsA (pc, ls, st, M) := by
  simp only [a_ex] at h
  split at h
  · obtain ⟨-, -, hK⟩ := h
    exact lv_ladd hB.1 hB.2.1 hd (hK al H locs lsA (J.st (ok_c trivial (ok_t (ok_t J.2.2.2.2.2.1)))) a_ext.refl)
  · exact a_stk_no h
theorem sx_lmul (hB : a_B f p s m args meth c R G) (hd : decode (a_c f) pc = .ok (.lmul, 1)) (J : a_J f s G c0 k0 al H locs lsA (pc, ls, st, M)) (h : a_Th kd (a_K f p l e R s m args below meth c G c0 k0 Q al M) kc (a_ex f pc 1 ls st M (.lmul))) : a_T p l e R s m args below meth c c0 k0 Q al H locs lsA (pc, ls, st, M) := by
  simp only [a_ex] at h
  split at h
  · obtain ⟨-, -, hK⟩ := h
    exact lv_lmul hB.1 hB.2.1 hd (hK al H locs lsA (J.st (ok_c trivial (ok_t (ok_t J.2.2.2.2.2.1)))) a_ext.refl)
  · exact a_stk_no h
theorem sx_lrem (hB : a_B f p s m args meth c R G) (hd : decode (a_c f) pc = .ok (.lrem, 1)) (J : a_J f s G c0 k0 al H locs lsA (pc, ls, st, M)) (h : a_Th kd (a_K f p l e R s m args below meth c G c0 k0 Q al M) kc (a_ex f pc 1 ls st M (.lrem))) : a_T p l e R s m args below meth c c0 k0 Q al H locs lsA (pc, ls, st, M) := by
  simp only [a_ex] at h
  split at h
  · obtain ⟨hg, -, hK⟩ := h
    exact lv_lrem hB.1 hB.2.1 hd (of_decide_eq_true hg) (hK al H locs lsA (J.st (ok_c trivial (ok_t (ok_t J.2.2.2.2.2.1)))) a_ext.refl)
  · exact a_stk_no h
theorem sx_lcmp (hB : a_B f p s m args meth c R G) (hd : decode (a_c f) pc = .ok (.lcmp, 1)) (J : a_J f s G c0 k0 al H locs lsA (pc, ls, st, M)) (h : a_Th kd (a_K f p l e R s m args below meth c G c0 k0 Q al M) kc (a_ex f pc 1 ls st M (.lcmp))) : a_T p l e R s m args below meth c c0 k0 Q al H locs lsA (pc, ls, st, M) := by
  simp only [a_ex] at h
  split at h
  · obtain ⟨-, -, hK⟩ := h
    exact W.lcmp hB.1 hB.2.1 hd (hK al H locs lsA (J.st (ok_c trivial (ok_t (ok_t J.2.2.2.2.2.1)))) a_ext.refl)
  · exact a_stk_no h
theorem sx_ineg (hB : a_B f p s m args meth c R G) (hd : decode (a_c f) pc = .ok (.ineg, 1)) (J : a_J f s G c0 k0 al H locs lsA (pc, ls, st, M)) (h : a_Th kd (a_K f p l e R s m args below meth c G c0 k0 Q al M) kc (a_ex f pc 1 ls st M (.ineg))) : a_T p l e R s m args below meth c c0 k0 Q al H locs lsA (pc, ls, st, M) := by
  simp only [a_ex] at h
  split at h
  · obtain ⟨-, -, hK⟩ := h
    exact lv_ineg hB.1 hB.2.1 hd (hK al H locs lsA (J.st (ok_c trivial (ok_t J.2.2.2.2.2.1))) a_ext.refl)
  · exact a_stk_no h
theorem sx_i2l (hB : a_B f p s m args meth c R G) (hd : decode (a_c f) pc = .ok (.i2l, 1)) (J : a_J f s G c0 k0 al H locs lsA (pc, ls, st, M)) (h : a_Th kd (a_K f p l e R s m args below meth c G c0 k0 Q al M) kc (a_ex f pc 1 ls st M (.i2l))) : a_T p l e R s m args below meth c c0 k0 Q al H locs lsA (pc, ls, st, M) := by
  simp only [a_ex] at h
  split at h
  · obtain ⟨-, -, hK⟩ := h
    exact lv_i2l hB.1 hB.2.1 hd rfl (hK al H locs lsA (J.st (ok_c trivial (ok_t J.2.2.2.2.2.1))) a_ext.refl)
  · exact a_stk_no h
theorem sx_l2i (hB : a_B f p s m args meth c R G) (hd : decode (a_c f) pc = .ok (.l2i, 1)) (J : a_J f s G c0 k0 al H locs lsA (pc, ls, st, M)) (h : a_Th kd (a_K f p l e R s m args below meth c G c0 k0 Q al M) kc (a_ex f pc 1 ls st M (.l2i))) : a_T p l e R s m args below meth c c0 k0 Q al H locs lsA (pc, ls, st, M) := by
  simp only [a_ex] at h
  split at h
  · obtain ⟨-, -, hK⟩ := h
    exact lv_l2i hB.1 hB.2.1 hd rfl (hK al H locs lsA (J.st (ok_c trivial (ok_t J.2.2.2.2.2.1))) a_ext.refl)
  · exact a_stk_no h
theorem sx_i2b (hB : a_B f p s m args meth c R G) (hd : decode (a_c f) pc = .ok (.i2b, 1)) (J : a_J f s G c0 k0 al H locs lsA (pc, ls, st, M)) (h : a_Th kd (a_K f p l e R s m args below meth c G c0 k0 Q al M) kc (a_ex f pc 1 ls st M (.i2b))) : a_T p l e R s m args below meth c c0 k0 Q al H locs lsA (pc, ls, st, M) := by
  simp only [a_ex] at h
  split at h
  · obtain ⟨-, -, hK⟩ := h
    exact lv_i2b hB.1 hB.2.1 hd rfl (hK al H locs lsA (J.st (ok_c trivial (ok_t J.2.2.2.2.2.1))) a_ext.refl)
  · exact a_stk_no h
theorem sx_i2c (hB : a_B f p s m args meth c R G) (hd : decode (a_c f) pc = .ok (.i2c, 1)) (J : a_J f s G c0 k0 al H locs lsA (pc, ls, st, M)) (h : a_Th kd (a_K f p l e R s m args below meth c G c0 k0 Q al M) kc (a_ex f pc 1 ls st M (.i2c))) : a_T p l e R s m args below meth c c0 k0 Q al H locs lsA (pc, ls, st, M) := by
  simp only [a_ex] at h
  split at h
  · obtain ⟨-, -, hK⟩ := h
    exact lv_i2c hB.1 hB.2.1 hd rfl (hK al H locs lsA (J.st (ok_c trivial (ok_t J.2.2.2.2.2.1))) a_ext.refl)
  · exact a_stk_no h
theorem sx_iconst {n : Int} (hB : a_B f p s m args meth c R G) (hd : decode (a_c f) pc = .ok (.iconst n, 1)) (J : a_J f s G c0 k0 al H locs lsA (pc, ls, st, M)) (h : a_Th kd (a_K f p l e R s m args below meth c G c0 k0 Q al M) kc (a_ex f pc 1 ls st M (.iconst n))) : a_T p l e R s m args below meth c c0 k0 Q al H locs lsA (pc, ls, st, M) := by
  simp only [a_ex] at h
  obtain ⟨-, -, hK⟩ := h
  exact lv_iconst hB.1 hB.2.1 hd rfl (hK al H locs lsA (J.st (ok_c trivial J.2.2.2.2.2.1)) a_ext.refl)
theorem sx_bipush {n : Int} (hB : a_B f p s m args meth c R G) (hd : decode (a_c f) pc = .ok (.bipush n, 2)) (J : a_J f s G c0 k0 al H locs lsA (pc, ls, st, M)) (h : a_Th kd (a_K f p l e R s m args below meth c G c0 k0 Q al M) kc (a_ex f pc 2 ls st M (.bipush n))) : a_T p l e R s m args below meth c c0 k0 Q al H locs lsA (pc, ls, st, M) := by
  simp only [a_ex] at h
  obtain ⟨-, -, hK⟩ := h
  exact lv_bipush hB.1 hB.2.1 hd rfl (hK al H locs lsA (J.st (ok_c trivial J.2.2.2.2.2.1)) a_ext.refl)
theorem sx_sipush {n : Int} (hB : a_B f p s m args meth c R G) (hd : decode (a_c f) pc = .ok (.sipush n, 3)) (J : a_J f s G c0 k0 al H locs lsA (pc, ls, st, M)) (h : a_Th kd (a_K f p l e R s m args below meth c G c0 k0 Q al M) kc (a_ex f pc 3 ls st M (.sipush n))) : a_T p l e R s m args below meth c c0 k0 Q al H locs lsA (pc, ls, st, M) := by
  simp only [a_ex] at h
  obtain ⟨-, -, hK⟩ := h
  exact lv_sipush hB.1 hB.2.1 hd rfl (hK al H locs lsA (J.st (ok_c trivial J.2.2.2.2.2.1)) a_ext.refl)
theorem sx_lconst {n : Fin 2} (hB : a_B f p s m args meth c R G) (hd : decode (a_c f) pc = .ok (.lconst n, 1)) (J : a_J f s G c0 k0 al H locs lsA (pc, ls, st, M)) (h : a_Th kd (a_K f p l e R s m args below meth c G c0 k0 Q al M) kc (a_ex f pc 1 ls st M (.lconst n))) : a_T p l e R s m args below meth c c0 k0 Q al H locs lsA (pc, ls, st, M) := by
  simp only [a_ex] at h
  obtain ⟨-, -, hK⟩ := h
  exact lv_lconst hB.1 hB.2.1 hd rfl (hK al H locs lsA (J.st (ok_c trivial J.2.2.2.2.2.1)) a_ext.refl)
theorem sx_null (hB : a_B f p s m args meth c R G) (hd : decode (a_c f) pc = .ok (.aconst_null, 1)) (J : a_J f s G c0 k0 al H locs lsA (pc, ls, st, M)) (h : a_Th kd (a_K f p l e R s m args below meth c G c0 k0 Q al M) kc (a_ex f pc 1 ls st M (.aconst_null))) : a_T p l e R s m args below meth c c0 k0 Q al H locs lsA (pc, ls, st, M) := by
  simp only [a_ex] at h
  obtain ⟨-, -, hK⟩ := h
  exact lv_null hB.1 hB.2.1 hd (hK al H locs lsA (J.st (ok_c trivial J.2.2.2.2.2.1)) a_ext.refl)
theorem sx_iload_n {n : Fin 4} (hB : a_B f p s m args meth c R G) (hd : decode (a_c f) pc = .ok (.iload_n n, 1)) (J : a_J f s G c0 k0 al H locs lsA (pc, ls, st, M)) (h : a_Th kd (a_K f p l e R s m args below meth c G c0 k0 Q al M) kc (a_ex f pc 1 ls st M (.iload_n n))) : a_T p l e R s m args below meth c c0 k0 Q al H locs lsA (pc, ls, st, M) := by
  simp only [a_ex] at h
  split at h
  · next x hx =>
    obtain ⟨-, -, hK⟩ := h
    obtain ⟨g1, g2, -⟩ := J.2.2.2.2.1.2.2.2 _ _ hx
    exact lv_iload_n hB.1 hB.2.1 hd rfl g1 (hK al H locs lsA (J.st (ok_c g2 J.2.2.2.2.2.1)) a_ext.refl)
  · exact a_stk_no h
theorem sx_iload {n : Nat} (hB : a_B f p s m args meth c R G) (hd : decode (a_c f) pc = .ok (.iload n, 2)) (J : a_J f s G c0 k0 al H locs lsA (pc, ls, st, M)) (h : a_Th kd (a_K f p l e R s m args below meth c G c0 k0 Q al M) kc (a_ex f pc 2 ls st M (.iload n))) : a_T p l e R s m args below meth c c0 k0 Q al H locs lsA (pc, ls, st, M) := by
  simp only [a_ex] at h
  split at h
  · next x hx =>
    obtain ⟨-, -, hK⟩ := h
    obtain ⟨g1, g2, -⟩ := J.2.2.2.2.1.2.2.2 _ _ hx
    exact lv_iload hB.1 hB.2.1 hd g1 (hK al H locs lsA (J.st (ok_c g2 J.2.2.2.2.2.1)) a_ext.refl)
  · exact a_stk_no h
theorem sx_aload_n {n : Fin 4} (hB : a_B f p s m args meth c R G) (hd : decode (a_c f) pc = .ok (.aload_n n, 1)) (J : a_J f s G c0 k0 al H locs lsA (pc, ls, st, M)) (h : a_Th kd (a_K f p l e R s m args below meth c G c0 k0 Q al M) kc (a_ex f pc 1 ls st M (.aload_n n))) : a_T p l e R s m args below meth c c0 k0 Q al H locs lsA (pc, ls, st, M) := by
  simp only [a_ex] at h
  split at h
  · next x hx =>
    obtain ⟨-, -, hK⟩ := h
    obtain ⟨g1, g2, -⟩ := J.2.2.2.2.1.2.2.2 _ _ hx
    cases x with
    | none => exact lv_aload_nN hB.1 hB.2.1 hd rfl g1 (hK al H locs lsA (J.st (ok_c g2 J.2.2.2.2.2.1)) a_ext.refl)
    | some q => exact lv_aload_n hB.1 hB.2.1 hd rfl g1 (hK al H locs lsA (J.st (ok_c g2 J.2.2.2.2.2.1)) a_ext.refl)
  · exact a_stk_no h
theorem sx_aload {n : Nat} (hB : a_B f p s m args meth c R G) (hd : decode (a_c f) pc = .ok (.aload n, 2)) (J : a_J f s G c0 k0 al H locs lsA (pc, ls, st, M)) (h : a_Th kd (a_K f p l e R s m args below meth c G c0 k0 Q al M) kc (a_ex f pc 2 ls st M (.aload n))) : a_T p l e R s m args below meth c c0 k0 Q al H locs lsA (pc, ls, st, M) := by
  simp only [a_ex] at h
  split at h
  · next x hx =>
    obtain ⟨-, -, hK⟩ := h
    obtain ⟨g1, g2, -⟩ := J.2.2.2.2.1.2.2.2 _ _ hx
    cases x with
    | none => exact lv_aloadN hB.1 hB.2.1 hd g1 (hK al H locs lsA (J.st (ok_c g2 J.2.2.2.2.2.1)) a_ext.refl)
    | some q => exact lv_aload hB.1 hB.2.1 hd g1 (hK al H locs lsA (J.st (ok_c g2 J.2.2.2.2.2.1)) a_ext.refl)
  · exact a_stk_no h
theorem sx_istore_n {n : Fin 4} (hB : a_B f p s m args meth c R G) (hd : decode (a_c f) pc = .ok (.istore_n n, 1)) (J : a_J f s G c0 k0 al H locs lsA (pc, ls, st, M)) (h : a_Th kd (a_K f p l e R s m args below meth c G c0 k0 Q al M) kc (a_ex f pc 1 ls st M (.istore_n n))) : a_T p l e R s m args below meth c c0 k0 Q al H locs lsA (pc, ls, st, M) := by
  simp only [a_ex] at h
  split at h
  · next x r =>
    cases hb : Nat.blt n.val ls.length with
    | false => rw [hb] at h; exact a_stk_no h
    | true =>
      rw [hb] at h
      obtain ⟨-, -, hK⟩ := h
      have hn := Nat.blt_eq.mp hb
      have hL := J.2.2.2.2.1
      rw [show ls.length = a_ml f from hL.2.2.1] at hn
      refine lv_istore_n hB.1 hB.2.1 hd rfl hL.has hn rfl (fun lsB hB2 => ?_)
      exact hK al H locs lsB ⟨J.1, J.2.1, J.2.2.1, J.2.2.2.1, hL.store (v := .inl x) hn trivial rfl hB2, ok_t J.2.2.2.2.2.1, J.2.2.2.2.2.2⟩ a_ext.refl
  · exact a_stk_no h
theorem sx_istore {n : Nat} (hB : a_B f p s m args meth c R G) (hd : decode (a_c f) pc = .ok (.istore n, 2)) (J : a_J f s G c0 k0 al H locs lsA (pc, ls, st, M)) (h : a_Th kd (a_K f p l e R s m args below meth c G c0 k0 Q al M) kc (a_ex f pc 2 ls st M (.istore n))) : a_T p l e R s m args below meth c c0 k0 Q al H locs lsA (pc, ls, st, M) := by
  simp only [a_ex] at h
  split at h
  · next x r =>
    cases hb : Nat.blt n ls.length with
    | false => rw [hb] at h; exact a_stk_no h
    | true =>
      rw [hb] at h
      obtain ⟨-, -, hK⟩ := h
      have hn := Nat.blt_eq.mp hb
      have hL := J.2.2.2.2.1
      rw [show ls.length = a_ml f from hL.2.2.1] at hn
      refine lv_istore hB.1 hB.2.1 hd hL.has hn rfl (fun lsB hB2 => ?_)
      exact hK al H locs lsB ⟨J.1, J.2.1, J.2.2.1, J.2.2.2.1, hL.store (v := .inl x) hn trivial rfl hB2, ok_t J.2.2.2.2.2.1, J.2.2.2.2.2.2⟩ a_ext.refl
  · exact a_stk_no h
theorem sx_astore_n {n : Fin 4} (hB : a_B f p s m args meth c R G) (hd : decode (a_c f) pc = .ok (.astore_n n, 1)) (J : a_J f s G c0 k0 al H locs lsA (pc, ls, st, M)) (h : a_Th kd (a_K f p l e R s m args below meth c G c0 k0 Q al M) kc (a_ex f pc 1 ls st M (.astore_n n))) : a_T p l e R s m args below meth c c0 k0 Q al H locs lsA (pc, ls, st, M) := by
  simp only [a_ex] at h
  split at h
  · next x r =>
    cases hb : Nat.blt n.val ls.length with
    | false => rw [hb] at h; exact a_stk_no h
    | true =>
      rw [hb] at h
      obtain ⟨-, -, hK⟩ := h
      have hn := Nat.blt_eq.mp hb
      have hL := J.2.2.2.2.1
      rw [show ls.length = a_ml f from hL.2.2.1] at hn
      have hv := ok_h J.2.2.2.2.2.1
      cases x with
      | none =>
        refine lv_astore_nN hB.1 hB.2.1 hd rfl hL.has hn rfl (fun lsB hB2 => ?_)
        exact hK al H locs lsB ⟨J.1, J.2.1, J.2.2.1, J.2.2.2.1, hL.store (v := .inr (.inr none)) hn trivial rfl hB2, ok_t J.2.2.2.2.2.1, J.2.2.2.2.2.2⟩ a_ext.refl
      | some q =>
        refine lv_astore_n hB.1 hB.2.1 hd rfl hL.has hn rfl (fun lsB hB2 => ?_)
        exact hK al H locs lsB ⟨J.1, J.2.1, J.2.2.1, J.2.2.2.1, hL.store (v := .inr (.inr (some q))) hn hv rfl hB2, ok_t J.2.2.2.2.2.1, J.2.2.2.2.2.2⟩ a_ext.refl
  · exact a_stk_no h
theorem sx_astore {n : Nat} (hB : a_B f p s m args meth c R G) (hd : decode (a_c f) pc = .ok (.astore n, 2)) (J : a_J f s G c0 k0 al H locs lsA (pc, ls, st, M)) (h : a_Th kd (a_K f p l e R s m args below meth c G c0 k0 Q al M) kc (a_ex f pc 2 ls st M (.astore n))) : a_T p l e R s m args below meth c c0 k0 Q al H locs lsA (pc, ls, st, M) := by
  simp only [a_ex] at h
  split at h
  · next x r =>
    cases hb : Nat.blt n ls.length with
    | false => rw [hb] at h; exact a_stk_no h
    | true =>
      rw [hb] at h
      obtain ⟨-, -, hK⟩ := h
      have hn := Nat.blt_eq.mp hb
      have hL := J.2.2.2.2.1
      rw [show ls.length = a_ml f from hL.2.2.1] at hn
      have hv := ok_h J.2.2.2.2.2.1
      cases x with
      | none =>
        refine lv_astoreN hB.1 hB.2.1 hd hL.has hn rfl (fun lsB hB2 => ?_)
        exact hK al H locs lsB ⟨J.1, J.2.1, J.2.2.1, J.2.2.2.1, hL.store (v := .inr (.inr none)) hn trivial rfl hB2, ok_t J.2.2.2.2.2.1, J.2.2.2.2.2.2⟩ a_ext.refl
      | some q =>
        refine lv_astore hB.1 hB.2.1 hd hL.has hn rfl (fun lsB hB2 => ?_)
        exact hK al H locs lsB ⟨J.1, J.2.1, J.2.2.1, J.2.2.2.1, hL.store (v := .inr (.inr (some q))) hn hv rfl hB2, ok_t J.2.2.2.2.2.1, J.2.2.2.2.2.2⟩ a_ext.refl
  · exact a_stk_no h
theorem sx_iinc {n : Nat} {d : Int} (hB : a_B f p s m args meth c R G) (hd : decode (a_c f) pc = .ok (.iinc n d, 3)) (J : a_J f s G c0 k0 al H locs lsA (pc, ls, st, M)) (h : a_Th kd (a_K f p l e R s m args below meth c G c0 k0 Q al M) kc (a_ex f pc 3 ls st M (.iinc n d))) : a_T p l e R s m args below meth c c0 k0 Q al H locs lsA (pc, ls, st, M) := by
  simp only [a_ex] at h
  split at h
  · next x hx =>
    obtain ⟨-, -, hK⟩ := h
    have hL := J.2.2.2.2.1
    have hn : n < a_ml f := by rw [← hL.2.2.1]; exact a_lg_lt _ _ _ hx
    obtain ⟨k, hk⟩ := List.getElem?_of_mem (a_lvl_mem (al := al) (q := (n, .int x)) |>.mpr ⟨.inl x, hx, rfl⟩)
    refine lv_iinc (k := k) hB.1 hB.2.1 hd hL.has hk rfl hn rfl (fun lsB hB2 => ?_)
    exact hK al H locs lsB ⟨J.1, J.2.1, J.2.2.1, J.2.2.2.1, hL.store (v := .inl (x + Int32.ofInt d)) hn trivial rfl hB2, J.2.2.2.2.2.1, J.2.2.2.2.2.2⟩ a_ext.refl
  · exact a_stk_no h
theorem sx_dup (hB : a_B f p s m args meth c R G) (hd : decode (a_c f) pc = .ok (.dup, 1)) (J : a_J f s G c0 k0 al H locs lsA (pc, ls, st, M)) (h : a_Th kd (a_K f p l e R s m args below meth c G c0 k0 Q al M) kc (a_ex f pc 1 ls st M (.dup))) : a_T p l e R s m args below meth c c0 k0 Q al H locs lsA (pc, ls, st, M) := by
  simp only [a_ex] at h
  split at h
  · obtain ⟨-, -, hK⟩ := h
    exact lv_dup hB.1 hB.2.1 hd rfl (hK al H locs lsA (J.st (ok_c trivial (ok_c trivial (ok_t J.2.2.2.2.2.1)))) a_ext.refl)
  · next x r =>
    obtain ⟨-, -, hK⟩ := h
    have hv := ok_h J.2.2.2.2.2.1
    exact lv_dup hB.1 hB.2.1 hd (cv_cat al _) (hK al H locs lsA (J.st (ok_c hv (ok_c hv (ok_t J.2.2.2.2.2.1)))) a_ext.refl)
  · exact a_stk_no h
theorem sx_pop (hB : a_B f p s m args meth c R G) (hd : decode (a_c f) pc = .ok (.pop, 1)) (J : a_J f s G c0 k0 al H locs lsA (pc, ls, st, M)) (h : a_Th kd (a_K f p l e R s m args below meth c G c0 k0 Q al M) kc (a_ex f pc 1 ls st M (.pop))) : a_T p l e R s m args below meth c c0 k0 Q al H locs lsA (pc, ls, st, M) := by
  simp only [a_ex] at h
  split at h
  · obtain ⟨-, -, hK⟩ := h
    exact lv_pop hB.1 hB.2.1 hd rfl (hK al H locs lsA (J.st (ok_t J.2.2.2.2.2.1)) a_ext.refl)
  · obtain ⟨-, -, hK⟩ := h
    exact lv_pop hB.1 hB.2.1 hd (cv_cat al _) (hK al H locs lsA (J.st (ok_t J.2.2.2.2.2.1)) a_ext.refl)
  · exact a_stk_no h
theorem sx_dup2 (hB : a_B f p s m args meth c R G) (hd : decode (a_c f) pc = .ok (.dup2, 1)) (J : a_J f s G c0 k0 al H locs lsA (pc, ls, st, M)) (h : a_Th kd (a_K f p l e R s m args below meth c G c0 k0 Q al M) kc (a_ex f pc 1 ls st M (.dup2))) : a_T p l e R s m args below meth c c0 k0 Q al H locs lsA (pc, ls, st, M) := by
  simp only [a_ex] at h
  split at h
  · next x y r =>
    obtain ⟨-, -, hK⟩ := h
    have hv := ok_h (ok_t J.2.2.2.2.2.1)
    exact lv_dup2_11 hB.1 hB.2.1 hd rfl (cv_cat al (.inr (.inr y))) (hK al H locs lsA (J.st (ok_c trivial (ok_c hv J.2.2.2.2.2.1))) a_ext.refl)
  · exact a_stk_no h
theorem sx_goto {off : Int} (hB : a_B f p s m args meth c R G) (hd : decode (a_c f) pc = .ok (.goto off, 3)) (J : a_J f s G c0 k0 al H locs lsA (pc, ls, st, M)) (h : a_Th kd (a_K f p l e R s m args below meth c G c0 k0 Q al M) kc (a_ex f pc 3 ls st M (.goto off))) : a_T p l e R s m args below meth c c0 k0 Q al H locs lsA (pc, ls, st, M) := by
  simp only [a_ex] at h
  split at h
  · next t ht =>
    obtain ⟨-, -, hK⟩ := h
    exact lv_goto hB.1 hB.2.1 hd (a_tg_eq ht) (hK al H locs lsA (J.st J.2.2.2.2.2.1) a_ext.refl)
  · exact a_stk_no h
theorem sx_ifCond {cc : Jvm.ClassFile.Cond} {off : Int} (hB : a_B f p s m args meth c R G) (hd : decode (a_c f) pc = .ok (.ifCond cc off, 3)) (J : a_J f s G c0 k0 al H locs lsA (pc, ls, st, M)) (h : a_Th kd (a_K f p l e R s m args below meth c G c0 k0 Q al M) kc (a_ex f pc 3 ls st M (.ifCond cc off))) : a_T p l e R s m args below meth c c0 k0 Q al H locs lsA (pc, ls, st, M) := by
  simp only [a_ex] at h
  split at h
  · next x r t ht =>
    have ht := a_tg_eq ht
    have hP : ∀ b : Bool, a_cmp cc x 0 = b → a_K f p l e R s m args below meth c G c0 k0 Q al M (cond b (t, ls, r, M) (pc + 3, ls, r, M)) := fun b hb => by rw [← hb]; exact h
    cases cc with
    | eq => exact lv_if_eq hB.1 hB.2.1 hd ht (fun q => (hP true (decide_eq_true q)).2 al H locs lsA (J.st (ok_t J.2.2.2.2.2.1)) a_ext.refl) (fun q => (hP false (decide_eq_false q)).2 al H locs lsA (J.st (ok_t J.2.2.2.2.2.1)) a_ext.refl)
    | ne => exact lv_if_ne hB.1 hB.2.1 hd ht (fun q => (hP true (decide_eq_true q)).2 al H locs lsA (J.st (ok_t J.2.2.2.2.2.1)) a_ext.refl) (fun q => (hP false (decide_eq_false (fun z => z q))).2 al H locs lsA (J.st (ok_t J.2.2.2.2.2.1)) a_ext.refl)
    | lt => exact lv_if_lt hB.1 hB.2.1 hd ht (fun q => (hP true (decide_eq_true q)).2 al H locs lsA (J.st (ok_t J.2.2.2.2.2.1)) a_ext.refl) (fun q => (hP false (decide_eq_false q)).2 al H locs lsA (J.st (ok_t J.2.2.2.2.2.1)) a_ext.refl)
    | ge => exact lv_if_ge hB.1 hB.2.1 hd ht (fun q => (hP true (decide_eq_true q)).2 al H locs lsA (J.st (ok_t J.2.2.2.2.2.1)) a_ext.refl) (fun q => (hP false (decide_eq_false q)).2 al H locs lsA (J.st (ok_t J.2.2.2.2.2.1)) a_ext.refl)
    | gt => exact lv_if_gt hB.1 hB.2.1 hd ht (fun q => (hP true (decide_eq_true q)).2 al H locs lsA (J.st (ok_t J.2.2.2.2.2.1)) a_ext.refl) (fun q => (hP false (decide_eq_false q)).2 al H locs lsA (J.st (ok_t J.2.2.2.2.2.1)) a_ext.refl)
    | le => exact lv_if_le hB.1 hB.2.1 hd ht (fun q => (hP true (decide_eq_true q)).2 al H locs lsA (J.st (ok_t J.2.2.2.2.2.1)) a_ext.refl) (fun q => (hP false (decide_eq_false q)).2 al H locs lsA (J.st (ok_t J.2.2.2.2.2.1)) a_ext.refl)
  · exact a_stk_no h
theorem sx_if_icmp {cc : Jvm.ClassFile.Cond} {off : Int} (hB : a_B f p s m args meth c R G) (hd : decode (a_c f) pc = .ok (.if_icmp cc off, 3)) (J : a_J f s G c0 k0 al H locs lsA (pc, ls, st, M)) (h : a_Th kd (a_K f p l e R s m args below meth c G c0 k0 Q al M) kc (a_ex f pc 3 ls st M (.if_icmp cc off))) : a_T p l e R s m args below meth c c0 k0 Q al H locs lsA (pc, ls, st, M) := by
  simp only [a_ex] at h
  split at h
  · next y x r t ht =>
    have ht := a_tg_eq ht
    have hP : ∀ b : Bool, a_cmp cc x y = b → a_K f p l e R s m args below meth c G c0 k0 Q al M (cond b (t, ls, r, M) (pc + 3, ls, r, M)) := fun b hb => by rw [← hb]; exact h
    cases cc with
    | eq => exact lv_icmp_eq hB.1 hB.2.1 hd ht (fun q => (hP true (decide_eq_true q)).2 al H locs lsA (J.st (ok_t (ok_t J.2.2.2.2.2.1))) a_ext.refl) (fun q => (hP false (decide_eq_false q)).2 al H locs lsA (J.st (ok_t (ok_t J.2.2.2.2.2.1))) a_ext.refl)
    | ne => exact lv_icmp_ne hB.1 hB.2.1 hd ht (fun q => (hP true (decide_eq_true q)).2 al H locs lsA (J.st (ok_t (ok_t J.2.2.2.2.2.1))) a_ext.refl) (fun q => (hP false (decide_eq_false (fun z => z q))).2 al H locs lsA (J.st (ok_t (ok_t J.2.2.2.2.2.1))) a_ext.refl)
    | lt => exact lv_icmp_lt hB.1 hB.2.1 hd ht (fun q => (hP true (decide_eq_true q)).2 al H locs lsA (J.st (ok_t (ok_t J.2.2.2.2.2.1))) a_ext.refl) (fun q => (hP false (decide_eq_false q)).2 al H locs lsA (J.st (ok_t (ok_t J.2.2.2.2.2.1))) a_ext.refl)
    | ge => exact lv_icmp_ge hB.1 hB.2.1 hd ht (fun q => (hP true (decide_eq_true q)).2 al H locs lsA (J.st (ok_t (ok_t J.2.2.2.2.2.1))) a_ext.refl) (fun q => (hP false (decide_eq_false q)).2 al H locs lsA (J.st (ok_t (ok_t J.2.2.2.2.2.1))) a_ext.refl)
    | gt => exact lv_icmp_gt hB.1 hB.2.1 hd ht (fun q => (hP true (decide_eq_true q)).2 al H locs lsA (J.st (ok_t (ok_t J.2.2.2.2.2.1))) a_ext.refl) (fun q => (hP false (decide_eq_false q)).2 al H locs lsA (J.st (ok_t (ok_t J.2.2.2.2.2.1))) a_ext.refl)
    | le => exact lv_icmp_le hB.1 hB.2.1 hd ht (fun q => (hP true (decide_eq_true q)).2 al H locs lsA (J.st (ok_t (ok_t J.2.2.2.2.2.1))) a_ext.refl) (fun q => (hP false (decide_eq_false q)).2 al H locs lsA (J.st (ok_t (ok_t J.2.2.2.2.2.1))) a_ext.refl)
  · exact a_stk_no h
theorem sx_ifnonnull {off : Int} (hB : a_B f p s m args meth c R G) (hd : decode (a_c f) pc = .ok (.ifnonnull off, 3)) (J : a_J f s G c0 k0 al H locs lsA (pc, ls, st, M)) (h : a_Th kd (a_K f p l e R s m args below meth c G c0 k0 Q al M) kc (a_ex f pc 3 ls st M (.ifnonnull off))) : a_T p l e R s m args below meth c c0 k0 Q al H locs lsA (pc, ls, st, M) := by
  simp only [a_ex] at h
  split at h
  · next x r t ht =>
    have ht := a_tg_eq ht
    cases x with
    | none =>
      obtain ⟨-, -, hK⟩ := h
      exact lv_ifnonnullN hB.1 hB.2.1 hd (hK al H locs lsA (J.st (ok_t J.2.2.2.2.2.1)) a_ext.refl)
    | some q =>
      obtain ⟨-, -, hK⟩ := h
      exact lv_ifnonnull hB.1 hB.2.1 hd ht (hK al H locs lsA (J.st (ok_t J.2.2.2.2.2.1)) a_ext.refl)
  · exact a_stk_no h
end
