/-! ===== constructors: instructions over any memory (by the text of 29.step) ===== -/
theorem n_ic {f pc len : Nat} {ls : List (Option aV)} {st : List aV} {M : aM} (pc2 : Nat) {n : Int} (x : Int32) (hi : a_ins f pc = some (.iconst n, len)) (hx : Int32.ofInt n = x) (hp : pc + len = pc2) : rn f (pc, ls, st, M) = rn f (pc2, ls, .inl x :: st, M) := by
  subst hp
  subst hx
  refine y_s hi ?_
  rfl

theorem n_bi {f pc len : Nat} {ls : List (Option aV)} {st : List aV} {M : aM} (pc2 : Nat) {n : Int} (x : Int32) (hi : a_ins f pc = some (.bipush n, len)) (hx : (Int8.ofInt n).toInt32 = x) (hp : pc + len = pc2) : rn f (pc, ls, st, M) = rn f (pc2, ls, .inl x :: st, M) := by
  subst hp
  subst hx
  refine y_s hi ?_
  rfl

theorem n_si {f pc len : Nat} {ls : List (Option aV)} {st : List aV} {M : aM} (pc2 : Nat) {n : Int} (x : Int32) (hi : a_ins f pc = some (.sipush n, len)) (hx : (Int16.ofInt n).toInt32 = x) (hp : pc + len = pc2) : rn f (pc, ls, st, M) = rn f (pc2, ls, .inl x :: st, M) := by
  subst hp
  subst hx
  refine y_s hi ?_
  rfl

theorem n_nul {f pc len : Nat} {ls : List (Option aV)} {st : List aV} {M : aM} (pc2 : Nat)  (hi : a_ins f pc = some (.aconst_null, len))  (hp : pc + len = pc2) : rn f (pc, ls, st, M) = rn f (pc2, ls, .inr (.inr none) :: st, M) := by
  subst hp
  refine y_s hi ?_
  rfl

theorem n_iln {f pc len : Nat} {ls : List (Option aV)} {st : List aV} {M : aM} (pc2 : Nat) {n : Fin 4} {x : Int32} (hi : a_ins f pc = some (.iload_n n, len)) (hl : a_lg ls n.val = some (.inl x)) (hp : pc + len = pc2) : rn f (pc, ls, st, M) = rn f (pc2, ls, .inl x :: st, M) := by
  subst hp
  refine y_s hi ?_
  first
    | (delta a_ex; simp only [hl]; done)
    | (delta a_ex; dsimp only; simp only [hl]; rfl)
    | (delta a_ex; dsimp only; rw [hl]; done)
    | (delta a_ex; dsimp only; rw [hl]; rfl)

theorem n_aln {f pc len : Nat} {ls : List (Option aV)} {st : List aV} {M : aM} (pc2 : Nat) {n : Fin 4} {x : Option aN} (hi : a_ins f pc = some (.aload_n n, len)) (hl : a_lg ls n.val = some (.inr (.inr x))) (hp : pc + len = pc2) : rn f (pc, ls, st, M) = rn f (pc2, ls, .inr (.inr x) :: st, M) := by
  subst hp
  refine y_s hi ?_
  first
    | (delta a_ex; simp only [hl]; done)
    | (delta a_ex; dsimp only; simp only [hl]; rfl)
    | (delta a_ex; dsimp only; rw [hl]; done)
    | (delta a_ex; dsimp only; rw [hl]; rfl)

theorem n_isn {f pc len : Nat} {ls : List (Option aV)} {st : List aV} {M : aM} (pc2 : Nat) (ls2 : List (Option aV)) {n : Fin 4} {x : Int32} (hi : a_ins f pc = some (.istore_n n, len)) (hb : Nat.blt n.val ls.length = true) (hs : ls.set n.val (some (.inl x)) = ls2) (hp : pc + len = pc2) : rn f (pc, ls, .inl x :: st, M) = rn f (pc2, ls2, st, M) := by
  subst hp
  subst hs
  refine y_s hi ?_
  first
    | (delta a_ex; simp only [hb, cond_true]; done)
    | (delta a_ex; dsimp only; simp only [hb, cond_true]; rfl)
    | (delta a_ex; dsimp only; rw [hb]; done)
    | (delta a_ex; dsimp only; rw [hb]; rfl)

theorem n_is {f pc len : Nat} {ls : List (Option aV)} {st : List aV} {M : aM} (pc2 : Nat) (ls2 : List (Option aV)) {n : Nat} {x : Int32} (hi : a_ins f pc = some (.istore n, len)) (hb : Nat.blt n ls.length = true) (hs : ls.set n (some (.inl x)) = ls2) (hp : pc + len = pc2) : rn f (pc, ls, .inl x :: st, M) = rn f (pc2, ls2, st, M) := by
  subst hp
  subst hs
  refine y_s hi ?_
  first
    | (delta a_ex; simp only [hb, cond_true]; done)
    | (delta a_ex; dsimp only; simp only [hb, cond_true]; rfl)
    | (delta a_ex; dsimp only; rw [hb]; done)
    | (delta a_ex; dsimp only; rw [hb]; rfl)

theorem n_asn {f pc len : Nat} {ls : List (Option aV)} {st : List aV} {M : aM} (pc2 : Nat) (ls2 : List (Option aV)) {n : Fin 4} {x : Option aN} (hi : a_ins f pc = some (.astore_n n, len)) (hb : Nat.blt n.val ls.length = true) (hs : ls.set n.val (some (.inr (.inr x))) = ls2) (hp : pc + len = pc2) : rn f (pc, ls, .inr (.inr x) :: st, M) = rn f (pc2, ls2, st, M) := by
  subst hp
  subst hs
  refine y_s hi ?_
  first
    | (delta a_ex; simp only [hb, cond_true]; done)
    | (delta a_ex; dsimp only; simp only [hb, cond_true]; rfl)
    | (delta a_ex; dsimp only; rw [hb]; done)
    | (delta a_ex; dsimp only; rw [hb]; rfl)

theorem n_inc {f pc len : Nat} {ls : List (Option aV)} {st : List aV} {M : aM} (pc2 : Nat) (ls2 : List (Option aV)) {n : Nat} {d : Int} {x : Int32} (hi : a_ins f pc = some (.iinc n d, len)) (hl : a_lg ls n = some (.inl x)) (hs : ls.set n (some (.inl (x + Int32.ofInt d))) = ls2) (hp : pc + len = pc2) : rn f (pc, ls, st, M) = rn f (pc2, ls2, st, M) := by
  subst hp
  subst hs
  refine y_s hi ?_
  first
    | (delta a_ex; simp only [hl]; done)
    | (delta a_ex; dsimp only; simp only [hl]; rfl)
    | (delta a_ex; dsimp only; rw [hl]; done)
    | (delta a_ex; dsimp only; rw [hl]; rfl)

theorem n_dupr {f pc len : Nat} {ls : List (Option aV)} {st : List aV} {M : aM} (pc2 : Nat) {x : Option aN} (hi : a_ins f pc = some (.dup, len)) (hp : pc + len = pc2) : rn f (pc, ls, .inr (.inr x) :: st, M) = rn f (pc2, ls, .inr (.inr x) :: .inr (.inr x) :: st, M) := by
  subst hp
  refine y_s hi ?_
  rfl

theorem n_go {f pc len : Nat} {ls : List (Option aV)} {st : List aV} {M : aM} (pc2 : Nat) {d : Int} (hi : a_ins f pc = some (.goto d, len)) (ht : a_tg pc d = some pc2) : rn f (pc, ls, st, M) = rn f (pc2, ls, st, M) := by
  refine y_s hi ?_
  first
    | (delta a_ex; simp only [ht]; done)
    | (delta a_ex; dsimp only; simp only [ht]; rfl)
    | (delta a_ex; dsimp only; rw [ht]; done)
    | (delta a_ex; dsimp only; rw [ht]; rfl)

theorem n_ii {f pc len : Nat} {ls : List (Option aV)} {st : List aV} {M : aM} (b : Bool) (t pc2 : Nat) {c : Jvm.ClassFile.Cond} {d : Int} {x y : Int32} (hi : a_ins f pc = some (.if_icmp c d, len)) (ht : a_tg pc d = some t) (hc : a_cmp c x y = b) (hp : pc + len = pc2) : rn f (pc, ls, .inl y :: .inl x :: st, M) = cond b (rn f (t, ls, st, M)) (rn f (pc2, ls, st, M)) := by
  subst hp
  refine y_b hi ?_
  first
    | (delta a_ex; simp only [ht, hc]; done)
    | (delta a_ex; dsimp only; simp only [ht, hc]; rfl)
    | (delta a_ex; dsimp only; rw [ht, hc]; done)
    | (delta a_ex; dsimp only; rw [ht, hc]; rfl)

theorem n_iit {f pc len : Nat} {ls : List (Option aV)} {st : List aV} {M : aM} (t : Nat) {pc2 : Nat} {c : Jvm.ClassFile.Cond} {d : Int} {x y : Int32} (hi : a_ins f pc = some (.if_icmp c d, len)) (ht : a_tg pc d = some t) (hc : a_cmp c x y = true) (hp : pc + len = pc2) : rn f (pc, ls, .inl y :: .inl x :: st, M) = rn f (t, ls, st, M) := (n_ii true t pc2 hi ht hc hp).trans rfl

theorem n_iif {f pc len : Nat} {ls : List (Option aV)} {st : List aV} {M : aM} (pc2 : Nat) {t : Nat} {c : Jvm.ClassFile.Cond} {d : Int} {x y : Int32} (hi : a_ins f pc = some (.if_icmp c d, len)) (ht : a_tg pc d = some t) (hc : a_cmp c x y = false) (hp : pc + len = pc2) : rn f (pc, ls, .inl y :: .inl x :: st, M) = rn f (pc2, ls, st, M) := (n_ii false t pc2 hi ht hc hp).trans rfl

theorem n_inn {f pc len : Nat} {ls : List (Option aV)} {st : List aV} {M : aM} (pc2 : Nat) {d : Int} {n : aN} (hi : a_ins f pc = some (.ifnonnull d, len)) (ht : a_tg pc d = some pc2) : rn f (pc, ls, .inr (.inr (some n)) :: st, M) = rn f (pc2, ls, st, M) := by
  refine y_s hi ?_
  first
    | (delta a_ex; simp only [ht]; done)
    | (delta a_ex; dsimp only; simp only [ht]; rfl)
    | (delta a_ex; dsimp only; rw [ht]; done)
    | (delta a_ex; dsimp only; rw [ht]; rfl)

theorem n_inz {f pc len : Nat} {ls : List (Option aV)} {st : List aV} {M : aM} (pc2 : Nat) {t : Nat} {d : Int} (hi : a_ins f pc = some (.ifnonnull d, len)) (ht : a_tg pc d = some t) (hp : pc + len = pc2) : rn f (pc, ls, .inr (.inr none) :: st, M) = rn f (pc2, ls, st, M) := by
  subst hp
  refine y_s hi ?_
  first
    | (delta a_ex; simp only [ht]; done)
    | (delta a_ex; dsimp only; simp only [ht]; rfl)
    | (delta a_ex; dsimp only; rw [ht]; done)
    | (delta a_ex; dsimp only; rw [ht]; rfl)

theorem n_gr {f pc len : Nat} {ls : List (Option aV)} {st : List aV} {M : aM} (pc2 : Nat) (v : Option aN) {c s q j : Nat} (hi : a_ins f pc = some (.getfield c, len)) (hf : a_fld (a_own f) c s = some (j, 2)) (hv : M.2.1 s q j = v) (hp : pc + len = pc2) : rn f (pc, ls, .inr (.inr (some (s, q))) :: st, M) = rn f (pc2, ls, .inr (.inr v) :: st, M) := by
  subst hp
  subst hv
  refine y_s hi ?_
  first
    | (delta a_ex; simp only [hf]; done)
    | (delta a_ex; dsimp only; simp only [hf]; rfl)
    | (delta a_ex; dsimp only; rw [hf]; done)
    | (delta a_ex; dsimp only; rw [hf]; rfl)

theorem n_pf {f pc len : Nat} {ls : List (Option aV)} {st : List aV} {M : aM} (pc2 : Nat) {c s q j : Nat} {x : Int32} (hi : a_ins f pc = some (.putfield c, len)) (hf : a_fld (a_own f) c s = some (j, 0)) (h4 : Nat.ble 4 s = true) (hp : pc + len = pc2) : rn f (pc, ls, .inl x :: .inr (.inr (some (s, q))) :: st, M) = rn f (pc2, ls, st, (a_setI M.1 s q j x, M.2)) := by
  subst hp
  refine y_s hi ?_
  first
    | (delta a_ex; simp only [hf, h4, cond_true]; done)
    | (delta a_ex; dsimp only; simp only [hf, h4, cond_true]; rfl)
    | (delta a_ex; dsimp only; rw [hf, h4]; done)
    | (delta a_ex; dsimp only; rw [hf, h4]; rfl)

theorem n_xv {f pc len : Nat} {ls : List (Option aV)} {st : List aV} {M : aM} {c g kd n : Nat} (as st2 : List aV) (hi : a_ins f pc = some (.invokevirtual c, len)) (h : a_cx f c 0 = some (g, kd, n)) (h1 : Nat.ble n st.length = true) (h2 : Nat.ble (a_cs (st.drop n)) 8 = true) (h3 : ((st.take n).all fun v => Nat.beq (a_cat v) 1) = true) (ha : (st.take n).reverse = as) (hs : st.drop n = st2) (h4 : a_rck kd g as = true) : rn f (pc, ls, st, M) = (rn g (a_en g as M)).bind (fun o => a_bk f g (pc, ls, st2, M) o (rn f)) := y_g hi (y_cx h h1 h2 h3 (by rw [ha]; exact h4) ha hs)

theorem n_xs {f pc len : Nat} {ls : List (Option aV)} {st : List aV} {M : aM} {c g kd n : Nat} (as st2 : List aV) (hi : a_ins f pc = some (.invokestatic c, len)) (h : a_cx f c 1 = some (g, kd, n)) (h1 : Nat.ble n st.length = true) (h2 : Nat.ble (a_cs (st.drop n)) 8 = true) (h3 : ((st.take n).all fun v => Nat.beq (a_cat v) 1) = true) (ha : (st.take n).reverse = as) (hs : st.drop n = st2) (h4 : a_rck kd g as = true) : rn f (pc, ls, st, M) = (rn g (a_en g as M)).bind (fun o => a_bk f g (pc, ls, st2, M) o (rn f)) := y_g hi (y_cx h h1 h2 h3 (by rw [ha]; exact h4) ha hs)

theorem n_xp {f pc len : Nat} {ls : List (Option aV)} {st : List aV} {M : aM} {c g kd n : Nat} (as st2 : List aV) (hi : a_ins f pc = some (.invokespecial c, len)) (h : a_cx f c 2 = some (g, kd, n)) (h1 : Nat.ble n st.length = true) (h2 : Nat.ble (a_cs (st.drop n)) 8 = true) (h3 : ((st.take n).all fun v => Nat.beq (a_cat v) 1) = true) (ha : (st.take n).reverse = as) (hs : st.drop n = st2) (h4 : a_rck kd g as = true) : rn f (pc, ls, st, M) = (rn g (a_en g as M)).bind (fun o => a_bk f g (pc, ls, st2, M) o (rn f)) := y_g hi (y_cx h h1 h2 h3 (by rw [ha]; exact h4) ha hs)

theorem n_rao {f pc len : Nat} {ls : List (Option aV)} {M : aM} {x : Option aN} {t : _} (hi : a_ins f pc = some (.areturn, len)) (hr : a_rt f = some (.object t)) : rn f (pc, ls, [.inr (.inr x)], M) = some (.inl (some (.inr (.inr x))), M) := y_dt hi (b := true) (by delta a_ex; simp only [hr]) rfl

theorem n_rv {f pc len : Nat} {ls : List (Option aV)} {M : aM} (hi : a_ins f pc = some (.return_, len)) (hr : a_rt f = none) : rn f (pc, ls, [], M) = some (.inl none, M) := y_dt hi (b := true) (by delta a_ex; simp only [hr]) rfl

theorem n_pr {f pc len : Nat} {ls : List (Option aV)} {st : List aV} {M : aM} (pc2 : Nat) {c s q j : Nat} {x : Option aN} (hi : a_ins f pc = some (.putfield c, len)) (hf : a_fld (a_own f) c s = some (j, 2)) (h4 : (Nat.ble 4 s && a_fin f s j) = true) (hp : pc + len = pc2) : rn f (pc, ls, .inr (.inr x) :: .inr (.inr (some (s, q))) :: st, M) = rn f (pc2, ls, st, (M.1, a_setR M.2.1 s q j x, M.2.2)) := by
  subst hp
  refine y_s hi ?_
  first
    | (delta a_ex; simp only [hf, h4, cond_true]; done)
    | (delta a_ex; dsimp only; simp only [hf, h4, cond_true]; rfl)
theorem n_new {f pc len : Nat} {ls : List (Option aV)} {st : List aV} {M : aM} (pc2 : Nat) {c s : Nat} (hi : a_ins f pc = some (.new c, len)) (hs : a_site f pc = some s) (hp : pc + len = pc2) : rn f (pc, ls, st, M) = rn f (pc2, ls, .inr (.inr (some (s, M.2.2.2.1 s))) :: st, a_mk M s (a_sk s).2.2) := by
  subst hp
  refine y_s hi ?_
  delta a_ex; simp only [hs]
theorem n_arr {f pc len : Nat} {ls : List (Option aV)} {st : List aV} {M : aM} (pc2 : Nat) {i : Instr} {s : Nat} {x : Int32} (hi : a_ins f pc = some (i, len)) (hq : ∀ M : aM, a_ex f pc len ls (.inl x :: st) M i = a_ck (decide (x = Int32.ofNat (a_sk s).2.2)) (pc + len, ls, .inr (.inr (some (s, M.2.2.2.1 s))) :: st, a_mk M s (a_sk s).2.2)) (hx : x = Int32.ofNat (a_sk s).2.2) (hp : pc + len = pc2) : rn f (pc, ls, .inl x :: st, M) = rn f (pc2, ls, .inr (.inr (some (s, M.2.2.2.1 s))) :: st, a_mk M s (a_sk s).2.2) := by
  subst hp
  exact y_kt hi (hq M) (decide_eq_true hx)
theorem n_na {f pc len : Nat} {ls : List (Option aV)} {st : List aV} {M : aM} (pc2 : Nat) {t : _} {s : Nat} {x : Int32} (hi : a_ins f pc = some (.newarray t, len)) (hs : a_site f pc = some s) (hx : x = Int32.ofNat (a_sk s).2.2) (hp : pc + len = pc2) : rn f (pc, ls, .inl x :: st, M) = rn f (pc2, ls, .inr (.inr (some (s, M.2.2.2.1 s))) :: st, a_mk M s (a_sk s).2.2) := by
  refine n_arr pc2 hi (fun M => ?_) hx hp
  delta a_ex; simp only [hs]
theorem n_an {f pc len : Nat} {ls : List (Option aV)} {st : List aV} {M : aM} (pc2 : Nat) {t : _} {s : Nat} {x : Int32} (hi : a_ins f pc = some (.anewarray t, len)) (hs : a_site f pc = some s) (hx : x = Int32.ofNat (a_sk s).2.2) (hp : pc + len = pc2) : rn f (pc, ls, .inl x :: st, M) = rn f (pc2, ls, .inr (.inr (some (s, M.2.2.2.1 s))) :: st, a_mk M s (a_sk s).2.2) := by
  refine n_arr pc2 hi (fun M => ?_) hx hp
  delta a_ex; simp only [hs]
theorem n_ob {f pc len : Nat} {ls : List (Option aV)} {st : List aV} {M : aM} (pc2 : Nat) {c g : Nat} {n : aN} (hi : a_ins f pc = some (.invokespecial c, len)) (h : a_cpM (a_own f) c = some (g, 3)) (h1 : Nat.ble 1 (a_rF f) = true) (h2 : Nat.ble (a_cs st + 12) (a_rL f) = true) (hp : pc + 3 = pc2) : rn f (pc, ls, .inr (.inr (some n)) :: st, M) = rn f (pc2, ls, st, M) := by
  subst hp
  refine y_s hi ?_
  show a_call f pc c 2 ls _ _ = _
  unfold a_call
  rw [h]
  simp only [h1, h2, Bool.and_true, show Nat.beq 2 2 = true from rfl, cond_true]
theorem n_aas {f pc len : Nat} {ls : List (Option aV)} {st : List aV} {M : aM} (pc2 j : Nat) {i : Int32} {n x : aN} (hi : a_ins f pc = some (.aastore, len)) (hk : (Nat.beq (a_sk n.1).1 5 && Nat.ble 4 n.1 && Nat.beq (a_sk x.1).1 0 && Nat.beq (a_sk x.1).2.1 (a_sk n.1).2.1) = true) (hb : a_inb i (a_ln M n) = true) (hj : i.toNatClampNeg = j) (hp : pc + len = pc2) : rn f (pc, ls, .inr (.inr (some x)) :: .inl i :: .inr (.inr (some n)) :: st, M) = rn f (pc2, ls, st, (M.1, a_setR M.2.1 n.1 n.2 j (some x), M.2.2)) := by
  subst hp
  subst hj
  refine y_kt hi (b := a_inb i (a_ln M n)) ?_ hb
  delta a_ex; simp only [hk, cond_true]
theorem gR (R : Nat → Nat → Nat → Option aN) (s q j : Nat) (v : Option aN) (s' q' j' : Nat) : a_setR R s q j v s' q' j' = if s' = s ∧ j' = j ∧ q' = q then v else R s' q' j' := by
  unfold a_setR
  rw [z_beq, z_beq, z_beq]
  by_cases h1 : s' = s <;> by_cases h2 : j' = j <;> by_cases h3 : q' = q <;> simp [h1, h2, h3]
theorem gK0 {α : Type} (z : α) (R : Nat → Nat → Nat → α) (s q s' q' j' : Nat) : a_clr z R s q s' q' j' = if s' = s ∧ q' = q then z else R s' q' j' := by
  unfold a_clr
  rw [z_beq, z_beq]
  by_cases h1 : s' = s <;> by_cases h3 : q' = q <;> simp [h1, h3]
theorem gN (c : Nat → Nat) (s s' : Nat) : a_inc c s s' = c s' + (if s' = s then 1 else 0) := by
  unfold a_inc
  rw [z_beq]
  by_cases h1 : s' = s <;> simp [h1]
