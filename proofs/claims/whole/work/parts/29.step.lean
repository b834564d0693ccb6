/-! ===== one instruction of a run (by wip/whole/gen29.py) ===== -/
theorem y_t {a b c : Option aO} (h : a = b) (h2 : b = c) : a = c := h.trans h2
theorem y_o {f pc len : Nat} {i : Instr} {ls : List (Option aV)} {st : List aV} {M : aM} (hi : a_ins f pc = some (i, len)) : a_one f (pc, ls, st, M) = a_ex f pc len ls st M i := by
  unfold a_one
  show (match a_ins f pc with
    | some (i, len) => a_ex f pc len ls st M i
    | none => a_stk (pc, ls, st, M)) = _
  rw [hi]
theorem y_s {f pc len : Nat} {i : Instr} {ls : List (Option aV)} {st : List aV} {M : aM} (hi : a_ins f pc = some (i, len)) {s2 : aS} (h : a_ex f pc len ls st M i = a_nx s2) : rn f (pc, ls, st, M) = rn f s2 := by
  rw [rn_eq]; unfold a_st; rw [y_o hi, h]; rfl
theorem y_k {f pc len : Nat} {i : Instr} {ls : List (Option aV)} {st : List aV} {M : aM} (hi : a_ins f pc = some (i, len)) {b : Bool} {s2 : aS} (h : a_ex f pc len ls st M i = a_ck b s2) : rn f (pc, ls, st, M) = cond b (rn f s2) none := by
  rw [rn_eq]; unfold a_st; rw [y_o hi, h]; rfl
theorem y_kt {f pc len : Nat} {i : Instr} {ls : List (Option aV)} {st : List aV} {M : aM} (hi : a_ins f pc = some (i, len)) {b : Bool} {s2 : aS} (h : a_ex f pc len ls st M i = a_ck b s2) (hb : b = true) : rn f (pc, ls, st, M) = rn f s2 := by
  rw [y_k hi h, hb]; rfl
theorem y_b {f pc len : Nat} {i : Instr} {ls : List (Option aV)} {st : List aV} {M : aM} (hi : a_ins f pc = some (i, len)) {b : Bool} {s1 s2 : aS} (h : a_ex f pc len ls st M i = a_br b s1 s2) : rn f (pc, ls, st, M) = cond b (rn f s1) (rn f s2) := by
  rw [rn_eq]; unfold a_st; rw [y_o hi, h]; rfl
theorem y_w {f pc len : Nat} {i : Instr} {ls : List (Option aV)} {st : List aV} {M : aM} (hi : a_ins f pc = some (i, len)) {l : List (Bool × aS)} {d : aS} (h : a_ex f pc len ls st M i = a_sw l d) : rn f (pc, ls, st, M) = a_alt (rn f) l d := by
  rw [rn_eq]; unfold a_st; rw [y_o hi, h]; rfl
theorem y_dc {f pc len : Nat} {i : Instr} {ls : List (Option aV)} {st : List aV} {M : aM} (hi : a_ins f pc = some (i, len)) {b : Bool} {o : aO} (h : a_ex f pc len ls st M i = a_dn b o) : rn f (pc, ls, st, M) = cond b (some o) none := by
  rw [rn_eq]; unfold a_st; rw [y_o hi, h]; rfl
theorem y_dt {f pc len : Nat} {i : Instr} {ls : List (Option aV)} {st : List aV} {M : aM} (hi : a_ins f pc = some (i, len)) {b : Bool} {o : aO} (h : a_ex f pc len ls st M i = a_dn b o) (hb : b = true) : rn f (pc, ls, st, M) = some o := by
  rw [y_dc hi h, hb]; rfl
theorem y_g {f pc len : Nat} {i : Instr} {ls : List (Option aV)} {st : List aV} {M : aM} (hi : a_ins f pc = some (i, len)) {g : Nat} {as : List aV} {s2 : aS} (h : a_ex f pc len ls st M i = a_cl g as s2) : rn f (pc, ls, st, M) = (rn g (a_en g as s2.2.2.2)).bind (fun o => a_bk f g s2 o (rn f)) := by
  rw [rn_eq]; unfold a_st; rw [y_o hi, h]; rfl
/-- what is closed in a call: the method, its kind, how many arguments -/
def a_cx (f idx op : Nat) : Option (Nat × Nat × Nat) := match a_cpM (a_own f) idx with
  | none => none
  | some (g, kd) => bif (Nat.ble kd 2 || (Nat.ble 5 kd && Nat.ble kd 8)) && (Nat.beq (a_ko kd) op && Nat.ble (a_na g) (a_ml g) && Nat.ble (a_rF g + 1) (a_rF f) && Nat.ble (8 + (a_ml g + 11) + a_rL g) (a_rL f)) then some (g, kd, a_na g) else none
theorem y_cx {f pc idx op g kd n : Nat} {ls : List (Option aV)} {st as st2 : List aV} {M : aM} (h : a_cx f idx op = some (g, kd, n)) (h1 : Nat.ble n st.length = true) (h2 : Nat.ble (a_cs (st.drop n)) 8 = true) (h3 : ((st.take n).all fun v => Nat.beq (a_cat v) 1) = true) (h4 : a_rck kd g (st.take n).reverse = true) (ha : (st.take n).reverse = as) (hs : st.drop n = st2) : a_call f pc idx op ls st M = a_cl g as (pc, ls, st2, M) := by
  subst ha
  subst hs
  unfold a_cx at h
  unfold a_call
  cases hm : a_cpM (a_own f) idx with
  | none => rw [hm] at h; cases h
  | some x =>
    obtain ⟨g', kd'⟩ := x
    rw [hm] at h
    simp only at h
    cases hb : ((Nat.ble kd' 2 || (Nat.ble 5 kd' && Nat.ble kd' 8)) && (Nat.beq (a_ko kd') op && Nat.ble (a_na g') (a_ml g') && Nat.ble (a_rF g' + 1) (a_rF f) && Nat.ble (8 + (a_ml g' + 11) + a_rL g') (a_rL f))) with
    | false => rw [hb] at h; cases h
    | true =>
      rw [hb] at h
      simp only [cond_true, Option.some.injEq, Prod.mk.injEq] at h
      obtain ⟨rfl, rfl, rfl⟩ := h
      simp only [Bool.and_eq_true] at hb
      obtain ⟨b0, ⟨⟨b1, b2⟩, b3⟩, b4⟩ := hb
      have hc : (Nat.beq (a_ko kd') op && Nat.ble (a_na g') (a_ml g') && Nat.ble (a_na g') st.length && Nat.ble (a_rF g' + 1) (a_rF f) && Nat.ble (8 + (a_ml g' + 11) + a_rL g') (a_rL f) && Nat.ble (a_cs (st.drop (a_na g'))) 8 && ((st.take (a_na g')).all (fun v => Nat.beq (a_cat v) 1)) && a_rck kd' g' (st.take (a_na g')).reverse) = true := by
        simp only [Bool.and_eq_true]
        exact ⟨⟨⟨⟨⟨⟨⟨b1, b2⟩, h1⟩, b3⟩, b4⟩, h2⟩, h3⟩, h4⟩
      match kd', b0, hc with
      | 0, _, hc => simp only [hc, cond_true]
      | 1, _, hc => simp only [hc, cond_true]
      | 2, _, hc => simp only [hc, cond_true]
      | 3, b0, _ => exact absurd b0 (by decide)
      | 4, b0, _ => exact absurd b0 (by decide)
      | 5, _, hc => simp only [hc, cond_true]
      | 6, _, hc => simp only [hc, cond_true]
      | 7, _, hc => simp only [hc, cond_true]
      | 8, _, hc => simp only [hc, cond_true]
      | n + 9, b0, _ => exact absurd b0 (by rw [show Nat.ble (n + 9) 2 = false from rfl, show Nat.ble (n + 9) 8 = false from rfl]; simp)
theorem y_rk {g s q : Nat} {as : List aV} (h : (Nat.beq (a_sk s).1 0 && Nat.beq (a_sk s).2.1 (a_own g)) = true) : a_rck 0 g (.inr (.inr (some (s, q))) :: as) = true := h
theorem y_rk8 {g s q : Nat} {as : List aV} (h : (Nat.beq (a_sk s).1 0 && Nat.beq (a_sk s).2.1 (a_own g)) = true) : a_rck 8 g (.inr (.inr (some (s, q))) :: as) = true := h
theorem y_c1 {b : Bool} {x y : Option aO} (h : x = y) : cond b x none = cond b y none := by rw [h]
theorem y_c2 {b : Bool} {x y u v : Option aO} (h : x = y) (h2 : u = v) : cond b x u = cond b y v := by rw [h, h2]
theorem y_ic {f pc len : Nat} {ls : List (Option aV)} {st : List aV} {I : aI} {w : aW} {k : aQ} (pc2 : Nat) {n : Int} (x : Int32) (hi : a_ins f pc = some (.iconst n, len)) (hx : Int32.ofInt n = x) (hp : pc + len = pc2) : rn f (pc, ls, st, MM I w k) = rn f (pc2, ls, .inl x :: st, MM I w k) := by
  subst hp
  subst hx
  refine y_s hi ?_
  rfl
theorem y_bi {f pc len : Nat} {ls : List (Option aV)} {st : List aV} {I : aI} {w : aW} {k : aQ} (pc2 : Nat) {n : Int} (x : Int32) (hi : a_ins f pc = some (.bipush n, len)) (hx : (Int8.ofInt n).toInt32 = x) (hp : pc + len = pc2) : rn f (pc, ls, st, MM I w k) = rn f (pc2, ls, .inl x :: st, MM I w k) := by
  subst hp
  subst hx
  refine y_s hi ?_
  rfl
theorem y_si {f pc len : Nat} {ls : List (Option aV)} {st : List aV} {I : aI} {w : aW} {k : aQ} (pc2 : Nat) {n : Int} (x : Int32) (hi : a_ins f pc = some (.sipush n, len)) (hx : (Int16.ofInt n).toInt32 = x) (hp : pc + len = pc2) : rn f (pc, ls, st, MM I w k) = rn f (pc2, ls, .inl x :: st, MM I w k) := by
  subst hp
  subst hx
  refine y_s hi ?_
  rfl
theorem y_lc {f pc len : Nat} {ls : List (Option aV)} {st : List aV} {I : aI} {w : aW} {k : aQ} (pc2 : Nat) {n : Fin 2} (x : Int64) (hi : a_ins f pc = some (.lconst n, len)) (hx : Int64.ofNat n.val = x) (hp : pc + len = pc2) : rn f (pc, ls, st, MM I w k) = rn f (pc2, ls, .inr (.inl x) :: st, MM I w k) := by
  subst hp
  subst hx
  refine y_s hi ?_
  rfl
theorem y_nul {f pc len : Nat} {ls : List (Option aV)} {st : List aV} {I : aI} {w : aW} {k : aQ} (pc2 : Nat)  (hi : a_ins f pc = some (.aconst_null, len))  (hp : pc + len = pc2) : rn f (pc, ls, st, MM I w k) = rn f (pc2, ls, .inr (.inr none) :: st, MM I w k) := by
  subst hp
  refine y_s hi ?_
  rfl
theorem y_ldc {f pc len : Nat} {ls : List (Option aV)} {st : List aV} {I : aI} {w : aW} {k : aQ} (pc2 : Nat) {c : Nat} (v : aV) (hi : a_ins f pc = some (.ldc c, len)) (hc : a_cpC (a_own f) c = some v) (hp : pc + len = pc2) : rn f (pc, ls, st, MM I w k) = rn f (pc2, ls, v :: st, MM I w k) := by
  subst hp
  refine y_s hi ?_
  first
    | (delta a_ex; simp only [hc]; done)
    | (delta a_ex; dsimp only; simp only [hc]; rfl)
    | (delta a_ex; dsimp only; rw [hc]; done)
    | (delta a_ex; dsimp only; rw [hc]; rfl)
theorem y_ldw {f pc len : Nat} {ls : List (Option aV)} {st : List aV} {I : aI} {w : aW} {k : aQ} (pc2 : Nat) {c : Nat} (x : Int32) (hi : a_ins f pc = some (.ldc_w c, len)) (hc : a_cpC (a_own f) c = some (.inl x)) (hp : pc + len = pc2) : rn f (pc, ls, st, MM I w k) = rn f (pc2, ls, .inl x :: st, MM I w k) := by
  subst hp
  refine y_s hi ?_
  first
    | (delta a_ex; simp only [hc]; done)
    | (delta a_ex; dsimp only; simp only [hc]; rfl)
    | (delta a_ex; dsimp only; rw [hc]; done)
    | (delta a_ex; dsimp only; rw [hc]; rfl)
theorem y_ld2 {f pc len : Nat} {ls : List (Option aV)} {st : List aV} {I : aI} {w : aW} {k : aQ} (pc2 : Nat) {c : Nat} (x : Int64) (hi : a_ins f pc = some (.ldc2_w c, len)) (hc : a_cpL (a_own f) c = some x) (hp : pc + len = pc2) : rn f (pc, ls, st, MM I w k) = rn f (pc2, ls, .inr (.inl x) :: st, MM I w k) := by
  subst hp
  refine y_s hi ?_
  first
    | (delta a_ex; simp only [hc]; done)
    | (delta a_ex; dsimp only; simp only [hc]; rfl)
    | (delta a_ex; dsimp only; rw [hc]; done)
    | (delta a_ex; dsimp only; rw [hc]; rfl)
theorem y_iln {f pc len : Nat} {ls : List (Option aV)} {st : List aV} {I : aI} {w : aW} {k : aQ} (pc2 : Nat) {n : Fin 4} {x : Int32} (hi : a_ins f pc = some (.iload_n n, len)) (hl : a_lg ls n.val = some (.inl x)) (hp : pc + len = pc2) : rn f (pc, ls, st, MM I w k) = rn f (pc2, ls, .inl x :: st, MM I w k) := by
  subst hp
  refine y_s hi ?_
  first
    | (delta a_ex; simp only [hl]; done)
    | (delta a_ex; dsimp only; simp only [hl]; rfl)
    | (delta a_ex; dsimp only; rw [hl]; done)
    | (delta a_ex; dsimp only; rw [hl]; rfl)
theorem y_il {f pc len : Nat} {ls : List (Option aV)} {st : List aV} {I : aI} {w : aW} {k : aQ} (pc2 : Nat) {n : Nat} {x : Int32} (hi : a_ins f pc = some (.iload n, len)) (hl : a_lg ls n = some (.inl x)) (hp : pc + len = pc2) : rn f (pc, ls, st, MM I w k) = rn f (pc2, ls, .inl x :: st, MM I w k) := by
  subst hp
  refine y_s hi ?_
  first
    | (delta a_ex; simp only [hl]; done)
    | (delta a_ex; dsimp only; simp only [hl]; rfl)
    | (delta a_ex; dsimp only; rw [hl]; done)
    | (delta a_ex; dsimp only; rw [hl]; rfl)
theorem y_aln {f pc len : Nat} {ls : List (Option aV)} {st : List aV} {I : aI} {w : aW} {k : aQ} (pc2 : Nat) {n : Fin 4} {x : Option aN} (hi : a_ins f pc = some (.aload_n n, len)) (hl : a_lg ls n.val = some (.inr (.inr x))) (hp : pc + len = pc2) : rn f (pc, ls, st, MM I w k) = rn f (pc2, ls, .inr (.inr x) :: st, MM I w k) := by
  subst hp
  refine y_s hi ?_
  first
    | (delta a_ex; simp only [hl]; done)
    | (delta a_ex; dsimp only; simp only [hl]; rfl)
    | (delta a_ex; dsimp only; rw [hl]; done)
    | (delta a_ex; dsimp only; rw [hl]; rfl)
theorem y_al {f pc len : Nat} {ls : List (Option aV)} {st : List aV} {I : aI} {w : aW} {k : aQ} (pc2 : Nat) {n : Nat} {x : Option aN} (hi : a_ins f pc = some (.aload n, len)) (hl : a_lg ls n = some (.inr (.inr x))) (hp : pc + len = pc2) : rn f (pc, ls, st, MM I w k) = rn f (pc2, ls, .inr (.inr x) :: st, MM I w k) := by
  subst hp
  refine y_s hi ?_
  first
    | (delta a_ex; simp only [hl]; done)
    | (delta a_ex; dsimp only; simp only [hl]; rfl)
    | (delta a_ex; dsimp only; rw [hl]; done)
    | (delta a_ex; dsimp only; rw [hl]; rfl)
theorem y_gst {f pc len : Nat} {ls : List (Option aV)} {st : List aV} {I : aI} {w : aW} {k : aQ} (pc2 : Nat) {c : Nat} (x : Int32) (hi : a_ins f pc = some (.getstatic c, len)) (hc : a_cpG (a_own f) c = some (.inl x)) (hp : pc + len = pc2) : rn f (pc, ls, st, MM I w k) = rn f (pc2, ls, .inl x :: st, MM I w k) := by
  subst hp
  refine y_s hi ?_
  first
    | (delta a_ex; simp only [hc]; done)
    | (delta a_ex; dsimp only; simp only [hc]; rfl)
    | (delta a_ex; dsimp only; rw [hc]; done)
    | (delta a_ex; dsimp only; rw [hc]; rfl)
theorem y_isn {f pc len : Nat} {ls : List (Option aV)} {st : List aV} {I : aI} {w : aW} {k : aQ} (pc2 : Nat) (ls2 : List (Option aV)) {n : Fin 4} {x : Int32} (hi : a_ins f pc = some (.istore_n n, len)) (hb : Nat.blt n.val ls.length = true) (hs : ls.set n.val (some (.inl x)) = ls2) (hp : pc + len = pc2) : rn f (pc, ls, .inl x :: st, MM I w k) = rn f (pc2, ls2, st, MM I w k) := by
  subst hp
  subst hs
  refine y_s hi ?_
  first
    | (delta a_ex; simp only [hb, cond_true]; done)
    | (delta a_ex; dsimp only; simp only [hb, cond_true]; rfl)
    | (delta a_ex; dsimp only; rw [hb]; done)
    | (delta a_ex; dsimp only; rw [hb]; rfl)
theorem y_is {f pc len : Nat} {ls : List (Option aV)} {st : List aV} {I : aI} {w : aW} {k : aQ} (pc2 : Nat) (ls2 : List (Option aV)) {n : Nat} {x : Int32} (hi : a_ins f pc = some (.istore n, len)) (hb : Nat.blt n ls.length = true) (hs : ls.set n (some (.inl x)) = ls2) (hp : pc + len = pc2) : rn f (pc, ls, .inl x :: st, MM I w k) = rn f (pc2, ls2, st, MM I w k) := by
  subst hp
  subst hs
  refine y_s hi ?_
  first
    | (delta a_ex; simp only [hb, cond_true]; done)
    | (delta a_ex; dsimp only; simp only [hb, cond_true]; rfl)
    | (delta a_ex; dsimp only; rw [hb]; done)
    | (delta a_ex; dsimp only; rw [hb]; rfl)
theorem y_asn {f pc len : Nat} {ls : List (Option aV)} {st : List aV} {I : aI} {w : aW} {k : aQ} (pc2 : Nat) (ls2 : List (Option aV)) {n : Fin 4} {x : Option aN} (hi : a_ins f pc = some (.astore_n n, len)) (hb : Nat.blt n.val ls.length = true) (hs : ls.set n.val (some (.inr (.inr x))) = ls2) (hp : pc + len = pc2) : rn f (pc, ls, .inr (.inr x) :: st, MM I w k) = rn f (pc2, ls2, st, MM I w k) := by
  subst hp
  subst hs
  refine y_s hi ?_
  first
    | (delta a_ex; simp only [hb, cond_true]; done)
    | (delta a_ex; dsimp only; simp only [hb, cond_true]; rfl)
    | (delta a_ex; dsimp only; rw [hb]; done)
    | (delta a_ex; dsimp only; rw [hb]; rfl)
theorem y_as {f pc len : Nat} {ls : List (Option aV)} {st : List aV} {I : aI} {w : aW} {k : aQ} (pc2 : Nat) (ls2 : List (Option aV)) {n : Nat} {x : Option aN} (hi : a_ins f pc = some (.astore n, len)) (hb : Nat.blt n ls.length = true) (hs : ls.set n (some (.inr (.inr x))) = ls2) (hp : pc + len = pc2) : rn f (pc, ls, .inr (.inr x) :: st, MM I w k) = rn f (pc2, ls2, st, MM I w k) := by
  subst hp
  subst hs
  refine y_s hi ?_
  first
    | (delta a_ex; simp only [hb, cond_true]; done)
    | (delta a_ex; dsimp only; simp only [hb, cond_true]; rfl)
    | (delta a_ex; dsimp only; rw [hb]; done)
    | (delta a_ex; dsimp only; rw [hb]; rfl)
theorem y_inc {f pc len : Nat} {ls : List (Option aV)} {st : List aV} {I : aI} {w : aW} {k : aQ} (pc2 : Nat) (ls2 : List (Option aV)) {n : Nat} {d : Int} {x : Int32} (hi : a_ins f pc = some (.iinc n d, len)) (hl : a_lg ls n = some (.inl x)) (hs : ls.set n (some (.inl (x + Int32.ofInt d))) = ls2) (hp : pc + len = pc2) : rn f (pc, ls, st, MM I w k) = rn f (pc2, ls2, st, MM I w k) := by
  subst hp
  subst hs
  refine y_s hi ?_
  first
    | (delta a_ex; simp only [hl]; done)
    | (delta a_ex; dsimp only; simp only [hl]; rfl)
    | (delta a_ex; dsimp only; rw [hl]; done)
    | (delta a_ex; dsimp only; rw [hl]; rfl)
theorem y_add {f pc len : Nat} {ls : List (Option aV)} {st : List aV} {I : aI} {w : aW} {k : aQ} (pc2 : Nat) {x y : Int32} (hi : a_ins f pc = some (.iadd, len)) (hp : pc + len = pc2) : rn f (pc, ls, .inl y :: .inl x :: st, MM I w k) = rn f (pc2, ls, .inl (x + y) :: st, MM I w k) := by
  subst hp
  refine y_s hi ?_
  rfl
theorem y_sub {f pc len : Nat} {ls : List (Option aV)} {st : List aV} {I : aI} {w : aW} {k : aQ} (pc2 : Nat) {x y : Int32} (hi : a_ins f pc = some (.isub, len)) (hp : pc + len = pc2) : rn f (pc, ls, .inl y :: .inl x :: st, MM I w k) = rn f (pc2, ls, .inl (x - y) :: st, MM I w k) := by
  subst hp
  refine y_s hi ?_
  rfl
theorem y_mul {f pc len : Nat} {ls : List (Option aV)} {st : List aV} {I : aI} {w : aW} {k : aQ} (pc2 : Nat) {x y : Int32} (hi : a_ins f pc = some (.imul, len)) (hp : pc + len = pc2) : rn f (pc, ls, .inl y :: .inl x :: st, MM I w k) = rn f (pc2, ls, .inl (x * y) :: st, MM I w k) := by
  subst hp
  refine y_s hi ?_
  rfl
theorem y_and {f pc len : Nat} {ls : List (Option aV)} {st : List aV} {I : aI} {w : aW} {k : aQ} (pc2 : Nat) {x y : Int32} (hi : a_ins f pc = some (.iand, len)) (hp : pc + len = pc2) : rn f (pc, ls, .inl y :: .inl x :: st, MM I w k) = rn f (pc2, ls, .inl (x &&& y) :: st, MM I w k) := by
  subst hp
  refine y_s hi ?_
  rfl
theorem y_or {f pc len : Nat} {ls : List (Option aV)} {st : List aV} {I : aI} {w : aW} {k : aQ} (pc2 : Nat) {x y : Int32} (hi : a_ins f pc = some (.ior, len)) (hp : pc + len = pc2) : rn f (pc, ls, .inl y :: .inl x :: st, MM I w k) = rn f (pc2, ls, .inl (x ||| y) :: st, MM I w k) := by
  subst hp
  refine y_s hi ?_
  rfl
theorem y_xor {f pc len : Nat} {ls : List (Option aV)} {st : List aV} {I : aI} {w : aW} {k : aQ} (pc2 : Nat) {x y : Int32} (hi : a_ins f pc = some (.ixor, len)) (hp : pc + len = pc2) : rn f (pc, ls, .inl y :: .inl x :: st, MM I w k) = rn f (pc2, ls, .inl (x ^^^ y) :: st, MM I w k) := by
  subst hp
  refine y_s hi ?_
  rfl
theorem y_shl {f pc len : Nat} {ls : List (Option aV)} {st : List aV} {I : aI} {w : aW} {k : aQ} (pc2 : Nat) {x y : Int32} (hi : a_ins f pc = some (.ishl, len)) (hp : pc + len = pc2) : rn f (pc, ls, .inl y :: .inl x :: st, MM I w k) = rn f (pc2, ls, .inl (x <<< (y &&& 31)) :: st, MM I w k) := by
  subst hp
  refine y_s hi ?_
  rfl
theorem y_shr {f pc len : Nat} {ls : List (Option aV)} {st : List aV} {I : aI} {w : aW} {k : aQ} (pc2 : Nat) {x y : Int32} (hi : a_ins f pc = some (.ishr, len)) (hp : pc + len = pc2) : rn f (pc, ls, .inl y :: .inl x :: st, MM I w k) = rn f (pc2, ls, .inl (x >>> (y &&& 31)) :: st, MM I w k) := by
  subst hp
  refine y_s hi ?_
  rfl
theorem y_ushr {f pc len : Nat} {ls : List (Option aV)} {st : List aV} {I : aI} {w : aW} {k : aQ} (pc2 : Nat) {x y : Int32} (hi : a_ins f pc = some (.iushr, len)) (hp : pc + len = pc2) : rn f (pc, ls, .inl y :: .inl x :: st, MM I w k) = rn f (pc2, ls, .inl ((x.toUInt32 >>> (y.toUInt32 &&& Int32.toUInt32 31)).toInt32) :: st, MM I w k) := by
  subst hp
  refine y_s hi ?_
  rfl
theorem y_div {f pc len : Nat} {ls : List (Option aV)} {st : List aV} {I : aI} {w : aW} {k : aQ} (pc2 : Nat) {x y : Int32} (hi : a_ins f pc = some (.idiv, len)) (hp : pc + len = pc2) : rn f (pc, ls, .inl y :: .inl x :: st, MM I w k) = cond (decide (¬ y = 0)) (rn f (pc2, ls, .inl (x / y) :: st, MM I w k)) none := by
  subst hp
  refine y_k hi ?_
  rfl
theorem y_divt {f pc len : Nat} {ls : List (Option aV)} {st : List aV} {I : aI} {w : aW} {k : aQ} (pc2 : Nat) {x y : Int32} (hi : a_ins f pc = some (.idiv, len)) (hb : decide (¬ y = 0) = true) (hp : pc + len = pc2) : rn f (pc, ls, .inl y :: .inl x :: st, MM I w k) = rn f (pc2, ls, .inl (x / y) :: st, MM I w k) := by
  subst hp
  refine y_kt hi ?_ hb
  rfl
theorem y_rem {f pc len : Nat} {ls : List (Option aV)} {st : List aV} {I : aI} {w : aW} {k : aQ} (pc2 : Nat) {x y : Int32} (hi : a_ins f pc = some (.irem, len)) (hp : pc + len = pc2) : rn f (pc, ls, .inl y :: .inl x :: st, MM I w k) = cond (decide (¬ y = 0)) (rn f (pc2, ls, .inl (x - x / y * y) :: st, MM I w k)) none := by
  subst hp
  refine y_k hi ?_
  rfl
theorem y_remt {f pc len : Nat} {ls : List (Option aV)} {st : List aV} {I : aI} {w : aW} {k : aQ} (pc2 : Nat) {x y : Int32} (hi : a_ins f pc = some (.irem, len)) (hb : decide (¬ y = 0) = true) (hp : pc + len = pc2) : rn f (pc, ls, .inl y :: .inl x :: st, MM I w k) = rn f (pc2, ls, .inl (x - x / y * y) :: st, MM I w k) := by
  subst hp
  refine y_kt hi ?_ hb
  rfl
theorem y_lremt {f pc len : Nat} {ls : List (Option aV)} {st : List aV} {I : aI} {w : aW} {k : aQ} (pc2 : Nat) {x y : Int64} (hi : a_ins f pc = some (.lrem, len)) (hb : decide (¬ y = 0) = true) (hp : pc + len = pc2) : rn f (pc, ls, .inr (.inl y) :: .inr (.inl x) :: st, MM I w k) = rn f (pc2, ls, .inr (.inl (x - x / y * y)) :: st, MM I w k) := by
  subst hp
  refine y_kt hi ?_ hb
  rfl
theorem y_ladd {f pc len : Nat} {ls : List (Option aV)} {st : List aV} {I : aI} {w : aW} {k : aQ} (pc2 : Nat) {x y : Int64} (hi : a_ins f pc = some (.ladd, len)) (hp : pc + len = pc2) : rn f (pc, ls, .inr (.inl y) :: .inr (.inl x) :: st, MM I w k) = rn f (pc2, ls, .inr (.inl (x + y)) :: st, MM I w k) := by
  subst hp
  refine y_s hi ?_
  rfl
theorem y_lmul {f pc len : Nat} {ls : List (Option aV)} {st : List aV} {I : aI} {w : aW} {k : aQ} (pc2 : Nat) {x y : Int64} (hi : a_ins f pc = some (.lmul, len)) (hp : pc + len = pc2) : rn f (pc, ls, .inr (.inl y) :: .inr (.inl x) :: st, MM I w k) = rn f (pc2, ls, .inr (.inl (x * y)) :: st, MM I w k) := by
  subst hp
  refine y_s hi ?_
  rfl
theorem y_lcmp {f pc len : Nat} {ls : List (Option aV)} {st : List aV} {I : aI} {w : aW} {k : aQ} (pc2 : Nat) {x y : Int64} (hi : a_ins f pc = some (.lcmp, len)) (hp : pc + len = pc2) : rn f (pc, ls, .inr (.inl y) :: .inr (.inl x) :: st, MM I w k) = rn f (pc2, ls, .inl (lg_cmp x y) :: st, MM I w k) := by
  subst hp
  refine y_s hi ?_
  rfl
theorem y_neg {f pc len : Nat} {ls : List (Option aV)} {st : List aV} {I : aI} {w : aW} {k : aQ} (pc2 : Nat) {x : Int32} (hi : a_ins f pc = some (.ineg, len)) (hp : pc + len = pc2) : rn f (pc, ls, .inl x :: st, MM I w k) = rn f (pc2, ls, .inl (-x) :: st, MM I w k) := by
  subst hp
  refine y_s hi ?_
  rfl
theorem y_i2l {f pc len : Nat} {ls : List (Option aV)} {st : List aV} {I : aI} {w : aW} {k : aQ} (pc2 : Nat) {x : Int32} (hi : a_ins f pc = some (.i2l, len)) (hp : pc + len = pc2) : rn f (pc, ls, .inl x :: st, MM I w k) = rn f (pc2, ls, .inr (.inl x.toInt64) :: st, MM I w k) := by
  subst hp
  refine y_s hi ?_
  rfl
theorem y_i2b {f pc len : Nat} {ls : List (Option aV)} {st : List aV} {I : aI} {w : aW} {k : aQ} (pc2 : Nat) {x : Int32} (hi : a_ins f pc = some (.i2b, len)) (hp : pc + len = pc2) : rn f (pc, ls, .inl x :: st, MM I w k) = rn f (pc2, ls, .inl x.toInt8.toInt32 :: st, MM I w k) := by
  subst hp
  refine y_s hi ?_
  rfl
theorem y_i2c {f pc len : Nat} {ls : List (Option aV)} {st : List aV} {I : aI} {w : aW} {k : aQ} (pc2 : Nat) {x : Int32} (hi : a_ins f pc = some (.i2c, len)) (hp : pc + len = pc2) : rn f (pc, ls, .inl x :: st, MM I w k) = rn f (pc2, ls, .inl (x.toUInt32 % 65536).toInt32 :: st, MM I w k) := by
  subst hp
  refine y_s hi ?_
  rfl
theorem y_l2i {f pc len : Nat} {ls : List (Option aV)} {st : List aV} {I : aI} {w : aW} {k : aQ} (pc2 : Nat) {x : Int64} (hi : a_ins f pc = some (.l2i, len)) (hp : pc + len = pc2) : rn f (pc, ls, .inr (.inl x) :: st, MM I w k) = rn f (pc2, ls, .inl x.toInt32 :: st, MM I w k) := by
  subst hp
  refine y_s hi ?_
  rfl
theorem y_dupi {f pc len : Nat} {ls : List (Option aV)} {st : List aV} {I : aI} {w : aW} {k : aQ} (pc2 : Nat) {x : Int32} (hi : a_ins f pc = some (.dup, len)) (hp : pc + len = pc2) : rn f (pc, ls, .inl x :: st, MM I w k) = rn f (pc2, ls, .inl x :: .inl x :: st, MM I w k) := by
  subst hp
  refine y_s hi ?_
  rfl
theorem y_dupr {f pc len : Nat} {ls : List (Option aV)} {st : List aV} {I : aI} {w : aW} {k : aQ} (pc2 : Nat) {x : Option aN} (hi : a_ins f pc = some (.dup, len)) (hp : pc + len = pc2) : rn f (pc, ls, .inr (.inr x) :: st, MM I w k) = rn f (pc2, ls, .inr (.inr x) :: .inr (.inr x) :: st, MM I w k) := by
  subst hp
  refine y_s hi ?_
  rfl
theorem y_popi {f pc len : Nat} {ls : List (Option aV)} {st : List aV} {I : aI} {w : aW} {k : aQ} (pc2 : Nat) {x : Int32} (hi : a_ins f pc = some (.pop, len)) (hp : pc + len = pc2) : rn f (pc, ls, .inl x :: st, MM I w k) = rn f (pc2, ls, st, MM I w k) := by
  subst hp
  refine y_s hi ?_
  rfl
theorem y_popr {f pc len : Nat} {ls : List (Option aV)} {st : List aV} {I : aI} {w : aW} {k : aQ} (pc2 : Nat) {x : Option aN} (hi : a_ins f pc = some (.pop, len)) (hp : pc + len = pc2) : rn f (pc, ls, .inr (.inr x) :: st, MM I w k) = rn f (pc2, ls, st, MM I w k) := by
  subst hp
  refine y_s hi ?_
  rfl
theorem y_dup2 {f pc len : Nat} {ls : List (Option aV)} {st : List aV} {I : aI} {w : aW} {k : aQ} (pc2 : Nat) {x : Int32} {y : Option aN} (hi : a_ins f pc = some (.dup2, len)) (hp : pc + len = pc2) : rn f (pc, ls, .inl x :: .inr (.inr y) :: st, MM I w k) = rn f (pc2, ls, .inl x :: .inr (.inr y) :: .inl x :: .inr (.inr y) :: st, MM I w k) := by
  subst hp
  refine y_s hi ?_
  rfl
theorem y_go {f pc len : Nat} {ls : List (Option aV)} {st : List aV} {I : aI} {w : aW} {k : aQ} (pc2 : Nat) {d : Int} (hi : a_ins f pc = some (.goto d, len)) (ht : a_tg pc d = some pc2) : rn f (pc, ls, st, MM I w k) = rn f (pc2, ls, st, MM I w k) := by
  refine y_s hi ?_
  first
    | (delta a_ex; simp only [ht]; done)
    | (delta a_ex; dsimp only; simp only [ht]; rfl)
    | (delta a_ex; dsimp only; rw [ht]; done)
    | (delta a_ex; dsimp only; rw [ht]; rfl)
theorem y_if {f pc len : Nat} {ls : List (Option aV)} {st : List aV} {I : aI} {w : aW} {k : aQ} (b : Bool) (t pc2 : Nat) {c : Jvm.ClassFile.Cond} {d : Int} {x : Int32} (hi : a_ins f pc = some (.ifCond c d, len)) (ht : a_tg pc d = some t) (hc : a_cmp c x 0 = b) (hp : pc + len = pc2) : rn f (pc, ls, .inl x :: st, MM I w k) = cond b (rn f (t, ls, st, MM I w k)) (rn f (pc2, ls, st, MM I w k)) := by
  subst hp
  refine y_b hi ?_
  first
    | (delta a_ex; simp only [ht, hc]; done)
    | (delta a_ex; dsimp only; simp only [ht, hc]; rfl)
    | (delta a_ex; dsimp only; rw [ht, hc]; done)
    | (delta a_ex; dsimp only; rw [ht, hc]; rfl)
theorem y_ift {f pc len : Nat} {ls : List (Option aV)} {st : List aV} {I : aI} {w : aW} {k : aQ} (t : Nat) {pc2 : Nat} {c : Jvm.ClassFile.Cond} {d : Int} {x : Int32} (hi : a_ins f pc = some (.ifCond c d, len)) (ht : a_tg pc d = some t) (hc : a_cmp c x 0 = true) (hp : pc + len = pc2) : rn f (pc, ls, .inl x :: st, MM I w k) = rn f (t, ls, st, MM I w k) := (y_if true t pc2 hi ht hc hp).trans rfl
theorem y_iff {f pc len : Nat} {ls : List (Option aV)} {st : List aV} {I : aI} {w : aW} {k : aQ} (pc2 : Nat) {t : Nat} {c : Jvm.ClassFile.Cond} {d : Int} {x : Int32} (hi : a_ins f pc = some (.ifCond c d, len)) (ht : a_tg pc d = some t) (hc : a_cmp c x 0 = false) (hp : pc + len = pc2) : rn f (pc, ls, .inl x :: st, MM I w k) = rn f (pc2, ls, st, MM I w k) := (y_if false t pc2 hi ht hc hp).trans rfl
theorem y_ii {f pc len : Nat} {ls : List (Option aV)} {st : List aV} {I : aI} {w : aW} {k : aQ} (b : Bool) (t pc2 : Nat) {c : Jvm.ClassFile.Cond} {d : Int} {x y : Int32} (hi : a_ins f pc = some (.if_icmp c d, len)) (ht : a_tg pc d = some t) (hc : a_cmp c x y = b) (hp : pc + len = pc2) : rn f (pc, ls, .inl y :: .inl x :: st, MM I w k) = cond b (rn f (t, ls, st, MM I w k)) (rn f (pc2, ls, st, MM I w k)) := by
  subst hp
  refine y_b hi ?_
  first
    | (delta a_ex; simp only [ht, hc]; done)
    | (delta a_ex; dsimp only; simp only [ht, hc]; rfl)
    | (delta a_ex; dsimp only; rw [ht, hc]; done)
    | (delta a_ex; dsimp only; rw [ht, hc]; rfl)
theorem y_iit {f pc len : Nat} {ls : List (Option aV)} {st : List aV} {I : aI} {w : aW} {k : aQ} (t : Nat) {pc2 : Nat} {c : Jvm.ClassFile.Cond} {d : Int} {x y : Int32} (hi : a_ins f pc = some (.if_icmp c d, len)) (ht : a_tg pc d = some t) (hc : a_cmp c x y = true) (hp : pc + len = pc2) : rn f (pc, ls, .inl y :: .inl x :: st, MM I w k) = rn f (t, ls, st, MM I w k) := (y_ii true t pc2 hi ht hc hp).trans rfl
theorem y_iif {f pc len : Nat} {ls : List (Option aV)} {st : List aV} {I : aI} {w : aW} {k : aQ} (pc2 : Nat) {t : Nat} {c : Jvm.ClassFile.Cond} {d : Int} {x y : Int32} (hi : a_ins f pc = some (.if_icmp c d, len)) (ht : a_tg pc d = some t) (hc : a_cmp c x y = false) (hp : pc + len = pc2) : rn f (pc, ls, .inl y :: .inl x :: st, MM I w k) = rn f (pc2, ls, st, MM I w k) := (y_ii false t pc2 hi ht hc hp).trans rfl
theorem y_inn {f pc len : Nat} {ls : List (Option aV)} {st : List aV} {I : aI} {w : aW} {k : aQ} (pc2 : Nat) {d : Int} {n : aN} (hi : a_ins f pc = some (.ifnonnull d, len)) (ht : a_tg pc d = some pc2) : rn f (pc, ls, .inr (.inr (some n)) :: st, MM I w k) = rn f (pc2, ls, st, MM I w k) := by
  refine y_s hi ?_
  first
    | (delta a_ex; simp only [ht]; done)
    | (delta a_ex; dsimp only; simp only [ht]; rfl)
    | (delta a_ex; dsimp only; rw [ht]; done)
    | (delta a_ex; dsimp only; rw [ht]; rfl)
theorem y_inz {f pc len : Nat} {ls : List (Option aV)} {st : List aV} {I : aI} {w : aW} {k : aQ} (pc2 : Nat) {t : Nat} {d : Int} (hi : a_ins f pc = some (.ifnonnull d, len)) (ht : a_tg pc d = some t) (hp : pc + len = pc2) : rn f (pc, ls, .inr (.inr none) :: st, MM I w k) = rn f (pc2, ls, st, MM I w k) := by
  subst hp
  refine y_s hi ?_
  first
    | (delta a_ex; simp only [ht]; done)
    | (delta a_ex; dsimp only; simp only [ht]; rfl)
    | (delta a_ex; dsimp only; rw [ht]; done)
    | (delta a_ex; dsimp only; rw [ht]; rfl)
theorem y_gf {f pc len : Nat} {ls : List (Option aV)} {st : List aV} {I : aI} {w : aW} {k : aQ} (pc2 : Nat) (v : Int32) {c s q j : Nat} (hi : a_ins f pc = some (.getfield c, len)) (hf : a_fld (a_own f) c s = some (j, 0)) (hv : I s q j = v) (hp : pc + len = pc2) : rn f (pc, ls, .inr (.inr (some (s, q))) :: st, MM I w k) = rn f (pc2, ls, .inl v :: st, MM I w k) := by
  subst hp
  subst hv
  refine y_s hi ?_
  first
    | (delta a_ex; simp only [hf]; done)
    | (delta a_ex; dsimp only; simp only [hf]; rfl)
    | (delta a_ex; dsimp only; rw [hf]; done)
    | (delta a_ex; dsimp only; rw [hf]; rfl)
theorem y_gz {f pc len : Nat} {ls : List (Option aV)} {st : List aV} {I : aI} {w : aW} {k : aQ} (pc2 : Nat) (v : Int32) {c s q j : Nat} (hi : a_ins f pc = some (.getfield c, len)) (hf : a_fld (a_own f) c s = some (j, 1)) (hv : I s q j = v) (hp : pc + len = pc2) : rn f (pc, ls, .inr (.inr (some (s, q))) :: st, MM I w k) = rn f (pc2, ls, .inl v :: st, MM I w k) := by
  subst hp
  subst hv
  refine y_s hi ?_
  first
    | (delta a_ex; simp only [hf]; done)
    | (delta a_ex; dsimp only; simp only [hf]; rfl)
    | (delta a_ex; dsimp only; rw [hf]; done)
    | (delta a_ex; dsimp only; rw [hf]; rfl)
theorem y_gr {f pc len : Nat} {ls : List (Option aV)} {st : List aV} {I : aI} {w : aW} {k : aQ} (pc2 : Nat) (v : Option aN) {c s q j : Nat} (hi : a_ins f pc = some (.getfield c, len)) (hf : a_fld (a_own f) c s = some (j, 2)) (hv : wr w s q j = v) (hp : pc + len = pc2) : rn f (pc, ls, .inr (.inr (some (s, q))) :: st, MM I w k) = rn f (pc2, ls, .inr (.inr v) :: st, MM I w k) := by
  subst hp
  subst hv
  refine y_s hi ?_
  first
    | (delta a_ex; simp only [hf]; done)
    | (delta a_ex; dsimp only; simp only [hf]; rfl)
    | (delta a_ex; dsimp only; rw [hf]; done)
    | (delta a_ex; dsimp only; rw [hf]; rfl)
theorem y_pf {f pc len : Nat} {ls : List (Option aV)} {st : List aV} {I : aI} {w : aW} {k : aQ} (pc2 : Nat) {c s q j : Nat} {x : Int32} (hi : a_ins f pc = some (.putfield c, len)) (hf : a_fld (a_own f) c s = some (j, 0)) (h4 : Nat.ble 4 s = true) (hp : pc + len = pc2) : rn f (pc, ls, .inl x :: .inr (.inr (some (s, q))) :: st, MM I w k) = rn f (pc2, ls, st, MM (a_setI I s q j x) w k) := by
  subst hp
  refine y_s hi ?_
  first
    | (delta a_ex; simp only [hf, h4, cond_true]; done)
    | (delta a_ex; dsimp only; simp only [hf, h4, cond_true]; rfl)
    | (delta a_ex; dsimp only; rw [hf, h4]; done)
    | (delta a_ex; dsimp only; rw [hf, h4]; rfl)
theorem y_pz {f pc len : Nat} {ls : List (Option aV)} {st : List aV} {I : aI} {w : aW} {k : aQ} (pc2 : Nat) {c s q j : Nat} {x : Int32} (hi : a_ins f pc = some (.putfield c, len)) (hf : a_fld (a_own f) c s = some (j, 1)) (h4 : Nat.ble 4 s = true) (hp : pc + len = pc2) : rn f (pc, ls, .inl x :: .inr (.inr (some (s, q))) :: st, MM I w k) = cond (a_bz x) (rn f (pc2, ls, st, MM (a_setI I s q j x) w k)) none := by
  subst hp
  refine y_k hi ?_
  first
    | (delta a_ex; simp only [hf, h4, cond_true]; done)
    | (delta a_ex; dsimp only; simp only [hf, h4, cond_true]; rfl)
    | (delta a_ex; dsimp only; rw [hf, h4]; done)
    | (delta a_ex; dsimp only; rw [hf, h4]; rfl)
theorem y_pzt {f pc len : Nat} {ls : List (Option aV)} {st : List aV} {I : aI} {w : aW} {k : aQ} (pc2 : Nat) {c s q j : Nat} {x : Int32} (hi : a_ins f pc = some (.putfield c, len)) (hf : a_fld (a_own f) c s = some (j, 1)) (h4 : Nat.ble 4 s = true) (hb : a_bz x = true) (hp : pc + len = pc2) : rn f (pc, ls, .inl x :: .inr (.inr (some (s, q))) :: st, MM I w k) = rn f (pc2, ls, st, MM (a_setI I s q j x) w k) := by
  subst hp
  refine y_kt hi ?_ hb
  first
    | (delta a_ex; simp only [hf, h4, cond_true]; done)
    | (delta a_ex; dsimp only; simp only [hf, h4, cond_true]; rfl)
    | (delta a_ex; dsimp only; rw [hf, h4]; done)
    | (delta a_ex; dsimp only; rw [hf, h4]; rfl)
theorem y_len {f pc len : Nat} {ls : List (Option aV)} {st : List aV} {I : aI} {w : aW} {k : aQ} (pc2 : Nat) (v : Int32) {s q : Nat} (hi : a_ins f pc = some (.arraylength, len)) (hk : (Nat.ble 1 (a_sk s).1 && Nat.ble (a_sk s).1 5) = true) (hv : Int32.ofNat (a_ln (MM I w k) (s, q)) = v) (hp : pc + len = pc2) : rn f (pc, ls, .inr (.inr (some (s, q))) :: st, MM I w k) = rn f (pc2, ls, .inl v :: st, MM I w k) := by
  subst hp
  subst hv
  refine y_s hi ?_
  first
    | (delta a_ex; simp only [hk, cond_true]; done)
    | (delta a_ex; dsimp only; simp only [hk, cond_true]; rfl)
    | (delta a_ex; dsimp only; rw [hk]; done)
    | (delta a_ex; dsimp only; rw [hk]; rfl)
theorem y_ia {f pc len : Nat} {ls : List (Option aV)} {st : List aV} {I : aI} {w : aW} {k : aQ} (pc2 : Nat) (n : Nat) (v : Int32) {i : Int32} {s q : Nat} (hi : a_ins f pc = some (.iaload, len)) (hk : Nat.beq (a_sk s).1 1 = true) (hn : a_ln (MM I w k) (s, q) = n) (hv : I s q i.toNatClampNeg = v) (hp : pc + len = pc2) : rn f (pc, ls, .inl i :: .inr (.inr (some (s, q))) :: st, MM I w k) = cond (a_inb i n) (rn f (pc2, ls, .inl v :: st, MM I w k)) none := by
  subst hp
  subst hv
  subst hn
  refine y_k hi ?_
  first
    | (delta a_ex; simp only [hk, cond_true]; done)
    | (delta a_ex; dsimp only; simp only [hk, cond_true]; rfl)
    | (delta a_ex; dsimp only; rw [hk]; done)
    | (delta a_ex; dsimp only; rw [hk]; rfl)
theorem y_iat {f pc len : Nat} {ls : List (Option aV)} {st : List aV} {I : aI} {w : aW} {k : aQ} (pc2 : Nat) (n : Nat) (v : Int32) {i : Int32} {s q : Nat} (hi : a_ins f pc = some (.iaload, len)) (hk : Nat.beq (a_sk s).1 1 = true) (hn : a_ln (MM I w k) (s, q) = n) (hb : a_inb i n = true) (hv : I s q i.toNatClampNeg = v) (hp : pc + len = pc2) : rn f (pc, ls, .inl i :: .inr (.inr (some (s, q))) :: st, MM I w k) = rn f (pc2, ls, .inl v :: st, MM I w k) := by
  subst hp
  subst hv
  subst hn
  refine y_kt hi ?_ hb
  first
    | (delta a_ex; simp only [hk, cond_true]; done)
    | (delta a_ex; dsimp only; simp only [hk, cond_true]; rfl)
    | (delta a_ex; dsimp only; rw [hk]; done)
    | (delta a_ex; dsimp only; rw [hk]; rfl)
theorem y_ba {f pc len : Nat} {ls : List (Option aV)} {st : List aV} {I : aI} {w : aW} {k : aQ} (pc2 : Nat) (n : Nat) (v : Int32) {i : Int32} {s q : Nat} (hi : a_ins f pc = some (.baload, len)) (hk : (Nat.beq (a_sk s).1 2 || Nat.beq (a_sk s).1 3) = true) (hn : a_ln (MM I w k) (s, q) = n) (hv : I s q i.toNatClampNeg = v) (hp : pc + len = pc2) : rn f (pc, ls, .inl i :: .inr (.inr (some (s, q))) :: st, MM I w k) = cond (a_inb i n) (rn f (pc2, ls, .inl v :: st, MM I w k)) none := by
  subst hp
  subst hv
  subst hn
  refine y_k hi ?_
  first
    | (delta a_ex; simp only [hk, cond_true]; done)
    | (delta a_ex; dsimp only; simp only [hk, cond_true]; rfl)
    | (delta a_ex; dsimp only; rw [hk]; done)
    | (delta a_ex; dsimp only; rw [hk]; rfl)
theorem y_bat {f pc len : Nat} {ls : List (Option aV)} {st : List aV} {I : aI} {w : aW} {k : aQ} (pc2 : Nat) (n : Nat) (v : Int32) {i : Int32} {s q : Nat} (hi : a_ins f pc = some (.baload, len)) (hk : (Nat.beq (a_sk s).1 2 || Nat.beq (a_sk s).1 3) = true) (hn : a_ln (MM I w k) (s, q) = n) (hb : a_inb i n = true) (hv : I s q i.toNatClampNeg = v) (hp : pc + len = pc2) : rn f (pc, ls, .inl i :: .inr (.inr (some (s, q))) :: st, MM I w k) = rn f (pc2, ls, .inl v :: st, MM I w k) := by
  subst hp
  subst hv
  subst hn
  refine y_kt hi ?_ hb
  first
    | (delta a_ex; simp only [hk, cond_true]; done)
    | (delta a_ex; dsimp only; simp only [hk, cond_true]; rfl)
    | (delta a_ex; dsimp only; rw [hk]; done)
    | (delta a_ex; dsimp only; rw [hk]; rfl)
theorem y_aax {f pc len : Nat} {ls : List (Option aV)} {st : List aV} {I : aI} {w : aW} {k : aQ} {i : Int32} {s q : Nat} (hi : a_ins f pc = some (.aaload, len)) (hk : Nat.beq (a_sk s).1 5 = true) : rn f (pc, ls, .inl i :: .inr (.inr (some (s, q))) :: st, MM I w k) = cond (a_inb i (a_ln (MM I w k) (s, q))) (rn f (pc + len, ls, .inr (.inr (wr w s q i.toNatClampNeg)) :: st, MM I w k)) none := by
  refine y_k hi ?_
  first
    | (delta a_ex; simp only [hk, cond_true]; done)
    | (delta a_ex; dsimp only; simp only [hk, cond_true]; rfl)
    | (delta a_ex; dsimp only; rw [hk]; done)
    | (delta a_ex; dsimp only; rw [hk]; rfl)
theorem y_aa {f pc len : Nat} {ls : List (Option aV)} {st : List aV} {I : aI} {w : aW} {k : aQ} (pc2 : Nat) (n : Nat) (v : Option aN) {i : Int32} {s q : Nat} (hi : a_ins f pc = some (.aaload, len)) (hk : Nat.beq (a_sk s).1 5 = true) (hn : a_ln (MM I w k) (s, q) = n) (hv : a_inb i n = true → wr w s q i.toNatClampNeg = v) (hp : pc + len = pc2) : rn f (pc, ls, .inl i :: .inr (.inr (some (s, q))) :: st, MM I w k) = cond (a_inb i n) (rn f (pc2, ls, .inr (.inr v) :: st, MM I w k)) none := by
  subst hp
  subst hn
  rw [y_aax hi hk]
  cases h : a_inb i (a_ln (MM I w k) (s, q)) with
  | true => rw [hv h]
  | false => rfl
theorem y_aat {f pc len : Nat} {ls : List (Option aV)} {st : List aV} {I : aI} {w : aW} {k : aQ} (pc2 : Nat) (n : Nat) (v : Option aN) {i : Int32} {s q : Nat} (hi : a_ins f pc = some (.aaload, len)) (hk : Nat.beq (a_sk s).1 5 = true) (hn : a_ln (MM I w k) (s, q) = n) (hb : a_inb i n = true) (hv : wr w s q i.toNatClampNeg = v) (hp : pc + len = pc2) : rn f (pc, ls, .inl i :: .inr (.inr (some (s, q))) :: st, MM I w k) = rn f (pc2, ls, .inr (.inr v) :: st, MM I w k) := by
  rw [y_aa pc2 n v hi hk hn (fun _ => hv) hp, hb]; rfl
theorem w_lt {i : Int32} {n : Nat} (h : a_inb i n = true) : Nat.blt i.toNatClampNeg n = true := by
  have h2 : ¬ (i < 0 ∨ n ≤ i.toNatClampNeg) := of_decide_eq_true h
  exact Nat.ble_eq.mpr (Nat.lt_of_not_le (fun z => h2 (Or.inr z)))
theorem w_11 (w : aW) (q : Nat) (i : Int32) (h : a_inb i 40 = true) : wr w 11 q i.toNatClampNeg = some (14, 40 * q + i.toNatClampNeg) := by
  show (bif Nat.blt i.toNatClampNeg 40 then _ else _) = _
  rw [w_lt h]; rfl
theorem w_12 (w : aW) (q : Nat) (i : Int32) (h : a_inb i 60 = true) : wr w 12 q i.toNatClampNeg = some (15, 60 * q + i.toNatClampNeg) := by
  show (bif Nat.blt i.toNatClampNeg 60 then _ else _) = _
  rw [w_lt h]; rfl
theorem w_16 (w : aW) (q : Nat) (i : Int32) (h : a_inb i 4 = true) : wr w 16 q i.toNatClampNeg = some (18, 4 * q + i.toNatClampNeg) := by
  show (bif Nat.blt i.toNatClampNeg 4 then _ else _) = _
  rw [w_lt h]; rfl
theorem y_z {f pc len : Nat} {i : Instr} {ls : List (Option aV)} {st : List aV} {M : aM} (hi : a_ins f pc = some (i, len)) (h : a_ex f pc len ls st M i = a_stk (pc, ls, st, M)) : rn f (pc, ls, st, M) = none := by
  rw [rn_eq]; unfold a_st; rw [y_o hi, h]; rfl
theorem y_rx {f pc len : Nat} {ls : List (Option aV)} {I : aI} {w : aW} {k : aQ} {x : Int32} (hi : a_ins f pc = some (.ireturn, len)) : rn f (pc, ls, [.inl x], MM I w k) = cond (a_rok (a_rt f) x) (some (.inl (some (.inl x)), MM I w k)) none := y_dc hi (b := a_rok (a_rt f) x) rfl
theorem y_gsr {f pc len : Nat} {ls : List (Option aV)} {st : List aV} {I : aI} {w : aW} {k : aQ} (pc2 : Nat) {c : Nat} {x : Int64 ⊕ Option aN} (hi : a_ins f pc = some (.getstatic c, len)) (hc : a_cpG (a_own f) c = some (.inr x)) (hp : pc + len = pc2) : rn f (pc, ls, st, MM I w k) = rn f (pc2, ls, .inr (.inr w.2.2.2.2) :: st, MM I w k) := by
  subst hp
  refine y_s hi ?_
  first
    | (delta a_ex; simp only [hc]; done)
    | (delta a_ex; dsimp only; simp only [hc]; rfl)
    | (delta a_ex; dsimp only; rw [hc]; done)
    | (delta a_ex; dsimp only; rw [hc]; rfl)
theorem y_lat {f pc len : Nat} {ls : List (Option aV)} {st : List aV} {I : aI} {w : aW} {k : aQ} (pc2 n : Nat) (v : Int64) {i : Int32} {s q : Nat} (hi : a_ins f pc = some (.laload, len)) (hk : Nat.beq (a_sk s).1 4 = true) (hn : a_ln (MM I w k) (s, q) = n) (hb : a_inb i n = true) (hv : k.1 s q i.toNatClampNeg = v) (hp : pc + len = pc2) : rn f (pc, ls, .inl i :: .inr (.inr (some (s, q))) :: st, MM I w k) = rn f (pc2, ls, .inr (.inl v) :: st, MM I w k) := by
  subst hp
  subst hv
  subst hn
  refine y_kt hi ?_ hb
  first
    | (delta a_ex; simp only [hk, cond_true]; done)
    | (delta a_ex; dsimp only; simp only [hk, cond_true]; rfl)
    | (delta a_ex; dsimp only; rw [hk]; done)
    | (delta a_ex; dsimp only; rw [hk]; rfl)
theorem y_ptx {f pc len : Nat} {ls : List (Option aV)} {st : List aV} {I : aI} {w : aW} {k : aQ} (pc2 : Nat) {c s q j : Nat} {x : Option aN} (hi : a_ins f pc = some (.putfield c, len)) (hf : a_fld (a_own f) c s = some (j, 2)) (h4 : (Nat.ble 4 s && a_fin f s j) = true) (hp : pc + len = pc2) : rn f (pc, ls, .inr (.inr x) :: .inr (.inr (some (s, q))) :: st, MM I w k) = rn f (pc2, ls, st, ((MM I w k).1, a_setR (MM I w k).2.1 s q j x, (MM I w k).2.2)) := by
  subst hp
  refine y_s hi ?_
  first
    | (delta a_ex; simp only [hf, h4, cond_true]; done)
    | (delta a_ex; dsimp only; simp only [hf, h4, cond_true]; rfl)
    | (delta a_ex; dsimp only; rw [hf, h4]; done)
    | (delta a_ex; dsimp only; rw [hf, h4]; rfl)
theorem y_ias {f pc len : Nat} {ls : List (Option aV)} {st : List aV} {I : aI} {w : aW} {k : aQ} (pc2 n j : Nat) {x i : Int32} {s q : Nat} (hi : a_ins f pc = some (.iastore, len)) (hk : (Nat.beq (a_sk s).1 1 && Nat.ble 4 s) = true) (hn : a_ln (MM I w k) (s, q) = n) (hj : i.toNatClampNeg = j) (hp : pc + len = pc2) : rn f (pc, ls, .inl x :: .inl i :: .inr (.inr (some (s, q))) :: st, MM I w k) = cond (a_inb i n) (rn f (pc2, ls, st, MM (a_setI I s q j x) w k)) none := by
  subst hp
  subst hn
  subst hj
  refine y_k hi ?_
  first
    | (delta a_ex; simp only [hk, cond_true]; done)
    | (delta a_ex; dsimp only; simp only [hk, cond_true]; rfl)
    | (delta a_ex; dsimp only; rw [hk]; done)
    | (delta a_ex; dsimp only; rw [hk]; rfl)
theorem y_iast {f pc len : Nat} {ls : List (Option aV)} {st : List aV} {I : aI} {w : aW} {k : aQ} (pc2 n j : Nat) {x i : Int32} {s q : Nat} (hi : a_ins f pc = some (.iastore, len)) (hk : (Nat.beq (a_sk s).1 1 && Nat.ble 4 s) = true) (hn : a_ln (MM I w k) (s, q) = n) (hb : a_inb i n = true) (hj : i.toNatClampNeg = j) (hp : pc + len = pc2) : rn f (pc, ls, .inl x :: .inl i :: .inr (.inr (some (s, q))) :: st, MM I w k) = rn f (pc2, ls, st, MM (a_setI I s q j x) w k) := by
  subst hp
  subst hn
  subst hj
  refine y_kt hi ?_ hb
  first
    | (delta a_ex; simp only [hk, cond_true]; done)
    | (delta a_ex; dsimp only; simp only [hk, cond_true]; rfl)
    | (delta a_ex; dsimp only; rw [hk]; done)
    | (delta a_ex; dsimp only; rw [hk]; rfl)
theorem y_bas {f pc len : Nat} {ls : List (Option aV)} {st : List aV} {I : aI} {w : aW} {k : aQ} (pc2 n j : Nat) {x i : Int32} {s q : Nat} (hi : a_ins f pc = some (.bastore, len)) (h4 : Nat.ble 4 s = true) (hk : Nat.beq (a_sk s).1 2 = true) (hn : a_ln (MM I w k) (s, q) = n) (hj : i.toNatClampNeg = j) (hp : pc + len = pc2) : rn f (pc, ls, .inl x :: .inl i :: .inr (.inr (some (s, q))) :: st, MM I w k) = cond (a_inb i n) (rn f (pc2, ls, st, MM (a_setI I s q j x.toInt8.toInt32) w k)) none := by
  subst hp
  subst hn
  subst hj
  refine y_k hi ?_
  first
    | (delta a_ex; simp only [h4, hk, cond_true]; done)
    | (delta a_ex; dsimp only; simp only [h4, hk, cond_true]; rfl)
    | (delta a_ex; dsimp only; rw [h4, hk]; done)
    | (delta a_ex; dsimp only; rw [h4, hk]; rfl)
theorem y_bast {f pc len : Nat} {ls : List (Option aV)} {st : List aV} {I : aI} {w : aW} {k : aQ} (pc2 n j : Nat) {x i : Int32} {s q : Nat} (hi : a_ins f pc = some (.bastore, len)) (h4 : Nat.ble 4 s = true) (hk : Nat.beq (a_sk s).1 2 = true) (hn : a_ln (MM I w k) (s, q) = n) (hb : a_inb i n = true) (hj : i.toNatClampNeg = j) (hp : pc + len = pc2) : rn f (pc, ls, .inl x :: .inl i :: .inr (.inr (some (s, q))) :: st, MM I w k) = rn f (pc2, ls, st, MM (a_setI I s q j x.toInt8.toInt32) w k) := by
  subst hp
  subst hn
  subst hj
  refine y_kt hi ?_ hb
  first
    | (delta a_ex; simp only [h4, hk, cond_true]; done)
    | (delta a_ex; dsimp only; simp only [h4, hk, cond_true]; rfl)
    | (delta a_ex; dsimp only; rw [h4, hk]; done)
    | (delta a_ex; dsimp only; rw [h4, hk]; rfl)
theorem y_bzs {f pc len : Nat} {ls : List (Option aV)} {st : List aV} {I : aI} {w : aW} {k : aQ} (pc2 n j : Nat) {x i : Int32} {s q : Nat} (hi : a_ins f pc = some (.bastore, len)) (h4 : Nat.ble 4 s = true) (hk2 : Nat.beq (a_sk s).1 2 = false) (hk : Nat.beq (a_sk s).1 3 = true) (hn : a_ln (MM I w k) (s, q) = n) (hj : i.toNatClampNeg = j) (hp : pc + len = pc2) : rn f (pc, ls, .inl x :: .inl i :: .inr (.inr (some (s, q))) :: st, MM I w k) = cond (a_inb i n && a_bz x) (rn f (pc2, ls, st, MM (a_setI I s q j x) w k)) none := by
  subst hp
  subst hn
  subst hj
  refine y_k hi ?_
  first
    | (delta a_ex; simp only [h4, hk2, hk, cond_true, cond_false]; done)
    | (delta a_ex; dsimp only; simp only [h4, hk2, hk, cond_true, cond_false]; rfl)
    | (delta a_ex; dsimp only; rw [h4, hk2, hk]; done)
    | (delta a_ex; dsimp only; rw [h4, hk2, hk]; rfl)
theorem y_last {f pc len : Nat} {ls : List (Option aV)} {st : List aV} {I : aI} {w : aW} {k : aQ} (pc2 n j : Nat) {x : Int64} {i : Int32} {s q : Nat} (hi : a_ins f pc = some (.lastore, len)) (hk : (Nat.beq (a_sk s).1 4 && Nat.ble 4 s) = true) (hn : a_ln (MM I w k) (s, q) = n) (hb : a_inb i n = true) (hj : i.toNatClampNeg = j) (hp : pc + len = pc2) : rn f (pc, ls, .inr (.inl x) :: .inl i :: .inr (.inr (some (s, q))) :: st, MM I w k) = rn f (pc2, ls, st, MM I w (a_setL k.1 s q j x, k.2)) := by
  subst hp
  subst hn
  subst hj
  refine y_kt hi ?_ hb
  first
    | (delta a_ex; simp only [hk, cond_true]; done)
    | (delta a_ex; dsimp only; simp only [hk, cond_true]; rfl)
    | (delta a_ex; dsimp only; rw [hk]; done)
    | (delta a_ex; dsimp only; rw [hk]; rfl)
theorem y_gv {f pc len : Nat} {ls : List (Option aV)} {st : List aV} {I : aI} {w : aW} {k : aQ} {c g : Nat} {as st2 : List aV} (hi : a_ins f pc = some (.invokevirtual c, len)) (h : a_call f pc c 0 ls st (MM I w k) = a_cl g as (pc, ls, st2, MM I w k)) : rn f (pc, ls, st, MM I w k) = (rn g (a_en g as (MM I w k))).bind (fun o => a_bk f g (pc, ls, st2, MM I w k) o (rn f)) := y_g hi h
theorem y_nv {f pc len : Nat} {ls : List (Option aV)} {st : List aV} {I : aI} {w : aW} {k : aQ} (pc2 : Nat) (st2 : List aV) {c : Nat} (hi : a_ins f pc = some (.invokevirtual c, len)) (h : a_call f pc c 0 ls st (MM I w k) = a_nx (pc2, ls, st2, MM I w k)) : rn f (pc, ls, st, MM I w k) = rn f (pc2, ls, st2, MM I w k) := y_s hi h
theorem y_gs {f pc len : Nat} {ls : List (Option aV)} {st : List aV} {I : aI} {w : aW} {k : aQ} {c g : Nat} {as st2 : List aV} (hi : a_ins f pc = some (.invokestatic c, len)) (h : a_call f pc c 1 ls st (MM I w k) = a_cl g as (pc, ls, st2, MM I w k)) : rn f (pc, ls, st, MM I w k) = (rn g (a_en g as (MM I w k))).bind (fun o => a_bk f g (pc, ls, st2, MM I w k) o (rn f)) := y_g hi h
theorem y_ns {f pc len : Nat} {ls : List (Option aV)} {st : List aV} {I : aI} {w : aW} {k : aQ} (pc2 : Nat) (st2 : List aV) {c : Nat} (hi : a_ins f pc = some (.invokestatic c, len)) (h : a_call f pc c 1 ls st (MM I w k) = a_nx (pc2, ls, st2, MM I w k)) : rn f (pc, ls, st, MM I w k) = rn f (pc2, ls, st2, MM I w k) := y_s hi h
theorem y_gp {f pc len : Nat} {ls : List (Option aV)} {st : List aV} {I : aI} {w : aW} {k : aQ} {c g : Nat} {as st2 : List aV} (hi : a_ins f pc = some (.invokespecial c, len)) (h : a_call f pc c 2 ls st (MM I w k) = a_cl g as (pc, ls, st2, MM I w k)) : rn f (pc, ls, st, MM I w k) = (rn g (a_en g as (MM I w k))).bind (fun o => a_bk f g (pc, ls, st2, MM I w k) o (rn f)) := y_g hi h
theorem y_np {f pc len : Nat} {ls : List (Option aV)} {st : List aV} {I : aI} {w : aW} {k : aQ} (pc2 : Nat) (st2 : List aV) {c : Nat} (hi : a_ins f pc = some (.invokespecial c, len)) (h : a_call f pc c 2 ls st (MM I w k) = a_nx (pc2, ls, st2, MM I w k)) : rn f (pc, ls, st, MM I w k) = rn f (pc2, ls, st2, MM I w k) := y_s hi h
theorem y_cp {f pc len : Nat} {ls : List (Option aV)} {st : List aV} {I : aI} {w : aW} {k : aQ} (pc2 : Nat) (st2 : List aV) (I2 : aI) {b : Bool} {c : Nat} (hi : a_ins f pc = some (.invokestatic c, len)) (h : a_call f pc c 1 ls st (MM I w k) = a_ck b (pc2, ls, st2, MM I2 w k)) (hb : b = true) : rn f (pc, ls, st, MM I w k) = rn f (pc2, ls, st2, MM I2 w k) := y_kt hi h hb
theorem y_ri {f pc len : Nat} {ls : List (Option aV)} {I : aI} {w : aW} {k : aQ} {x : Int32} (hi : a_ins f pc = some (.ireturn, len)) (hr : a_rt f = some .int) : rn f (pc, ls, [.inl x], MM I w k) = some (.inl (some (.inl x)), MM I w k) := y_dt hi (b := a_rok (a_rt f) x) rfl (by rw [hr]; rfl)
theorem y_rbt {f pc len : Nat} {ls : List (Option aV)} {I : aI} {w : aW} {k : aQ} {x : Int32} (hi : a_ins f pc = some (.ireturn, len)) (hr : a_rt f = some .boolean) (hb : a_bz x = true) : rn f (pc, ls, [.inl x], MM I w k) = some (.inl (some (.inl x)), MM I w k) := y_dt hi (b := a_rok (a_rt f) x) rfl (by rw [hr]; exact hb)
theorem y_rb {f pc len : Nat} {ls : List (Option aV)} {I : aI} {w : aW} {k : aQ} {x : Int32} (hi : a_ins f pc = some (.ireturn, len)) (hr : a_rt f = some .boolean) : rn f (pc, ls, [.inl x], MM I w k) = cond (a_bz x) (some (.inl (some (.inl x)), MM I w k)) none := (y_dc hi (b := a_rok (a_rt f) x) rfl).trans (by rw [hr]; rfl)
theorem y_xv {f pc len : Nat} {ls : List (Option aV)} {st : List aV} {I : aI} {w : aW} {k : aQ} {c g kd n : Nat} (as st2 : List aV) (hi : a_ins f pc = some (.invokevirtual c, len)) (h : a_cx f c 0 = some (g, kd, n)) (h1 : Nat.ble n st.length = true) (h2 : Nat.ble (a_cs (st.drop n)) 8 = true) (h3 : ((st.take n).all fun v => Nat.beq (a_cat v) 1) = true) (ha : (st.take n).reverse = as) (hs : st.drop n = st2) (h4 : a_rck kd g as = true) : rn f (pc, ls, st, MM I w k) = (rn g (a_en g as (MM I w k))).bind (fun o => a_bk f g (pc, ls, st2, MM I w k) o (rn f)) := y_g hi (y_cx h h1 h2 h3 (by rw [ha]; exact h4) ha hs)
theorem y_xs {f pc len : Nat} {ls : List (Option aV)} {st : List aV} {I : aI} {w : aW} {k : aQ} {c g kd n : Nat} (as st2 : List aV) (hi : a_ins f pc = some (.invokestatic c, len)) (h : a_cx f c 1 = some (g, kd, n)) (h1 : Nat.ble n st.length = true) (h2 : Nat.ble (a_cs (st.drop n)) 8 = true) (h3 : ((st.take n).all fun v => Nat.beq (a_cat v) 1) = true) (ha : (st.take n).reverse = as) (hs : st.drop n = st2) (h4 : a_rck kd g as = true) : rn f (pc, ls, st, MM I w k) = (rn g (a_en g as (MM I w k))).bind (fun o => a_bk f g (pc, ls, st2, MM I w k) o (rn f)) := y_g hi (y_cx h h1 h2 h3 (by rw [ha]; exact h4) ha hs)
theorem y_xp {f pc len : Nat} {ls : List (Option aV)} {st : List aV} {I : aI} {w : aW} {k : aQ} {c g kd n : Nat} (as st2 : List aV) (hi : a_ins f pc = some (.invokespecial c, len)) (h : a_cx f c 2 = some (g, kd, n)) (h1 : Nat.ble n st.length = true) (h2 : Nat.ble (a_cs (st.drop n)) 8 = true) (h3 : ((st.take n).all fun v => Nat.beq (a_cat v) 1) = true) (ha : (st.take n).reverse = as) (hs : st.drop n = st2) (h4 : a_rck kd g as = true) : rn f (pc, ls, st, MM I w k) = (rn g (a_en g as (MM I w k))).bind (fun o => a_bk f g (pc, ls, st2, MM I w k) o (rn f)) := y_g hi (y_cx h h1 h2 h3 (by rw [ha]; exact h4) ha hs)
theorem y_m9 {f pc len : Nat} {ls : List (Option aV)} {st : List aV} {I : aI} {w : aW} {k : aQ} (pc2 : Nat) {c g : Nat} {x : Int32} (hi : a_ins f pc = some (.invokestatic c, len)) (h : a_cpM (a_own f) c = some (g, 9)) (h1 : Nat.ble 1 (a_rF f) = true) (h2 : Nat.ble (a_cs st + 13) (a_rL f) = true) (hp : pc + 3 = pc2) : rn f (pc, ls, .inl x :: st, MM I w k) = rn f (pc2, ls, .inl (if 0 ≤ x then x else 0 - x) :: st, MM I w k) := by
  subst hp
  refine y_s hi ?_
  show a_call f pc c 1 ls _ _ = _
  unfold a_call
  rw [h]
  simp only [h1, h2, Bool.and_true, show Nat.beq 1 1 = true from rfl, cond_true]
theorem y_m10 {f pc len : Nat} {ls : List (Option aV)} {st : List aV} {I : aI} {w : aW} {k : aQ} (pc2 : Nat) {c g : Nat} {x y : Int32} (hi : a_ins f pc = some (.invokestatic c, len)) (h : a_cpM (a_own f) c = some (g, 10)) (h1 : Nat.ble 1 (a_rF f) = true) (h2 : Nat.ble (a_cs st + 13) (a_rL f) = true) (hp : pc + 3 = pc2) : rn f (pc, ls, .inl y :: .inl x :: st, MM I w k) = rn f (pc2, ls, .inl (if y < x then y else x) :: st, MM I w k) := by
  subst hp
  refine y_s hi ?_
  show a_call f pc c 1 ls _ _ = _
  unfold a_call
  rw [h]
  simp only [h1, h2, Bool.and_true, show Nat.beq 1 1 = true from rfl, cond_true]
theorem y_m11 {f pc len : Nat} {ls : List (Option aV)} {st : List aV} {I : aI} {w : aW} {k : aQ} (pc2 : Nat) {c g : Nat} {x y : Int32} (hi : a_ins f pc = some (.invokestatic c, len)) (h : a_cpM (a_own f) c = some (g, 11)) (h1 : Nat.ble 1 (a_rF f) = true) (h2 : Nat.ble (a_cs st + 13) (a_rL f) = true) (hp : pc + 3 = pc2) : rn f (pc, ls, .inl y :: .inl x :: st, MM I w k) = rn f (pc2, ls, .inl (if x < y then y else x) :: st, MM I w k) := by
  subst hp
  refine y_s hi ?_
  show a_call f pc c 1 ls _ _ = _
  unfold a_call
  rw [h]
  simp only [h1, h2, Bool.and_true, show Nat.beq 1 1 = true from rfl, cond_true]
theorem y_rao {f pc len : Nat} {ls : List (Option aV)} {I : aI} {w : aW} {k : aQ} {x : Option aN} {t : _} (hi : a_ins f pc = some (.areturn, len)) (hr : a_rt f = some (.object t)) : rn f (pc, ls, [.inr (.inr x)], MM I w k) = some (.inl (some (.inr (.inr x))), MM I w k) := y_dt hi (b := true) (by delta a_ex; simp only [hr]) rfl
theorem y_raa {f pc len : Nat} {ls : List (Option aV)} {I : aI} {w : aW} {k : aQ} {x : Option aN} {t : _} (hi : a_ins f pc = some (.areturn, len)) (hr : a_rt f = some (.array t)) : rn f (pc, ls, [.inr (.inr x)], MM I w k) = some (.inl (some (.inr (.inr x))), MM I w k) := y_dt hi (b := true) (by delta a_ex; simp only [hr]) rfl
theorem y_rv {f pc len : Nat} {ls : List (Option aV)} {I : aI} {w : aW} {k : aQ} (hi : a_ins f pc = some (.return_, len)) (hr : a_rt f = none) : rn f (pc, ls, [], MM I w k) = some (.inl none, MM I w k) := y_dt hi (b := true) (by delta a_ex; simp only [hr]) rfl
theorem y_nt {f pc len : Nat} {ls : List (Option aV)} {st : List aV} {I : aI} {w : aW} {k : aQ} {c e : Nat} (hi : a_ins f pc = some (.new c, len)) (hs : a_site f pc = none) (he : a_thr f pc = some e) (hb : (Nat.ble 6 (a_rF f) && Nat.ble (a_cs st + 82) (a_rL f)) = true) : rn f (pc, ls, st, MM I w k) = some (.inr e, MM I w (k.1, k.2.1, k.2.2.1 + 1, k.2.2.2 + 6)) := y_dt hi (b := true) (by delta a_ex; simp only [hs, he, hb, cond_true, MM]) rfl
