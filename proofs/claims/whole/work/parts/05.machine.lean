/-! ===== THE ABSTRACT MACHINE: names for cells, ints and references apart, whole bytecode instructions over it ===== -/
/-- a name of a cell: the place in the code that makes it, and its number among those -/
abbrev aN : Type := Nat × Nat
/-- a value: an int, a long, a reference or null -/
abbrev aV : Type := Int32 ⊕ (Int64 ⊕ Option aN)
/-- the memory: ints, references, longs (by place, number, slot), how many cells of a place there are, cells and slots made so far -/
abbrev aM : Type := (Nat → Nat → Nat → Int32) × (Nat → Nat → Nat → Option aN) × (Nat → Nat → Nat → Int64) × (Nat → Nat) × Nat × Nat
abbrev aS : Type := Nat × List (Option aV) × List aV × aM
abbrev aO : Type := (Option aV ⊕ Nat) × aM
abbrev aA : Type := (Bool × aO) ⊕ ((Bool × aS) ⊕ ((List (Bool × aS) × aS) ⊕ (Nat × List aV × aS)))
def a_dn (b : Bool) (o : aO) : aA := .inl (b, o)
def a_ck (b : Bool) (s : aS) : aA := .inr (.inl (b, s))
def a_nx (s : aS) : aA := .inr (.inl (true, s))
def a_stk (s : aS) : aA := .inr (.inl (false, s))
def a_br (b : Bool) (s1 s2 : aS) : aA := .inr (.inr (.inl ([(b, s1)], s2)))
def a_sw (l : List (Bool × aS)) (d : aS) : aA := .inr (.inr (.inl (l, d)))
def a_cl (g : Nat) (as : List aV) (s : aS) : aA := .inr (.inr (.inr (g, as, s)))
def a_setI (I : Nat → Nat → Nat → Int32) (s q k : Nat) (v : Int32) : Nat → Nat → Nat → Int32 := fun s' q' k' => bif Nat.beq s' s && (Nat.beq k' k && Nat.beq q' q) then v else I s' q' k'
def a_setR (I : Nat → Nat → Nat → Option aN) (s q k : Nat) (v : Option aN) : Nat → Nat → Nat → Option aN := fun s' q' k' => bif Nat.beq s' s && (Nat.beq k' k && Nat.beq q' q) then v else I s' q' k'
def a_setL (I : Nat → Nat → Nat → Int64) (s q k : Nat) (v : Int64) : Nat → Nat → Nat → Int64 := fun s' q' k' => bif Nat.beq s' s && (Nat.beq k' k && Nat.beq q' q) then v else I s' q' k'
def a_clr {α : Type} (z : α) (I : Nat → Nat → Nat → α) (s q : Nat) : Nat → Nat → Nat → α := fun s' q' k' => bif Nat.beq s' s && Nat.beq q' q then z else I s' q' k'
def a_inc (c : Nat → Nat) (s : Nat) : Nat → Nat := fun s' => bif Nat.beq s' s then Nat.succ (c s') else c s'
/-- a new cell of the place s with n slots -/
def a_mk (M : aM) (s n : Nat) : aM := (a_clr 0 M.1 s (M.2.2.2.1 s), a_clr none M.2.1 s (M.2.2.2.1 s), a_clr 0 M.2.2.1 s (M.2.2.2.1 s), a_inc M.2.2.2.1 s, M.2.2.2.2.1 + 1, M.2.2.2.2.2 + n)
def a_cpI (I : Nat → Nat → Nat → Int32) (s q : Nat) (g : Nat → Int32) : Nat → Nat → Nat → Int32 := fun s' q' k' => bif Nat.beq s' s && Nat.beq q' q then g k' else I s' q' k'
def a_tg (pc : Nat) (off : Int) : Option Nat := match (pc : Int) + off with
  | .ofNat t => some t
  | .negSucc _ => none
def a_cat : aV → Nat
  | .inr (.inl _) => 2
  | _ => 1
def a_cs (st : List aV) : Nat := (st.map a_cat).sum
def a_lg : List (Option aV) → Nat → Option aV
  | [], _ => none
  | x :: _, 0 => x
  | _ :: r, n + 1 => a_lg r n
def a_cmp (c : Jvm.ClassFile.Cond) (x y : Int32) : Bool := match c with
  | .eq => decide (x = y)
  | .ne => decide (¬ x = y)
  | .lt => decide (x < y)
  | .ge => decide (y ≤ x)
  | .gt => decide (y < x)
  | .le => decide (x ≤ y)
def a_inb (i : Int32) (n : Nat) : Bool := decide (¬ (i < 0 ∨ n ≤ i.toNatClampNeg))
/-- how long the array of this name is -/
def a_ln (M : aM) (n : aN) : Nat := match n.1 with
  | 0 => M.2.2.2.1 0
  | 2 => a_sl n.2
  | s => (a_sk s).2.2
/-- the slot that an entry of the pool names, of an object of this place, and its kind -/
def a_fld (c idx s : Nat) : Option (Nat × Nat) := match a_cpF c idx with
  | none => none
  | some (ci, j) => bif Nat.beq (a_sk s).1 0 && Nat.beq (a_sk s).2.1 ci then some (j, a_fr ci j) else none
def a_bz (x : Int32) : Bool := x == 0 || x == 1
/-- what the return type asks of an int -/
def a_rok (r : Option FieldType) (x : Int32) : Bool := match r with
  | some .int => true
  | some .boolean => a_bz x
  | some ty => decide (narrow ty (.int x) = .int x)
  | none => false
def a_rcv (g : Nat) (as : List aV) : Bool := match as with
  | .inr (.inr (some n)) :: _ => Nat.beq (a_sk n.1).1 0 && Nat.beq (a_sk n.1).2.1 (a_own g)
  | _ => false
def a_nnl (as : List aV) : Bool := match as with
  | .inr (.inr (some _)) :: _ => true
  | _ => false
def a_rck (kd g : Nat) (as : List aV) : Bool := match kd with
  | 0 => a_rcv g as
  | 8 => a_rcv g as
  | 2 => a_nnl as && a_nt g
  | 6 => a_nnl as && a_nt g
  | 7 => a_nt g
  | _ => true
/-- op: 0 virtual, 1 static, 2 special; kinds: 0 virtual, 1 static, 2 constructor, 3 Object's, 4 arraycopy, 5 static with a table, 6 constructor of a nest mate, 7 static of a nest mate, 8 virtual of a String, 9 Math.abs, 10 Math.min, 11 Math.max -/
def a_call (f pc idx op : Nat) (ls : List (Option aV)) (st : List aV) (M : aM) : aA := match a_cpM (a_own f) idx with
  | none => a_stk (pc, ls, st, M)
  | some (g, kd) => match kd with
    | 3 => match st with
      | .inr (.inr (some _)) :: r => bif Nat.beq op 2 && Nat.ble 1 (a_rF f) && Nat.ble (a_cs r + 12) (a_rL f) then a_nx (pc + 3, ls, r, M) else a_stk (pc, ls, st, M)
      | _ => a_stk (pc, ls, st, M)
    | 4 => match st with
      | .inl n :: .inl dp :: .inr (.inr (some d)) :: .inl sp :: .inr (.inr (some b)) :: r =>
        bif Nat.beq op 1 && Nat.ble 1 (a_rF f) && Nat.ble (a_cs r + 40) (a_rL f) && Nat.beq (a_sk d.1).1 1 && Nat.beq (a_sk b.1).1 1 && Nat.ble 4 d.1 && Nat.ble 4 b.1 then
          a_ck (decide (¬ sp < 0) && decide (¬ dp < 0) && decide (¬ n < 0) && decide (sp.toNatClampNeg + n.toNatClampNeg ≤ (a_sk b.1).2.2) && decide (dp.toNatClampNeg + n.toNatClampNeg ≤ (a_sk d.1).2.2))
            (pc + 3, ls, r, (a_cpI M.1 d.1 d.2 (va_cpy (M.1 b.1 b.2) (M.1 d.1 d.2) sp.toNatClampNeg dp.toNatClampNeg n.toNatClampNeg), M.2))
        else a_stk (pc, ls, st, M)
      | _ => a_stk (pc, ls, st, M)
    | 9 => match st with
      | .inl x :: r => bif Nat.beq op 1 && Nat.ble 1 (a_rF f) && Nat.ble (a_cs r + 13) (a_rL f) then a_nx (pc + 3, ls, .inl (if 0 ≤ x then x else 0 - x) :: r, M) else a_stk (pc, ls, st, M)
      | _ => a_stk (pc, ls, st, M)
    | 10 => match st with
      | .inl y :: .inl x :: r => bif Nat.beq op 1 && Nat.ble 1 (a_rF f) && Nat.ble (a_cs r + 13) (a_rL f) then a_nx (pc + 3, ls, .inl (if y < x then y else x) :: r, M) else a_stk (pc, ls, st, M)
      | _ => a_stk (pc, ls, st, M)
    | 11 => match st with
      | .inl y :: .inl x :: r => bif Nat.beq op 1 && Nat.ble 1 (a_rF f) && Nat.ble (a_cs r + 13) (a_rL f) then a_nx (pc + 3, ls, .inl (if x < y then y else x) :: r, M) else a_stk (pc, ls, st, M)
      | _ => a_stk (pc, ls, st, M)
    | _ => bif Nat.beq (a_ko kd) op && Nat.ble (a_na g) (a_ml g) && Nat.ble (a_na g) st.length && Nat.ble (a_rF g + 1) (a_rF f) && Nat.ble (8 + (a_ml g + 11) + a_rL g) (a_rL f) && Nat.ble (a_cs (st.drop (a_na g))) 8 && ((st.take (a_na g)).all (fun v => Nat.beq (a_cat v) 1)) && a_rck kd g (st.take (a_na g)).reverse then a_cl g (st.take (a_na g)).reverse (pc, ls, st.drop (a_na g), M) else a_stk (pc, ls, st, M)
def a_swl (pc : Nat) (ls : List (Option aV)) (st : List aV) (M : aM) (x : Int32) : Int → List Int → List (Bool × aS)
  | _, [] => []
  | lo, o :: r => (decide (x.toInt = lo), (((pc : Int) + o).toNat, ls, st, M)) :: a_swl pc ls st M x (lo + 1) r
/-- one instruction -/
def a_ex (f pc len : Nat) (ls : List (Option aV)) (st : List aV) (M : aM) (i : Instr) : aA := match i with
  | .iconst n => a_nx (pc + len, ls, .inl (Int32.ofInt n) :: st, M)
  | .bipush n => a_nx (pc + len, ls, .inl (Int8.ofInt n).toInt32 :: st, M)
  | .sipush n => a_nx (pc + len, ls, .inl (Int16.ofInt n).toInt32 :: st, M)
  | .lconst n => a_nx (pc + len, ls, .inr (.inl (Int64.ofNat n.val)) :: st, M)
  | .aconst_null => a_nx (pc + len, ls, .inr (.inr none) :: st, M)
  | .ldc k => match a_cpC (a_own f) k with
    | some v => a_nx (pc + len, ls, v :: st, M)
    | none => a_stk (pc, ls, st, M)
  | .ldc_w k => match a_cpC (a_own f) k with
    | some v => match v with
      | .inl x => a_nx (pc + len, ls, .inl x :: st, M)
      | _ => a_stk (pc, ls, st, M)
    | none => a_stk (pc, ls, st, M)
  | .ldc2_w k => match a_cpL (a_own f) k with
    | some v => a_nx (pc + len, ls, .inr (.inl v) :: st, M)
    | none => a_stk (pc, ls, st, M)
  | .iload_n n => match a_lg ls n.val with
    | some (.inl x) => a_nx (pc + len, ls, .inl x :: st, M)
    | _ => a_stk (pc, ls, st, M)
  | .iload n => match a_lg ls n with
    | some (.inl x) => a_nx (pc + len, ls, .inl x :: st, M)
    | _ => a_stk (pc, ls, st, M)
  | .aload_n n => match a_lg ls n.val with
    | some (.inr (.inr x)) => a_nx (pc + len, ls, .inr (.inr x) :: st, M)
    | _ => a_stk (pc, ls, st, M)
  | .aload n => match a_lg ls n with
    | some (.inr (.inr x)) => a_nx (pc + len, ls, .inr (.inr x) :: st, M)
    | _ => a_stk (pc, ls, st, M)
  | .istore_n n => match st with
    | .inl x :: r => bif Nat.blt n.val ls.length then a_nx (pc + len, ls.set n.val (some (.inl x)), r, M) else a_stk (pc, ls, st, M)
    | _ => a_stk (pc, ls, st, M)
  | .istore n => match st with
    | .inl x :: r => bif Nat.blt n ls.length then a_nx (pc + len, ls.set n (some (.inl x)), r, M) else a_stk (pc, ls, st, M)
    | _ => a_stk (pc, ls, st, M)
  | .astore_n n => match st with
    | .inr (.inr x) :: r => bif Nat.blt n.val ls.length then a_nx (pc + len, ls.set n.val (some (.inr (.inr x))), r, M) else a_stk (pc, ls, st, M)
    | _ => a_stk (pc, ls, st, M)
  | .astore n => match st with
    | .inr (.inr x) :: r => bif Nat.blt n ls.length then a_nx (pc + len, ls.set n (some (.inr (.inr x))), r, M) else a_stk (pc, ls, st, M)
    | _ => a_stk (pc, ls, st, M)
  | .iinc n d => match a_lg ls n with
    | some (.inl x) => a_nx (pc + len, ls.set n (some (.inl (x + Int32.ofInt d))), st, M)
    | _ => a_stk (pc, ls, st, M)
  | .iadd => match st with
    | .inl y :: .inl x :: r => a_nx (pc + len, ls, .inl (x + y) :: r, M)
    | _ => a_stk (pc, ls, st, M)
  | .isub => match st with
    | .inl y :: .inl x :: r => a_nx (pc + len, ls, .inl (x - y) :: r, M)
    | _ => a_stk (pc, ls, st, M)
  | .imul => match st with
    | .inl y :: .inl x :: r => a_nx (pc + len, ls, .inl (x * y) :: r, M)
    | _ => a_stk (pc, ls, st, M)
  | .iand => match st with
    | .inl y :: .inl x :: r => a_nx (pc + len, ls, .inl (x &&& y) :: r, M)
    | _ => a_stk (pc, ls, st, M)
  | .ior => match st with
    | .inl y :: .inl x :: r => a_nx (pc + len, ls, .inl (x ||| y) :: r, M)
    | _ => a_stk (pc, ls, st, M)
  | .ixor => match st with
    | .inl y :: .inl x :: r => a_nx (pc + len, ls, .inl (x ^^^ y) :: r, M)
    | _ => a_stk (pc, ls, st, M)
  | .idiv => match st with
    | .inl y :: .inl x :: r => a_ck (decide (¬ y = 0)) (pc + len, ls, .inl (x / y) :: r, M)
    | _ => a_stk (pc, ls, st, M)
  | .irem => match st with
    | .inl y :: .inl x :: r => a_ck (decide (¬ y = 0)) (pc + len, ls, .inl (x - x / y * y) :: r, M)
    | _ => a_stk (pc, ls, st, M)
  | .ishl => match st with
    | .inl y :: .inl x :: r => a_nx (pc + len, ls, .inl (x <<< (y &&& 31)) :: r, M)
    | _ => a_stk (pc, ls, st, M)
  | .ishr => match st with
    | .inl y :: .inl x :: r => a_nx (pc + len, ls, .inl (x >>> (y &&& 31)) :: r, M)
    | _ => a_stk (pc, ls, st, M)
  | .iushr => match st with
    | .inl y :: .inl x :: r => a_nx (pc + len, ls, .inl (x.toUInt32 >>> (y.toUInt32 &&& Int32.toUInt32 31)).toInt32 :: r, M)
    | _ => a_stk (pc, ls, st, M)
  | .ineg => match st with
    | .inl x :: r => a_nx (pc + len, ls, .inl (-x) :: r, M)
    | _ => a_stk (pc, ls, st, M)
  | .i2l => match st with
    | .inl x :: r => a_nx (pc + len, ls, .inr (.inl x.toInt64) :: r, M)
    | _ => a_stk (pc, ls, st, M)
  | .l2i => match st with
    | .inr (.inl x) :: r => a_nx (pc + len, ls, .inl x.toInt32 :: r, M)
    | _ => a_stk (pc, ls, st, M)
  | .i2b => match st with
    | .inl x :: r => a_nx (pc + len, ls, .inl x.toInt8.toInt32 :: r, M)
    | _ => a_stk (pc, ls, st, M)
  | .i2c => match st with
    | .inl x :: r => a_nx (pc + len, ls, .inl (x.toUInt32 % 65536).toInt32 :: r, M)
    | _ => a_stk (pc, ls, st, M)
  | .ladd => match st with
    | .inr (.inl y) :: .inr (.inl x) :: r => a_nx (pc + len, ls, .inr (.inl (x + y)) :: r, M)
    | _ => a_stk (pc, ls, st, M)
  | .lmul => match st with
    | .inr (.inl y) :: .inr (.inl x) :: r => a_nx (pc + len, ls, .inr (.inl (x * y)) :: r, M)
    | _ => a_stk (pc, ls, st, M)
  | .lrem => match st with
    | .inr (.inl y) :: .inr (.inl x) :: r => a_ck (decide (¬ y = 0)) (pc + len, ls, .inr (.inl (x - x / y * y)) :: r, M)
    | _ => a_stk (pc, ls, st, M)
  | .lcmp => match st with
    | .inr (.inl y) :: .inr (.inl x) :: r => a_nx (pc + len, ls, .inl (lg_cmp x y) :: r, M)
    | _ => a_stk (pc, ls, st, M)
  | .dup => match st with
    | .inl x :: r => a_nx (pc + len, ls, .inl x :: .inl x :: r, M)
    | .inr (.inr x) :: r => a_nx (pc + len, ls, .inr (.inr x) :: .inr (.inr x) :: r, M)
    | _ => a_stk (pc, ls, st, M)
  | .pop => match st with
    | .inl _ :: r => a_nx (pc + len, ls, r, M)
    | .inr (.inr _) :: r => a_nx (pc + len, ls, r, M)
    | _ => a_stk (pc, ls, st, M)
  | .dup2 => match st with
    | .inl x :: .inr (.inr y) :: r => a_nx (pc + len, ls, .inl x :: .inr (.inr y) :: .inl x :: .inr (.inr y) :: r, M)
    | _ => a_stk (pc, ls, st, M)
  | .goto off => match a_tg pc off with
    | some t => a_nx (t, ls, st, M)
    | none => a_stk (pc, ls, st, M)
  | .ifCond c off => match st, a_tg pc off with
    | .inl x :: r, some t => a_br (a_cmp c x 0) (t, ls, r, M) (pc + len, ls, r, M)
    | _, _ => a_stk (pc, ls, st, M)
  | .if_icmp c off => match st, a_tg pc off with
    | .inl y :: .inl x :: r, some t => a_br (a_cmp c x y) (t, ls, r, M) (pc + len, ls, r, M)
    | _, _ => a_stk (pc, ls, st, M)
  | .ifnonnull off => match st, a_tg pc off with
    | .inr (.inr x) :: r, some t => match x with
      | some _ => a_nx (t, ls, r, M)
      | none => a_nx (pc + len, ls, r, M)
    | _, _ => a_stk (pc, ls, st, M)
  | .tableswitch d lo hi offs => match st with
    | .inl x :: r => bif decide (hi + 1 - lo = (offs.toList.length : Int)) && (d :: offs.toList).all (fun o => decide (0 ≤ (pc : Int) + o)) then a_sw (a_swl pc ls r M x lo offs.toList) (((pc : Int) + d).toNat, ls, r, M) else a_stk (pc, ls, st, M)
    | _ => a_stk (pc, ls, st, M)
  | .getfield k => match st with
    | .inr (.inr (some n)) :: r => match a_fld (a_own f) k n.1 with
      | some (j, 2) => a_nx (pc + len, ls, .inr (.inr (M.2.1 n.1 n.2 j)) :: r, M)
      | some (j, _) => a_nx (pc + len, ls, .inl (M.1 n.1 n.2 j) :: r, M)
      | none => a_stk (pc, ls, st, M)
    | _ => a_stk (pc, ls, st, M)
  | .putfield k => match st with
    | .inl x :: .inr (.inr (some n)) :: r => match a_fld (a_own f) k n.1 with
      | some (j, 0) => bif Nat.ble 4 n.1 then a_nx (pc + len, ls, r, (a_setI M.1 n.1 n.2 j x, M.2)) else a_stk (pc, ls, st, M)
      | some (j, 1) => bif Nat.ble 4 n.1 then a_ck (a_bz x) (pc + len, ls, r, (a_setI M.1 n.1 n.2 j x, M.2)) else a_stk (pc, ls, st, M)
      | _ => a_stk (pc, ls, st, M)
    | .inr (.inr x) :: .inr (.inr (some n)) :: r => match a_fld (a_own f) k n.1 with
      | some (j, 2) => bif Nat.ble 4 n.1 && a_fin f n.1 j then a_nx (pc + len, ls, r, (M.1, a_setR M.2.1 n.1 n.2 j x, M.2.2)) else a_stk (pc, ls, st, M)
      | _ => a_stk (pc, ls, st, M)
    | _ => a_stk (pc, ls, st, M)
  | .getstatic k => match a_cpG (a_own f) k with
    | some (.inl v) => a_nx (pc + len, ls, .inl v :: st, M)
    | some (.inr _) => a_nx (pc + len, ls, .inr (.inr (M.2.1 3 0 0)) :: st, M)
    | none => a_stk (pc, ls, st, M)
  | .arraylength => match st with
    | .inr (.inr (some n)) :: r => bif Nat.ble 1 (a_sk n.1).1 && Nat.ble (a_sk n.1).1 5 then a_nx (pc + len, ls, .inl (Int32.ofNat (a_ln M n)) :: r, M) else a_stk (pc, ls, st, M)
    | _ => a_stk (pc, ls, st, M)
  | .iaload => match st with
    | .inl i :: .inr (.inr (some n)) :: r => bif Nat.beq (a_sk n.1).1 1 then a_ck (a_inb i (a_ln M n)) (pc + len, ls, .inl (M.1 n.1 n.2 i.toNatClampNeg) :: r, M) else a_stk (pc, ls, st, M)
    | _ => a_stk (pc, ls, st, M)
  | .baload => match st with
    | .inl i :: .inr (.inr (some n)) :: r => bif Nat.beq (a_sk n.1).1 2 || Nat.beq (a_sk n.1).1 3 then a_ck (a_inb i (a_ln M n)) (pc + len, ls, .inl (M.1 n.1 n.2 i.toNatClampNeg) :: r, M) else a_stk (pc, ls, st, M)
    | _ => a_stk (pc, ls, st, M)
  | .laload => match st with
    | .inl i :: .inr (.inr (some n)) :: r => bif Nat.beq (a_sk n.1).1 4 then a_ck (a_inb i (a_ln M n)) (pc + len, ls, .inr (.inl (M.2.2.1 n.1 n.2 i.toNatClampNeg)) :: r, M) else a_stk (pc, ls, st, M)
    | _ => a_stk (pc, ls, st, M)
  | .aaload => match st with
    | .inl i :: .inr (.inr (some n)) :: r => bif Nat.beq (a_sk n.1).1 5 then a_ck (a_inb i (a_ln M n)) (pc + len, ls, .inr (.inr (M.2.1 n.1 n.2 i.toNatClampNeg)) :: r, M) else a_stk (pc, ls, st, M)
    | _ => a_stk (pc, ls, st, M)
  | .iastore => match st with
    | .inl x :: .inl i :: .inr (.inr (some n)) :: r => bif Nat.beq (a_sk n.1).1 1 && Nat.ble 4 n.1 then a_ck (a_inb i (a_ln M n)) (pc + len, ls, r, (a_setI M.1 n.1 n.2 i.toNatClampNeg x, M.2)) else a_stk (pc, ls, st, M)
    | _ => a_stk (pc, ls, st, M)
  | .bastore => match st with
    | .inl x :: .inl i :: .inr (.inr (some n)) :: r => bif Nat.ble 4 n.1 then (bif Nat.beq (a_sk n.1).1 2 then a_ck (a_inb i (a_ln M n)) (pc + len, ls, r, (a_setI M.1 n.1 n.2 i.toNatClampNeg x.toInt8.toInt32, M.2)) else
        bif Nat.beq (a_sk n.1).1 3 then a_ck (a_inb i (a_ln M n) && a_bz x) (pc + len, ls, r, (a_setI M.1 n.1 n.2 i.toNatClampNeg x, M.2)) else a_stk (pc, ls, st, M)) else a_stk (pc, ls, st, M)
    | _ => a_stk (pc, ls, st, M)
  | .lastore => match st with
    | .inr (.inl x) :: .inl i :: .inr (.inr (some n)) :: r => bif Nat.beq (a_sk n.1).1 4 && Nat.ble 4 n.1 then a_ck (a_inb i (a_ln M n)) (pc + len, ls, r, (M.1, M.2.1, a_setL M.2.2.1 n.1 n.2 i.toNatClampNeg x, M.2.2.2)) else a_stk (pc, ls, st, M)
    | _ => a_stk (pc, ls, st, M)
  | .aastore => match st with
    | .inr (.inr (some x)) :: .inl i :: .inr (.inr (some n)) :: r => bif Nat.beq (a_sk n.1).1 5 && Nat.ble 4 n.1 && Nat.beq (a_sk x.1).1 0 && Nat.beq (a_sk x.1).2.1 (a_sk n.1).2.1 then a_ck (a_inb i (a_ln M n)) (pc + len, ls, r, (M.1, a_setR M.2.1 n.1 n.2 i.toNatClampNeg (some x), M.2.2)) else a_stk (pc, ls, st, M)
    | _ => a_stk (pc, ls, st, M)
  | .new _ => match a_site f pc with
    | some s => a_nx (pc + len, ls, .inr (.inr (some (s, M.2.2.2.1 s))) :: st, a_mk M s (a_sk s).2.2)
    | none => match a_thr f pc with
      | some e => bif Nat.ble 6 (a_rF f) && Nat.ble (a_cs st + 82) (a_rL f) then a_dn true (.inr e, (M.1, M.2.1, M.2.2.1, M.2.2.2.1, M.2.2.2.2.1 + 1, M.2.2.2.2.2 + 6)) else a_stk (pc, ls, st, M)
      | none => a_stk (pc, ls, st, M)
  | .newarray _ => match st, a_site f pc with
    | .inl n :: r, some s => a_ck (decide (n = Int32.ofNat (a_sk s).2.2)) (pc + len, ls, .inr (.inr (some (s, M.2.2.2.1 s))) :: r, a_mk M s (a_sk s).2.2)
    | _, _ => a_stk (pc, ls, st, M)
  | .anewarray _ => match st, a_site f pc with
    | .inl n :: r, some s => a_ck (decide (n = Int32.ofNat (a_sk s).2.2)) (pc + len, ls, .inr (.inr (some (s, M.2.2.2.1 s))) :: r, a_mk M s (a_sk s).2.2)
    | _, _ => a_stk (pc, ls, st, M)
  | .invokevirtual k => a_call f pc k 0 ls st M
  | .invokestatic k => a_call f pc k 1 ls st M
  | .invokespecial k => a_call f pc k 2 ls st M
  | .ireturn => match st with
    | [.inl x] => a_dn (a_rok (a_rt f) x) (.inl (some (.inl x)), M)
    | _ => a_stk (pc, ls, st, M)
  | .areturn => match st with
    | [.inr (.inr x)] => match a_rt f with
      | some (.object _) => a_dn true (.inl (some (.inr (.inr x))), M)
      | some (.array _) => a_dn true (.inl (some (.inr (.inr x))), M)
      | _ => a_stk (pc, ls, st, M)
    | _ => a_stk (pc, ls, st, M)
  | .return_ => match st, a_rt f with
    | [], none => a_dn true (.inl none, M)
    | _, _ => a_stk (pc, ls, st, M)
  | _ => a_stk (pc, ls, st, M)
def a_one (f : Nat) (s : aS) : aA := match a_ins f s.1 with
  | some (i, len) => a_ex f s.1 len s.2.1 s.2.2.1 s.2.2.2 i
  | none => a_stk s
/-- where an exception goes in the method f: the handler's place behind its store, the local that is lost -/
def a_hd (e pc : Nat) : List (Nat × Nat × Nat × Nat × Nat × Nat × Nat) → Option (Nat × Nat)
  | [] => none
  | (lo, hi, h, c, loc, len, _) :: r => bif Nat.ble lo pc && Nat.blt pc hi && Nat.beq c e then some (h + len, loc) else a_hd e pc r
def a_bk (f g : Nat) (s : aS) (o : aO) (k : aS → Option aO) : Option aO := match o with
  | (.inl none, M) => k (s.1 + 3, s.2.1, s.2.2.1, M)
  | (.inl (some v), M) => k (s.1 + 3, s.2.1, v :: s.2.2.1, M)
  | (.inr e, M) => bif a_nt g then none else match a_hd e s.1 (a_hn f) with
    | some (h, loc) => k (h, s.2.1.set loc none, [], M)
    | none => some (.inr e, M)
def a_en (g : Nat) (as : List aV) (M : aM) : aS := (0, as.map some ++ List.replicate (a_ml g - as.length) none, [], M)
def a_alt (k : aS → Option aO) : List (Bool × aS) → aS → Option aO
  | [], d => k d
  | (b, s) :: r, d => cond b (k s) (a_alt k r d)
/-- one step: kf goes on in the method f, kg calls -/
def a_st (kf : aS → Option aO) (kg : Nat → aS → Option aO) (f : Nat) (s : aS) : Option aO := match a_one f s with
  | .inl (b, o) => cond b (some o) none
  | .inr (.inl (b, s')) => cond b (kf s') none
  | .inr (.inr (.inl (l, d))) => a_alt kf l d
  | .inr (.inr (.inr (g, as, s'))) => (kg g (a_en g as s'.2.2.2)).bind (fun o => a_bk f g s' o kf)
def a_run : Nat → Nat → aS → Option aO
  | 0, _, _ => none
  | n + 1, f, s => a_st (a_run n f) (a_run n) f s
