/-- where references lead, once all is made: sp, v0, v1, tg are the numbers of the spare and the saved simulations and of the parser's target -/
def wr (sp v0 v1 tg : Option Nat) : Nat → Nat → Nat → Option aN := fun s q k => match s with
  | 1 => some (2, q)
  | 9 => match k with
    | 4 => some (16, q)
    | _ => some (17, q)
  | 11 => some (14, 40 * q + k)
  | 12 => some (15, 60 * q + k)
  | 14 => some (6, q)
  | 15 => match k with
    | 5 => some (4, q)
    | _ => some (5, q)
  | 16 => some (18, 4 * q + k)
  | 18 => some (19, q)
  | 20 => match k with
    | 0 => some (9, q)
    | 1 => some (10, q)
    | 2 => some (11, q)
    | 4 => some (12, q)
    | _ => some (13, q)
  | 21 => match k with
    | 0 => some (7, 0)
    | 4 => tg.map (fun i => (20, i))
    | _ => some (8, 0)
  | 22 => match k with
    | 0 => v0.map (fun i => (20, i))
    | _ => v1.map (fun i => (20, i))
  | 30 => match k with
    | 0 => some (20, 0)
    | 1 => some (21, 0)
    | 2 => some (22, 0)
    | 3 => some (23, 0)
    | _ => sp.map (fun i => (20, i))
  | 31 => match k with
    | 1 => some (24, 0)
    | 2 => some (25, 0)
    | 3 => some (26, 0)
    | 4 => some (27, 0)
    | 9 => some (28, 0)
    | _ => some (29, 0)
  | _ => none
section
variable (I : Nat → Nat → Nat → Int32) (sp v0 v1 tg : Option Nat) (Lg : Nat → Nat → Nat → Int64) (cn : Nat → Nat) (ce sl : Nat)
set_option maxRecDepth 100000 in
theorem t_isFull (i : Nat) : rn 75 (0, [some (.inr (.inr (some (9, i))))], [], (I, wr sp v0 v1 tg, Lg, cn, ce, sl)) = cond (decide (I 9 i 3 < 4)) (some (.inl (some (.inl 0)), (I, wr sp v0 v1 tg, Lg, cn, ce, sl))) (some (.inl (some (.inl 1)), (I, wr sp v0 v1 tg, Lg, cn, ce, sl))) := (rn_to [] 20 _ _).trans rfl
theorem t_outside (a b c : Int32) (M : aM) : rn 159 (0, [some (.inl a), some (.inl b), some (.inl c)], [], M) = cond (decide (a < b)) (some (.inl (some (.inl 1)), M)) (cond (decide (a ≤ c)) (some (.inl (some (.inl 0)), M)) (some (.inl (some (.inl 1)), M))) := (rn_to [] 20 _ _).trans rfl
set_option maxRecDepth 100000 in
theorem t_fh (i : Nat) (a b : Int32) : rn 45 (4, [some (.inr (.inr (some (20, i)))), some (.inl a), some (.inl b)], [], (I, wr sp v0 v1 tg, Lg, cn, ce, sl)) = cond (decide (I 20 i 3 ≤ b)) (some (.inl (some (.inl a)), (I, wr sp v0 v1 tg, Lg, cn, ce, sl))) (cond (a_inb b 40) (cond (decide (¬ I 14 (40 * i + b.toNatClampNeg) 8 = -1)) (rn 45 (4, [some (.inr (.inr (some (20, i)))), some (.inl a), some (.inl (b + 1))], [], (I, wr sp v0 v1 tg, Lg, cn, ce, sl))) (cond (a_inb b 40) (rn 45 (4, [some (.inr (.inr (some (20, i)))), some (.inl (a + I 14 (40 * i + b.toNatClampNeg) 0)), some (.inl (b + 1))], [], (I, wr sp v0 v1 tg, Lg, cn, ce, sl))) none)) none) := (rn_to [4] 40 _ _).trans rfl
end
