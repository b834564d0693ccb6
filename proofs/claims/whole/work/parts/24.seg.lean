/-! ===== equations of runs by segments: up to loop heads and calls ===== -/
/-- one step: kf goes on, kc goes on behind a call, kg calls -/
noncomputable def a_sg (kf kc : aS → Option aO) (kg : Nat → aS → Option aO) (f : Nat) (s : aS) : Option aO := match a_one f s with
  | .inl (b, o) => cond b (some o) none
  | .inr (.inl (b, s')) => cond b (kf s') none
  | .inr (.inr (.inl (l, d))) => a_alt kf l d
  | .inr (.inr (.inr (g, as, s'))) => (kg g (a_en g as s'.2.2.2)).bind (fun o => a_bk f g s' o kc)
noncomputable def a_tq (cs : List Nat) (f : Nat) : Nat → aS → Option aO
  | 0, s => rn f s
  | n + 1, s => bif cs.any (fun c => Nat.beq c s.1) then rn f s else a_sg (a_tq cs f n) (rn f) rn f s
theorem a_sg_eq (f : Nat) (s : aS) : a_sg (rn f) (rn f) rn f s = rn f s := (rn_eq f s).symm
theorem a_tq_eq (cs : List Nat) (f : Nat) : ∀ (n : Nat) (s : aS), a_tq cs f n s = rn f s
  | 0, s => rfl
  | n + 1, s => by
    show (bif cs.any (fun c => Nat.beq c s.1) then rn f s else a_sg (a_tq cs f n) (rn f) rn f s) = rn f s
    cases cs.any (fun c => Nat.beq c s.1) with
    | true => rfl
    | false =>
      show a_sg (a_tq cs f n) (rn f) rn f s = rn f s
      rw [show a_tq cs f n = rn f from funext (a_tq_eq cs f n)]
      exact a_sg_eq f s
theorem rn_tq (cs : List Nat) (n f : Nat) (s : aS) : rn f s = a_sg (a_tq cs f n) (rn f) rn f s := by
  rw [show a_tq cs f n = rn f from funext (a_tq_eq cs f n)]
  exact (a_sg_eq f s).symm
/-- ints of the memory -/
abbrev aI : Type := Nat → Nat → Nat → Int32
/-- the numbers of the spare and the two saved simulations; a place that is not used (an earlier parser's target); what a static field holds -/
abbrev aW : Type := Option Nat × Option Nat × Option Nat × Option Nat × Option aN
/-- longs, counts, cells, slots -/
abbrev aQ : Type := (Nat → Nat → Nat → Int64) × (Nat → Nat) × Nat × Nat
/-- where references lead, once all is made -/
def wr (w : aW) : Nat → Nat → Nat → Option aN := fun s q k => match s with
  | 1 => some (2, q)
  | 3 => w.2.2.2.2
  | 9 => match k with
    | 4 => some (16, q)
    | 5 => some (17, q)
    | _ => none
  | 11 => bif Nat.blt k 40 then some (14, 40 * q + k) else none
  | 12 => bif Nat.blt k 60 then some (15, 60 * q + k) else none
  | 14 => match k with
    | 9 => some (6, q)
    | _ => none
  | 15 => match k with
    | 5 => some (4, q)
    | 6 => some (5, q)
    | _ => none
  | 16 => bif Nat.blt k 4 then some (18, 4 * q + k) else none
  | 18 => match k with
    | 6 => some (19, q)
    | _ => none
  | 20 => match k with
    | 0 => some (9, q)
    | 1 => some (10, q)
    | 2 => some (11, q)
    | 4 => some (12, q)
    | 6 => some (13, q)
    | _ => none
  | 21 => match k with
    | 0 => some (7, 0)
    | 7 => some (8, 0)
    | _ => none
  | 22 => match q with
    | 0 => match k with
      | 0 => w.2.1.map (fun i => (20, i))
      | 1 => w.2.2.1.map (fun i => (20, i))
      | _ => none
    | _ => none
  | 30 => match k with
    | 0 => some (20, 0)
    | 1 => some (21, 0)
    | 2 => some (22, 0)
    | 3 => some (23, 0)
    | 4 => match q with
      | 0 => w.1.map (fun i => (20, i))
      | _ => none
    | _ => none
  | 31 => match k with
    | 1 => some (24, 0)
    | 2 => some (25, 0)
    | 3 => some (26, 0)
    | 4 => some (27, 0)
    | 9 => some (28, 0)
    | 17 => some (29, 0)
    | _ => none
  | _ => none
def MM (I : aI) (w : aW) (k : aQ) : aM := (I, wr w, k.1, k.2.1, k.2.2.1, k.2.2.2)
