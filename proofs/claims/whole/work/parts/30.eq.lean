/-! ===== equations (by wip/whole/gen30.py) ===== -/
-- X0_becomeNew
set_option maxRecDepth 100000 in
theorem e1_0 (I : aI) (w : aW) (k : aQ) (q0 : Nat) (p0 : Int32) (p1 : Int32) (p2 : Int32) : rn 1 (0, [some (.inr (.inr (some (15, q0)))), some (.inl p0), some (.inl p1), some (.inl p2)], [], MM I w k) = (rn 308 (a_en 308 [.inr (.inr (some (4, q0))), .inl 0] (MM (a_setI (a_setI (a_setI (a_setI (a_setI I 15 q0 0 p0) 15 q0 1 p1) 15 q0 2 p2) 15 q0 3 (-1)) 15 q0 4 0) w k))).bind (fun o => a_bk 1 308 (30, [some (.inr (.inr (some (15, q0)))), some (.inl p0), some (.inl p1), some (.inl p2)], [], MM (a_setI (a_setI (a_setI (a_setI (a_setI I 15 q0 0 p0) 15 q0 1 p1) 15 q0 2 p2) 15 q0 3 (-1)) 15 q0 4 0) w k) o (rn 1)) := (rn_tq [] 24 1 _).trans rfl
set_option maxRecDepth 100000 in
theorem e1_33 (I : aI) (w : aW) (k : aQ) (q0 : Nat) (d1 : Option aV) (d2 : Option aV) (d3 : Option aV) : rn 1 (33, [some (.inr (.inr (some (15, q0)))), d1, d2, d3], [], MM I w k) = (rn 308 (a_en 308 [.inr (.inr (some (5, q0))), .inl 0] (MM I w k))).bind (fun o => a_bk 1 308 (38, [some (.inr (.inr (some (15, q0)))), d1, d2, d3], [], MM I w k) o (rn 1)) := (rn_tq [] 9 1 _).trans rfl
set_option maxRecDepth 100000 in
theorem e1_41 (I : aI) (w : aW) (k : aQ) (d0 : Option aV) (d1 : Option aV) (d2 : Option aV) (d3 : Option aV) : rn 1 (41, [d0, d1, d2, d3], [], MM I w k) = some (.inl none, MM I w k) := (rn_tq [] 6 1 _).trans rfl
-- X0_copyFrom
set_option maxRecDepth 100000 in
theorem e2_0 (I : aI) (w : aW) (k : aQ) (q0 : Nat) (a0 : Nat) : rn 2 (0, [some (.inr (.inr (some (15, q0)))), some (.inr (.inr (some (15, a0))))], [], MM I w k) = rn 2 (70, [some (.inr (.inr (some (15, q0)))), some (.inr (.inr (some (15, a0))))], [], MM (a_cpI (a_cpI (a_setI (a_setI (a_setI (a_setI (a_setI I 15 q0 0 (I 15 a0 0)) 15 q0 1 (I 15 a0 1)) 15 q0 2 (I 15 a0 2)) 15 q0 3 (I 15 a0 3)) 15 q0 4 (I 15 a0 4)) 4 q0 (va_cpy ((a_setI (a_setI (a_setI (a_setI (a_setI I 15 q0 0 (I 15 a0 0)) 15 q0 1 (I 15 a0 1)) 15 q0 2 (I 15 a0 2)) 15 q0 3 (I 15 a0 3)) 15 q0 4 (I 15 a0 4)) 4 a0) ((a_setI (a_setI (a_setI (a_setI (a_setI I 15 q0 0 (I 15 a0 0)) 15 q0 1 (I 15 a0 1)) 15 q0 2 (I 15 a0 2)) 15 q0 3 (I 15 a0 3)) 15 q0 4 (I 15 a0 4)) 4 q0) 0 0 40)) 5 q0 (va_cpy ((a_cpI (a_setI (a_setI (a_setI (a_setI (a_setI I 15 q0 0 (I 15 a0 0)) 15 q0 1 (I 15 a0 1)) 15 q0 2 (I 15 a0 2)) 15 q0 3 (I 15 a0 3)) 15 q0 4 (I 15 a0 4)) 4 q0 (va_cpy ((a_setI (a_setI (a_setI (a_setI (a_setI I 15 q0 0 (I 15 a0 0)) 15 q0 1 (I 15 a0 1)) 15 q0 2 (I 15 a0 2)) 15 q0 3 (I 15 a0 3)) 15 q0 4 (I 15 a0 4)) 4 a0) ((a_setI (a_setI (a_setI (a_setI (a_setI I 15 q0 0 (I 15 a0 0)) 15 q0 1 (I 15 a0 1)) 15 q0 2 (I 15 a0 2)) 15 q0 3 (I 15 a0 3)) 15 q0 4 (I 15 a0 4)) 4 q0) 0 0 40)) 5 a0) ((a_cpI (a_setI (a_setI (a_setI (a_setI (a_setI I 15 q0 0 (I 15 a0 0)) 15 q0 1 (I 15 a0 1)) 15 q0 2 (I 15 a0 2)) 15 q0 3 (I 15 a0 3)) 15 q0 4 (I 15 a0 4)) 4 q0 (va_cpy ((a_setI (a_setI (a_setI (a_setI (a_setI I 15 q0 0 (I 15 a0 0)) 15 q0 1 (I 15 a0 1)) 15 q0 2 (I 15 a0 2)) 15 q0 3 (I 15 a0 3)) 15 q0 4 (I 15 a0 4)) 4 a0) ((a_setI (a_setI (a_setI (a_setI (a_setI I 15 q0 0 (I 15 a0 0)) 15 q0 1 (I 15 a0 1)) 15 q0 2 (I 15 a0 2)) 15 q0 3 (I 15 a0 3)) 15 q0 4 (I 15 a0 4)) 4 q0) 0 0 40)) 5 q0) 0 0 40)) w k) := (rn_tq [70] 41 2 _).trans rfl
set_option maxRecDepth 100000 in
theorem e2_70 (I : aI) (w : aW) (k : aQ) (d0 : Option aV) (d1 : Option aV) : rn 2 (70, [d0, d1], [], MM I w k) = some (.inl none, MM I w k) := (rn_tq [70] 6 2 _).trans rfl
-- X0_row
set_option maxRecDepth 100000 in
theorem e3_0 (I : aI) (w : aW) (k : aQ) (q0 : Nat) (p0 : Int32) : rn 3 (0, [some (.inr (.inr (some (15, q0)))), some (.inl p0)], [], MM I w k) = cond (decide (p0 = 0)) (some (.inl (some (.inr (.inr (some (4, q0))))), MM I w k)) (some (.inl (some (.inr (.inr (some (5, q0))))), MM I w k)) := (rn_tq [] 14 3 _).trans rfl
-- X0_total
set_option maxRecDepth 100000 in
theorem e4_0 (I : aI) (w : aW) (k : aQ) (q0 : Nat) (p0 : Int32) : rn 4 (0, [some (.inr (.inr (some (15, q0)))), some (.inl p0), none, none, none], [], MM I w k) = (rn 3 (a_en 3 [.inr (.inr (some (15, q0))), .inl p0] (MM I w k))).bind (fun o => a_bk 4 3 (2, [some (.inr (.inr (some (15, q0)))), some (.inl p0), none, none, none], [], MM I w k) o (rn 4)) := (rn_tq [11] 8 4 _).trans rfl
set_option maxRecDepth 100000 in
theorem e4_5 (I : aI) (w : aW) (k : aQ) (d0 : Option aV) (d1 : Option aV) (d2 : Option aV) (d3 : Option aV) (d4 : Option aV) (z0 : Nat) : rn 4 (5, [d0, d1, d2, d3, d4], [.inr (.inr (some (4, z0)))], MM I w k) = rn 4 (11, [d0, d1, some (.inr (.inr (some (4, z0)))), some (.inl 0), some (.inl 0)], [], MM I w k) := (rn_tq [11] 10 4 _).trans rfl
set_option maxRecDepth 100000 in
theorem e4_11 (I : aI) (w : aW) (k : aQ) (d0 : Option aV) (d1 : Option aV) (q2 : Nat) (x3 : Int32) (x4 : Int32) : rn 4 (11, [d0, d1, some (.inr (.inr (some (4, q2)))), some (.inl x3), some (.inl x4)], [], MM I w k) = cond (decide (40 ≤ x4)) (some (.inl (some (.inl x3)), MM I w k)) (cond (a_inb x4 40) ((rn 298 (a_en 298 [.inl (I 4 q2 (Int32.toNatClampNeg x4))] (MM I w k))).bind (fun o => a_bk 4 298 (23, [d0, d1, some (.inr (.inr (some (4, q2)))), some (.inl x3), some (.inl x4)], [.inl x3], MM I w k) o (rn 4))) none) := (rn_tq [11] 15 4 _).trans rfl
set_option maxRecDepth 100000 in
theorem e4_26 (I : aI) (w : aW) (k : aQ) (d0 : Option aV) (d1 : Option aV) (q2 : Nat) (d3 : Option aV) (x4 : Int32) (y0 : Int32) (y1 : Int32) : rn 4 (26, [d0, d1, some (.inr (.inr (some (4, q2)))), d3, some (.inl x4)], [.inl y0, .inl y1], MM I w k) = rn 4 (11, [d0, d1, some (.inr (.inr (some (4, q2)))), some (.inl (y1 + y0)), some (.inl (x4 + 1))], [], MM I w k) := (rn_tq [11] 9 4 _).trans rfl
-- X0_endedLongAgo
set_option maxRecDepth 100000 in
theorem e5_0 (I : aI) (w : aW) (k : aQ) (q0 : Nat) (p0 : Int32) (p1 : Int32) : rn 5 (0, [some (.inr (.inr (some (15, q0)))), some (.inl p0), some (.inl p1)], [], MM I w k) = cond (decide ((I 15 q0 3) = (-1))) (some (.inl (some (.inl 0)), MM I w k)) (cond (decide ((p0 - (I 15 q0 3)) < p1)) (some (.inl (some (.inl 0)), MM I w k)) (some (.inl (some (.inl 1)), MM I w k))) := (rn_tq [] 22 5 _).trans rfl
-- X1_becomeNew
set_option maxRecDepth 100000 in
theorem e7_0 (I : aI) (w : aW) (k : aQ) (q0 : Nat) (p0 : Int32) (p1 : Int32) (p2 : Int32) : rn 7 (0, [some (.inr (.inr (some (14, q0)))), some (.inl p0), some (.inl p1), some (.inl p2)], [], MM I w k) = (rn 9 (a_en 9 [.inr (.inr (some (14, q0)))] (MM (a_setI (a_setI (a_setI I 14 q0 0 p0) 14 q0 1 p1) 14 q0 2 p2) w k))).bind (fun o => a_bk 7 9 (17, [some (.inr (.inr (some (14, q0)))), some (.inl p0), some (.inl p1), some (.inl p2)], [.inr (.inr (some (14, q0)))], MM (a_setI (a_setI (a_setI I 14 q0 0 p0) 14 q0 1 p1) 14 q0 2 p2) w k) o (rn 7)) := (rn_tq [] 17 7 _).trans rfl
set_option maxRecDepth 100000 in
theorem e7_20 (I : aI) (w : aW) (k : aQ) (q0 : Nat) (d1 : Option aV) (d2 : Option aV) (d3 : Option aV) (y0 : Int32) (z1 : Nat) : rn 7 (20, [some (.inr (.inr (some (14, q0)))), d1, d2, d3], [.inl y0, .inr (.inr (some (14, z1)))], MM I w k) = (rn 308 (a_en 308 [.inr (.inr (some (6, q0))), .inl (-1)] (MM (a_setI (a_setI (a_setI (a_setI (a_setI (a_setI I 14 z1 3 y0) 14 q0 4 0) 14 q0 5 0) 14 q0 6 0) 14 q0 7 (-1)) 14 q0 8 (-1)) w k))).bind (fun o => a_bk 7 308 (53, [some (.inr (.inr (some (14, q0)))), d1, d2, d3], [], MM (a_setI (a_setI (a_setI (a_setI (a_setI (a_setI I 14 z1 3 y0) 14 q0 4 0) 14 q0 5 0) 14 q0 6 0) 14 q0 7 (-1)) 14 q0 8 (-1)) w k) o (rn 7)) := (rn_tq [] 25 7 _).trans rfl
set_option maxRecDepth 100000 in
theorem e7_56 (I : aI) (w : aW) (k : aQ) (d0 : Option aV) (d1 : Option aV) (d2 : Option aV) (d3 : Option aV) : rn 7 (56, [d0, d1, d2, d3], [], MM I w k) = some (.inl none, MM I w k) := (rn_tq [] 6 7 _).trans rfl
-- X1_copyFrom
set_option maxRecDepth 100000 in
theorem e8_0 (I : aI) (w : aW) (k : aQ) (q0 : Nat) (a0 : Nat) : rn 8 (0, [some (.inr (.inr (some (14, q0)))), some (.inr (.inr (some (14, a0))))], [], MM I w k) = rn 8 (87, [some (.inr (.inr (some (14, q0)))), some (.inr (.inr (some (14, a0))))], [], MM (a_cpI (a_setI (a_setI (a_setI (a_setI (a_setI (a_setI (a_setI (a_setI (a_setI I 14 q0 0 (I 14 a0 0)) 14 q0 1 (I 14 a0 1)) 14 q0 2 (I 14 a0 2)) 14 q0 3 (I 14 a0 3)) 14 q0 4 (I 14 a0 4)) 14 q0 5 (I 14 a0 5)) 14 q0 6 (I 14 a0 6)) 14 q0 7 (I 14 a0 7)) 14 q0 8 (I 14 a0 8)) 6 q0 (va_cpy ((a_setI (a_setI (a_setI (a_setI (a_setI (a_setI (a_setI (a_setI (a_setI I 14 q0 0 (I 14 a0 0)) 14 q0 1 (I 14 a0 1)) 14 q0 2 (I 14 a0 2)) 14 q0 3 (I 14 a0 3)) 14 q0 4 (I 14 a0 4)) 14 q0 5 (I 14 a0 5)) 14 q0 6 (I 14 a0 6)) 14 q0 7 (I 14 a0 7)) 14 q0 8 (I 14 a0 8)) 6 a0) ((a_setI (a_setI (a_setI (a_setI (a_setI (a_setI (a_setI (a_setI (a_setI I 14 q0 0 (I 14 a0 0)) 14 q0 1 (I 14 a0 1)) 14 q0 2 (I 14 a0 2)) 14 q0 3 (I 14 a0 3)) 14 q0 4 (I 14 a0 4)) 14 q0 5 (I 14 a0 5)) 14 q0 6 (I 14 a0 6)) 14 q0 7 (I 14 a0 7)) 14 q0 8 (I 14 a0 8)) 6 q0) 0 0 24)) w k) := (rn_tq [87] 49 8 _).trans rfl
set_option maxRecDepth 100000 in
theorem e8_87 (I : aI) (w : aW) (k : aQ) (d0 : Option aV) (d1 : Option aV) : rn 8 (87, [d0, d1], [], MM I w k) = some (.inl none, MM I w k) := (rn_tq [87] 6 8 _).trans rfl
-- X1_everyFrame
set_option maxRecDepth 100000 in
theorem e9_0 (I : aI) (w : aW) (k : aQ) (q0 : Nat) : rn 9 (0, [some (.inr (.inr (some (14, q0))))], [], MM I w k) = some (.inl (some (.inl ((1 <<< ((I 14 q0 0) &&& 31)) - 1))), MM I w k) := (rn_tq [] 12 9 _).trans rfl
-- X1_delay
set_option maxRecDepth 100000 in
theorem e10_0 (I : aI) (w : aW) (k : aQ) (q0 : Nat) : rn 10 (0, [some (.inr (.inr (some (14, q0))))], [], MM I w k) = some (.inl (some (.inl ((I 14 q0 7) - (I 14 q0 2)))), MM I w k) := (rn_tq [] 11 10 _).trans rfl
-- X1_lowestToSend
set_option maxRecDepth 100000 in
theorem e11_0 (I : aI) (w : aW) (k : aQ) (q0 : Nat) : rn 11 (0, [some (.inr (.inr (some (14, q0)))), none], [], MM I w k) = rn 11 (2, [some (.inr (.inr (some (14, q0)))), some (.inl 0)], [], MM I w k) := (rn_tq [2] 7 11 _).trans rfl
set_option maxRecDepth 100000 in
theorem e11_2 (I : aI) (w : aW) (k : aQ) (q0 : Nat) (x1 : Int32) : rn 11 (2, [some (.inr (.inr (some (14, q0)))), some (.inl x1)], [], MM I w k) = cond (decide (24 ≤ x1)) (some (.inl (some (.inl (-1))), MM I w k)) (cond (decide (((I 14 q0 3) &&& (1 <<< (x1 &&& 31))) = 0)) (rn 11 (2, [some (.inr (.inr (some (14, q0)))), some (.inl (x1 + 1))], [], MM I w k)) (some (.inl (some (.inl x1)), MM I w k))) := (rn_tq [2] 21 11 _).trans rfl
-- X1_noteSent
set_option maxRecDepth 100000 in
theorem e12_0 (I : aI) (w : aW) (k : aQ) (q0 : Nat) (p0 : Int32) (p1 : Int32) : rn 12 (0, [some (.inr (.inr (some (14, q0)))), some (.inl p0), some (.inl p1)], [], MM I w k) = cond (a_inb p0 24) (some (.inl none, MM (a_setI (a_setI (a_setI I 14 q0 3 ((I 14 q0 3) &&& ((1 <<< (p0 &&& 31)) ^^^ (-1)))) 14 q0 4 ((I 14 q0 4) ||| (1 <<< (p0 &&& 31)))) 6 q0 (Int32.toNatClampNeg p0) p1) w k)) none := (rn_tq [] 29 12 _).trans rfl
-- X1_acknowledge
set_option maxRecDepth 100000 in
theorem e13_0 (I : aI) (w : aW) (k : aQ) (q0 : Nat) (p0 : Int32) : rn 13 (0, [some (.inr (.inr (some (14, q0)))), some (.inl p0)], [], MM I w k) = some (.inl none, MM (a_setI (a_setI (a_setI I 14 q0 3 ((I 14 q0 3) &&& (p0 ^^^ (-1)))) 14 q0 4 ((I 14 q0 4) &&& (p0 ^^^ (-1)))) 14 q0 5 ((I 14 q0 5) ||| p0)) w k) := (rn_tq [] 28 13 _).trans rfl
-- X1_sendAgain
set_option maxRecDepth 100000 in
theorem e14_0 (I : aI) (w : aW) (k : aQ) (q0 : Nat) (p0 : Int32) (p1 : Int32) : rn 14 (0, [some (.inr (.inr (some (14, q0)))), some (.inl p0), some (.inl p1), none, none], [], MM I w k) = rn 14 (10, [some (.inr (.inr (some (14, q0)))), some (.inl p0), some (.inl p1), some (.inl (p0 &&& (I 14 q0 4))), some (.inl 0)], [], MM I w k) := (rn_tq [10] 12 14 _).trans rfl
set_option maxRecDepth 100000 in
theorem e14_10 (I : aI) (w : aW) (k : aQ) (q0 : Nat) (d1 : Option aV) (x2 : Int32) (x3 : Int32) (x4 : Int32) : rn 14 (10, [some (.inr (.inr (some (14, q0)))), d1, some (.inl x2), some (.inl x3), some (.inl x4)], [], MM I w k) = cond (decide (24 ≤ x4)) (some (.inl none, MM I w k)) (cond (decide (x3 = 0)) (some (.inl none, MM I w k)) (cond (decide ((x3 &&& (1 <<< (x4 &&& 31))) = 0)) (rn 14 (10, [some (.inr (.inr (some (14, q0)))), d1, some (.inl x2), some (.inl x3), some (.inl (x4 + 1))], [], MM I w k)) (cond (a_inb x4 24) (cond (decide (¬ (I 6 q0 (Int32.toNatClampNeg x4)) = x2)) (rn 14 (10, [some (.inr (.inr (some (14, q0)))), d1, some (.inl x2), some (.inl x3), some (.inl (x4 + 1))], [], MM I w k)) (rn 14 (10, [some (.inr (.inr (some (14, q0)))), d1, some (.inl x2), some (.inl x3), some (.inl (x4 + 1))], [], MM (a_setI (a_setI I 14 q0 4 ((I 14 q0 4) &&& ((1 <<< (x4 &&& 31)) ^^^ (-1)))) 14 q0 3 ((I 14 q0 3) ||| (1 <<< (x4 &&& 31)))) w k))) none))) := (rn_tq [10] 48 14 _).trans rfl
-- X2_init
set_option maxRecDepth 100000 in
theorem e15_0 (I : aI) (w : aW) (k : aQ) (q0 : Nat) : rn 15 (0, [some (.inr (.inr (some (10, q0))))], [], MM I w k) = some (.inl none, MM I w k) := (rn_tq [] 8 15 _).trans rfl
-- X2_becomeNew
set_option maxRecDepth 100000 in
theorem e16_0 (I : aI) (w : aW) (k : aQ) (q0 : Nat) : rn 16 (0, [some (.inr (.inr (some (10, q0))))], [], MM I w k) = some (.inl none, MM (a_setI (a_setI (a_setI (a_setI (a_setI (a_setI I 10 q0 0 60) 10 q0 1 1000) 10 q0 2 30) 10 q0 3 5) 10 q0 4 300) 10 q0 5 0) w k) := (rn_tq [] 24 16 _).trans rfl
-- X2_copyFrom
set_option maxRecDepth 100000 in
theorem e17_0 (I : aI) (w : aW) (k : aQ) (q0 : Nat) (a0 : Nat) : rn 17 (0, [some (.inr (.inr (some (10, q0)))), some (.inr (.inr (some (10, a0))))], [], MM I w k) = some (.inl none, MM (a_setI (a_setI (a_setI (a_setI (a_setI (a_setI I 10 q0 0 (I 10 a0 0)) 10 q0 1 (I 10 a0 1)) 10 q0 2 (I 10 a0 2)) 10 q0 3 (I 10 a0 3)) 10 q0 4 (I 10 a0 4)) 10 q0 5 (I 10 a0 5)) w k) := (rn_tq [] 30 17 _).trans rfl
-- X6_copyFrom
set_option maxRecDepth 100000 in
theorem e95_0 (I : aI) (w : aW) (k : aQ) (q0 : Nat) (a0 : Nat) : rn 95 (0, [some (.inr (.inr (some (18, q0)))), some (.inr (.inr (some (18, a0))))], [], MM I w k) = some (.inl none, MM (a_cpI (a_setI (a_setI (a_setI (a_setI (a_setI (a_setI I 18 q0 0 (I 18 a0 0)) 18 q0 1 (I 18 a0 1)) 18 q0 2 (I 18 a0 2)) 18 q0 3 (I 18 a0 3)) 18 q0 4 (I 18 a0 4)) 18 q0 5 (I 18 a0 5)) 19 q0 (va_cpy ((a_setI (a_setI (a_setI (a_setI (a_setI (a_setI I 18 q0 0 (I 18 a0 0)) 18 q0 1 (I 18 a0 1)) 18 q0 2 (I 18 a0 2)) 18 q0 3 (I 18 a0 3)) 18 q0 4 (I 18 a0 4)) 18 q0 5 (I 18 a0 5)) 19 a0) ((a_setI (a_setI (a_setI (a_setI (a_setI (a_setI I 18 q0 0 (I 18 a0 0)) 18 q0 1 (I 18 a0 1)) 18 q0 2 (I 18 a0 2)) 18 q0 3 (I 18 a0 3)) 18 q0 4 (I 18 a0 4)) 18 q0 5 (I 18 a0 5)) 19 q0) 0 0 5)) w k) := (rn_tq [] 38 95 _).trans rfl
