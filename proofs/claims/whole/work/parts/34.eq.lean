/-! ===== equations (by wip/whole/gen30.py) ===== -/
-- X7_setOrbit
set_option maxRecDepth 100000 in
theorem e97_0 (I : aI) (w : aW) (k : aQ) (p0 : Int32) (p1 : Int32) (p2 : Int32) : rn 97 (0, [some (.inr (.inr (some (30, 0)))), some (.inl p0), some (.inl p1), some (.inl p2), none], [], MM I w k) = (rn 160 (a_en 160 [.inl p0, .inl 60, .inl 200] (MM I w k))).bind (fun o => a_bk 97 160 (6, [some (.inr (.inr (some (30, 0)))), some (.inl p0), some (.inl p1), some (.inl p2), none], [], MM I w k) o (rn 97)) := (rn_tq [] 9 97 _).trans rfl
set_option maxRecDepth 100000 in
theorem e97_9 (I : aI) (w : aW) (k : aQ) (x1 : Int32) (x2 : Int32) (x3 : Int32) (d4 : Option aV) : rn 97 (9, [some (.inr (.inr (some (30, 0)))), some (.inl x1), some (.inl x2), some (.inl x3), d4], [], MM I w k) = (rn 160 (a_en 160 [.inl x2, .inl 0, .inl 359] (MM I w k))).bind (fun o => a_bk 97 160 (14, [some (.inr (.inr (some (30, 0)))), some (.inl x1), some (.inl x2), some (.inl x3), d4], [], MM I w k) o (rn 97)) := (rn_tq [] 9 97 _).trans rfl
set_option maxRecDepth 100000 in
theorem e97_17 (I : aI) (w : aW) (k : aQ) (x1 : Int32) (x2 : Int32) (x3 : Int32) (d4 : Option aV) : rn 97 (17, [some (.inr (.inr (some (30, 0)))), some (.inl x1), some (.inl x2), some (.inl x3), d4], [], MM I w k) = (rn 160 (a_en 160 [.inl x3, .inl 0, .inl 359] (MM I w k))).bind (fun o => a_bk 97 160 (22, [some (.inr (.inr (some (30, 0)))), some (.inl x1), some (.inl x2), some (.inl x3), d4], [], MM I w k) o (rn 97)) := (rn_tq [] 9 97 _).trans rfl
set_option maxRecDepth 100000 in
theorem e97_25 (I : aI) (w : aW) (k : aQ) (x1 : Int32) (x2 : Int32) (x3 : Int32) (d4 : Option aV) : rn 97 (25, [some (.inr (.inr (some (30, 0)))), some (.inl x1), some (.inl x2), some (.inl x3), d4], [], MM I w k) = (rn 74 (a_en 74 [.inr (.inr (some (9, 0))), .inl x1, .inl x2, .inl x3] (MM I w k))).bind (fun o => a_bk 97 74 (47, [some (.inr (.inr (some (30, 0)))), some (.inl x1), some (.inl x2), some (.inl x3), some (.inl (I 9 0 0))], [], MM I w k) o (rn 97)) := (rn_tq [] 17 97 _).trans rfl
set_option maxRecDepth 100000 in
theorem e97_50 (I : aI) (w : aW) (k : aQ) (d0 : Option aV) (d1 : Option aV) (d2 : Option aV) (d3 : Option aV) (x4 : Int32) : rn 97 (50, [d0, d1, d2, d3, some (.inl x4)], [], MM I w k) = some (.inl (some (.inl x4)), MM I w k) := (rn_tq [] 7 97 _).trans rfl
-- X7_addStation
set_option maxRecDepth 100000 in
theorem e98_0 (I : aI) (w : aW) (k : aQ) (p0 : Int32) (p1 : Int32) (p2 : Int32) (p3 : Int32) (p4 : Int32) (p5 : Int32) : rn 98 (0, [some (.inr (.inr (some (30, 0)))), some (.inl p0), some (.inl p1), some (.inl p2), some (.inl p3), some (.inl p4), some (.inl p5)], [], MM I w k) = (rn 160 (a_en 160 [.inl p0, .inl 0, .inl 359] (MM I w k))).bind (fun o => a_bk 98 160 (5, [some (.inr (.inr (some (30, 0)))), some (.inl p0), some (.inl p1), some (.inl p2), some (.inl p3), some (.inl p4), some (.inl p5)], [], MM I w k) o (rn 98)) := (rn_tq [] 9 98 _).trans rfl
set_option maxRecDepth 100000 in
theorem e98_8 (I : aI) (w : aW) (k : aQ) (x1 : Int32) (x2 : Int32) (x3 : Int32) (x4 : Int32) (x5 : Int32) (x6 : Int32) : rn 98 (8, [some (.inr (.inr (some (30, 0)))), some (.inl x1), some (.inl x2), some (.inl x3), some (.inl x4), some (.inl x5), some (.inl x6)], [], MM I w k) = (rn 160 (a_en 160 [.inl x2, .inl 0, .inl 90] (MM I w k))).bind (fun o => a_bk 98 160 (12, [some (.inr (.inr (some (30, 0)))), some (.inl x1), some (.inl x2), some (.inl x3), some (.inl x4), some (.inl x5), some (.inl x6)], [], MM I w k) o (rn 98)) := (rn_tq [] 9 98 _).trans rfl
set_option maxRecDepth 100000 in
theorem e98_15 (I : aI) (w : aW) (k : aQ) (x1 : Int32) (x2 : Int32) (x3 : Int32) (x4 : Int32) (x5 : Int32) (x6 : Int32) : rn 98 (15, [some (.inr (.inr (some (30, 0)))), some (.inl x1), some (.inl x2), some (.inl x3), some (.inl x4), some (.inl x5), some (.inl x6)], [], MM I w k) = (rn 160 (a_en 160 [.inl x3, .inl 1, .inl 30] (MM I w k))).bind (fun o => a_bk 98 160 (19, [some (.inr (.inr (some (30, 0)))), some (.inl x1), some (.inl x2), some (.inl x3), some (.inl x4), some (.inl x5), some (.inl x6)], [], MM I w k) o (rn 98)) := (rn_tq [] 9 98 _).trans rfl
set_option maxRecDepth 100000 in
theorem e98_22 (I : aI) (w : aW) (k : aQ) (x1 : Int32) (x2 : Int32) (x3 : Int32) (x4 : Int32) (x5 : Int32) (x6 : Int32) : rn 98 (22, [some (.inr (.inr (some (30, 0)))), some (.inl x1), some (.inl x2), some (.inl x3), some (.inl x4), some (.inl x5), some (.inl x6)], [], MM I w k) = (rn 160 (a_en 160 [.inl x4, .inl 0, .inl 59] (MM I w k))).bind (fun o => a_bk 98 160 (27, [some (.inr (.inr (some (30, 0)))), some (.inl x1), some (.inl x2), some (.inl x3), some (.inl x4), some (.inl x5), some (.inl x6)], [], MM I w k) o (rn 98)) := (rn_tq [] 9 98 _).trans rfl
set_option maxRecDepth 100000 in
theorem e98_30 (I : aI) (w : aW) (k : aQ) (x1 : Int32) (x2 : Int32) (x3 : Int32) (x4 : Int32) (x5 : Int32) (x6 : Int32) : rn 98 (30, [some (.inr (.inr (some (30, 0)))), some (.inl x1), some (.inl x2), some (.inl x3), some (.inl x4), some (.inl x5), some (.inl x6)], [], MM I w k) = (rn 160 (a_en 160 [.inl x5, .inl 1, .inl 20] (MM I w k))).bind (fun o => a_bk 98 160 (35, [some (.inr (.inr (some (30, 0)))), some (.inl x1), some (.inl x2), some (.inl x3), some (.inl x4), some (.inl x5), some (.inl x6)], [], MM I w k) o (rn 98)) := (rn_tq [] 9 98 _).trans rfl
set_option maxRecDepth 100000 in
theorem e98_38 (I : aI) (w : aW) (k : aQ) (x1 : Int32) (x2 : Int32) (x3 : Int32) (x4 : Int32) (x5 : Int32) (x6 : Int32) : rn 98 (38, [some (.inr (.inr (some (30, 0)))), some (.inl x1), some (.inl x2), some (.inl x3), some (.inl x4), some (.inl x5), some (.inl x6)], [], MM I w k) = (rn 160 (a_en 160 [.inl x6, .inl 0, .inl 99] (MM I w k))).bind (fun o => a_bk 98 160 (43, [some (.inr (.inr (some (30, 0)))), some (.inl x1), some (.inl x2), some (.inl x3), some (.inl x4), some (.inl x5), some (.inl x6)], [], MM I w k) o (rn 98)) := (rn_tq [] 9 98 _).trans rfl
set_option maxRecDepth 100000 in
theorem e98_46 (I : aI) (w : aW) (k : aQ) (x1 : Int32) (x2 : Int32) (x3 : Int32) (x4 : Int32) (x5 : Int32) (x6 : Int32) : rn 98 (46, [some (.inr (.inr (some (30, 0)))), some (.inl x1), some (.inl x2), some (.inl x3), some (.inl x4), some (.inl x5), some (.inl x6)], [], MM I w k) = (rn 75 (a_en 75 [.inr (.inr (some (9, 0)))] (MM I w k))).bind (fun o => a_bk 98 75 (53, [some (.inr (.inr (some (30, 0)))), some (.inl x1), some (.inl x2), some (.inl x3), some (.inl x4), some (.inl x5), some (.inl x6)], [], MM I w k) o (rn 98)) := (rn_tq [] 9 98 _).trans rfl
set_option maxRecDepth 100000 in
theorem e98_56 (I : aI) (w : aW) (k : aQ) (x1 : Int32) (x2 : Int32) (x3 : Int32) (x4 : Int32) (x5 : Int32) (x6 : Int32) (y0 : Int32) : rn 98 (56, [some (.inr (.inr (some (30, 0)))), some (.inl x1), some (.inl x2), some (.inl x3), some (.inl x4), some (.inl x5), some (.inl x6)], [.inl y0], MM I w k) = cond (decide (y0 = 0)) ((rn 76 (a_en 76 [.inr (.inr (some (9, 0))), .inl x1, .inl x2, .inl x3, .inl x4, .inl x5, .inl x6] (MM I w k))).bind (fun o => a_bk 98 76 (85, [some (.inr (.inr (some (30, 0)))), some (.inl x1), some (.inl x2), some (.inl x3), some (.inl x4), some (.inl x5), some (.inl x6)], [], MM I w k) o (rn 98))) (some (.inr 1, MM I w (k.1, k.2.1, k.2.2.1 + 1, k.2.2.2 + 6))) := (rn_tq [] 17 98 _).trans rfl
set_option maxRecDepth 100000 in
theorem e98_88 (I : aI) (w : aW) (k : aQ) (d0 : Option aV) (d1 : Option aV) (d2 : Option aV) (d3 : Option aV) (d4 : Option aV) (d5 : Option aV) (d6 : Option aV) (y0 : Int32) : rn 98 (88, [d0, d1, d2, d3, d4, d5, d6], [.inl y0], MM I w k) = some (.inl (some (.inl y0)), MM I w k) := (rn_tq [] 6 98 _).trans rfl
-- X7_stationCount
set_option maxRecDepth 100000 in
theorem e99_0 (I : aI) (w : aW) (k : aQ) : rn 99 (0, [some (.inr (.inr (some (30, 0))))], [], MM I w k) = some (.inl (some (.inl (I 9 0 3))), MM I w k) := (rn_tq [] 10 99 _).trans rfl
-- X7_setLoss
set_option maxRecDepth 100000 in
theorem e100_0 (I : aI) (w : aW) (k : aQ) (p0 : Int32) (p1 : Int32) : rn 100 (0, [some (.inr (.inr (some (30, 0)))), some (.inl p0), some (.inl p1), none, none], [], MM I w k) = (rn 162 (a_en 162 [.inr (.inr (some (30, 0))), .inl p0] (MM I w k))).bind (fun o => a_bk 100 162 (2, [some (.inr (.inr (some (30, 0)))), some (.inl p0), some (.inl p1), none, none], [], MM I w k) o (rn 100)) := (rn_tq [] 8 100 _).trans rfl
set_option maxRecDepth 100000 in
theorem e100_5 (I : aI) (w : aW) (k : aQ) (x1 : Int32) (x2 : Int32) (d3 : Option aV) (d4 : Option aV) : rn 100 (5, [some (.inr (.inr (some (30, 0)))), some (.inl x1), some (.inl x2), d3, d4], [], MM I w k) = (rn 160 (a_en 160 [.inl x2, .inl 0, .inl 99] (MM I w k))).bind (fun o => a_bk 100 160 (9, [some (.inr (.inr (some (30, 0)))), some (.inl x1), some (.inl x2), d3, d4], [], MM I w k) o (rn 100)) := (rn_tq [] 9 100 _).trans rfl
set_option maxRecDepth 100000 in
theorem e100_12 (I : aI) (w : aW) (k : aQ) (x1 : Int32) (x2 : Int32) (d3 : Option aV) (d4 : Option aV) : rn 100 (12, [some (.inr (.inr (some (30, 0)))), some (.inl x1), some (.inl x2), d3, d4], [], MM I w k) = cond (a_inb x1 4) (some (.inl (some (.inl (I 18 (4 * 0 + (Int32.toNatClampNeg x1)) 5))), MM (a_setI I 18 (4 * 0 + (Int32.toNatClampNeg x1)) 5 x2) w k)) none := (rn_tq [] 20 100 _).trans rfl
-- X7_setGroundDelay
set_option maxRecDepth 100000 in
theorem e101_0 (I : aI) (w : aW) (k : aQ) (p0 : Int32) : rn 101 (0, [some (.inr (.inr (some (30, 0)))), some (.inl p0), none], [], MM I w k) = (rn 160 (a_en 160 [.inl p0, .inl 0, .inl 999] (MM I w k))).bind (fun o => a_bk 101 160 (5, [some (.inr (.inr (some (30, 0)))), some (.inl p0), none], [], MM I w k) o (rn 101)) := (rn_tq [] 9 101 _).trans rfl
set_option maxRecDepth 100000 in
theorem e101_8 (I : aI) (w : aW) (k : aQ) (x1 : Int32) (d2 : Option aV) : rn 101 (8, [some (.inr (.inr (some (30, 0)))), some (.inl x1), d2], [], MM I w k) = some (.inl (some (.inl (I 10 0 0))), MM (a_setI I 10 0 0 x1) w k) := (rn_tq [] 17 101 _).trans rfl
-- X7_setPatience
set_option maxRecDepth 100000 in
theorem e102_0 (I : aI) (w : aW) (k : aQ) (p0 : Int32) : rn 102 (0, [some (.inr (.inr (some (30, 0)))), some (.inl p0), none], [], MM I w k) = (rn 160 (a_en 160 [.inl p0, .inl 1, .inl 9999] (MM I w k))).bind (fun o => a_bk 102 160 (5, [some (.inr (.inr (some (30, 0)))), some (.inl p0), none], [], MM I w k) o (rn 102)) := (rn_tq [] 9 102 _).trans rfl
set_option maxRecDepth 100000 in
theorem e102_8 (I : aI) (w : aW) (k : aQ) (x1 : Int32) (d2 : Option aV) : rn 102 (8, [some (.inr (.inr (some (30, 0)))), some (.inl x1), d2], [], MM I w k) = some (.inl (some (.inl (I 10 0 1))), MM (a_setI I 10 0 1 x1) w k) := (rn_tq [] 17 102 _).trans rfl
-- X7_setFresh
set_option maxRecDepth 100000 in
theorem e103_0 (I : aI) (w : aW) (k : aQ) (p0 : Int32) (p1 : Int32) : rn 103 (0, [some (.inr (.inr (some (30, 0)))), some (.inl p0), some (.inl p1), none], [], MM I w k) = (rn 160 (a_en 160 [.inl p0, .inl 0, .inl 999] (MM I w k))).bind (fun o => a_bk 103 160 (5, [some (.inr (.inr (some (30, 0)))), some (.inl p0), some (.inl p1), none], [], MM I w k) o (rn 103)) := (rn_tq [] 9 103 _).trans rfl
set_option maxRecDepth 100000 in
theorem e103_8 (I : aI) (w : aW) (k : aQ) (x1 : Int32) (x2 : Int32) (d3 : Option aV) : rn 103 (8, [some (.inr (.inr (some (30, 0)))), some (.inl x1), some (.inl x2), d3], [], MM I w k) = (rn 160 (a_en 160 [.inl x2, .inl 0, .inl 9] (MM I w k))).bind (fun o => a_bk 103 160 (12, [some (.inr (.inr (some (30, 0)))), some (.inl x1), some (.inl x2), d3], [], MM I w k) o (rn 103)) := (rn_tq [] 9 103 _).trans rfl
set_option maxRecDepth 100000 in
theorem e103_15 (I : aI) (w : aW) (k : aQ) (x1 : Int32) (x2 : Int32) (d3 : Option aV) : rn 103 (15, [some (.inr (.inr (some (30, 0)))), some (.inl x1), some (.inl x2), d3], [], MM I w k) = some (.inl (some (.inl ((10 * (I 10 0 2)) + (I 10 0 3)))), MM (a_setI (a_setI I 10 0 2 x1) 10 0 3 x2) w k) := (rn_tq [] 29 103 _).trans rfl
-- X7_setMemory
set_option maxRecDepth 100000 in
theorem e104_0 (I : aI) (w : aW) (k : aQ) (p0 : Int32) : rn 104 (0, [some (.inr (.inr (some (30, 0)))), some (.inl p0), none], [], MM I w k) = (rn 160 (a_en 160 [.inl p0, .inl 24, .inl 960] (MM I w k))).bind (fun o => a_bk 104 160 (6, [some (.inr (.inr (some (30, 0)))), some (.inl p0), none], [], MM I w k) o (rn 104)) := (rn_tq [] 9 104 _).trans rfl
set_option maxRecDepth 100000 in
theorem e104_9 (I : aI) (w : aW) (k : aQ) (x1 : Int32) (d2 : Option aV) : rn 104 (9, [some (.inr (.inr (some (30, 0)))), some (.inl x1), d2], [], MM I w k) = (rn 45 (a_en 45 [.inr (.inr (some (20, 0)))] (MM I w k))).bind (fun o => a_bk 104 45 (13, [some (.inr (.inr (some (30, 0)))), some (.inl x1), d2], [], MM I w k) o (rn 104)) := (rn_tq [] 8 104 _).trans rfl
set_option maxRecDepth 100000 in
theorem e104_16 (I : aI) (w : aW) (k : aQ) (x1 : Int32) (d2 : Option aV) (y0 : Int32) : rn 104 (16, [some (.inr (.inr (some (30, 0)))), some (.inl x1), d2], [.inl y0], MM I w k) = cond (decide (y0 ≤ x1)) (some (.inl (some (.inl (I 10 0 4))), MM (a_setI I 10 0 4 x1) w k)) (some (.inr 1, MM I w (k.1, k.2.1, k.2.2.1 + 1, k.2.2.2 + 6))) := (rn_tq [] 20 104 _).trans rfl
-- X7_setPolicy
set_option maxRecDepth 100000 in
theorem e105_0 (I : aI) (w : aW) (k : aQ) (p0 : Int32) : rn 105 (0, [some (.inr (.inr (some (30, 0)))), some (.inl p0), none], [], MM I w k) = (rn 160 (a_en 160 [.inl p0, .inl 0, .inl 1] (MM I w k))).bind (fun o => a_bk 105 160 (3, [some (.inr (.inr (some (30, 0)))), some (.inl p0), none], [], MM I w k) o (rn 105)) := (rn_tq [] 9 105 _).trans rfl
set_option maxRecDepth 100000 in
theorem e105_6 (I : aI) (w : aW) (k : aQ) (x1 : Int32) (d2 : Option aV) : rn 105 (6, [some (.inr (.inr (some (30, 0)))), some (.inl x1), d2], [], MM I w k) = some (.inl (some (.inl (I 10 0 5))), MM (a_setI I 10 0 5 x1) w k) := (rn_tq [] 17 105 _).trans rfl
-- X7_setSeed
set_option maxRecDepth 100000 in
theorem e106_0 (I : aI) (w : aW) (k : aQ) (p0 : Int32) : rn 106 (0, [some (.inr (.inr (some (30, 0)))), some (.inl p0)], [], MM I w k) = (rn 160 (a_en 160 [.inl p0, .inl 0, .inl 2147483647] (MM I w k))).bind (fun o => a_bk 106 160 (4, [some (.inr (.inr (some (30, 0)))), some (.inl p0)], [], MM I w k) o (rn 106)) := (rn_tq [] 9 106 _).trans rfl
set_option maxRecDepth 100000 in
theorem e106_7 (I : aI) (w : aW) (k : aQ) (x1 : Int32) : rn 106 (7, [some (.inr (.inr (some (30, 0)))), some (.inl x1)], [], MM I w k) = some (.inl none, MM (a_setI I 20 0 9 x1) w k) := (rn_tq [] 10 106 _).trans rfl
-- X7_passBegin
set_option maxRecDepth 100000 in
theorem e107_0 (I : aI) (w : aW) (k : aQ) (p0 : Int32) (p1 : Int32) : rn 107 (0, [some (.inr (.inr (some (30, 0)))), some (.inl p0), some (.inl p1), none], [], MM I w k) = (rn 162 (a_en 162 [.inr (.inr (some (30, 0))), .inl p0] (MM I w k))).bind (fun o => a_bk 107 162 (2, [some (.inr (.inr (some (30, 0)))), some (.inl p0), some (.inl p1), none], [], MM I w k) o (rn 107)) := (rn_tq [] 8 107 _).trans rfl
set_option maxRecDepth 100000 in
theorem e107_5 (I : aI) (w : aW) (k : aQ) (x1 : Int32) (x2 : Int32) (d3 : Option aV) : rn 107 (5, [some (.inr (.inr (some (30, 0)))), some (.inl x1), some (.inl x2), d3], [], MM I w k) = (rn 160 (a_en 160 [.inl x2, .inl 0, .inl 999] (MM I w k))).bind (fun o => a_bk 107 160 (10, [some (.inr (.inr (some (30, 0)))), some (.inl x1), some (.inl x2), d3], [], MM I w k) o (rn 107)) := (rn_tq [] 9 107 _).trans rfl
set_option maxRecDepth 100000 in
theorem e107_13 (I : aI) (w : aW) (k : aQ) (x1 : Int32) (x2 : Int32) (d3 : Option aV) : rn 107 (13, [some (.inr (.inr (some (30, 0)))), some (.inl x1), some (.inl x2), d3], [], MM I w k) = cond (a_inb x1 4) ((rn 81 (a_en 81 [.inr (.inr (some (9, 0))), .inr (.inr (some (18, (4 * 0 + (Int32.toNatClampNeg x1))))), .inl x2] (MM I w k))).bind (fun o => a_bk 107 81 (35, [some (.inr (.inr (some (30, 0)))), some (.inl x1), some (.inl x2), some (.inr (.inr (some (18, (4 * 0 + (Int32.toNatClampNeg x1))))))], [], MM I w k) o (rn 107))) none := (rn_tq [] 18 107 _).trans rfl
set_option maxRecDepth 100000 in
theorem e107_38 (I : aI) (w : aW) (k : aQ) (d1 : Option aV) (x2 : Int32) (q3 : Nat) (y0 : Int32) : rn 107 (38, [some (.inr (.inr (some (30, 0)))), d1, some (.inl x2), some (.inr (.inr (some (18, q3))))], [.inl y0], MM I w k) = cond (decide (¬ y0 = 0)) ((rn 80 (a_en 80 [.inr (.inr (some (9, 0))), .inr (.inr (some (18, q3))), .inl x2] (MM I w k))).bind (fun o => a_bk 107 80 (54, [some (.inr (.inr (some (30, 0)))), d1, some (.inl x2), some (.inr (.inr (some (18, q3))))], [], MM I w k) o (rn 107))) (some (.inl (some (.inl (-1))), MM I w k)) := (rn_tq [] 15 107 _).trans rfl
set_option maxRecDepth 100000 in
theorem e107_57 (I : aI) (w : aW) (k : aQ) (d0 : Option aV) (d1 : Option aV) (d2 : Option aV) (d3 : Option aV) (y0 : Int32) : rn 107 (57, [d0, d1, d2, d3], [.inl y0], MM I w k) = some (.inl (some (.inl y0)), MM I w k) := (rn_tq [] 6 107 _).trans rfl
-- X7_passEnd
set_option maxRecDepth 100000 in
theorem e108_0 (I : aI) (w : aW) (k : aQ) (p0 : Int32) (p1 : Int32) : rn 108 (0, [some (.inr (.inr (some (30, 0)))), some (.inl p0), some (.inl p1), none, none], [], MM I w k) = (rn 162 (a_en 162 [.inr (.inr (some (30, 0))), .inl p0] (MM I w k))).bind (fun o => a_bk 108 162 (2, [some (.inr (.inr (some (30, 0)))), some (.inl p0), some (.inl p1), none, none], [], MM I w k) o (rn 108)) := (rn_tq [] 8 108 _).trans rfl
set_option maxRecDepth 100000 in
theorem e108_5 (I : aI) (w : aW) (k : aQ) (x1 : Int32) (x2 : Int32) (d3 : Option aV) (d4 : Option aV) : rn 108 (5, [some (.inr (.inr (some (30, 0)))), some (.inl x1), some (.inl x2), d3, d4], [], MM I w k) = (rn 160 (a_en 160 [.inl x2, .inl 0, .inl 999] (MM I w k))).bind (fun o => a_bk 108 160 (10, [some (.inr (.inr (some (30, 0)))), some (.inl x1), some (.inl x2), d3, d4], [], MM I w k) o (rn 108)) := (rn_tq [] 9 108 _).trans rfl
set_option maxRecDepth 100000 in
theorem e108_13 (I : aI) (w : aW) (k : aQ) (x1 : Int32) (x2 : Int32) (d3 : Option aV) (d4 : Option aV) : rn 108 (13, [some (.inr (.inr (some (30, 0)))), some (.inl x1), some (.inl x2), d3, d4], [], MM I w k) = cond (a_inb x1 4) ((rn 81 (a_en 81 [.inr (.inr (some (9, 0))), .inr (.inr (some (18, (4 * 0 + (Int32.toNatClampNeg x1))))), .inl x2] (MM I w k))).bind (fun o => a_bk 108 81 (35, [some (.inr (.inr (some (30, 0)))), some (.inl x1), some (.inl x2), some (.inr (.inr (some (18, (4 * 0 + (Int32.toNatClampNeg x1)))))), d4], [], MM I w k) o (rn 108))) none := (rn_tq [] 18 108 _).trans rfl
set_option maxRecDepth 100000 in
theorem e108_38 (I : aI) (w : aW) (k : aQ) (d1 : Option aV) (x2 : Int32) (q3 : Nat) (d4 : Option aV) (y0 : Int32) : rn 108 (38, [some (.inr (.inr (some (30, 0)))), d1, some (.inl x2), some (.inr (.inr (some (18, q3)))), d4], [.inl y0], MM I w k) = cond (decide (¬ y0 = 0)) ((rn 80 (a_en 80 [.inr (.inr (some (9, 0))), .inr (.inr (some (18, q3))), .inl x2] (MM I w k))).bind (fun o => a_bk 108 80 (58, [some (.inr (.inr (some (30, 0)))), d1, some (.inl x2), some (.inr (.inr (some (18, q3)))), some (.inl y0)], [], MM I w k) o (rn 108))) (some (.inl (some (.inl (-1))), MM I w k)) := (rn_tq [] 17 108 _).trans rfl
set_option maxRecDepth 100000 in
theorem e108_61 (I : aI) (w : aW) (k : aQ) (d0 : Option aV) (d1 : Option aV) (d2 : Option aV) (d3 : Option aV) (x4 : Int32) (y0 : Int32) : rn 108 (61, [d0, d1, d2, d3, some (.inl x4)], [.inl y0], MM I w k) = some (.inl (some (.inl (y0 + x4))), MM I w k) := (rn_tq [] 8 108 _).trans rfl
-- X7_isVisible
set_option maxRecDepth 100000 in
theorem e109_0 (I : aI) (w : aW) (k : aQ) (p0 : Int32) (p1 : Int32) : rn 109 (0, [some (.inr (.inr (some (30, 0)))), some (.inl p0), some (.inl p1)], [], MM I w k) = (rn 162 (a_en 162 [.inr (.inr (some (30, 0))), .inl p0] (MM I w k))).bind (fun o => a_bk 109 162 (2, [some (.inr (.inr (some (30, 0)))), some (.inl p0), some (.inl p1)], [], MM I w k) o (rn 109)) := (rn_tq [] 8 109 _).trans rfl
set_option maxRecDepth 100000 in
theorem e109_5 (I : aI) (w : aW) (k : aQ) (x1 : Int32) (x2 : Int32) : rn 109 (5, [some (.inr (.inr (some (30, 0)))), some (.inl x1), some (.inl x2)], [], MM I w k) = (rn 160 (a_en 160 [.inl x2, .inl 0, .inl 99999] (MM I w k))).bind (fun o => a_bk 109 160 (9, [some (.inr (.inr (some (30, 0)))), some (.inl x1), some (.inl x2)], [], MM I w k) o (rn 109)) := (rn_tq [] 9 109 _).trans rfl
set_option maxRecDepth 100000 in
theorem e109_12 (I : aI) (w : aW) (k : aQ) (x1 : Int32) (x2 : Int32) : rn 109 (12, [some (.inr (.inr (some (30, 0)))), some (.inl x1), some (.inl x2)], [], MM I w k) = cond (a_inb x1 4) ((rn 83 (a_en 83 [.inr (.inr (some (9, 0))), .inr (.inr (some (18, (4 * 0 + (Int32.toNatClampNeg x1))))), .inl x2] (MM I w k))).bind (fun o => a_bk 109 83 (32, [some (.inr (.inr (some (30, 0)))), some (.inl x1), some (.inl x2)], [], MM I w k) o (rn 109))) none := (rn_tq [] 16 109 _).trans rfl
set_option maxRecDepth 100000 in
theorem e109_35 (I : aI) (w : aW) (k : aQ) (d0 : Option aV) (d1 : Option aV) (d2 : Option aV) (y0 : Int32) : rn 109 (35, [d0, d1, d2], [.inl y0], MM I w k) = cond (a_bz y0) (some (.inl (some (.inl y0)), MM I w k)) none := (rn_tq [] 6 109 _).trans rfl
-- X7_passTable
set_option maxRecDepth 100000 in
theorem e110_0 (I : aI) (w : aW) (k : aQ) (p0 : Int32) (p1 : Int32) (p2 : Int32) : rn 110 (0, [some (.inr (.inr (some (30, 0)))), some (.inl p0), some (.inl p1), some (.inl p2)], [], MM I w k) = (rn 160 (a_en 160 [.inl p0, .inl 0, .inl 99999] (MM I w k))).bind (fun o => a_bk 110 160 (4, [some (.inr (.inr (some (30, 0)))), some (.inl p0), some (.inl p1), some (.inl p2)], [], MM I w k) o (rn 110)) := (rn_tq [] 9 110 _).trans rfl
set_option maxRecDepth 100000 in
theorem e110_7 (I : aI) (w : aW) (k : aQ) (x1 : Int32) (x2 : Int32) (x3 : Int32) : rn 110 (7, [some (.inr (.inr (some (30, 0)))), some (.inl x1), some (.inl x2), some (.inl x3)], [], MM I w k) = (rn 160 (a_en 160 [.inl x2, .inl 0, .inl 19] (MM I w k))).bind (fun o => a_bk 110 160 (11, [some (.inr (.inr (some (30, 0)))), some (.inl x1), some (.inl x2), some (.inl x3)], [], MM I w k) o (rn 110)) := (rn_tq [] 9 110 _).trans rfl
set_option maxRecDepth 100000 in
theorem e110_14 (I : aI) (w : aW) (k : aQ) (x1 : Int32) (x2 : Int32) (x3 : Int32) : rn 110 (14, [some (.inr (.inr (some (30, 0)))), some (.inl x1), some (.inl x2), some (.inl x3)], [], MM I w k) = (rn 160 (a_en 160 [.inl x3, .inl 0, .inl 3] (MM I w k))).bind (fun o => a_bk 110 160 (17, [some (.inr (.inr (some (30, 0)))), some (.inl x1), some (.inl x2), some (.inl x3)], [], MM I w k) o (rn 110)) := (rn_tq [] 9 110 _).trans rfl
set_option maxRecDepth 100000 in
theorem e110_20 (I : aI) (w : aW) (k : aQ) (x1 : Int32) (x2 : Int32) (x3 : Int32) : rn 110 (20, [some (.inr (.inr (some (30, 0)))), some (.inl x1), some (.inl x2), some (.inl x3)], [], MM I w k) = (rn 86 (a_en 86 [.inr (.inr (some (9, 0))), .inl x1, .inl x2, .inl x3] (MM I w k))).bind (fun o => a_bk 110 86 (30, [some (.inr (.inr (some (30, 0)))), some (.inl x1), some (.inl x2), some (.inl x3)], [], MM I w k) o (rn 110)) := (rn_tq [] 12 110 _).trans rfl
set_option maxRecDepth 100000 in
theorem e110_33 (I : aI) (w : aW) (k : aQ) (d0 : Option aV) (d1 : Option aV) (d2 : Option aV) (d3 : Option aV) (y0 : Int32) : rn 110 (33, [d0, d1, d2, d3], [.inl y0], MM I w k) = some (.inl (some (.inl y0)), MM I w k) := (rn_tq [] 6 110 _).trans rfl
-- X7_nextContact
set_option maxRecDepth 100000 in
theorem e111_0 (I : aI) (w : aW) (k : aQ) (p0 : Int32) : rn 111 (0, [some (.inr (.inr (some (30, 0)))), some (.inl p0)], [], MM I w k) = (rn 160 (a_en 160 [.inl p0, .inl 0, .inl 2] (MM I w k))).bind (fun o => a_bk 111 160 (3, [some (.inr (.inr (some (30, 0)))), some (.inl p0)], [], MM I w k) o (rn 111)) := (rn_tq [] 9 111 _).trans rfl
set_option maxRecDepth 100000 in
theorem e111_6 (I : aI) (w : aW) (k : aQ) (x1 : Int32) : rn 111 (6, [some (.inr (.inr (some (30, 0)))), some (.inl x1)], [], MM I w k) = (rn 59 (a_en 59 [.inr (.inr (some (20, 0))), .inl x1] (MM I w k))).bind (fun o => a_bk 111 59 (11, [some (.inr (.inr (some (30, 0)))), some (.inl x1)], [], MM I w k) o (rn 111)) := (rn_tq [] 9 111 _).trans rfl
set_option maxRecDepth 100000 in
theorem e111_14 (I : aI) (w : aW) (k : aQ) (d0 : Option aV) (d1 : Option aV) (y0 : Int32) : rn 111 (14, [d0, d1], [.inl y0], MM I w k) = some (.inl (some (.inl y0)), MM I w k) := (rn_tq [] 6 111 _).trans rfl
-- X7_coverage
set_option maxRecDepth 100000 in
theorem e112_0 (I : aI) (w : aW) (k : aQ) (p0 : Int32) (p1 : Int32) (p2 : Int32) : rn 112 (0, [some (.inr (.inr (some (30, 0)))), some (.inl p0), some (.inl p1), some (.inl p2)], [], MM I w k) = cond (decide (p0 = (-1))) ((rn 161 (a_en 161 [.inl p1, .inl p2] (MM I w k))).bind (fun o => a_bk 112 161 (12, [some (.inr (.inr (some (30, 0)))), some (.inl p0), some (.inl p1), some (.inl p2)], [], MM I w k) o (rn 112))) ((rn 162 (a_en 162 [.inr (.inr (some (30, 0))), .inl p0] (MM I w k))).bind (fun o => a_bk 112 162 (7, [some (.inr (.inr (some (30, 0)))), some (.inl p0), some (.inl p1), some (.inl p2)], [], MM I w k) o (rn 112))) := (rn_tq [] 14 112 _).trans rfl
set_option maxRecDepth 100000 in
theorem e112_15 (I : aI) (w : aW) (k : aQ) (x1 : Int32) (x2 : Int32) (x3 : Int32) : rn 112 (15, [some (.inr (.inr (some (30, 0)))), some (.inl x1), some (.inl x2), some (.inl x3)], [], MM I w k) = cond (decide (¬ x1 = (-1))) (cond (a_inb x1 4) ((rn 90 (a_en 90 [.inr (.inr (some (9, 0))), .inr (.inr (some (18, (4 * 0 + (Int32.toNatClampNeg x1))))), .inl x2, .inl x3] (MM I w k))).bind (fun o => a_bk 112 90 (56, [some (.inr (.inr (some (30, 0)))), some (.inl x1), some (.inl x2), some (.inl x3)], [], MM I w k) o (rn 112))) none) ((rn 91 (a_en 91 [.inr (.inr (some (9, 0))), .inl x2, .inl x3] (MM I w k))).bind (fun o => a_bk 112 91 (29, [some (.inr (.inr (some (30, 0)))), some (.inl x1), some (.inl x2), some (.inl x3)], [], MM I w k) o (rn 112))) := (rn_tq [] 26 112 _).trans rfl
set_option maxRecDepth 100000 in
theorem e112_10 (I : aI) (w : aW) (k : aQ) (x1 : Int32) (x2 : Int32) (x3 : Int32) : rn 112 (10, [some (.inr (.inr (some (30, 0)))), some (.inl x1), some (.inl x2), some (.inl x3)], [], MM I w k) = (rn 161 (a_en 161 [.inl x2, .inl x3] (MM I w k))).bind (fun o => a_bk 112 161 (12, [some (.inr (.inr (some (30, 0)))), some (.inl x1), some (.inl x2), some (.inl x3)], [], MM I w k) o (rn 112)) := (rn_tq [] 8 112 _).trans rfl
set_option maxRecDepth 100000 in
theorem e112_59 (I : aI) (w : aW) (k : aQ) (d0 : Option aV) (d1 : Option aV) (d2 : Option aV) (d3 : Option aV) (y0 : Int32) : rn 112 (59, [d0, d1, d2, d3], [.inl y0], MM I w k) = some (.inl (some (.inl y0)), MM I w k) := (rn_tq [] 6 112 _).trans rfl
set_option maxRecDepth 100000 in
theorem e112_32 (I : aI) (w : aW) (k : aQ) (d0 : Option aV) (d1 : Option aV) (d2 : Option aV) (d3 : Option aV) (y0 : Int32) : rn 112 (32, [d0, d1, d2, d3], [.inl y0], MM I w k) = some (.inl (some (.inl y0)), MM I w k) := (rn_tq [] 7 112 _).trans rfl
-- X7_longestGap
set_option maxRecDepth 100000 in
theorem e113_0 (I : aI) (w : aW) (k : aQ) (p0 : Int32) (p1 : Int32) : rn 113 (0, [some (.inr (.inr (some (30, 0)))), some (.inl p0), some (.inl p1)], [], MM I w k) = (rn 161 (a_en 161 [.inl p0, .inl p1] (MM I w k))).bind (fun o => a_bk 113 161 (2, [some (.inr (.inr (some (30, 0)))), some (.inl p0), some (.inl p1)], [], MM I w k) o (rn 113)) := (rn_tq [] 8 113 _).trans rfl
set_option maxRecDepth 100000 in
theorem e113_5 (I : aI) (w : aW) (k : aQ) (x1 : Int32) (x2 : Int32) : rn 113 (5, [some (.inr (.inr (some (30, 0)))), some (.inl x1), some (.inl x2)], [], MM I w k) = (rn 92 (a_en 92 [.inr (.inr (some (9, 0))), .inl x1, .inl x2] (MM I w k))).bind (fun o => a_bk 113 92 (14, [some (.inr (.inr (some (30, 0)))), some (.inl x1), some (.inl x2)], [], MM I w k) o (rn 113)) := (rn_tq [] 11 113 _).trans rfl
set_option maxRecDepth 100000 in
theorem e113_17 (I : aI) (w : aW) (k : aQ) (d0 : Option aV) (d1 : Option aV) (d2 : Option aV) (y0 : Int32) : rn 113 (17, [d0, d1, d2], [.inl y0], MM I w k) = some (.inl (some (.inl y0)), MM I w k) := (rn_tq [] 6 113 _).trans rfl
-- X7_bestStation
set_option maxRecDepth 100000 in
theorem e114_0 (I : aI) (w : aW) (k : aQ) (p0 : Int32) (p1 : Int32) : rn 114 (0, [some (.inr (.inr (some (30, 0)))), some (.inl p0), some (.inl p1)], [], MM I w k) = (rn 161 (a_en 161 [.inl p0, .inl p1] (MM I w k))).bind (fun o => a_bk 114 161 (2, [some (.inr (.inr (some (30, 0)))), some (.inl p0), some (.inl p1)], [], MM I w k) o (rn 114)) := (rn_tq [] 8 114 _).trans rfl
set_option maxRecDepth 100000 in
theorem e114_5 (I : aI) (w : aW) (k : aQ) (x1 : Int32) (x2 : Int32) : rn 114 (5, [some (.inr (.inr (some (30, 0)))), some (.inl x1), some (.inl x2)], [], MM I w k) = (rn 93 (a_en 93 [.inr (.inr (some (9, 0))), .inl x1, .inl x2] (MM I w k))).bind (fun o => a_bk 114 93 (14, [some (.inr (.inr (some (30, 0)))), some (.inl x1), some (.inl x2)], [], MM I w k) o (rn 114)) := (rn_tq [] 11 114 _).trans rfl
set_option maxRecDepth 100000 in
theorem e114_17 (I : aI) (w : aW) (k : aQ) (d0 : Option aV) (d1 : Option aV) (d2 : Option aV) (y0 : Int32) : rn 114 (17, [d0, d1, d2], [.inl y0], MM I w k) = some (.inl (some (.inl y0)), MM I w k) := (rn_tq [] 6 114 _).trans rfl
-- X7_nextPass
set_option maxRecDepth 100000 in
theorem e115_0 (I : aI) (w : aW) (k : aQ) (p0 : Int32) (p1 : Int32) : rn 115 (0, [some (.inr (.inr (some (30, 0)))), some (.inl p0), some (.inl p1)], [], MM I w k) = (rn 162 (a_en 162 [.inr (.inr (some (30, 0))), .inl p0] (MM I w k))).bind (fun o => a_bk 115 162 (2, [some (.inr (.inr (some (30, 0)))), some (.inl p0), some (.inl p1)], [], MM I w k) o (rn 115)) := (rn_tq [] 8 115 _).trans rfl
set_option maxRecDepth 100000 in
theorem e115_5 (I : aI) (w : aW) (k : aQ) (x1 : Int32) (x2 : Int32) : rn 115 (5, [some (.inr (.inr (some (30, 0)))), some (.inl x1), some (.inl x2)], [], MM I w k) = (rn 160 (a_en 160 [.inl x2, .inl 0, .inl 99999] (MM I w k))).bind (fun o => a_bk 115 160 (9, [some (.inr (.inr (some (30, 0)))), some (.inl x1), some (.inl x2)], [], MM I w k) o (rn 115)) := (rn_tq [] 9 115 _).trans rfl
set_option maxRecDepth 100000 in
theorem e115_12 (I : aI) (w : aW) (k : aQ) (x1 : Int32) (x2 : Int32) : rn 115 (12, [some (.inr (.inr (some (30, 0)))), some (.inl x1), some (.inl x2)], [], MM I w k) = cond (a_inb x1 4) ((rn 89 (a_en 89 [.inr (.inr (some (9, 0))), .inr (.inr (some (18, (4 * 0 + (Int32.toNatClampNeg x1))))), .inl x2] (MM I w k))).bind (fun o => a_bk 115 89 (32, [some (.inr (.inr (some (30, 0)))), some (.inl x1), some (.inl x2)], [], MM I w k) o (rn 115))) none := (rn_tq [] 16 115 _).trans rfl
set_option maxRecDepth 100000 in
theorem e115_35 (I : aI) (w : aW) (k : aQ) (d0 : Option aV) (d1 : Option aV) (d2 : Option aV) (y0 : Int32) : rn 115 (35, [d0, d1, d2], [.inl y0], MM I w k) = some (.inl (some (.inl y0)), MM I w k) := (rn_tq [] 6 115 _).trans rfl
-- X7_passFrames
set_option maxRecDepth 100000 in
theorem e116_0 (I : aI) (w : aW) (k : aQ) (p0 : Int32) (p1 : Int32) : rn 116 (0, [some (.inr (.inr (some (30, 0)))), some (.inl p0), some (.inl p1), none], [], MM I w k) = (rn 162 (a_en 162 [.inr (.inr (some (30, 0))), .inl p0] (MM I w k))).bind (fun o => a_bk 116 162 (2, [some (.inr (.inr (some (30, 0)))), some (.inl p0), some (.inl p1), none], [], MM I w k) o (rn 116)) := (rn_tq [] 8 116 _).trans rfl
set_option maxRecDepth 100000 in
theorem e116_5 (I : aI) (w : aW) (k : aQ) (x1 : Int32) (x2 : Int32) (d3 : Option aV) : rn 116 (5, [some (.inr (.inr (some (30, 0)))), some (.inl x1), some (.inl x2), d3], [], MM I w k) = (rn 160 (a_en 160 [.inl x2, .inl 0, .inl 999] (MM I w k))).bind (fun o => a_bk 116 160 (10, [some (.inr (.inr (some (30, 0)))), some (.inl x1), some (.inl x2), d3], [], MM I w k) o (rn 116)) := (rn_tq [] 9 116 _).trans rfl
set_option maxRecDepth 100000 in
theorem e116_13 (I : aI) (w : aW) (k : aQ) (x1 : Int32) (x2 : Int32) (d3 : Option aV) : rn 116 (13, [some (.inr (.inr (some (30, 0)))), some (.inl x1), some (.inl x2), d3], [], MM I w k) = cond (a_inb x1 4) ((rn 81 (a_en 81 [.inr (.inr (some (9, 0))), .inr (.inr (some (18, (4 * 0 + (Int32.toNatClampNeg x1))))), .inl x2] (MM I w k))).bind (fun o => a_bk 116 81 (39, [some (.inr (.inr (some (30, 0)))), some (.inl x1), some (.inl x2), some (.inr (.inr (some (18, (4 * 0 + (Int32.toNatClampNeg x1))))))], [.inl (I 18 (4 * 0 + (Int32.toNatClampNeg x1)) 4)], MM I w k) o (rn 116))) none := (rn_tq [] 20 116 _).trans rfl
set_option maxRecDepth 100000 in
theorem e116_42 (I : aI) (w : aW) (k : aQ) (d0 : Option aV) (d1 : Option aV) (d2 : Option aV) (d3 : Option aV) (y0 : Int32) (y1 : Int32) : rn 116 (42, [d0, d1, d2, d3], [.inl y0, .inl y1], MM I w k) = some (.inl (some (.inl (y1 * y0))), MM I w k) := (rn_tq [] 7 116 _).trans rfl
-- X7_addRecord
set_option maxRecDepth 100000 in
theorem e117_0 (I : aI) (w : aW) (k : aQ) (p0 : Int32) (p1 : Int32) : rn 117 (0, [some (.inr (.inr (some (30, 0)))), some (.inl p0), some (.inl p1)], [], MM I w k) = (rn 160 (a_en 160 [.inl p0, .inl 1, .inl 24] (MM I w k))).bind (fun o => a_bk 117 160 (4, [some (.inr (.inr (some (30, 0)))), some (.inl p0), some (.inl p1)], [], MM I w k) o (rn 117)) := (rn_tq [] 9 117 _).trans rfl
set_option maxRecDepth 100000 in
theorem e117_7 (I : aI) (w : aW) (k : aQ) (x1 : Int32) (x2 : Int32) : rn 117 (7, [some (.inr (.inr (some (30, 0)))), some (.inl x1), some (.inl x2)], [], MM I w k) = (rn 160 (a_en 160 [.inl x2, .inl 0, .inl 9] (MM I w k))).bind (fun o => a_bk 117 160 (11, [some (.inr (.inr (some (30, 0)))), some (.inl x1), some (.inl x2)], [], MM I w k) o (rn 117)) := (rn_tq [] 9 117 _).trans rfl
set_option maxRecDepth 100000 in
theorem e117_14 (I : aI) (w : aW) (k : aQ) (x1 : Int32) (x2 : Int32) : rn 117 (14, [some (.inr (.inr (some (30, 0)))), some (.inl x1), some (.inl x2)], [], MM I w k) = (rn 42 (a_en 42 [.inr (.inr (some (20, 0)))] (MM I w k))).bind (fun o => a_bk 117 42 (18, [some (.inr (.inr (some (30, 0)))), some (.inl x1), some (.inl x2)], [], MM I w k) o (rn 117)) := (rn_tq [] 8 117 _).trans rfl
set_option maxRecDepth 100000 in
theorem e117_21 (I : aI) (w : aW) (k : aQ) (x1 : Int32) (x2 : Int32) (y0 : Int32) : rn 117 (21, [some (.inr (.inr (some (30, 0)))), some (.inl x1), some (.inl x2)], [.inl y0], MM I w k) = cond (decide (¬ y0 = 0)) (some (.inr 1, MM I w (k.1, k.2.1, k.2.2.1 + 1, k.2.2.2 + 6))) ((rn 43 (a_en 43 [.inr (.inr (some (20, 0))), .inl x1] (MM I w k))).bind (fun o => a_bk 117 43 (29, [some (.inr (.inr (some (30, 0)))), some (.inl x1), some (.inl x2)], [], MM I w k) o (rn 117))) := (rn_tq [] 11 117 _).trans rfl
set_option maxRecDepth 100000 in
theorem e117_32 (I : aI) (w : aW) (k : aQ) (x1 : Int32) (x2 : Int32) (y0 : Int32) : rn 117 (32, [some (.inr (.inr (some (30, 0)))), some (.inl x1), some (.inl x2)], [.inl y0], MM I w k) = cond (decide (¬ y0 = 0)) ((rn 44 (a_en 44 [.inr (.inr (some (20, 0))), .inl x1, .inl x2] (MM I w k))).bind (fun o => a_bk 117 44 (51, [some (.inr (.inr (some (30, 0)))), some (.inl x1), some (.inl x2)], [], MM I w k) o (rn 117))) (some (.inr 1, MM I w (k.1, k.2.1, k.2.2.1 + 1, k.2.2.2 + 6))) := (rn_tq [] 12 117 _).trans rfl
set_option maxRecDepth 100000 in
theorem e117_54 (I : aI) (w : aW) (k : aQ) (d0 : Option aV) (d1 : Option aV) (d2 : Option aV) (y0 : Int32) : rn 117 (54, [d0, d1, d2], [.inl y0], MM I w k) = some (.inl (some (.inl y0)), MM I w k) := (rn_tq [] 6 117 _).trans rfl
-- X7_recordCount
set_option maxRecDepth 100000 in
theorem e118_0 (I : aI) (w : aW) (k : aQ) : rn 118 (0, [some (.inr (.inr (some (30, 0))))], [], MM I w k) = some (.inl (some (.inl (I 20 0 3))), MM I w k) := (rn_tq [] 9 118 _).trans rfl
-- X7_setPriority
set_option maxRecDepth 100000 in
theorem e119_0 (I : aI) (w : aW) (k : aQ) (p0 : Int32) (p1 : Int32) : rn 119 (0, [some (.inr (.inr (some (30, 0)))), some (.inl p0), some (.inl p1), none, none], [], MM I w k) = (rn 163 (a_en 163 [.inr (.inr (some (30, 0))), .inl p0] (MM I w k))).bind (fun o => a_bk 119 163 (2, [some (.inr (.inr (some (30, 0)))), some (.inl p0), some (.inl p1), none, none], [], MM I w k) o (rn 119)) := (rn_tq [] 8 119 _).trans rfl
set_option maxRecDepth 100000 in
theorem e119_5 (I : aI) (w : aW) (k : aQ) (x1 : Int32) (x2 : Int32) (d3 : Option aV) (d4 : Option aV) : rn 119 (5, [some (.inr (.inr (some (30, 0)))), some (.inl x1), some (.inl x2), d3, d4], [], MM I w k) = (rn 160 (a_en 160 [.inl x2, .inl 0, .inl 9] (MM I w k))).bind (fun o => a_bk 119 160 (9, [some (.inr (.inr (some (30, 0)))), some (.inl x1), some (.inl x2), d3, d4], [], MM I w k) o (rn 119)) := (rn_tq [] 9 119 _).trans rfl
set_option maxRecDepth 100000 in
theorem e119_12 (I : aI) (w : aW) (k : aQ) (x1 : Int32) (x2 : Int32) (d3 : Option aV) (d4 : Option aV) : rn 119 (12, [some (.inr (.inr (some (30, 0)))), some (.inl x1), some (.inl x2), d3, d4], [], MM I w k) = cond (a_inb x1 40) (some (.inl (some (.inl (I 14 (40 * 0 + (Int32.toNatClampNeg x1)) 1))), MM (a_setI I 14 (40 * 0 + (Int32.toNatClampNeg x1)) 1 x2) w k)) none := (rn_tq [] 19 119 _).trans rfl
-- X7_urgency
set_option maxRecDepth 100000 in
theorem e120_0 (I : aI) (w : aW) (k : aQ) (p0 : Int32) : rn 120 (0, [some (.inr (.inr (some (30, 0)))), some (.inl p0)], [], MM I w k) = (rn 163 (a_en 163 [.inr (.inr (some (30, 0))), .inl p0] (MM I w k))).bind (fun o => a_bk 120 163 (2, [some (.inr (.inr (some (30, 0)))), some (.inl p0)], [], MM I w k) o (rn 120)) := (rn_tq [] 8 120 _).trans rfl
set_option maxRecDepth 100000 in
theorem e120_5 (I : aI) (w : aW) (k : aQ) (x1 : Int32) : rn 120 (5, [some (.inr (.inr (some (30, 0)))), some (.inl x1)], [], MM I w k) = cond (a_inb x1 40) ((rn 48 (a_en 48 [.inr (.inr (some (20, 0))), .inr (.inr (some (14, (40 * 0 + (Int32.toNatClampNeg x1)))))] (MM I w k))).bind (fun o => a_bk 120 48 (18, [some (.inr (.inr (some (30, 0)))), some (.inl x1)], [], MM I w k) o (rn 120))) none := (rn_tq [] 13 120 _).trans rfl
set_option maxRecDepth 100000 in
theorem e120_21 (I : aI) (w : aW) (k : aQ) (d0 : Option aV) (d1 : Option aV) (y0 : Int32) : rn 120 (21, [d0, d1], [.inl y0], MM I w k) = some (.inl (some (.inl y0)), MM I w k) := (rn_tq [] 6 120 _).trans rfl
-- X7_nextRecord
set_option maxRecDepth 100000 in
theorem e121_0 (I : aI) (w : aW) (k : aQ) : rn 121 (0, [some (.inr (.inr (some (30, 0))))], [], MM I w k) = (rn 49 (a_en 49 [.inr (.inr (some (20, 0)))] (MM I w k))).bind (fun o => a_bk 121 49 (4, [some (.inr (.inr (some (30, 0))))], [], MM I w k) o (rn 121)) := (rn_tq [] 8 121 _).trans rfl
set_option maxRecDepth 100000 in
theorem e121_7 (I : aI) (w : aW) (k : aQ) (d0 : Option aV) (y0 : Int32) : rn 121 (7, [d0], [.inl y0], MM I w k) = some (.inl (some (.inl y0)), MM I w k) := (rn_tq [] 6 121 _).trans rfl
-- X7_resumePoint
set_option maxRecDepth 100000 in
theorem e122_0 (I : aI) (w : aW) (k : aQ) (p0 : Int32) : rn 122 (0, [some (.inr (.inr (some (30, 0)))), some (.inl p0)], [], MM I w k) = (rn 163 (a_en 163 [.inr (.inr (some (30, 0))), .inl p0] (MM I w k))).bind (fun o => a_bk 122 163 (2, [some (.inr (.inr (some (30, 0)))), some (.inl p0)], [], MM I w k) o (rn 122)) := (rn_tq [] 8 122 _).trans rfl
set_option maxRecDepth 100000 in
theorem e122_5 (I : aI) (w : aW) (k : aQ) (x1 : Int32) : rn 122 (5, [some (.inr (.inr (some (30, 0)))), some (.inl x1)], [], MM I w k) = cond (a_inb x1 40) ((rn 11 (a_en 11 [.inr (.inr (some (14, (40 * 0 + (Int32.toNatClampNeg x1)))))] (MM I w k))).bind (fun o => a_bk 122 11 (14, [some (.inr (.inr (some (30, 0)))), some (.inl x1)], [], MM I w k) o (rn 122))) none := (rn_tq [] 11 122 _).trans rfl
set_option maxRecDepth 100000 in
theorem e122_17 (I : aI) (w : aW) (k : aQ) (d0 : Option aV) (d1 : Option aV) (y0 : Int32) : rn 122 (17, [d0, d1], [.inl y0], MM I w k) = some (.inl (some (.inl y0)), MM I w k) := (rn_tq [] 6 122 _).trans rfl
-- X7_frames
set_option maxRecDepth 100000 in
theorem e123_0 (I : aI) (w : aW) (k : aQ) (p0 : Int32) (p1 : Int32) : rn 123 (0, [some (.inr (.inr (some (30, 0)))), some (.inl p0), some (.inl p1), none], [], MM I w k) = (rn 163 (a_en 163 [.inr (.inr (some (30, 0))), .inl p0] (MM I w k))).bind (fun o => a_bk 123 163 (2, [some (.inr (.inr (some (30, 0)))), some (.inl p0), some (.inl p1), none], [], MM I w k) o (rn 123)) := (rn_tq [] 8 123 _).trans rfl
set_option maxRecDepth 100000 in
theorem e123_5 (I : aI) (w : aW) (k : aQ) (x1 : Int32) (x2 : Int32) (d3 : Option aV) : rn 123 (5, [some (.inr (.inr (some (30, 0)))), some (.inl x1), some (.inl x2), d3], [], MM I w k) = (rn 160 (a_en 160 [.inl x2, .inl 0, .inl 3] (MM I w k))).bind (fun o => a_bk 123 160 (8, [some (.inr (.inr (some (30, 0)))), some (.inl x1), some (.inl x2), d3], [], MM I w k) o (rn 123)) := (rn_tq [] 9 123 _).trans rfl
set_option maxRecDepth 100000 in
theorem e123_11 (I : aI) (w : aW) (k : aQ) (x1 : Int32) (x2 : Int32) (d3 : Option aV) : rn 123 (11, [some (.inr (.inr (some (30, 0)))), some (.inl x1), some (.inl x2), d3], [], MM I w k) = cond (a_inb x1 40) (cond (decide (Int32.toInt x2 = 0)) (some (.inl (some (.inl (I 14 (40 * 0 + (Int32.toNatClampNeg x1)) 3))), MM I w k)) (cond (decide (Int32.toInt x2 = 1)) (some (.inl (some (.inl (I 14 (40 * 0 + (Int32.toNatClampNeg x1)) 4))), MM I w k)) (cond (decide (Int32.toInt x2 = 2)) (some (.inl (some (.inl (I 14 (40 * 0 + (Int32.toNatClampNeg x1)) 5))), MM I w k)) (some (.inl (some (.inl (I 14 (40 * 0 + (Int32.toNatClampNeg x1)) 6))), MM I w k))))) none := (rn_tq [] 25 123 _).trans rfl
-- X7_sentIn
set_option maxRecDepth 100000 in
theorem e124_0 (I : aI) (w : aW) (k : aQ) (p0 : Int32) (p1 : Int32) : rn 124 (0, [some (.inr (.inr (some (30, 0)))), some (.inl p0), some (.inl p1), none], [], MM I w k) = (rn 163 (a_en 163 [.inr (.inr (some (30, 0))), .inl p0] (MM I w k))).bind (fun o => a_bk 124 163 (2, [some (.inr (.inr (some (30, 0)))), some (.inl p0), some (.inl p1), none], [], MM I w k) o (rn 124)) := (rn_tq [] 8 124 _).trans rfl
set_option maxRecDepth 100000 in
theorem e124_5 (I : aI) (w : aW) (k : aQ) (x1 : Int32) (x2 : Int32) (d3 : Option aV) : rn 124 (5, [some (.inr (.inr (some (30, 0)))), some (.inl x1), some (.inl x2), d3], [], MM I w k) = cond (a_inb x1 40) ((rn 159 (a_en 159 [.inl x2, .inl 0, .inl ((I 14 (40 * 0 + (Int32.toNatClampNeg x1)) 0) - 1)] (MM I w k))).bind (fun o => a_bk 124 159 (23, [some (.inr (.inr (some (30, 0)))), some (.inl x1), some (.inl x2), some (.inr (.inr (some (14, (40 * 0 + (Int32.toNatClampNeg x1))))))], [], MM I w k) o (rn 124))) none := (rn_tq [] 18 124 _).trans rfl
set_option maxRecDepth 100000 in
theorem e124_26 (I : aI) (w : aW) (k : aQ) (d0 : Option aV) (d1 : Option aV) (x2 : Int32) (q3 : Nat) (y0 : Int32) : rn 124 (26, [d0, d1, some (.inl x2), some (.inr (.inr (some (14, q3))))], [.inl y0], MM I w k) = cond (decide (y0 = 0)) (cond (a_inb x2 24) (some (.inl (some (.inl (I 6 q3 (Int32.toNatClampNeg x2)))), MM I w k)) none) (some (.inr 2, MM I w (k.1, k.2.1, k.2.2.1 + 1, k.2.2.2 + 6))) := (rn_tq [] 12 124 _).trans rfl
-- X7_deliveredAt
set_option maxRecDepth 100000 in
theorem e125_0 (I : aI) (w : aW) (k : aQ) (p0 : Int32) : rn 125 (0, [some (.inr (.inr (some (30, 0)))), some (.inl p0)], [], MM I w k) = (rn 163 (a_en 163 [.inr (.inr (some (30, 0))), .inl p0] (MM I w k))).bind (fun o => a_bk 125 163 (2, [some (.inr (.inr (some (30, 0)))), some (.inl p0)], [], MM I w k) o (rn 125)) := (rn_tq [] 8 125 _).trans rfl
set_option maxRecDepth 100000 in
theorem e125_5 (I : aI) (w : aW) (k : aQ) (x1 : Int32) : rn 125 (5, [some (.inr (.inr (some (30, 0)))), some (.inl x1)], [], MM I w k) = cond (a_inb x1 40) (some (.inl (some (.inl (I 14 (40 * 0 + (Int32.toNatClampNeg x1)) 7))), MM I w k)) none := (rn_tq [] 12 125 _).trans rfl
-- X7_releasedAt
set_option maxRecDepth 100000 in
theorem e126_0 (I : aI) (w : aW) (k : aQ) (p0 : Int32) : rn 126 (0, [some (.inr (.inr (some (30, 0)))), some (.inl p0)], [], MM I w k) = (rn 163 (a_en 163 [.inr (.inr (some (30, 0))), .inl p0] (MM I w k))).bind (fun o => a_bk 126 163 (2, [some (.inr (.inr (some (30, 0)))), some (.inl p0)], [], MM I w k) o (rn 126)) := (rn_tq [] 8 126 _).trans rfl
set_option maxRecDepth 100000 in
theorem e126_5 (I : aI) (w : aW) (k : aQ) (x1 : Int32) : rn 126 (5, [some (.inr (.inr (some (30, 0)))), some (.inl x1)], [], MM I w k) = cond (a_inb x1 40) (some (.inl (some (.inl (I 14 (40 * 0 + (Int32.toNatClampNeg x1)) 8))), MM I w k)) none := (rn_tq [] 12 126 _).trans rfl
-- X7_backlog
set_option maxRecDepth 100000 in
theorem e127_0 (I : aI) (w : aW) (k : aQ) (p0 : Int32) : rn 127 (0, [some (.inr (.inr (some (30, 0)))), some (.inl p0)], [], MM I w k) = (rn 160 (a_en 160 [.inl p0, .inl 0, .inl 9] (MM I w k))).bind (fun o => a_bk 127 160 (4, [some (.inr (.inr (some (30, 0)))), some (.inl p0)], [], MM I w k) o (rn 127)) := (rn_tq [] 9 127 _).trans rfl
set_option maxRecDepth 100000 in
theorem e127_7 (I : aI) (w : aW) (k : aQ) (x1 : Int32) : rn 127 (7, [some (.inr (.inr (some (30, 0)))), some (.inl x1)], [], MM I w k) = (rn 46 (a_en 46 [.inr (.inr (some (20, 0))), .inl x1] (MM I w k))).bind (fun o => a_bk 127 46 (12, [some (.inr (.inr (some (30, 0)))), some (.inl x1)], [], MM I w k) o (rn 127)) := (rn_tq [] 9 127 _).trans rfl
set_option maxRecDepth 100000 in
theorem e127_15 (I : aI) (w : aW) (k : aQ) (d0 : Option aV) (d1 : Option aV) (y0 : Int32) : rn 127 (15, [d0, d1], [.inl y0], MM I w k) = some (.inl (some (.inl y0)), MM I w k) := (rn_tq [] 6 127 _).trans rfl
-- X7_oldestRecord
set_option maxRecDepth 100000 in
theorem e128_0 (I : aI) (w : aW) (k : aQ) : rn 128 (0, [some (.inr (.inr (some (30, 0))))], [], MM I w k) = (rn 47 (a_en 47 [.inr (.inr (some (20, 0)))] (MM I w k))).bind (fun o => a_bk 128 47 (4, [some (.inr (.inr (some (30, 0))))], [], MM I w k) o (rn 128)) := (rn_tq [] 8 128 _).trans rfl
set_option maxRecDepth 100000 in
theorem e128_7 (I : aI) (w : aW) (k : aQ) (d0 : Option aV) (y0 : Int32) : rn 128 (7, [d0], [.inl y0], MM I w k) = some (.inl (some (.inl y0)), MM I w k) := (rn_tq [] 6 128 _).trans rfl
-- X7_memoryInUse
set_option maxRecDepth 100000 in
theorem e129_0 (I : aI) (w : aW) (k : aQ) : rn 129 (0, [some (.inr (.inr (some (30, 0))))], [], MM I w k) = (rn 45 (a_en 45 [.inr (.inr (some (20, 0)))] (MM I w k))).bind (fun o => a_bk 129 45 (4, [some (.inr (.inr (some (30, 0))))], [], MM I w k) o (rn 129)) := (rn_tq [] 8 129 _).trans rfl
set_option maxRecDepth 100000 in
theorem e129_7 (I : aI) (w : aW) (k : aQ) (d0 : Option aV) (y0 : Int32) : rn 129 (7, [d0], [.inl y0], MM I w k) = some (.inl (some (.inl y0)), MM I w k) := (rn_tq [] 6 129 _).trans rfl
-- X7_time
set_option maxRecDepth 100000 in
theorem e130_0 (I : aI) (w : aW) (k : aQ) : rn 130 (0, [some (.inr (.inr (some (30, 0))))], [], MM I w k) = some (.inl (some (.inl (I 20 0 8))), MM I w k) := (rn_tq [] 9 130 _).trans rfl
-- X7_advance
set_option maxRecDepth 100000 in
theorem e131_0 (I : aI) (w : aW) (k : aQ) (p0 : Int32) : rn 131 (0, [some (.inr (.inr (some (30, 0)))), some (.inl p0), none], [], MM I w k) = (rn 160 (a_en 160 [.inl p0, .inl 1, .inl 1440] (MM I w k))).bind (fun o => a_bk 131 160 (5, [some (.inr (.inr (some (30, 0)))), some (.inl p0), none], [], MM I w k) o (rn 131)) := (rn_tq [35] 9 131 _).trans rfl
set_option maxRecDepth 100000 in
theorem e131_8 (I : aI) (w : aW) (k : aQ) (x1 : Int32) (d2 : Option aV) : rn 131 (8, [some (.inr (.inr (some (30, 0)))), some (.inl x1), d2], [], MM I w k) = cond (decide (((I 20 0 8) + x1) ≤ 20000)) (rn 131 (35, [some (.inr (.inr (some (30, 0)))), some (.inl x1), some (.inl 0)], [], MM I w k)) (some (.inr 1, MM I w (k.1, k.2.1, k.2.2.1 + 1, k.2.2.2 + 6))) := (rn_tq [35] 15 131 _).trans rfl
set_option maxRecDepth 100000 in
theorem e131_35 (I : aI) (w : aW) (k : aQ) (x1 : Int32) (x2 : Int32) : rn 131 (35, [some (.inr (.inr (some (30, 0)))), some (.inl x1), some (.inl x2)], [], MM I w k) = cond (decide (x1 ≤ x2)) (some (.inl (some (.inl (I 20 0 8))), MM I w k)) ((rn 61 (a_en 61 [.inr (.inr (some (20, 0)))] (MM I w k))).bind (fun o => a_bk 131 61 (44, [some (.inr (.inr (some (30, 0)))), some (.inl x1), some (.inl x2)], [], MM I w k) o (rn 131))) := (rn_tq [35] 15 131 _).trans rfl
set_option maxRecDepth 100000 in
theorem e131_47 (I : aI) (w : aW) (k : aQ) (x1 : Int32) (x2 : Int32) : rn 131 (47, [some (.inr (.inr (some (30, 0)))), some (.inl x1), some (.inl x2)], [], MM I w k) = rn 131 (35, [some (.inr (.inr (some (30, 0)))), some (.inl x1), some (.inl (x2 + 1))], [], MM I w k) := (rn_tq [35] 7 131 _).trans rfl
-- X7_contactCount
set_option maxRecDepth 100000 in
theorem e132_0 (I : aI) (w : aW) (k : aQ) : rn 132 (0, [some (.inr (.inr (some (30, 0))))], [], MM I w k) = some (.inl (some (.inl (I 20 0 5))), MM I w k) := (rn_tq [] 9 132 _).trans rfl
-- X7_presentStation
set_option maxRecDepth 100000 in
theorem e133_0 (I : aI) (w : aW) (k : aQ) : rn 133 (0, [some (.inr (.inr (some (30, 0))))], [], MM I w k) = (rn 57 (a_en 57 [.inr (.inr (some (20, 0)))] (MM I w k))).bind (fun o => a_bk 133 57 (4, [some (.inr (.inr (some (30, 0))))], [], MM I w k) o (rn 133)) := (rn_tq [] 8 133 _).trans rfl
set_option maxRecDepth 100000 in
theorem e133_7 (I : aI) (w : aW) (k : aQ) (d0 : Option aV) (y0 : Int32) : rn 133 (7, [d0], [.inl y0], MM I w k) = some (.inl (some (.inl y0)), MM I w k) := (rn_tq [] 6 133 _).trans rfl
-- X7_contactStation
set_option maxRecDepth 100000 in
theorem e134_0 (I : aI) (w : aW) (k : aQ) (p0 : Int32) : rn 134 (0, [some (.inr (.inr (some (30, 0)))), some (.inl p0)], [], MM I w k) = (rn 164 (a_en 164 [.inr (.inr (some (30, 0))), .inl p0] (MM I w k))).bind (fun o => a_bk 134 164 (2, [some (.inr (.inr (some (30, 0)))), some (.inl p0)], [], MM I w k) o (rn 134)) := (rn_tq [] 8 134 _).trans rfl
set_option maxRecDepth 100000 in
theorem e134_5 (I : aI) (w : aW) (k : aQ) (x1 : Int32) : rn 134 (5, [some (.inr (.inr (some (30, 0)))), some (.inl x1)], [], MM I w k) = (rn 55 (a_en 55 [.inr (.inr (some (20, 0))), .inl x1] (MM I w k))).bind (fun o => a_bk 134 55 (10, [some (.inr (.inr (some (30, 0)))), some (.inl x1)], [], MM I w k) o (rn 134)) := (rn_tq [] 9 134 _).trans rfl
set_option maxRecDepth 100000 in
theorem e134_13 (I : aI) (w : aW) (k : aQ) (d0 : Option aV) (d1 : Option aV) (z0 : Nat) : rn 134 (13, [d0, d1], [.inr (.inr (some (15, z0)))], MM I w k) = some (.inl (some (.inl (I 15 z0 1))), MM I w k) := (rn_tq [] 7 134 _).trans rfl
-- X7_contactBegin
set_option maxRecDepth 100000 in
theorem e135_0 (I : aI) (w : aW) (k : aQ) (p0 : Int32) : rn 135 (0, [some (.inr (.inr (some (30, 0)))), some (.inl p0)], [], MM I w k) = (rn 164 (a_en 164 [.inr (.inr (some (30, 0))), .inl p0] (MM I w k))).bind (fun o => a_bk 135 164 (2, [some (.inr (.inr (some (30, 0)))), some (.inl p0)], [], MM I w k) o (rn 135)) := (rn_tq [] 8 135 _).trans rfl
set_option maxRecDepth 100000 in
theorem e135_5 (I : aI) (w : aW) (k : aQ) (x1 : Int32) : rn 135 (5, [some (.inr (.inr (some (30, 0)))), some (.inl x1)], [], MM I w k) = (rn 55 (a_en 55 [.inr (.inr (some (20, 0))), .inl x1] (MM I w k))).bind (fun o => a_bk 135 55 (10, [some (.inr (.inr (some (30, 0)))), some (.inl x1)], [], MM I w k) o (rn 135)) := (rn_tq [] 9 135 _).trans rfl
set_option maxRecDepth 100000 in
theorem e135_13 (I : aI) (w : aW) (k : aQ) (d0 : Option aV) (d1 : Option aV) (z0 : Nat) : rn 135 (13, [d0, d1], [.inr (.inr (some (15, z0)))], MM I w k) = some (.inl (some (.inl (I 15 z0 2))), MM I w k) := (rn_tq [] 7 135 _).trans rfl
-- X7_contactEnd
set_option maxRecDepth 100000 in
theorem e136_0 (I : aI) (w : aW) (k : aQ) (p0 : Int32) : rn 136 (0, [some (.inr (.inr (some (30, 0)))), some (.inl p0)], [], MM I w k) = (rn 164 (a_en 164 [.inr (.inr (some (30, 0))), .inl p0] (MM I w k))).bind (fun o => a_bk 136 164 (2, [some (.inr (.inr (some (30, 0)))), some (.inl p0)], [], MM I w k) o (rn 136)) := (rn_tq [] 8 136 _).trans rfl
set_option maxRecDepth 100000 in
theorem e136_5 (I : aI) (w : aW) (k : aQ) (x1 : Int32) : rn 136 (5, [some (.inr (.inr (some (30, 0)))), some (.inl x1)], [], MM I w k) = (rn 55 (a_en 55 [.inr (.inr (some (20, 0))), .inl x1] (MM I w k))).bind (fun o => a_bk 136 55 (10, [some (.inr (.inr (some (30, 0)))), some (.inl x1)], [], MM I w k) o (rn 136)) := (rn_tq [] 9 136 _).trans rfl
set_option maxRecDepth 100000 in
theorem e136_13 (I : aI) (w : aW) (k : aQ) (d0 : Option aV) (d1 : Option aV) (z0 : Nat) : rn 136 (13, [d0, d1], [.inr (.inr (some (15, z0)))], MM I w k) = some (.inl (some (.inl (I 15 z0 3))), MM I w k) := (rn_tq [] 7 136 _).trans rfl
-- X7_reportState
set_option maxRecDepth 100000 in
theorem e137_0 (I : aI) (w : aW) (k : aQ) (p0 : Int32) : rn 137 (0, [some (.inr (.inr (some (30, 0)))), some (.inl p0)], [], MM I w k) = (rn 164 (a_en 164 [.inr (.inr (some (30, 0))), .inl p0] (MM I w k))).bind (fun o => a_bk 137 164 (2, [some (.inr (.inr (some (30, 0)))), some (.inl p0)], [], MM I w k) o (rn 137)) := (rn_tq [] 8 137 _).trans rfl
set_option maxRecDepth 100000 in
theorem e137_5 (I : aI) (w : aW) (k : aQ) (x1 : Int32) : rn 137 (5, [some (.inr (.inr (some (30, 0)))), some (.inl x1)], [], MM I w k) = (rn 55 (a_en 55 [.inr (.inr (some (20, 0))), .inl x1] (MM I w k))).bind (fun o => a_bk 137 55 (10, [some (.inr (.inr (some (30, 0)))), some (.inl x1)], [], MM I w k) o (rn 137)) := (rn_tq [] 9 137 _).trans rfl
set_option maxRecDepth 100000 in
theorem e137_13 (I : aI) (w : aW) (k : aQ) (d0 : Option aV) (d1 : Option aV) (z0 : Nat) : rn 137 (13, [d0, d1], [.inr (.inr (some (15, z0)))], MM I w k) = some (.inl (some (.inl (I 15 z0 4))), MM I w k) := (rn_tq [] 7 137 _).trans rfl
-- X7_contactFrames
set_option maxRecDepth 100000 in
theorem e138_0 (I : aI) (w : aW) (k : aQ) (p0 : Int32) (p1 : Int32) (p2 : Int32) : rn 138 (0, [some (.inr (.inr (some (30, 0)))), some (.inl p0), some (.inl p1), some (.inl p2)], [], MM I w k) = (rn 164 (a_en 164 [.inr (.inr (some (30, 0))), .inl p0] (MM I w k))).bind (fun o => a_bk 138 164 (2, [some (.inr (.inr (some (30, 0)))), some (.inl p0), some (.inl p1), some (.inl p2)], [], MM I w k) o (rn 138)) := (rn_tq [] 8 138 _).trans rfl
set_option maxRecDepth 100000 in
theorem e138_5 (I : aI) (w : aW) (k : aQ) (x1 : Int32) (x2 : Int32) (x3 : Int32) : rn 138 (5, [some (.inr (.inr (some (30, 0)))), some (.inl x1), some (.inl x2), some (.inl x3)], [], MM I w k) = (rn 163 (a_en 163 [.inr (.inr (some (30, 0))), .inl x2] (MM I w k))).bind (fun o => a_bk 138 163 (7, [some (.inr (.inr (some (30, 0)))), some (.inl x1), some (.inl x2), some (.inl x3)], [], MM I w k) o (rn 138)) := (rn_tq [] 8 138 _).trans rfl
set_option maxRecDepth 100000 in
theorem e138_10 (I : aI) (w : aW) (k : aQ) (x1 : Int32) (x2 : Int32) (x3 : Int32) : rn 138 (10, [some (.inr (.inr (some (30, 0)))), some (.inl x1), some (.inl x2), some (.inl x3)], [], MM I w k) = (rn 55 (a_en 55 [.inr (.inr (some (20, 0))), .inl x1] (MM I w k))).bind (fun o => a_bk 138 55 (15, [some (.inr (.inr (some (30, 0)))), some (.inl x1), some (.inl x2), some (.inl x3)], [], MM I w k) o (rn 138)) := (rn_tq [] 9 138 _).trans rfl
set_option maxRecDepth 100000 in
theorem e138_18 (I : aI) (w : aW) (k : aQ) (d0 : Option aV) (d1 : Option aV) (x2 : Int32) (x3 : Int32) (z0 : Nat) : rn 138 (18, [d0, d1, some (.inl x2), some (.inl x3)], [.inr (.inr (some (15, z0)))], MM I w k) = (rn 3 (a_en 3 [.inr (.inr (some (15, z0))), .inl x3] (MM I w k))).bind (fun o => a_bk 138 3 (19, [d0, d1, some (.inl x2), some (.inl x3)], [], MM I w k) o (rn 138)) := (rn_tq [] 7 138 _).trans rfl
set_option maxRecDepth 100000 in
theorem e138_22 (I : aI) (w : aW) (k : aQ) (d0 : Option aV) (d1 : Option aV) (x2 : Int32) (d3 : Option aV) (z0 : Nat) : rn 138 (22, [d0, d1, some (.inl x2), d3], [.inr (.inr (some (4, z0)))], MM I w k) = cond (a_inb x2 40) (some (.inl (some (.inl (I 4 z0 (Int32.toNatClampNeg x2)))), MM I w k)) none := (rn_tq [] 8 138 _).trans rfl
-- X7_contactTotal
set_option maxRecDepth 100000 in
theorem e139_0 (I : aI) (w : aW) (k : aQ) (p0 : Int32) (p1 : Int32) : rn 139 (0, [some (.inr (.inr (some (30, 0)))), some (.inl p0), some (.inl p1)], [], MM I w k) = (rn 164 (a_en 164 [.inr (.inr (some (30, 0))), .inl p0] (MM I w k))).bind (fun o => a_bk 139 164 (2, [some (.inr (.inr (some (30, 0)))), some (.inl p0), some (.inl p1)], [], MM I w k) o (rn 139)) := (rn_tq [] 8 139 _).trans rfl
set_option maxRecDepth 100000 in
theorem e139_5 (I : aI) (w : aW) (k : aQ) (x1 : Int32) (x2 : Int32) : rn 139 (5, [some (.inr (.inr (some (30, 0)))), some (.inl x1), some (.inl x2)], [], MM I w k) = (rn 55 (a_en 55 [.inr (.inr (some (20, 0))), .inl x1] (MM I w k))).bind (fun o => a_bk 139 55 (10, [some (.inr (.inr (some (30, 0)))), some (.inl x1), some (.inl x2)], [], MM I w k) o (rn 139)) := (rn_tq [] 9 139 _).trans rfl
set_option maxRecDepth 100000 in
theorem e139_13 (I : aI) (w : aW) (k : aQ) (d0 : Option aV) (d1 : Option aV) (x2 : Int32) (z0 : Nat) : rn 139 (13, [d0, d1, some (.inl x2)], [.inr (.inr (some (15, z0)))], MM I w k) = (rn 4 (a_en 4 [.inr (.inr (some (15, z0))), .inl x2] (MM I w k))).bind (fun o => a_bk 139 4 (14, [d0, d1, some (.inl x2)], [], MM I w k) o (rn 139)) := (rn_tq [] 7 139 _).trans rfl
set_option maxRecDepth 100000 in
theorem e139_17 (I : aI) (w : aW) (k : aQ) (d0 : Option aV) (d1 : Option aV) (d2 : Option aV) (y0 : Int32) : rn 139 (17, [d0, d1, d2], [.inl y0], MM I w k) = some (.inl (some (.inl y0)), MM I w k) := (rn_tq [] 6 139 _).trans rfl
-- X7_lastContact
set_option maxRecDepth 100000 in
theorem e140_0 (I : aI) (w : aW) (k : aQ) (p0 : Int32) : rn 140 (0, [some (.inr (.inr (some (30, 0)))), some (.inl p0)], [], MM I w k) = (rn 162 (a_en 162 [.inr (.inr (some (30, 0))), .inl p0] (MM I w k))).bind (fun o => a_bk 140 162 (2, [some (.inr (.inr (some (30, 0)))), some (.inl p0)], [], MM I w k) o (rn 140)) := (rn_tq [] 8 140 _).trans rfl
set_option maxRecDepth 100000 in
theorem e140_5 (I : aI) (w : aW) (k : aQ) (x1 : Int32) : rn 140 (5, [some (.inr (.inr (some (30, 0)))), some (.inl x1)], [], MM I w k) = (rn 58 (a_en 58 [.inr (.inr (some (20, 0))), .inl x1] (MM I w k))).bind (fun o => a_bk 140 58 (10, [some (.inr (.inr (some (30, 0)))), some (.inl x1)], [], MM I w k) o (rn 140)) := (rn_tq [] 9 140 _).trans rfl
set_option maxRecDepth 100000 in
theorem e140_13 (I : aI) (w : aW) (k : aQ) (d0 : Option aV) (d1 : Option aV) (y0 : Int32) : rn 140 (13, [d0, d1], [.inl y0], MM I w k) = some (.inl (some (.inl y0)), MM I w k) := (rn_tq [] 6 140 _).trans rfl
-- X7_figure
set_option maxRecDepth 100000 in
theorem e141_0 (I : aI) (w : aW) (k : aQ) (p0 : Int32) : rn 141 (0, [some (.inr (.inr (some (30, 0)))), some (.inl p0)], [], MM I w k) = (rn 160 (a_en 160 [.inl p0, .inl 0, .inl 7] (MM I w k))).bind (fun o => a_bk 141 160 (4, [some (.inr (.inr (some (30, 0)))), some (.inl p0)], [], MM I w k) o (rn 141)) := (rn_tq [] 9 141 _).trans rfl
set_option maxRecDepth 100000 in
theorem e141_7 (I : aI) (w : aW) (k : aQ) (x1 : Int32) : rn 141 (7, [some (.inr (.inr (some (30, 0)))), some (.inl x1)], [], MM I w k) = cond (a_inb x1 8) (some (.inl (some (.inl (I 13 0 (Int32.toNatClampNeg x1)))), MM I w k)) none := (rn_tq [] 11 141 _).trans rfl
-- X7_stationFigure
set_option maxRecDepth 100000 in
theorem e142_0 (I : aI) (w : aW) (k : aQ) (p0 : Int32) (p1 : Int32) : rn 142 (0, [some (.inr (.inr (some (30, 0)))), some (.inl p0), some (.inl p1)], [], MM I w k) = (rn 162 (a_en 162 [.inr (.inr (some (30, 0))), .inl p0] (MM I w k))).bind (fun o => a_bk 142 162 (2, [some (.inr (.inr (some (30, 0)))), some (.inl p0), some (.inl p1)], [], MM I w k) o (rn 142)) := (rn_tq [] 8 142 _).trans rfl
set_option maxRecDepth 100000 in
theorem e142_5 (I : aI) (w : aW) (k : aQ) (x1 : Int32) (x2 : Int32) : rn 142 (5, [some (.inr (.inr (some (30, 0)))), some (.inl x1), some (.inl x2)], [], MM I w k) = (rn 160 (a_en 160 [.inl x2, .inl 0, .inl 4] (MM I w k))).bind (fun o => a_bk 142 160 (8, [some (.inr (.inr (some (30, 0)))), some (.inl x1), some (.inl x2)], [], MM I w k) o (rn 142)) := (rn_tq [] 9 142 _).trans rfl
set_option maxRecDepth 100000 in
theorem e142_11 (I : aI) (w : aW) (k : aQ) (x1 : Int32) (x2 : Int32) : rn 142 (11, [some (.inr (.inr (some (30, 0)))), some (.inl x1), some (.inl x2)], [], MM I w k) = cond (a_inb x1 4) (cond (a_inb x2 5) (some (.inl (some (.inl (I 19 (4 * 0 + (Int32.toNatClampNeg x1)) (Int32.toNatClampNeg x2)))), MM I w k)) none) none := (rn_tq [] 15 142 _).trans rfl
-- X7_handovers
set_option maxRecDepth 100000 in
theorem e143_0 (I : aI) (w : aW) (k : aQ) : rn 143 (0, [some (.inr (.inr (some (30, 0))))], [], MM I w k) = some (.inl (some (.inl (I 20 0 7))), MM I w k) := (rn_tq [] 9 143 _).trans rfl
-- X7_meanDelayNumerator
set_option maxRecDepth 100000 in
theorem e144_0 (I : aI) (w : aW) (k : aQ) : rn 144 (0, [some (.inr (.inr (some (30, 0))))], [], MM I w k) = (rn 50 (a_en 50 [.inr (.inr (some (20, 0)))] (MM I w k))).bind (fun o => a_bk 144 50 (4, [some (.inr (.inr (some (30, 0))))], [], MM I w k) o (rn 144)) := (rn_tq [] 8 144 _).trans rfl
set_option maxRecDepth 100000 in
theorem e144_7 (I : aI) (w : aW) (k : aQ) (y0 : Int32) : rn 144 (7, [some (.inr (.inr (some (30, 0))))], [.inl y0], MM I w k) = (rn 168 (a_en 168 [.inl y0, .inl (I 13 0 4)] (MM I w k))).bind (fun o => a_bk 144 168 (16, [some (.inr (.inr (some (30, 0))))], [], MM I w k) o (rn 144)) := (rn_tq [] 11 144 _).trans rfl
set_option maxRecDepth 100000 in
theorem e144_19 (I : aI) (w : aW) (k : aQ) (d0 : Option aV) (y0 : Int32) : rn 144 (19, [d0], [.inl y0], MM I w k) = some (.inl (some (.inl y0)), MM I w k) := (rn_tq [] 6 144 _).trans rfl
-- X7_meanDelayDenominator
set_option maxRecDepth 100000 in
theorem e145_0 (I : aI) (w : aW) (k : aQ) : rn 145 (0, [some (.inr (.inr (some (30, 0)))), none], [], MM I w k) = cond (decide (¬ (I 13 0 4) = 0)) ((rn 50 (a_en 50 [.inr (.inr (some (20, 0)))] (MM I w k))).bind (fun o => a_bk 145 50 (23, [some (.inr (.inr (some (30, 0)))), some (.inl (I 13 0 4))], [.inl (I 13 0 4)], MM I w k) o (rn 145))) (some (.inl (some (.inl 1)), MM I w k)) := (rn_tq [] 20 145 _).trans rfl
set_option maxRecDepth 100000 in
theorem e145_26 (I : aI) (w : aW) (k : aQ) (d0 : Option aV) (d1 : Option aV) (y0 : Int32) (y1 : Int32) : rn 145 (26, [d0, d1], [.inl y0, .inl y1], MM I w k) = (rn 168 (a_en 168 [.inl y1, .inl y0] (MM I w k))).bind (fun o => a_bk 145 168 (26, [d0, d1], [], MM I w k) o (rn 145)) := (rn_tq [] 6 145 _).trans rfl
set_option maxRecDepth 100000 in
theorem e145_29 (I : aI) (w : aW) (k : aQ) (d0 : Option aV) (d1 : Option aV) (y0 : Int32) : rn 145 (29, [d0, d1], [.inl y0], MM I w k) = some (.inl (some (.inl y0)), MM I w k) := (rn_tq [] 6 145 _).trans rfl
-- X7_efficiencyNumerator
set_option maxRecDepth 100000 in
theorem e146_0 (I : aI) (w : aW) (k : aQ) : rn 146 (0, [some (.inr (.inr (some (30, 0))))], [], MM I w k) = (rn 168 (a_en 168 [.inl (I 13 0 3), .inl (I 13 0 0)] (MM I w k))).bind (fun o => a_bk 146 168 (18, [some (.inr (.inr (some (30, 0))))], [], MM I w k) o (rn 146)) := (rn_tq [] 16 146 _).trans rfl
set_option maxRecDepth 100000 in
theorem e146_21 (I : aI) (w : aW) (k : aQ) (d0 : Option aV) (y0 : Int32) : rn 146 (21, [d0], [.inl y0], MM I w k) = some (.inl (some (.inl y0)), MM I w k) := (rn_tq [] 6 146 _).trans rfl
-- X7_efficiencyDenominator
set_option maxRecDepth 100000 in
theorem e147_0 (I : aI) (w : aW) (k : aQ) : rn 147 (0, [some (.inr (.inr (some (30, 0)))), none], [], MM I w k) = cond (decide (¬ (I 13 0 3) = 0)) ((rn 168 (a_en 168 [.inl (I 13 0 0), .inl (I 13 0 3)] (MM I w k))).bind (fun o => a_bk 147 168 (28, [some (.inr (.inr (some (30, 0)))), some (.inl (I 13 0 3))], [], MM I w k) o (rn 147))) (some (.inl (some (.inl 1)), MM I w k)) := (rn_tq [] 23 147 _).trans rfl
set_option maxRecDepth 100000 in
theorem e147_31 (I : aI) (w : aW) (k : aQ) (d0 : Option aV) (d1 : Option aV) (y0 : Int32) : rn 147 (31, [d0, d1], [.inl y0], MM I w k) = some (.inl (some (.inl y0)), MM I w k) := (rn_tq [] 6 147 _).trans rfl
-- X7_medianDelay
set_option maxRecDepth 100000 in
theorem e148_0 (I : aI) (w : aW) (k : aQ) : rn 148 (0, [some (.inr (.inr (some (30, 0)))), none], [], MM I w k) = (rn 52 (a_en 52 [.inr (.inr (some (20, 0))), .inr (.inr (some (23, 0)))] (MM I w k))).bind (fun o => a_bk 148 52 (8, [some (.inr (.inr (some (30, 0)))), none], [], MM I w k) o (rn 148)) := (rn_tq [] 10 148 _).trans rfl
set_option maxRecDepth 100000 in
theorem e148_11 (I : aI) (w : aW) (k : aQ) (d1 : Option aV) (y0 : Int32) : rn 148 (11, [some (.inr (.inr (some (30, 0)))), d1], [.inl y0], MM I w k) = cond (decide (y0 < 1)) (some (.inl (some (.inl (-1))), MM I w k)) (cond (decide (y0 ≤ 40)) (cond (a_inb ((y0 - 1) / 2) 40) (some (.inl (some (.inl (I 23 0 (Int32.toNatClampNeg ((y0 - 1) / 2))))), MM I w k)) none) (some (.inl (some (.inl (-1))), MM I w k))) := (rn_tq [] 29 148 _).trans rfl
-- X7_slowestRecord
set_option maxRecDepth 100000 in
theorem e149_0 (I : aI) (w : aW) (k : aQ) : rn 149 (0, [some (.inr (.inr (some (30, 0))))], [], MM I w k) = (rn 51 (a_en 51 [.inr (.inr (some (20, 0)))] (MM I w k))).bind (fun o => a_bk 149 51 (4, [some (.inr (.inr (some (30, 0))))], [], MM I w k) o (rn 149)) := (rn_tq [] 8 149 _).trans rfl
set_option maxRecDepth 100000 in
theorem e149_7 (I : aI) (w : aW) (k : aQ) (d0 : Option aV) (y0 : Int32) : rn 149 (7, [d0], [.inl y0], MM I w k) = some (.inl (some (.inl y0)), MM I w k) := (rn_tq [] 6 149 _).trans rfl
-- X7_deliveryForecast
set_option maxRecDepth 100000 in
theorem e150_0 (I : aI) (w : aW) (k : aQ) (p0 : Int32) : rn 150 (0, [some (.inr (.inr (some (30, 0)))), some (.inl p0), none, none, none], [], MM I w k) = (rn 163 (a_en 163 [.inr (.inr (some (30, 0))), .inl p0] (MM I w k))).bind (fun o => a_bk 150 163 (2, [some (.inr (.inr (some (30, 0)))), some (.inl p0), none, none, none], [], MM I w k) o (rn 150)) := (rn_tq [27] 8 150 _).trans rfl
set_option maxRecDepth 100000 in
theorem e150_5 (I : aI) (w : aW) (k : aQ) (x1 : Int32) (d2 : Option aV) (d3 : Option aV) (d4 : Option aV) : rn 150 (5, [some (.inr (.inr (some (30, 0)))), some (.inl x1), d2, d3, d4], [], MM I w k) = (rn 166 (a_en 166 [.inr (.inr (some (30, 0)))] (MM I w k))).bind (fun o => a_bk 150 166 (6, [some (.inr (.inr (some (30, 0)))), some (.inl x1), d2, d3, d4], [], MM I w k) o (rn 150)) := (rn_tq [27] 7 150 _).trans rfl
set_option maxRecDepth 100000 in
theorem e150_9 (I : aI) (w : aW) (k : aQ) (d0 : Option aV) (x1 : Int32) (d2 : Option aV) (d3 : Option aV) (d4 : Option aV) (z0 : Nat) : rn 150 (9, [d0, some (.inl x1), d2, d3, d4], [.inr (.inr (some (20, z0)))], MM I w k) = (rn 78 (a_en 78 [.inr (.inr (some (9, z0)))] (MM I w k))).bind (fun o => a_bk 150 78 (14, [d0, some (.inl x1), some (.inr (.inr (some (20, z0)))), d3, d4], [], MM I w k) o (rn 150)) := (rn_tq [27] 9 150 _).trans rfl
set_option maxRecDepth 100000 in
theorem e150_17 (I : aI) (w : aW) (k : aQ) (d0 : Option aV) (x1 : Int32) (q2 : Nat) (d3 : Option aV) (d4 : Option aV) : rn 150 (17, [d0, some (.inl x1), some (.inr (.inr (some (20, q2)))), d3, d4], [], MM I w k) = cond (a_inb x1 40) (rn 150 (27, [d0, some (.inl x1), some (.inr (.inr (some (20, q2)))), some (.inr (.inr (some (14, (40 * q2 + (Int32.toNatClampNeg x1)))))), some (.inl 0)], [], MM I w k)) none := (rn_tq [27] 12 150 _).trans rfl
set_option maxRecDepth 100000 in
theorem e150_27 (I : aI) (w : aW) (k : aQ) (d0 : Option aV) (d1 : Option aV) (q2 : Nat) (q3 : Nat) (x4 : Int32) : rn 150 (27, [d0, d1, some (.inr (.inr (some (20, q2)))), some (.inr (.inr (some (14, q3)))), some (.inl x4)], [], MM I w k) = cond (decide (3000 ≤ x4)) (some (.inl (some (.inl (I 14 q3 7))), MM I w k)) (cond (decide (¬ (I 14 q3 7) = (-1))) (some (.inl (some (.inl (I 14 q3 7))), MM I w k)) ((rn 61 (a_en 61 [.inr (.inr (some (20, q2)))] (MM I w k))).bind (fun o => a_bk 150 61 (44, [d0, d1, some (.inr (.inr (some (20, q2)))), some (.inr (.inr (some (14, q3)))), some (.inl x4)], [], MM I w k) o (rn 150)))) := (rn_tq [27] 20 150 _).trans rfl
set_option maxRecDepth 100000 in
theorem e150_47 (I : aI) (w : aW) (k : aQ) (d0 : Option aV) (d1 : Option aV) (q2 : Nat) (q3 : Nat) (x4 : Int32) : rn 150 (47, [d0, d1, some (.inr (.inr (some (20, q2)))), some (.inr (.inr (some (14, q3)))), some (.inl x4)], [], MM I w k) = rn 150 (27, [d0, d1, some (.inr (.inr (some (20, q2)))), some (.inr (.inr (some (14, q3)))), some (.inl (x4 + 1))], [], MM I w k) := (rn_tq [27] 7 150 _).trans rfl
-- X7_bestPolicy
set_option maxRecDepth 100000 in
theorem e151_0 (I : aI) (w : aW) (k : aQ) (p0 : Int32) : rn 151 (0, [some (.inr (.inr (some (30, 0)))), some (.inl p0)], [], MM I w k) = (rn 160 (a_en 160 [.inl p0, .inl 1, .inl 1440] (MM I w k))).bind (fun o => a_bk 151 160 (5, [some (.inr (.inr (some (30, 0)))), some (.inl p0)], [], MM I w k) o (rn 151)) := (rn_tq [] 9 151 _).trans rfl
set_option maxRecDepth 100000 in
theorem e151_8 (I : aI) (w : aW) (k : aQ) (x1 : Int32) : rn 151 (8, [some (.inr (.inr (some (30, 0)))), some (.inl x1)], [], MM I w k) = (rn 167 (a_en 167 [.inr (.inr (some (30, 0))), .inl 1, .inl x1] (MM I w k))).bind (fun o => a_bk 151 167 (11, [some (.inr (.inr (some (30, 0)))), some (.inl x1)], [], MM I w k) o (rn 151)) := (rn_tq [] 9 151 _).trans rfl
set_option maxRecDepth 100000 in
theorem e151_14 (I : aI) (w : aW) (k : aQ) (x1 : Int32) (y0 : Int32) : rn 151 (14, [some (.inr (.inr (some (30, 0)))), some (.inl x1)], [.inl y0], MM I w k) = (rn 167 (a_en 167 [.inr (.inr (some (30, 0))), .inl 0, .inl x1] (MM I w k))).bind (fun o => a_bk 151 167 (17, [some (.inr (.inr (some (30, 0)))), some (.inl x1)], [.inl y0], MM I w k) o (rn 151)) := (rn_tq [] 9 151 _).trans rfl
set_option maxRecDepth 100000 in
theorem e151_20 (I : aI) (w : aW) (k : aQ) (d0 : Option aV) (d1 : Option aV) (y0 : Int32) (y1 : Int32) : rn 151 (20, [d0, d1], [.inl y0, .inl y1], MM I w k) = cond (decide (y1 ≤ y0)) (some (.inl (some (.inl 0)), MM I w k)) (some (.inl (some (.inl 1)), MM I w k)) := (rn_tq [] 11 151 _).trans rfl
-- X7_appendText
set_option maxRecDepth 100000 in
theorem e152_0 (I : aI) (w : aW) (k : aQ) (p0 : Int32) : rn 152 (0, [some (.inr (.inr (some (30, 0)))), some (.inl p0)], [], MM I w k) = (rn 19 (a_en 19 [.inr (.inr (some (21, 0)))] (MM I w k))).bind (fun o => a_bk 152 19 (4, [some (.inr (.inr (some (30, 0)))), some (.inl p0)], [], MM I w k) o (rn 152)) := (rn_tq [] 8 152 _).trans rfl
set_option maxRecDepth 100000 in
theorem e152_7 (I : aI) (w : aW) (k : aQ) (x1 : Int32) (y0 : Int32) : rn 152 (7, [some (.inr (.inr (some (30, 0)))), some (.inl x1)], [.inl y0], MM I w k) = cond (decide (¬ y0 = 0)) ((rn 20 (a_en 20 [.inr (.inr (some (21, 0))), .inl x1] (MM I w k))).bind (fun o => a_bk 152 20 (26, [some (.inr (.inr (some (30, 0)))), some (.inl x1)], [], MM I w k) o (rn 152))) (some (.inr 1, MM I w (k.1, k.2.1, k.2.2.1 + 1, k.2.2.2 + 6))) := (rn_tq [] 11 152 _).trans rfl
set_option maxRecDepth 100000 in
theorem e152_29 (I : aI) (w : aW) (k : aQ) (d1 : Option aV) : rn 152 (29, [some (.inr (.inr (some (30, 0)))), d1], [], MM I w k) = some (.inl (some (.inl (I 21 0 1))), MM I w k) := (rn_tq [] 9 152 _).trans rfl
-- X7_truncateText
set_option maxRecDepth 100000 in
theorem e153_0 (I : aI) (w : aW) (k : aQ) (p0 : Int32) : rn 153 (0, [some (.inr (.inr (some (30, 0)))), some (.inl p0)], [], MM I w k) = (rn 160 (a_en 160 [.inl p0, .inl 0, .inl (I 21 0 1)] (MM I w k))).bind (fun o => a_bk 153 160 (9, [some (.inr (.inr (some (30, 0)))), some (.inl p0)], [], MM I w k) o (rn 153)) := (rn_tq [] 11 153 _).trans rfl
set_option maxRecDepth 100000 in
theorem e153_12 (I : aI) (w : aW) (k : aQ) (x1 : Int32) : rn 153 (12, [some (.inr (.inr (some (30, 0)))), some (.inl x1)], [], MM I w k) = some (.inl (some (.inl x1)), MM (a_setI I 21 0 1 x1) w k) := (rn_tq [] 11 153 _).trans rfl
-- X7_load
set_option maxRecDepth 100000 in
theorem e154_0 (I : aI) (w : aW) (k : aQ) : rn 154 (0, [some (.inr (.inr (some (30, 0)))), none, none], [], MM I w k) = (rn 165 (a_en 165 [.inr (.inr (some (30, 0)))] (MM I w k))).bind (fun o => a_bk 154 165 (1, [some (.inr (.inr (some (30, 0)))), none, none], [], MM I w k) o (rn 154)) := (rn_tq [] 7 154 _).trans rfl
set_option maxRecDepth 100000 in
theorem e154_4 (I : aI) (w : aW) (k : aQ) (d1 : Option aV) (d2 : Option aV) (z0 : Nat) : rn 154 (4, [some (.inr (.inr (some (30, 0)))), d1, d2], [.inr (.inr (some (20, z0)))], MM I w k) = (rn 40 (a_en 40 [.inr (.inr (some (20, z0)))] (MM I w k))).bind (fun o => a_bk 154 40 (6, [some (.inr (.inr (some (30, 0)))), some (.inr (.inr (some (20, z0)))), d2], [], MM I w k) o (rn 154)) := (rn_tq [] 8 154 _).trans rfl
set_option maxRecDepth 100000 in
theorem e154_9 (I : aI) (w : aW) (k : aQ) (q1 : Nat) (d2 : Option aV) : rn 154 (9, [some (.inr (.inr (some (30, 0)))), some (.inr (.inr (some (20, q1)))), d2], [], MM I w k) = (rn 21 (a_en 21 [.inr (.inr (some (21, 0))), .inr (.inr (some (20, q1)))] (MM I w k))).bind (fun o => a_bk 154 21 (14, [some (.inr (.inr (some (30, 0)))), some (.inr (.inr (some (20, q1)))), d2], [], MM I w k) o (rn 154)) := (rn_tq [] 9 154 _).trans rfl
set_option maxRecDepth 100000 in
theorem e154_17 (I : aI) (w : aW) (k : aQ) (q1 : Nat) (d2 : Option aV) (y0 : Int32) : rn 154 (17, [some (.inr (.inr (some (30, 0)))), some (.inr (.inr (some (20, q1)))), d2], [.inl y0], MM I w k) = cond (decide (y0 = (-1))) (some (.inl (some (.inl y0)), MM (a_setI I 21 0 1 0) w k)) ((rn 41 (a_en 41 [.inr (.inr (some (20, 0))), .inr (.inr (some (20, q1)))] (MM (a_setI I 21 0 1 0) w k))).bind (fun o => a_bk 154 41 (36, [some (.inr (.inr (some (30, 0)))), some (.inr (.inr (some (20, q1)))), some (.inl y0)], [], MM (a_setI I 21 0 1 0) w k) o (rn 154))) := (rn_tq [] 19 154 _).trans rfl
set_option maxRecDepth 100000 in
theorem e154_39 (I : aI) (w : aW) (k : aQ) (d0 : Option aV) (d1 : Option aV) (x2 : Int32) : rn 154 (39, [d0, d1, some (.inl x2)], [], MM I w k) = some (.inl (some (.inl x2)), MM I w k) := (rn_tq [] 7 154 _).trans rfl
-- X7_errorCode
set_option maxRecDepth 100000 in
theorem e155_0 (I : aI) (w : aW) (k : aQ) : rn 155 (0, [some (.inr (.inr (some (30, 0))))], [], MM I w k) = some (.inl (some (.inl (I 21 0 2))), MM I w k) := (rn_tq [] 9 155 _).trans rfl
-- X7_errorPosition
set_option maxRecDepth 100000 in
theorem e156_0 (I : aI) (w : aW) (k : aQ) : rn 156 (0, [some (.inr (.inr (some (30, 0))))], [], MM I w k) = some (.inl (some (.inl (I 21 0 3))), MM I w k) := (rn_tq [] 9 156 _).trans rfl
-- X7_outside
set_option maxRecDepth 100000 in
theorem e159_0 (I : aI) (w : aW) (k : aQ) (p0 : Int32) (p1 : Int32) (p2 : Int32) : rn 159 (0, [some (.inl p0), some (.inl p1), some (.inl p2)], [], MM I w k) = cond (decide (p0 < p1)) (some (.inl (some (.inl 1)), MM I w k)) (cond (decide (p0 ≤ p2)) (some (.inl (some (.inl 0)), MM I w k)) (some (.inl (some (.inl 1)), MM I w k))) := (rn_tq [] 19 159 _).trans rfl
-- X7_requireRange
set_option maxRecDepth 100000 in
theorem e160_0 (I : aI) (w : aW) (k : aQ) (p0 : Int32) (p1 : Int32) (p2 : Int32) : rn 160 (0, [some (.inl p0), some (.inl p1), some (.inl p2)], [], MM I w k) = (rn 159 (a_en 159 [.inl p0, .inl p1, .inl p2] (MM I w k))).bind (fun o => a_bk 160 159 (3, [some (.inl p0), some (.inl p1), some (.inl p2)], [], MM I w k) o (rn 160)) := (rn_tq [] 9 160 _).trans rfl
set_option maxRecDepth 100000 in
theorem e160_6 (I : aI) (w : aW) (k : aQ) (d0 : Option aV) (d1 : Option aV) (d2 : Option aV) (y0 : Int32) : rn 160 (6, [d0, d1, d2], [.inl y0], MM I w k) = cond (decide (y0 = 0)) (some (.inl none, MM I w k)) (some (.inr 0, MM I w (k.1, k.2.1, k.2.2.1 + 1, k.2.2.2 + 6))) := (rn_tq [] 8 160 _).trans rfl
-- X7_requireSpan
set_option maxRecDepth 100000 in
theorem e161_0 (I : aI) (w : aW) (k : aQ) (p0 : Int32) (p1 : Int32) : rn 161 (0, [some (.inl p0), some (.inl p1)], [], MM I w k) = (rn 160 (a_en 160 [.inl p0, .inl 0, .inl 99999] (MM I w k))).bind (fun o => a_bk 161 160 (4, [some (.inl p0), some (.inl p1)], [], MM I w k) o (rn 161)) := (rn_tq [] 9 161 _).trans rfl
set_option maxRecDepth 100000 in
theorem e161_7 (I : aI) (w : aW) (k : aQ) (d0 : Option aV) (x1 : Int32) : rn 161 (7, [d0, some (.inl x1)], [], MM I w k) = (rn 160 (a_en 160 [.inl x1, .inl 1, .inl 1440] (MM I w k))).bind (fun o => a_bk 161 160 (12, [d0, some (.inl x1)], [], MM I w k) o (rn 161)) := (rn_tq [] 9 161 _).trans rfl
set_option maxRecDepth 100000 in
theorem e161_15 (I : aI) (w : aW) (k : aQ) (d0 : Option aV) (d1 : Option aV) : rn 161 (15, [d0, d1], [], MM I w k) = some (.inl none, MM I w k) := (rn_tq [] 6 161 _).trans rfl
-- X7_requireStation
set_option maxRecDepth 100000 in
theorem e162_0 (I : aI) (w : aW) (k : aQ) (p0 : Int32) : rn 162 (0, [some (.inr (.inr (some (30, 0)))), some (.inl p0)], [], MM I w k) = (rn 159 (a_en 159 [.inl p0, .inl 0, .inl ((I 9 0 3) - 1)] (MM I w k))).bind (fun o => a_bk 162 159 (14, [some (.inr (.inr (some (30, 0)))), some (.inl p0)], [], MM I w k) o (rn 162)) := (rn_tq [] 14 162 _).trans rfl
set_option maxRecDepth 100000 in
theorem e162_17 (I : aI) (w : aW) (k : aQ) (d0 : Option aV) (d1 : Option aV) (y0 : Int32) : rn 162 (17, [d0, d1], [.inl y0], MM I w k) = cond (decide (y0 = 0)) (some (.inl none, MM I w k)) (some (.inr 2, MM I w (k.1, k.2.1, k.2.2.1 + 1, k.2.2.2 + 6))) := (rn_tq [] 8 162 _).trans rfl
-- X7_requireRecord
set_option maxRecDepth 100000 in
theorem e163_0 (I : aI) (w : aW) (k : aQ) (p0 : Int32) : rn 163 (0, [some (.inr (.inr (some (30, 0)))), some (.inl p0)], [], MM I w k) = (rn 159 (a_en 159 [.inl p0, .inl 0, .inl ((I 20 0 3) - 1)] (MM I w k))).bind (fun o => a_bk 163 159 (11, [some (.inr (.inr (some (30, 0)))), some (.inl p0)], [], MM I w k) o (rn 163)) := (rn_tq [] 13 163 _).trans rfl
set_option maxRecDepth 100000 in
theorem e163_14 (I : aI) (w : aW) (k : aQ) (d0 : Option aV) (d1 : Option aV) (y0 : Int32) : rn 163 (14, [d0, d1], [.inl y0], MM I w k) = cond (decide (y0 = 0)) (some (.inl none, MM I w k)) (some (.inr 2, MM I w (k.1, k.2.1, k.2.2.1 + 1, k.2.2.2 + 6))) := (rn_tq [] 8 163 _).trans rfl
-- X7_requireContact
set_option maxRecDepth 100000 in
theorem e164_0 (I : aI) (w : aW) (k : aQ) (p0 : Int32) : rn 164 (0, [some (.inr (.inr (some (30, 0)))), some (.inl p0)], [], MM I w k) = (rn 54 (a_en 54 [.inr (.inr (some (20, 0))), .inl p0] (MM I w k))).bind (fun o => a_bk 164 54 (5, [some (.inr (.inr (some (30, 0)))), some (.inl p0)], [], MM I w k) o (rn 164)) := (rn_tq [] 9 164 _).trans rfl
set_option maxRecDepth 100000 in
theorem e164_8 (I : aI) (w : aW) (k : aQ) (d0 : Option aV) (d1 : Option aV) (y0 : Int32) : rn 164 (8, [d0, d1], [.inl y0], MM I w k) = cond (decide (¬ y0 = 0)) (some (.inl none, MM I w k)) (some (.inr 2, MM I w (k.1, k.2.1, k.2.2.1 + 1, k.2.2.2 + 6))) := (rn_tq [] 8 164 _).trans rfl
-- X7_copyOfLive
set_option maxRecDepth 100000 in
theorem e166_0 (I : aI) (w : aW) (k : aQ) : rn 166 (0, [some (.inr (.inr (some (30, 0)))), none], [], MM I w k) = (rn 165 (a_en 165 [.inr (.inr (some (30, 0)))] (MM I w k))).bind (fun o => a_bk 166 165 (1, [some (.inr (.inr (some (30, 0)))), none], [], MM I w k) o (rn 166)) := (rn_tq [] 7 166 _).trans rfl
set_option maxRecDepth 100000 in
theorem e166_4 (I : aI) (w : aW) (k : aQ) (d1 : Option aV) (z0 : Nat) : rn 166 (4, [some (.inr (.inr (some (30, 0)))), d1], [.inr (.inr (some (20, z0)))], MM I w k) = (rn 41 (a_en 41 [.inr (.inr (some (20, z0))), .inr (.inr (some (20, 0)))] (MM I w k))).bind (fun o => a_bk 166 41 (10, [some (.inr (.inr (some (30, 0)))), some (.inr (.inr (some (20, z0))))], [], MM I w k) o (rn 166)) := (rn_tq [] 10 166 _).trans rfl
set_option maxRecDepth 100000 in
theorem e166_13 (I : aI) (w : aW) (k : aQ) (d0 : Option aV) (q1 : Nat) : rn 166 (13, [d0, some (.inr (.inr (some (20, q1))))], [], MM I w k) = some (.inl (some (.inr (.inr (some (20, q1))))), MM I w k) := (rn_tq [] 7 166 _).trans rfl
-- X7_archivedBy
set_option maxRecDepth 100000 in
theorem e167_0 (I : aI) (w : aW) (k : aQ) (p0 : Int32) (p1 : Int32) : rn 167 (0, [some (.inr (.inr (some (30, 0)))), some (.inl p0), some (.inl p1), none, none], [], MM I w k) = (rn 166 (a_en 166 [.inr (.inr (some (30, 0)))] (MM I w k))).bind (fun o => a_bk 167 166 (1, [some (.inr (.inr (some (30, 0)))), some (.inl p0), some (.inl p1), none, none], [], MM I w k) o (rn 167)) := (rn_tq [16] 7 167 _).trans rfl
set_option maxRecDepth 100000 in
theorem e167_4 (I : aI) (w : aW) (k : aQ) (d0 : Option aV) (x1 : Int32) (x2 : Int32) (d3 : Option aV) (d4 : Option aV) (z0 : Nat) : rn 167 (4, [d0, some (.inl x1), some (.inl x2), d3, d4], [.inr (.inr (some (20, z0)))], MM I w k) = rn 167 (16, [d0, some (.inl x1), some (.inl x2), some (.inr (.inr (some (20, z0)))), some (.inl 0)], [], MM (a_setI I 10 z0 5 x1) w k) := (rn_tq [16] 12 167 _).trans rfl
set_option maxRecDepth 100000 in
theorem e167_16 (I : aI) (w : aW) (k : aQ) (d0 : Option aV) (d1 : Option aV) (x2 : Int32) (q3 : Nat) (x4 : Int32) : rn 167 (16, [d0, d1, some (.inl x2), some (.inr (.inr (some (20, q3)))), some (.inl x4)], [], MM I w k) = cond (decide (x2 ≤ x4)) (some (.inl (some (.inl (I 13 q3 3))), MM I w k)) ((rn 61 (a_en 61 [.inr (.inr (some (20, q3)))] (MM I w k))).bind (fun o => a_bk 167 61 (23, [d0, d1, some (.inl x2), some (.inr (.inr (some (20, q3)))), some (.inl x4)], [], MM I w k) o (rn 167))) := (rn_tq [16] 15 167 _).trans rfl
set_option maxRecDepth 100000 in
theorem e167_26 (I : aI) (w : aW) (k : aQ) (d0 : Option aV) (d1 : Option aV) (x2 : Int32) (q3 : Nat) (x4 : Int32) : rn 167 (26, [d0, d1, some (.inl x2), some (.inr (.inr (some (20, q3)))), some (.inl x4)], [], MM I w k) = rn 167 (16, [d0, d1, some (.inl x2), some (.inr (.inr (some (20, q3)))), some (.inl (x4 + 1))], [], MM I w k) := (rn_tq [16] 7 167 _).trans rfl
-- X7_reduced
set_option maxRecDepth 100000 in
theorem e168_0 (I : aI) (w : aW) (k : aQ) (p0 : Int32) (p1 : Int32) : rn 168 (0, [some (.inl p0), some (.inl p1), none], [], MM I w k) = (rn 169 (a_en 169 [.inl p0, .inl p1] (MM I w k))).bind (fun o => a_bk 168 169 (2, [some (.inl p0), some (.inl p1), none], [], MM I w k) o (rn 168)) := (rn_tq [] 8 168 _).trans rfl
set_option maxRecDepth 100000 in
theorem e168_5 (I : aI) (w : aW) (k : aQ) (x0 : Int32) (d1 : Option aV) (d2 : Option aV) (y0 : Int32) : rn 168 (5, [some (.inl x0), d1, d2], [.inl y0], MM I w k) = cond (decide (1 ≤ y0)) (cond (decide (¬ y0 = 0)) (some (.inl (some (.inl (x0 / y0))), MM I w k)) none) (some (.inl (some (.inl 0)), MM I w k)) := (rn_tq [] 16 168 _).trans rfl
-- X7_commonDivisor
set_option maxRecDepth 100000 in
theorem e169_0 (I : aI) (w : aW) (k : aQ) (p0 : Int32) (p1 : Int32) : rn 169 (0, [some (.inl p0), some (.inl p1), none, none, none, none], [], MM I w k) = rn 169 (7, [some (.inl p0), some (.inl p1), some (.inl p0), some (.inl p1), some (.inl 0), none], [], MM I w k) := (rn_tq [7] 11 169 _).trans rfl
set_option maxRecDepth 100000 in
theorem e169_7 (I : aI) (w : aW) (k : aQ) (d0 : Option aV) (d1 : Option aV) (x2 : Int32) (x3 : Int32) (x4 : Int32) (d5 : Option aV) : rn 169 (7, [d0, d1, some (.inl x2), some (.inl x3), some (.inl x4), d5], [], MM I w k) = cond (decide (100 ≤ x4)) (some (.inl (some (.inl x2)), MM I w k)) (cond (decide (x3 ≤ 0)) (some (.inl (some (.inl x2)), MM I w k)) (cond (decide (¬ x3 = 0)) (rn 169 (7, [d0, d1, some (.inl x3), some (.inl (x2 - x2 / x3 * x3)), some (.inl (x4 + 1)), some (.inl (x2 - x2 / x3 * x3))], [], MM I w k)) none)) := (rn_tq [7] 24 169 _).trans rfl
