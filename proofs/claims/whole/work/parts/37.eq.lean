/-! ===== equations (by wip/whole/gen30.py) ===== -/
-- L_setOrbit
set_option maxRecDepth 100000 in
theorem e310_0 (I : aI) (w : aW) (k : aQ) (p1 : Int32) (p2 : Int32) (p3 : Int32) : rn 310 (0, [some (.inr (.inr (some (30, 0)))), some (.inl p1), some (.inl p2), some (.inl p3), some (.inr (.inr (some (32, 0)))), none], [], MM I w k) = (rn 97 (a_en 97 [.inr (.inr (some (30, 0))), .inl p1, .inl p2, .inl p3] (MM I w k))).bind (fun o => a_bk 310 97 (7, [some (.inr (.inr (some (30, 0)))), some (.inl p1), some (.inl p2), some (.inl p3), some (.inr (.inr (some (32, 0)))), none], [.inl 0, .inr (.inr (some (32, 0)))], MM I w k) o (rn 310)) := (rn_tq [] 12 310 _).trans rfl
set_option maxRecDepth 100000 in
theorem e310_10 (I : aI) (w : aW) (k : aQ) (d0 : Option aV) (d1 : Option aV) (d2 : Option aV) (d3 : Option aV) (d4 : Option aV) (d5 : Option aV) (y0 : Int32) (y1 : Int32) : rn 310 (10, [d0, d1, d2, d3, d4, d5], [.inl y0, .inl y1, .inr (.inr (some (32, 0)))], MM I w k) = cond (a_inb y1 1) (some (.inl (some (.inl 0)), MM I w (a_setL k.1 32 0 (Int32.toNatClampNeg y1) (Int32.toInt64 y0), k.2))) none := (rn_tq [] 10 310 _).trans rfl
-- L_addStation
set_option maxRecDepth 100000 in
theorem e311_0 (I : aI) (w : aW) (k : aQ) (p1 : Int32) (p2 : Int32) (p3 : Int32) (p4 : Int32) (p5 : Int32) (p6 : Int32) : rn 311 (0, [some (.inr (.inr (some (30, 0)))), some (.inl p1), some (.inl p2), some (.inl p3), some (.inl p4), some (.inl p5), some (.inl p6), some (.inr (.inr (some (32, 0)))), none], [], MM I w k) = (rn 98 (a_en 98 [.inr (.inr (some (30, 0))), .inl p1, .inl p2, .inl p3, .inl p4, .inl p5, .inl p6] (MM I w k))).bind (fun o => a_bk 311 98 (13, [some (.inr (.inr (some (30, 0)))), some (.inl p1), some (.inl p2), some (.inl p3), some (.inl p4), some (.inl p5), some (.inl p6), some (.inr (.inr (some (32, 0)))), none], [.inl 0, .inr (.inr (some (32, 0)))], MM I w k) o (rn 311)) := (rn_tq [] 15 311 _).trans rfl
set_option maxRecDepth 100000 in
theorem e311_16 (I : aI) (w : aW) (k : aQ) (d0 : Option aV) (d1 : Option aV) (d2 : Option aV) (d3 : Option aV) (d4 : Option aV) (d5 : Option aV) (d6 : Option aV) (d7 : Option aV) (d8 : Option aV) (y0 : Int32) (y1 : Int32) : rn 311 (16, [d0, d1, d2, d3, d4, d5, d6, d7, d8], [.inl y0, .inl y1, .inr (.inr (some (32, 0)))], MM I w k) = cond (a_inb y1 1) (some (.inl (some (.inl 0)), MM I w (a_setL k.1 32 0 (Int32.toNatClampNeg y1) (Int32.toInt64 y0), k.2))) none := (rn_tq [] 10 311 _).trans rfl
-- L_setLoss
set_option maxRecDepth 100000 in
theorem e312_0 (I : aI) (w : aW) (k : aQ) (p1 : Int32) (p2 : Int32) : rn 312 (0, [some (.inr (.inr (some (30, 0)))), some (.inl p1), some (.inl p2), some (.inr (.inr (some (32, 0)))), none], [], MM I w k) = (rn 100 (a_en 100 [.inr (.inr (some (30, 0))), .inl p1, .inl p2] (MM I w k))).bind (fun o => a_bk 312 100 (5, [some (.inr (.inr (some (30, 0)))), some (.inl p1), some (.inl p2), some (.inr (.inr (some (32, 0)))), none], [.inl 0, .inr (.inr (some (32, 0)))], MM I w k) o (rn 312)) := (rn_tq [] 11 312 _).trans rfl
set_option maxRecDepth 100000 in
theorem e312_8 (I : aI) (w : aW) (k : aQ) (d0 : Option aV) (d1 : Option aV) (d2 : Option aV) (d3 : Option aV) (d4 : Option aV) (y0 : Int32) (y1 : Int32) : rn 312 (8, [d0, d1, d2, d3, d4], [.inl y0, .inl y1, .inr (.inr (some (32, 0)))], MM I w k) = cond (a_inb y1 1) (some (.inl (some (.inl 0)), MM I w (a_setL k.1 32 0 (Int32.toNatClampNeg y1) (Int32.toInt64 y0), k.2))) none := (rn_tq [] 10 312 _).trans rfl
-- L_setGroundDelay
set_option maxRecDepth 100000 in
theorem e313_0 (I : aI) (w : aW) (k : aQ) (p1 : Int32) : rn 313 (0, [some (.inr (.inr (some (30, 0)))), some (.inl p1), some (.inr (.inr (some (32, 0)))), none], [], MM I w k) = (rn 101 (a_en 101 [.inr (.inr (some (30, 0))), .inl p1] (MM I w k))).bind (fun o => a_bk 313 101 (4, [some (.inr (.inr (some (30, 0)))), some (.inl p1), some (.inr (.inr (some (32, 0)))), none], [.inl 0, .inr (.inr (some (32, 0)))], MM I w k) o (rn 313)) := (rn_tq [] 10 313 _).trans rfl
set_option maxRecDepth 100000 in
theorem e313_7 (I : aI) (w : aW) (k : aQ) (d0 : Option aV) (d1 : Option aV) (d2 : Option aV) (d3 : Option aV) (y0 : Int32) (y1 : Int32) : rn 313 (7, [d0, d1, d2, d3], [.inl y0, .inl y1, .inr (.inr (some (32, 0)))], MM I w k) = cond (a_inb y1 1) (some (.inl (some (.inl 0)), MM I w (a_setL k.1 32 0 (Int32.toNatClampNeg y1) (Int32.toInt64 y0), k.2))) none := (rn_tq [] 10 313 _).trans rfl
-- L_setPatience
set_option maxRecDepth 100000 in
theorem e314_0 (I : aI) (w : aW) (k : aQ) (p1 : Int32) : rn 314 (0, [some (.inr (.inr (some (30, 0)))), some (.inl p1), some (.inr (.inr (some (32, 0)))), none], [], MM I w k) = (rn 102 (a_en 102 [.inr (.inr (some (30, 0))), .inl p1] (MM I w k))).bind (fun o => a_bk 314 102 (4, [some (.inr (.inr (some (30, 0)))), some (.inl p1), some (.inr (.inr (some (32, 0)))), none], [.inl 0, .inr (.inr (some (32, 0)))], MM I w k) o (rn 314)) := (rn_tq [] 10 314 _).trans rfl
set_option maxRecDepth 100000 in
theorem e314_7 (I : aI) (w : aW) (k : aQ) (d0 : Option aV) (d1 : Option aV) (d2 : Option aV) (d3 : Option aV) (y0 : Int32) (y1 : Int32) : rn 314 (7, [d0, d1, d2, d3], [.inl y0, .inl y1, .inr (.inr (some (32, 0)))], MM I w k) = cond (a_inb y1 1) (some (.inl (some (.inl 0)), MM I w (a_setL k.1 32 0 (Int32.toNatClampNeg y1) (Int32.toInt64 y0), k.2))) none := (rn_tq [] 10 314 _).trans rfl
-- L_setFresh
set_option maxRecDepth 100000 in
theorem e315_0 (I : aI) (w : aW) (k : aQ) (p1 : Int32) (p2 : Int32) : rn 315 (0, [some (.inr (.inr (some (30, 0)))), some (.inl p1), some (.inl p2), some (.inr (.inr (some (32, 0)))), none], [], MM I w k) = (rn 103 (a_en 103 [.inr (.inr (some (30, 0))), .inl p1, .inl p2] (MM I w k))).bind (fun o => a_bk 315 103 (5, [some (.inr (.inr (some (30, 0)))), some (.inl p1), some (.inl p2), some (.inr (.inr (some (32, 0)))), none], [.inl 0, .inr (.inr (some (32, 0)))], MM I w k) o (rn 315)) := (rn_tq [] 11 315 _).trans rfl
set_option maxRecDepth 100000 in
theorem e315_8 (I : aI) (w : aW) (k : aQ) (d0 : Option aV) (d1 : Option aV) (d2 : Option aV) (d3 : Option aV) (d4 : Option aV) (y0 : Int32) (y1 : Int32) : rn 315 (8, [d0, d1, d2, d3, d4], [.inl y0, .inl y1, .inr (.inr (some (32, 0)))], MM I w k) = cond (a_inb y1 1) (some (.inl (some (.inl 0)), MM I w (a_setL k.1 32 0 (Int32.toNatClampNeg y1) (Int32.toInt64 y0), k.2))) none := (rn_tq [] 10 315 _).trans rfl
-- L_setMemory
set_option maxRecDepth 100000 in
theorem e316_0 (I : aI) (w : aW) (k : aQ) (p1 : Int32) : rn 316 (0, [some (.inr (.inr (some (30, 0)))), some (.inl p1), some (.inr (.inr (some (32, 0)))), none], [], MM I w k) = (rn 104 (a_en 104 [.inr (.inr (some (30, 0))), .inl p1] (MM I w k))).bind (fun o => a_bk 316 104 (4, [some (.inr (.inr (some (30, 0)))), some (.inl p1), some (.inr (.inr (some (32, 0)))), none], [.inl 0, .inr (.inr (some (32, 0)))], MM I w k) o (rn 316)) := (rn_tq [] 10 316 _).trans rfl
set_option maxRecDepth 100000 in
theorem e316_7 (I : aI) (w : aW) (k : aQ) (d0 : Option aV) (d1 : Option aV) (d2 : Option aV) (d3 : Option aV) (y0 : Int32) (y1 : Int32) : rn 316 (7, [d0, d1, d2, d3], [.inl y0, .inl y1, .inr (.inr (some (32, 0)))], MM I w k) = cond (a_inb y1 1) (some (.inl (some (.inl 0)), MM I w (a_setL k.1 32 0 (Int32.toNatClampNeg y1) (Int32.toInt64 y0), k.2))) none := (rn_tq [] 10 316 _).trans rfl
-- L_setPolicy
set_option maxRecDepth 100000 in
theorem e317_0 (I : aI) (w : aW) (k : aQ) (p1 : Int32) : rn 317 (0, [some (.inr (.inr (some (30, 0)))), some (.inl p1), some (.inr (.inr (some (32, 0)))), none], [], MM I w k) = (rn 105 (a_en 105 [.inr (.inr (some (30, 0))), .inl p1] (MM I w k))).bind (fun o => a_bk 317 105 (4, [some (.inr (.inr (some (30, 0)))), some (.inl p1), some (.inr (.inr (some (32, 0)))), none], [.inl 0, .inr (.inr (some (32, 0)))], MM I w k) o (rn 317)) := (rn_tq [] 10 317 _).trans rfl
set_option maxRecDepth 100000 in
theorem e317_7 (I : aI) (w : aW) (k : aQ) (d0 : Option aV) (d1 : Option aV) (d2 : Option aV) (d3 : Option aV) (y0 : Int32) (y1 : Int32) : rn 317 (7, [d0, d1, d2, d3], [.inl y0, .inl y1, .inr (.inr (some (32, 0)))], MM I w k) = cond (a_inb y1 1) (some (.inl (some (.inl 0)), MM I w (a_setL k.1 32 0 (Int32.toNatClampNeg y1) (Int32.toInt64 y0), k.2))) none := (rn_tq [] 10 317 _).trans rfl
-- L_setSeed
set_option maxRecDepth 100000 in
theorem e318_0 (I : aI) (w : aW) (k : aQ) (p1 : Int32) : rn 318 (0, [some (.inr (.inr (some (30, 0)))), some (.inl p1), none], [], MM I w k) = (rn 106 (a_en 106 [.inr (.inr (some (30, 0))), .inl p1] (MM I w k))).bind (fun o => a_bk 318 106 (2, [some (.inr (.inr (some (30, 0)))), some (.inl p1), none], [], MM I w k) o (rn 318)) := (rn_tq [] 8 318 _).trans rfl
set_option maxRecDepth 100000 in
theorem e318_5 (I : aI) (w : aW) (k : aQ) (d0 : Option aV) (d1 : Option aV) (d2 : Option aV) : rn 318 (5, [d0, d1, d2], [], MM I w k) = some (.inl (some (.inl 0)), MM I w k) := (rn_tq [] 8 318 _).trans rfl
-- L_passBegin
set_option maxRecDepth 100000 in
theorem e319_0 (I : aI) (w : aW) (k : aQ) (p1 : Int32) (p2 : Int32) : rn 319 (0, [some (.inr (.inr (some (30, 0)))), some (.inl p1), some (.inl p2), some (.inr (.inr (some (32, 0)))), none], [], MM I w k) = (rn 107 (a_en 107 [.inr (.inr (some (30, 0))), .inl p1, .inl p2] (MM I w k))).bind (fun o => a_bk 319 107 (5, [some (.inr (.inr (some (30, 0)))), some (.inl p1), some (.inl p2), some (.inr (.inr (some (32, 0)))), none], [.inl 0, .inr (.inr (some (32, 0)))], MM I w k) o (rn 319)) := (rn_tq [] 11 319 _).trans rfl
set_option maxRecDepth 100000 in
theorem e319_8 (I : aI) (w : aW) (k : aQ) (d0 : Option aV) (d1 : Option aV) (d2 : Option aV) (d3 : Option aV) (d4 : Option aV) (y0 : Int32) (y1 : Int32) : rn 319 (8, [d0, d1, d2, d3, d4], [.inl y0, .inl y1, .inr (.inr (some (32, 0)))], MM I w k) = cond (a_inb y1 1) (some (.inl (some (.inl 0)), MM I w (a_setL k.1 32 0 (Int32.toNatClampNeg y1) (Int32.toInt64 y0), k.2))) none := (rn_tq [] 10 319 _).trans rfl
-- L_passEnd
set_option maxRecDepth 100000 in
theorem e320_0 (I : aI) (w : aW) (k : aQ) (p1 : Int32) (p2 : Int32) : rn 320 (0, [some (.inr (.inr (some (30, 0)))), some (.inl p1), some (.inl p2), some (.inr (.inr (some (32, 0)))), none], [], MM I w k) = (rn 108 (a_en 108 [.inr (.inr (some (30, 0))), .inl p1, .inl p2] (MM I w k))).bind (fun o => a_bk 320 108 (5, [some (.inr (.inr (some (30, 0)))), some (.inl p1), some (.inl p2), some (.inr (.inr (some (32, 0)))), none], [.inl 0, .inr (.inr (some (32, 0)))], MM I w k) o (rn 320)) := (rn_tq [] 11 320 _).trans rfl
set_option maxRecDepth 100000 in
theorem e320_8 (I : aI) (w : aW) (k : aQ) (d0 : Option aV) (d1 : Option aV) (d2 : Option aV) (d3 : Option aV) (d4 : Option aV) (y0 : Int32) (y1 : Int32) : rn 320 (8, [d0, d1, d2, d3, d4], [.inl y0, .inl y1, .inr (.inr (some (32, 0)))], MM I w k) = cond (a_inb y1 1) (some (.inl (some (.inl 0)), MM I w (a_setL k.1 32 0 (Int32.toNatClampNeg y1) (Int32.toInt64 y0), k.2))) none := (rn_tq [] 10 320 _).trans rfl
-- L_isVisible
set_option maxRecDepth 100000 in
theorem e321_0 (I : aI) (w : aW) (k : aQ) (p1 : Int32) (p2 : Int32) : rn 321 (0, [some (.inr (.inr (some (30, 0)))), some (.inl p1), some (.inl p2), some (.inr (.inr (some (32, 0)))), none], [], MM I w k) = (rn 109 (a_en 109 [.inr (.inr (some (30, 0))), .inl p1, .inl p2] (MM I w k))).bind (fun o => a_bk 321 109 (5, [some (.inr (.inr (some (30, 0)))), some (.inl p1), some (.inl p2), some (.inr (.inr (some (32, 0)))), none], [.inl 0, .inr (.inr (some (32, 0)))], MM I w k) o (rn 321)) := (rn_tq [] 11 321 _).trans rfl
set_option maxRecDepth 100000 in
theorem e321_8 (I : aI) (w : aW) (k : aQ) (d0 : Option aV) (d1 : Option aV) (d2 : Option aV) (d3 : Option aV) (d4 : Option aV) (y0 : Int32) (y1 : Int32) : rn 321 (8, [d0, d1, d2, d3, d4], [.inl y0, .inl y1, .inr (.inr (some (32, 0)))], MM I w k) = cond (decide (y0 = 0)) (cond (a_inb y1 1) (some (.inl (some (.inl 0)), MM I w (a_setL k.1 32 0 (Int32.toNatClampNeg y1) 0, k.2))) none) (cond (a_inb y1 1) (some (.inl (some (.inl 0)), MM I w (a_setL k.1 32 0 (Int32.toNatClampNeg y1) 1, k.2))) none) := (rn_tq [] 17 321 _).trans rfl
-- L_passTable
set_option maxRecDepth 100000 in
theorem e322_0 (I : aI) (w : aW) (k : aQ) (p1 : Int32) (p2 : Int32) (p3 : Int32) : rn 322 (0, [some (.inr (.inr (some (30, 0)))), some (.inl p1), some (.inl p2), some (.inl p3), some (.inr (.inr (some (32, 0)))), none], [], MM I w k) = (rn 110 (a_en 110 [.inr (.inr (some (30, 0))), .inl p1, .inl p2, .inl p3] (MM I w k))).bind (fun o => a_bk 322 110 (7, [some (.inr (.inr (some (30, 0)))), some (.inl p1), some (.inl p2), some (.inl p3), some (.inr (.inr (some (32, 0)))), none], [.inl 0, .inr (.inr (some (32, 0)))], MM I w k) o (rn 322)) := (rn_tq [] 12 322 _).trans rfl
set_option maxRecDepth 100000 in
theorem e322_10 (I : aI) (w : aW) (k : aQ) (d0 : Option aV) (d1 : Option aV) (d2 : Option aV) (d3 : Option aV) (d4 : Option aV) (d5 : Option aV) (y0 : Int32) (y1 : Int32) : rn 322 (10, [d0, d1, d2, d3, d4, d5], [.inl y0, .inl y1, .inr (.inr (some (32, 0)))], MM I w k) = cond (a_inb y1 1) (some (.inl (some (.inl 0)), MM I w (a_setL k.1 32 0 (Int32.toNatClampNeg y1) (Int32.toInt64 y0), k.2))) none := (rn_tq [] 10 322 _).trans rfl
-- L_nextContact
set_option maxRecDepth 100000 in
theorem e323_0 (I : aI) (w : aW) (k : aQ) (p1 : Int32) : rn 323 (0, [some (.inr (.inr (some (30, 0)))), some (.inl p1), some (.inr (.inr (some (32, 0)))), none], [], MM I w k) = (rn 111 (a_en 111 [.inr (.inr (some (30, 0))), .inl p1] (MM I w k))).bind (fun o => a_bk 323 111 (4, [some (.inr (.inr (some (30, 0)))), some (.inl p1), some (.inr (.inr (some (32, 0)))), none], [.inl 0, .inr (.inr (some (32, 0)))], MM I w k) o (rn 323)) := (rn_tq [] 10 323 _).trans rfl
set_option maxRecDepth 100000 in
theorem e323_7 (I : aI) (w : aW) (k : aQ) (d0 : Option aV) (d1 : Option aV) (d2 : Option aV) (d3 : Option aV) (y0 : Int32) (y1 : Int32) : rn 323 (7, [d0, d1, d2, d3], [.inl y0, .inl y1, .inr (.inr (some (32, 0)))], MM I w k) = cond (a_inb y1 1) (some (.inl (some (.inl 0)), MM I w (a_setL k.1 32 0 (Int32.toNatClampNeg y1) (Int32.toInt64 y0), k.2))) none := (rn_tq [] 10 323 _).trans rfl
-- L_coverage
set_option maxRecDepth 100000 in
theorem e324_0 (I : aI) (w : aW) (k : aQ) (p1 : Int32) (p2 : Int32) (p3 : Int32) : rn 324 (0, [some (.inr (.inr (some (30, 0)))), some (.inl p1), some (.inl p2), some (.inl p3), some (.inr (.inr (some (32, 0)))), none], [], MM I w k) = (rn 112 (a_en 112 [.inr (.inr (some (30, 0))), .inl p1, .inl p2, .inl p3] (MM I w k))).bind (fun o => a_bk 324 112 (7, [some (.inr (.inr (some (30, 0)))), some (.inl p1), some (.inl p2), some (.inl p3), some (.inr (.inr (some (32, 0)))), none], [.inl 0, .inr (.inr (some (32, 0)))], MM I w k) o (rn 324)) := (rn_tq [] 12 324 _).trans rfl
set_option maxRecDepth 100000 in
theorem e324_10 (I : aI) (w : aW) (k : aQ) (d0 : Option aV) (d1 : Option aV) (d2 : Option aV) (d3 : Option aV) (d4 : Option aV) (d5 : Option aV) (y0 : Int32) (y1 : Int32) : rn 324 (10, [d0, d1, d2, d3, d4, d5], [.inl y0, .inl y1, .inr (.inr (some (32, 0)))], MM I w k) = cond (a_inb y1 1) (some (.inl (some (.inl 0)), MM I w (a_setL k.1 32 0 (Int32.toNatClampNeg y1) (Int32.toInt64 y0), k.2))) none := (rn_tq [] 10 324 _).trans rfl
-- L_longestGap
set_option maxRecDepth 100000 in
theorem e325_0 (I : aI) (w : aW) (k : aQ) (p1 : Int32) (p2 : Int32) : rn 325 (0, [some (.inr (.inr (some (30, 0)))), some (.inl p1), some (.inl p2), some (.inr (.inr (some (32, 0)))), none], [], MM I w k) = (rn 113 (a_en 113 [.inr (.inr (some (30, 0))), .inl p1, .inl p2] (MM I w k))).bind (fun o => a_bk 325 113 (5, [some (.inr (.inr (some (30, 0)))), some (.inl p1), some (.inl p2), some (.inr (.inr (some (32, 0)))), none], [.inl 0, .inr (.inr (some (32, 0)))], MM I w k) o (rn 325)) := (rn_tq [] 11 325 _).trans rfl
set_option maxRecDepth 100000 in
theorem e325_8 (I : aI) (w : aW) (k : aQ) (d0 : Option aV) (d1 : Option aV) (d2 : Option aV) (d3 : Option aV) (d4 : Option aV) (y0 : Int32) (y1 : Int32) : rn 325 (8, [d0, d1, d2, d3, d4], [.inl y0, .inl y1, .inr (.inr (some (32, 0)))], MM I w k) = cond (a_inb y1 1) (some (.inl (some (.inl 0)), MM I w (a_setL k.1 32 0 (Int32.toNatClampNeg y1) (Int32.toInt64 y0), k.2))) none := (rn_tq [] 10 325 _).trans rfl
-- L_bestStation
set_option maxRecDepth 100000 in
theorem e326_0 (I : aI) (w : aW) (k : aQ) (p1 : Int32) (p2 : Int32) : rn 326 (0, [some (.inr (.inr (some (30, 0)))), some (.inl p1), some (.inl p2), some (.inr (.inr (some (32, 0)))), none], [], MM I w k) = (rn 114 (a_en 114 [.inr (.inr (some (30, 0))), .inl p1, .inl p2] (MM I w k))).bind (fun o => a_bk 326 114 (5, [some (.inr (.inr (some (30, 0)))), some (.inl p1), some (.inl p2), some (.inr (.inr (some (32, 0)))), none], [.inl 0, .inr (.inr (some (32, 0)))], MM I w k) o (rn 326)) := (rn_tq [] 11 326 _).trans rfl
set_option maxRecDepth 100000 in
theorem e326_8 (I : aI) (w : aW) (k : aQ) (d0 : Option aV) (d1 : Option aV) (d2 : Option aV) (d3 : Option aV) (d4 : Option aV) (y0 : Int32) (y1 : Int32) : rn 326 (8, [d0, d1, d2, d3, d4], [.inl y0, .inl y1, .inr (.inr (some (32, 0)))], MM I w k) = cond (a_inb y1 1) (some (.inl (some (.inl 0)), MM I w (a_setL k.1 32 0 (Int32.toNatClampNeg y1) (Int32.toInt64 y0), k.2))) none := (rn_tq [] 10 326 _).trans rfl
-- L_nextPass
set_option maxRecDepth 100000 in
theorem e327_0 (I : aI) (w : aW) (k : aQ) (p1 : Int32) (p2 : Int32) : rn 327 (0, [some (.inr (.inr (some (30, 0)))), some (.inl p1), some (.inl p2), some (.inr (.inr (some (32, 0)))), none], [], MM I w k) = (rn 115 (a_en 115 [.inr (.inr (some (30, 0))), .inl p1, .inl p2] (MM I w k))).bind (fun o => a_bk 327 115 (5, [some (.inr (.inr (some (30, 0)))), some (.inl p1), some (.inl p2), some (.inr (.inr (some (32, 0)))), none], [.inl 0, .inr (.inr (some (32, 0)))], MM I w k) o (rn 327)) := (rn_tq [] 11 327 _).trans rfl
set_option maxRecDepth 100000 in
theorem e327_8 (I : aI) (w : aW) (k : aQ) (d0 : Option aV) (d1 : Option aV) (d2 : Option aV) (d3 : Option aV) (d4 : Option aV) (y0 : Int32) (y1 : Int32) : rn 327 (8, [d0, d1, d2, d3, d4], [.inl y0, .inl y1, .inr (.inr (some (32, 0)))], MM I w k) = cond (a_inb y1 1) (some (.inl (some (.inl 0)), MM I w (a_setL k.1 32 0 (Int32.toNatClampNeg y1) (Int32.toInt64 y0), k.2))) none := (rn_tq [] 10 327 _).trans rfl
-- L_passFrames
set_option maxRecDepth 100000 in
theorem e328_0 (I : aI) (w : aW) (k : aQ) (p1 : Int32) (p2 : Int32) : rn 328 (0, [some (.inr (.inr (some (30, 0)))), some (.inl p1), some (.inl p2), some (.inr (.inr (some (32, 0)))), none], [], MM I w k) = (rn 116 (a_en 116 [.inr (.inr (some (30, 0))), .inl p1, .inl p2] (MM I w k))).bind (fun o => a_bk 328 116 (5, [some (.inr (.inr (some (30, 0)))), some (.inl p1), some (.inl p2), some (.inr (.inr (some (32, 0)))), none], [.inl 0, .inr (.inr (some (32, 0)))], MM I w k) o (rn 328)) := (rn_tq [] 11 328 _).trans rfl
set_option maxRecDepth 100000 in
theorem e328_8 (I : aI) (w : aW) (k : aQ) (d0 : Option aV) (d1 : Option aV) (d2 : Option aV) (d3 : Option aV) (d4 : Option aV) (y0 : Int32) (y1 : Int32) : rn 328 (8, [d0, d1, d2, d3, d4], [.inl y0, .inl y1, .inr (.inr (some (32, 0)))], MM I w k) = cond (a_inb y1 1) (some (.inl (some (.inl 0)), MM I w (a_setL k.1 32 0 (Int32.toNatClampNeg y1) (Int32.toInt64 y0), k.2))) none := (rn_tq [] 10 328 _).trans rfl
-- L_addRecord
set_option maxRecDepth 100000 in
theorem e329_0 (I : aI) (w : aW) (k : aQ) (p1 : Int32) (p2 : Int32) : rn 329 (0, [some (.inr (.inr (some (30, 0)))), some (.inl p1), some (.inl p2), some (.inr (.inr (some (32, 0)))), none], [], MM I w k) = (rn 117 (a_en 117 [.inr (.inr (some (30, 0))), .inl p1, .inl p2] (MM I w k))).bind (fun o => a_bk 329 117 (5, [some (.inr (.inr (some (30, 0)))), some (.inl p1), some (.inl p2), some (.inr (.inr (some (32, 0)))), none], [.inl 0, .inr (.inr (some (32, 0)))], MM I w k) o (rn 329)) := (rn_tq [] 11 329 _).trans rfl
set_option maxRecDepth 100000 in
theorem e329_8 (I : aI) (w : aW) (k : aQ) (d0 : Option aV) (d1 : Option aV) (d2 : Option aV) (d3 : Option aV) (d4 : Option aV) (y0 : Int32) (y1 : Int32) : rn 329 (8, [d0, d1, d2, d3, d4], [.inl y0, .inl y1, .inr (.inr (some (32, 0)))], MM I w k) = cond (a_inb y1 1) (some (.inl (some (.inl 0)), MM I w (a_setL k.1 32 0 (Int32.toNatClampNeg y1) (Int32.toInt64 y0), k.2))) none := (rn_tq [] 10 329 _).trans rfl
-- L_setPriority
set_option maxRecDepth 100000 in
theorem e330_0 (I : aI) (w : aW) (k : aQ) (p1 : Int32) (p2 : Int32) : rn 330 (0, [some (.inr (.inr (some (30, 0)))), some (.inl p1), some (.inl p2), some (.inr (.inr (some (32, 0)))), none], [], MM I w k) = (rn 119 (a_en 119 [.inr (.inr (some (30, 0))), .inl p1, .inl p2] (MM I w k))).bind (fun o => a_bk 330 119 (5, [some (.inr (.inr (some (30, 0)))), some (.inl p1), some (.inl p2), some (.inr (.inr (some (32, 0)))), none], [.inl 0, .inr (.inr (some (32, 0)))], MM I w k) o (rn 330)) := (rn_tq [] 11 330 _).trans rfl
set_option maxRecDepth 100000 in
theorem e330_8 (I : aI) (w : aW) (k : aQ) (d0 : Option aV) (d1 : Option aV) (d2 : Option aV) (d3 : Option aV) (d4 : Option aV) (y0 : Int32) (y1 : Int32) : rn 330 (8, [d0, d1, d2, d3, d4], [.inl y0, .inl y1, .inr (.inr (some (32, 0)))], MM I w k) = cond (a_inb y1 1) (some (.inl (some (.inl 0)), MM I w (a_setL k.1 32 0 (Int32.toNatClampNeg y1) (Int32.toInt64 y0), k.2))) none := (rn_tq [] 10 330 _).trans rfl
-- L_urgency
set_option maxRecDepth 100000 in
theorem e331_0 (I : aI) (w : aW) (k : aQ) (p1 : Int32) : rn 331 (0, [some (.inr (.inr (some (30, 0)))), some (.inl p1), some (.inr (.inr (some (32, 0)))), none], [], MM I w k) = (rn 120 (a_en 120 [.inr (.inr (some (30, 0))), .inl p1] (MM I w k))).bind (fun o => a_bk 331 120 (4, [some (.inr (.inr (some (30, 0)))), some (.inl p1), some (.inr (.inr (some (32, 0)))), none], [.inl 0, .inr (.inr (some (32, 0)))], MM I w k) o (rn 331)) := (rn_tq [] 10 331 _).trans rfl
set_option maxRecDepth 100000 in
theorem e331_7 (I : aI) (w : aW) (k : aQ) (d0 : Option aV) (d1 : Option aV) (d2 : Option aV) (d3 : Option aV) (y0 : Int32) (y1 : Int32) : rn 331 (7, [d0, d1, d2, d3], [.inl y0, .inl y1, .inr (.inr (some (32, 0)))], MM I w k) = cond (a_inb y1 1) (some (.inl (some (.inl 0)), MM I w (a_setL k.1 32 0 (Int32.toNatClampNeg y1) (Int32.toInt64 y0), k.2))) none := (rn_tq [] 10 331 _).trans rfl
-- L_resumePoint
set_option maxRecDepth 100000 in
theorem e332_0 (I : aI) (w : aW) (k : aQ) (p1 : Int32) : rn 332 (0, [some (.inr (.inr (some (30, 0)))), some (.inl p1), some (.inr (.inr (some (32, 0)))), none], [], MM I w k) = (rn 122 (a_en 122 [.inr (.inr (some (30, 0))), .inl p1] (MM I w k))).bind (fun o => a_bk 332 122 (4, [some (.inr (.inr (some (30, 0)))), some (.inl p1), some (.inr (.inr (some (32, 0)))), none], [.inl 0, .inr (.inr (some (32, 0)))], MM I w k) o (rn 332)) := (rn_tq [] 10 332 _).trans rfl
set_option maxRecDepth 100000 in
theorem e332_7 (I : aI) (w : aW) (k : aQ) (d0 : Option aV) (d1 : Option aV) (d2 : Option aV) (d3 : Option aV) (y0 : Int32) (y1 : Int32) : rn 332 (7, [d0, d1, d2, d3], [.inl y0, .inl y1, .inr (.inr (some (32, 0)))], MM I w k) = cond (a_inb y1 1) (some (.inl (some (.inl 0)), MM I w (a_setL k.1 32 0 (Int32.toNatClampNeg y1) (Int32.toInt64 y0), k.2))) none := (rn_tq [] 10 332 _).trans rfl
-- L_frames
set_option maxRecDepth 100000 in
theorem e333_0 (I : aI) (w : aW) (k : aQ) (p1 : Int32) (p2 : Int32) : rn 333 (0, [some (.inr (.inr (some (30, 0)))), some (.inl p1), some (.inl p2), some (.inr (.inr (some (32, 0)))), none], [], MM I w k) = (rn 123 (a_en 123 [.inr (.inr (some (30, 0))), .inl p1, .inl p2] (MM I w k))).bind (fun o => a_bk 333 123 (5, [some (.inr (.inr (some (30, 0)))), some (.inl p1), some (.inl p2), some (.inr (.inr (some (32, 0)))), none], [.inl 0, .inr (.inr (some (32, 0)))], MM I w k) o (rn 333)) := (rn_tq [] 11 333 _).trans rfl
set_option maxRecDepth 100000 in
theorem e333_8 (I : aI) (w : aW) (k : aQ) (d0 : Option aV) (d1 : Option aV) (d2 : Option aV) (d3 : Option aV) (d4 : Option aV) (y0 : Int32) (y1 : Int32) : rn 333 (8, [d0, d1, d2, d3, d4], [.inl y0, .inl y1, .inr (.inr (some (32, 0)))], MM I w k) = cond (a_inb y1 1) (some (.inl (some (.inl 0)), MM I w (a_setL k.1 32 0 (Int32.toNatClampNeg y1) (Int32.toInt64 y0), k.2))) none := (rn_tq [] 10 333 _).trans rfl
-- L_sentIn
set_option maxRecDepth 100000 in
theorem e334_0 (I : aI) (w : aW) (k : aQ) (p1 : Int32) (p2 : Int32) : rn 334 (0, [some (.inr (.inr (some (30, 0)))), some (.inl p1), some (.inl p2), some (.inr (.inr (some (32, 0)))), none], [], MM I w k) = (rn 124 (a_en 124 [.inr (.inr (some (30, 0))), .inl p1, .inl p2] (MM I w k))).bind (fun o => a_bk 334 124 (5, [some (.inr (.inr (some (30, 0)))), some (.inl p1), some (.inl p2), some (.inr (.inr (some (32, 0)))), none], [.inl 0, .inr (.inr (some (32, 0)))], MM I w k) o (rn 334)) := (rn_tq [] 11 334 _).trans rfl
set_option maxRecDepth 100000 in
theorem e334_8 (I : aI) (w : aW) (k : aQ) (d0 : Option aV) (d1 : Option aV) (d2 : Option aV) (d3 : Option aV) (d4 : Option aV) (y0 : Int32) (y1 : Int32) : rn 334 (8, [d0, d1, d2, d3, d4], [.inl y0, .inl y1, .inr (.inr (some (32, 0)))], MM I w k) = cond (a_inb y1 1) (some (.inl (some (.inl 0)), MM I w (a_setL k.1 32 0 (Int32.toNatClampNeg y1) (Int32.toInt64 y0), k.2))) none := (rn_tq [] 10 334 _).trans rfl
-- L_deliveredAt
set_option maxRecDepth 100000 in
theorem e335_0 (I : aI) (w : aW) (k : aQ) (p1 : Int32) : rn 335 (0, [some (.inr (.inr (some (30, 0)))), some (.inl p1), some (.inr (.inr (some (32, 0)))), none], [], MM I w k) = (rn 125 (a_en 125 [.inr (.inr (some (30, 0))), .inl p1] (MM I w k))).bind (fun o => a_bk 335 125 (4, [some (.inr (.inr (some (30, 0)))), some (.inl p1), some (.inr (.inr (some (32, 0)))), none], [.inl 0, .inr (.inr (some (32, 0)))], MM I w k) o (rn 335)) := (rn_tq [] 10 335 _).trans rfl
set_option maxRecDepth 100000 in
theorem e335_7 (I : aI) (w : aW) (k : aQ) (d0 : Option aV) (d1 : Option aV) (d2 : Option aV) (d3 : Option aV) (y0 : Int32) (y1 : Int32) : rn 335 (7, [d0, d1, d2, d3], [.inl y0, .inl y1, .inr (.inr (some (32, 0)))], MM I w k) = cond (a_inb y1 1) (some (.inl (some (.inl 0)), MM I w (a_setL k.1 32 0 (Int32.toNatClampNeg y1) (Int32.toInt64 y0), k.2))) none := (rn_tq [] 10 335 _).trans rfl
-- L_releasedAt
set_option maxRecDepth 100000 in
theorem e336_0 (I : aI) (w : aW) (k : aQ) (p1 : Int32) : rn 336 (0, [some (.inr (.inr (some (30, 0)))), some (.inl p1), some (.inr (.inr (some (32, 0)))), none], [], MM I w k) = (rn 126 (a_en 126 [.inr (.inr (some (30, 0))), .inl p1] (MM I w k))).bind (fun o => a_bk 336 126 (4, [some (.inr (.inr (some (30, 0)))), some (.inl p1), some (.inr (.inr (some (32, 0)))), none], [.inl 0, .inr (.inr (some (32, 0)))], MM I w k) o (rn 336)) := (rn_tq [] 10 336 _).trans rfl
set_option maxRecDepth 100000 in
theorem e336_7 (I : aI) (w : aW) (k : aQ) (d0 : Option aV) (d1 : Option aV) (d2 : Option aV) (d3 : Option aV) (y0 : Int32) (y1 : Int32) : rn 336 (7, [d0, d1, d2, d3], [.inl y0, .inl y1, .inr (.inr (some (32, 0)))], MM I w k) = cond (a_inb y1 1) (some (.inl (some (.inl 0)), MM I w (a_setL k.1 32 0 (Int32.toNatClampNeg y1) (Int32.toInt64 y0), k.2))) none := (rn_tq [] 10 336 _).trans rfl
-- L_backlog
set_option maxRecDepth 100000 in
theorem e337_0 (I : aI) (w : aW) (k : aQ) (p1 : Int32) : rn 337 (0, [some (.inr (.inr (some (30, 0)))), some (.inl p1), some (.inr (.inr (some (32, 0)))), none], [], MM I w k) = (rn 127 (a_en 127 [.inr (.inr (some (30, 0))), .inl p1] (MM I w k))).bind (fun o => a_bk 337 127 (4, [some (.inr (.inr (some (30, 0)))), some (.inl p1), some (.inr (.inr (some (32, 0)))), none], [.inl 0, .inr (.inr (some (32, 0)))], MM I w k) o (rn 337)) := (rn_tq [] 10 337 _).trans rfl
set_option maxRecDepth 100000 in
theorem e337_7 (I : aI) (w : aW) (k : aQ) (d0 : Option aV) (d1 : Option aV) (d2 : Option aV) (d3 : Option aV) (y0 : Int32) (y1 : Int32) : rn 337 (7, [d0, d1, d2, d3], [.inl y0, .inl y1, .inr (.inr (some (32, 0)))], MM I w k) = cond (a_inb y1 1) (some (.inl (some (.inl 0)), MM I w (a_setL k.1 32 0 (Int32.toNatClampNeg y1) (Int32.toInt64 y0), k.2))) none := (rn_tq [] 10 337 _).trans rfl
-- L_advance
set_option maxRecDepth 100000 in
theorem e338_0 (I : aI) (w : aW) (k : aQ) (p1 : Int32) : rn 338 (0, [some (.inr (.inr (some (30, 0)))), some (.inl p1), some (.inr (.inr (some (32, 0)))), none], [], MM I w k) = (rn 131 (a_en 131 [.inr (.inr (some (30, 0))), .inl p1] (MM I w k))).bind (fun o => a_bk 338 131 (4, [some (.inr (.inr (some (30, 0)))), some (.inl p1), some (.inr (.inr (some (32, 0)))), none], [.inl 0, .inr (.inr (some (32, 0)))], MM I w k) o (rn 338)) := (rn_tq [] 10 338 _).trans rfl
set_option maxRecDepth 100000 in
theorem e338_7 (I : aI) (w : aW) (k : aQ) (d0 : Option aV) (d1 : Option aV) (d2 : Option aV) (d3 : Option aV) (y0 : Int32) (y1 : Int32) : rn 338 (7, [d0, d1, d2, d3], [.inl y0, .inl y1, .inr (.inr (some (32, 0)))], MM I w k) = cond (a_inb y1 1) (some (.inl (some (.inl 0)), MM I w (a_setL k.1 32 0 (Int32.toNatClampNeg y1) (Int32.toInt64 y0), k.2))) none := (rn_tq [] 10 338 _).trans rfl
-- L_contactStation
set_option maxRecDepth 100000 in
theorem e339_0 (I : aI) (w : aW) (k : aQ) (p1 : Int32) : rn 339 (0, [some (.inr (.inr (some (30, 0)))), some (.inl p1), some (.inr (.inr (some (32, 0)))), none], [], MM I w k) = (rn 134 (a_en 134 [.inr (.inr (some (30, 0))), .inl p1] (MM I w k))).bind (fun o => a_bk 339 134 (4, [some (.inr (.inr (some (30, 0)))), some (.inl p1), some (.inr (.inr (some (32, 0)))), none], [.inl 0, .inr (.inr (some (32, 0)))], MM I w k) o (rn 339)) := (rn_tq [] 10 339 _).trans rfl
set_option maxRecDepth 100000 in
theorem e339_7 (I : aI) (w : aW) (k : aQ) (d0 : Option aV) (d1 : Option aV) (d2 : Option aV) (d3 : Option aV) (y0 : Int32) (y1 : Int32) : rn 339 (7, [d0, d1, d2, d3], [.inl y0, .inl y1, .inr (.inr (some (32, 0)))], MM I w k) = cond (a_inb y1 1) (some (.inl (some (.inl 0)), MM I w (a_setL k.1 32 0 (Int32.toNatClampNeg y1) (Int32.toInt64 y0), k.2))) none := (rn_tq [] 10 339 _).trans rfl
-- L_contactBegin
set_option maxRecDepth 100000 in
theorem e340_0 (I : aI) (w : aW) (k : aQ) (p1 : Int32) : rn 340 (0, [some (.inr (.inr (some (30, 0)))), some (.inl p1), some (.inr (.inr (some (32, 0)))), none], [], MM I w k) = (rn 135 (a_en 135 [.inr (.inr (some (30, 0))), .inl p1] (MM I w k))).bind (fun o => a_bk 340 135 (4, [some (.inr (.inr (some (30, 0)))), some (.inl p1), some (.inr (.inr (some (32, 0)))), none], [.inl 0, .inr (.inr (some (32, 0)))], MM I w k) o (rn 340)) := (rn_tq [] 10 340 _).trans rfl
set_option maxRecDepth 100000 in
theorem e340_7 (I : aI) (w : aW) (k : aQ) (d0 : Option aV) (d1 : Option aV) (d2 : Option aV) (d3 : Option aV) (y0 : Int32) (y1 : Int32) : rn 340 (7, [d0, d1, d2, d3], [.inl y0, .inl y1, .inr (.inr (some (32, 0)))], MM I w k) = cond (a_inb y1 1) (some (.inl (some (.inl 0)), MM I w (a_setL k.1 32 0 (Int32.toNatClampNeg y1) (Int32.toInt64 y0), k.2))) none := (rn_tq [] 10 340 _).trans rfl
-- L_contactEnd
set_option maxRecDepth 100000 in
theorem e341_0 (I : aI) (w : aW) (k : aQ) (p1 : Int32) : rn 341 (0, [some (.inr (.inr (some (30, 0)))), some (.inl p1), some (.inr (.inr (some (32, 0)))), none], [], MM I w k) = (rn 136 (a_en 136 [.inr (.inr (some (30, 0))), .inl p1] (MM I w k))).bind (fun o => a_bk 341 136 (4, [some (.inr (.inr (some (30, 0)))), some (.inl p1), some (.inr (.inr (some (32, 0)))), none], [.inl 0, .inr (.inr (some (32, 0)))], MM I w k) o (rn 341)) := (rn_tq [] 10 341 _).trans rfl
set_option maxRecDepth 100000 in
theorem e341_7 (I : aI) (w : aW) (k : aQ) (d0 : Option aV) (d1 : Option aV) (d2 : Option aV) (d3 : Option aV) (y0 : Int32) (y1 : Int32) : rn 341 (7, [d0, d1, d2, d3], [.inl y0, .inl y1, .inr (.inr (some (32, 0)))], MM I w k) = cond (a_inb y1 1) (some (.inl (some (.inl 0)), MM I w (a_setL k.1 32 0 (Int32.toNatClampNeg y1) (Int32.toInt64 y0), k.2))) none := (rn_tq [] 10 341 _).trans rfl
-- L_reportState
set_option maxRecDepth 100000 in
theorem e342_0 (I : aI) (w : aW) (k : aQ) (p1 : Int32) : rn 342 (0, [some (.inr (.inr (some (30, 0)))), some (.inl p1), some (.inr (.inr (some (32, 0)))), none], [], MM I w k) = (rn 137 (a_en 137 [.inr (.inr (some (30, 0))), .inl p1] (MM I w k))).bind (fun o => a_bk 342 137 (4, [some (.inr (.inr (some (30, 0)))), some (.inl p1), some (.inr (.inr (some (32, 0)))), none], [.inl 0, .inr (.inr (some (32, 0)))], MM I w k) o (rn 342)) := (rn_tq [] 10 342 _).trans rfl
set_option maxRecDepth 100000 in
theorem e342_7 (I : aI) (w : aW) (k : aQ) (d0 : Option aV) (d1 : Option aV) (d2 : Option aV) (d3 : Option aV) (y0 : Int32) (y1 : Int32) : rn 342 (7, [d0, d1, d2, d3], [.inl y0, .inl y1, .inr (.inr (some (32, 0)))], MM I w k) = cond (a_inb y1 1) (some (.inl (some (.inl 0)), MM I w (a_setL k.1 32 0 (Int32.toNatClampNeg y1) (Int32.toInt64 y0), k.2))) none := (rn_tq [] 10 342 _).trans rfl
-- L_contactFrames
set_option maxRecDepth 100000 in
theorem e343_0 (I : aI) (w : aW) (k : aQ) (p1 : Int32) (p2 : Int32) (p3 : Int32) : rn 343 (0, [some (.inr (.inr (some (30, 0)))), some (.inl p1), some (.inl p2), some (.inl p3), some (.inr (.inr (some (32, 0)))), none], [], MM I w k) = (rn 138 (a_en 138 [.inr (.inr (some (30, 0))), .inl p1, .inl p2, .inl p3] (MM I w k))).bind (fun o => a_bk 343 138 (7, [some (.inr (.inr (some (30, 0)))), some (.inl p1), some (.inl p2), some (.inl p3), some (.inr (.inr (some (32, 0)))), none], [.inl 0, .inr (.inr (some (32, 0)))], MM I w k) o (rn 343)) := (rn_tq [] 12 343 _).trans rfl
set_option maxRecDepth 100000 in
theorem e343_10 (I : aI) (w : aW) (k : aQ) (d0 : Option aV) (d1 : Option aV) (d2 : Option aV) (d3 : Option aV) (d4 : Option aV) (d5 : Option aV) (y0 : Int32) (y1 : Int32) : rn 343 (10, [d0, d1, d2, d3, d4, d5], [.inl y0, .inl y1, .inr (.inr (some (32, 0)))], MM I w k) = cond (a_inb y1 1) (some (.inl (some (.inl 0)), MM I w (a_setL k.1 32 0 (Int32.toNatClampNeg y1) (Int32.toInt64 y0), k.2))) none := (rn_tq [] 10 343 _).trans rfl
-- L_contactTotal
set_option maxRecDepth 100000 in
theorem e344_0 (I : aI) (w : aW) (k : aQ) (p1 : Int32) (p2 : Int32) : rn 344 (0, [some (.inr (.inr (some (30, 0)))), some (.inl p1), some (.inl p2), some (.inr (.inr (some (32, 0)))), none], [], MM I w k) = (rn 139 (a_en 139 [.inr (.inr (some (30, 0))), .inl p1, .inl p2] (MM I w k))).bind (fun o => a_bk 344 139 (5, [some (.inr (.inr (some (30, 0)))), some (.inl p1), some (.inl p2), some (.inr (.inr (some (32, 0)))), none], [.inl 0, .inr (.inr (some (32, 0)))], MM I w k) o (rn 344)) := (rn_tq [] 11 344 _).trans rfl
set_option maxRecDepth 100000 in
theorem e344_8 (I : aI) (w : aW) (k : aQ) (d0 : Option aV) (d1 : Option aV) (d2 : Option aV) (d3 : Option aV) (d4 : Option aV) (y0 : Int32) (y1 : Int32) : rn 344 (8, [d0, d1, d2, d3, d4], [.inl y0, .inl y1, .inr (.inr (some (32, 0)))], MM I w k) = cond (a_inb y1 1) (some (.inl (some (.inl 0)), MM I w (a_setL k.1 32 0 (Int32.toNatClampNeg y1) (Int32.toInt64 y0), k.2))) none := (rn_tq [] 10 344 _).trans rfl
-- L_lastContact
set_option maxRecDepth 100000 in
theorem e345_0 (I : aI) (w : aW) (k : aQ) (p1 : Int32) : rn 345 (0, [some (.inr (.inr (some (30, 0)))), some (.inl p1), some (.inr (.inr (some (32, 0)))), none], [], MM I w k) = (rn 140 (a_en 140 [.inr (.inr (some (30, 0))), .inl p1] (MM I w k))).bind (fun o => a_bk 345 140 (4, [some (.inr (.inr (some (30, 0)))), some (.inl p1), some (.inr (.inr (some (32, 0)))), none], [.inl 0, .inr (.inr (some (32, 0)))], MM I w k) o (rn 345)) := (rn_tq [] 10 345 _).trans rfl
set_option maxRecDepth 100000 in
theorem e345_7 (I : aI) (w : aW) (k : aQ) (d0 : Option aV) (d1 : Option aV) (d2 : Option aV) (d3 : Option aV) (y0 : Int32) (y1 : Int32) : rn 345 (7, [d0, d1, d2, d3], [.inl y0, .inl y1, .inr (.inr (some (32, 0)))], MM I w k) = cond (a_inb y1 1) (some (.inl (some (.inl 0)), MM I w (a_setL k.1 32 0 (Int32.toNatClampNeg y1) (Int32.toInt64 y0), k.2))) none := (rn_tq [] 10 345 _).trans rfl
-- L_figure
set_option maxRecDepth 100000 in
theorem e346_0 (I : aI) (w : aW) (k : aQ) (p1 : Int32) : rn 346 (0, [some (.inr (.inr (some (30, 0)))), some (.inl p1), some (.inr (.inr (some (32, 0)))), none], [], MM I w k) = (rn 141 (a_en 141 [.inr (.inr (some (30, 0))), .inl p1] (MM I w k))).bind (fun o => a_bk 346 141 (4, [some (.inr (.inr (some (30, 0)))), some (.inl p1), some (.inr (.inr (some (32, 0)))), none], [.inl 0, .inr (.inr (some (32, 0)))], MM I w k) o (rn 346)) := (rn_tq [] 10 346 _).trans rfl
set_option maxRecDepth 100000 in
theorem e346_7 (I : aI) (w : aW) (k : aQ) (d0 : Option aV) (d1 : Option aV) (d2 : Option aV) (d3 : Option aV) (y0 : Int32) (y1 : Int32) : rn 346 (7, [d0, d1, d2, d3], [.inl y0, .inl y1, .inr (.inr (some (32, 0)))], MM I w k) = cond (a_inb y1 1) (some (.inl (some (.inl 0)), MM I w (a_setL k.1 32 0 (Int32.toNatClampNeg y1) (Int32.toInt64 y0), k.2))) none := (rn_tq [] 10 346 _).trans rfl
-- L_stationFigure
set_option maxRecDepth 100000 in
theorem e347_0 (I : aI) (w : aW) (k : aQ) (p1 : Int32) (p2 : Int32) : rn 347 (0, [some (.inr (.inr (some (30, 0)))), some (.inl p1), some (.inl p2), some (.inr (.inr (some (32, 0)))), none], [], MM I w k) = (rn 142 (a_en 142 [.inr (.inr (some (30, 0))), .inl p1, .inl p2] (MM I w k))).bind (fun o => a_bk 347 142 (5, [some (.inr (.inr (some (30, 0)))), some (.inl p1), some (.inl p2), some (.inr (.inr (some (32, 0)))), none], [.inl 0, .inr (.inr (some (32, 0)))], MM I w k) o (rn 347)) := (rn_tq [] 11 347 _).trans rfl
set_option maxRecDepth 100000 in
theorem e347_8 (I : aI) (w : aW) (k : aQ) (d0 : Option aV) (d1 : Option aV) (d2 : Option aV) (d3 : Option aV) (d4 : Option aV) (y0 : Int32) (y1 : Int32) : rn 347 (8, [d0, d1, d2, d3, d4], [.inl y0, .inl y1, .inr (.inr (some (32, 0)))], MM I w k) = cond (a_inb y1 1) (some (.inl (some (.inl 0)), MM I w (a_setL k.1 32 0 (Int32.toNatClampNeg y1) (Int32.toInt64 y0), k.2))) none := (rn_tq [] 10 347 _).trans rfl
-- L_deliveryForecast
set_option maxRecDepth 100000 in
theorem e348_0 (I : aI) (w : aW) (k : aQ) (p1 : Int32) : rn 348 (0, [some (.inr (.inr (some (30, 0)))), some (.inl p1), some (.inr (.inr (some (32, 0)))), none], [], MM I w k) = (rn 150 (a_en 150 [.inr (.inr (some (30, 0))), .inl p1] (MM I w k))).bind (fun o => a_bk 348 150 (4, [some (.inr (.inr (some (30, 0)))), some (.inl p1), some (.inr (.inr (some (32, 0)))), none], [.inl 0, .inr (.inr (some (32, 0)))], MM I w k) o (rn 348)) := (rn_tq [] 10 348 _).trans rfl
set_option maxRecDepth 100000 in
theorem e348_7 (I : aI) (w : aW) (k : aQ) (d0 : Option aV) (d1 : Option aV) (d2 : Option aV) (d3 : Option aV) (y0 : Int32) (y1 : Int32) : rn 348 (7, [d0, d1, d2, d3], [.inl y0, .inl y1, .inr (.inr (some (32, 0)))], MM I w k) = cond (a_inb y1 1) (some (.inl (some (.inl 0)), MM I w (a_setL k.1 32 0 (Int32.toNatClampNeg y1) (Int32.toInt64 y0), k.2))) none := (rn_tq [] 10 348 _).trans rfl
-- L_bestPolicy
set_option maxRecDepth 100000 in
theorem e349_0 (I : aI) (w : aW) (k : aQ) (p1 : Int32) : rn 349 (0, [some (.inr (.inr (some (30, 0)))), some (.inl p1), some (.inr (.inr (some (32, 0)))), none], [], MM I w k) = (rn 151 (a_en 151 [.inr (.inr (some (30, 0))), .inl p1] (MM I w k))).bind (fun o => a_bk 349 151 (4, [some (.inr (.inr (some (30, 0)))), some (.inl p1), some (.inr (.inr (some (32, 0)))), none], [.inl 0, .inr (.inr (some (32, 0)))], MM I w k) o (rn 349)) := (rn_tq [] 10 349 _).trans rfl
set_option maxRecDepth 100000 in
theorem e349_7 (I : aI) (w : aW) (k : aQ) (d0 : Option aV) (d1 : Option aV) (d2 : Option aV) (d3 : Option aV) (y0 : Int32) (y1 : Int32) : rn 349 (7, [d0, d1, d2, d3], [.inl y0, .inl y1, .inr (.inr (some (32, 0)))], MM I w k) = cond (a_inb y1 1) (some (.inl (some (.inl 0)), MM I w (a_setL k.1 32 0 (Int32.toNatClampNeg y1) (Int32.toInt64 y0), k.2))) none := (rn_tq [] 10 349 _).trans rfl
-- L_appendText
set_option maxRecDepth 100000 in
theorem e350_0 (I : aI) (w : aW) (k : aQ) (p1 : Int32) : rn 350 (0, [some (.inr (.inr (some (30, 0)))), some (.inl p1), some (.inr (.inr (some (32, 0)))), none], [], MM I w k) = (rn 152 (a_en 152 [.inr (.inr (some (30, 0))), .inl p1] (MM I w k))).bind (fun o => a_bk 350 152 (4, [some (.inr (.inr (some (30, 0)))), some (.inl p1), some (.inr (.inr (some (32, 0)))), none], [.inl 0, .inr (.inr (some (32, 0)))], MM I w k) o (rn 350)) := (rn_tq [] 10 350 _).trans rfl
set_option maxRecDepth 100000 in
theorem e350_7 (I : aI) (w : aW) (k : aQ) (d0 : Option aV) (d1 : Option aV) (d2 : Option aV) (d3 : Option aV) (y0 : Int32) (y1 : Int32) : rn 350 (7, [d0, d1, d2, d3], [.inl y0, .inl y1, .inr (.inr (some (32, 0)))], MM I w k) = cond (a_inb y1 1) (some (.inl (some (.inl 0)), MM I w (a_setL k.1 32 0 (Int32.toNatClampNeg y1) (Int32.toInt64 y0), k.2))) none := (rn_tq [] 10 350 _).trans rfl
-- L_truncateText
set_option maxRecDepth 100000 in
theorem e351_0 (I : aI) (w : aW) (k : aQ) (p1 : Int32) : rn 351 (0, [some (.inr (.inr (some (30, 0)))), some (.inl p1), some (.inr (.inr (some (32, 0)))), none], [], MM I w k) = (rn 153 (a_en 153 [.inr (.inr (some (30, 0))), .inl p1] (MM I w k))).bind (fun o => a_bk 351 153 (4, [some (.inr (.inr (some (30, 0)))), some (.inl p1), some (.inr (.inr (some (32, 0)))), none], [.inl 0, .inr (.inr (some (32, 0)))], MM I w k) o (rn 351)) := (rn_tq [] 10 351 _).trans rfl
set_option maxRecDepth 100000 in
theorem e351_7 (I : aI) (w : aW) (k : aQ) (d0 : Option aV) (d1 : Option aV) (d2 : Option aV) (d3 : Option aV) (y0 : Int32) (y1 : Int32) : rn 351 (7, [d0, d1, d2, d3], [.inl y0, .inl y1, .inr (.inr (some (32, 0)))], MM I w k) = cond (a_inb y1 1) (some (.inl (some (.inl 0)), MM I w (a_setL k.1 32 0 (Int32.toNatClampNeg y1) (Int32.toInt64 y0), k.2))) none := (rn_tq [] 10 351 _).trans rfl
-- L_save
set_option maxRecDepth 100000 in
theorem e352_0 (I : aI) (w : aW) (k : aQ) (p1 : Int32) : rn 352 (0, [some (.inr (.inr (some (30, 0)))), some (.inl p1), none], [], MM I w k) = (rn 157 (a_en 157 [.inr (.inr (some (30, 0))), .inl p1] (MM I w k))).bind (fun o => a_bk 352 157 (2, [some (.inr (.inr (some (30, 0)))), some (.inl p1), none], [], MM I w k) o (rn 352)) := (rn_tq [] 8 352 _).trans rfl
set_option maxRecDepth 100000 in
theorem e352_5 (I : aI) (w : aW) (k : aQ) (d0 : Option aV) (d1 : Option aV) (d2 : Option aV) : rn 352 (5, [d0, d1, d2], [], MM I w k) = some (.inl (some (.inl 0)), MM I w k) := (rn_tq [] 8 352 _).trans rfl
-- L_restore
set_option maxRecDepth 100000 in
theorem e353_0 (I : aI) (w : aW) (k : aQ) (p1 : Int32) : rn 353 (0, [some (.inr (.inr (some (30, 0)))), some (.inl p1), none], [], MM I w k) = (rn 158 (a_en 158 [.inr (.inr (some (30, 0))), .inl p1] (MM I w k))).bind (fun o => a_bk 353 158 (2, [some (.inr (.inr (some (30, 0)))), some (.inl p1), none], [], MM I w k) o (rn 353)) := (rn_tq [] 8 353 _).trans rfl
set_option maxRecDepth 100000 in
theorem e353_5 (I : aI) (w : aW) (k : aQ) (d0 : Option aV) (d1 : Option aV) (d2 : Option aV) : rn 353 (5, [d0, d1, d2], [], MM I w k) = some (.inl (some (.inl 0)), MM I w k) := (rn_tq [] 8 353 _).trans rfl
