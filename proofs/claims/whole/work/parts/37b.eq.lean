/-! ===== equations (by wip/whole/gen31.py) ===== -/
-- L_deliveryForecast
set_option maxRecDepth 4000 in
theorem e348_0 (I : aI) (w : aW) (k : aQ) (p1 : Int32) : rn 348 (0, [some (.inr (.inr (some (30, 0)))), some (.inl p1), some (.inr (.inr (some (32, 0)))), none], [], MM I w k) = (rn 150 (a_en 150 [.inr (.inr (some (30, 0))), .inl p1] (MM I w k))).bind (fun o => a_bk 348 150 (4, [some (.inr (.inr (some (30, 0)))), some (.inl p1), some (.inr (.inr (some (32, 0)))), none], [.inl 0, .inr (.inr (some (32, 0)))], MM I w k) o (rn 348)) := y_t (y_aln 1 rfl rfl rfl) <| y_t (y_ic 2 0 rfl rfl rfl) <| y_t (y_aln 3 rfl rfl rfl) <| y_t (y_iln 4 rfl rfl rfl) <| y_xv [.inr (.inr (some (30, 0))), .inl p1] [.inl 0, .inr (.inr (some (32, 0)))] rfl fM_348_137 rfl rfl rfl rfl rfl (y_rk fR_150_30)
set_option maxRecDepth 4000 in
theorem e348_7 (I : aI) (w : aW) (k : aQ) (d0 : Option aV) (d1 : Option aV) (d2 : Option aV) (d3 : Option aV) (y0 : Int32) : rn 348 (7, [d0, d1, d2, d3], [.inl y0, .inl 0, .inr (.inr (some (32, 0)))], MM I w k) = some (.inl (some (.inl 0)), MM I w (a_setL k.1 32 0 0 (Int32.toInt64 y0), k.2)) := y_t (y_i2l 8 rfl rfl) <| y_t (y_last 9 1 0 rfl rfl rfl rfl rfl rfl) <| y_t (y_go 15 rfl rfl) <| y_t (y_ic 16 0 rfl rfl rfl) <| y_ri rfl fT_348
set_option maxRecDepth 4000 in
theorem e348_13 (I : aI) (w : aW) (k : aQ) (d0 : Option aV) (d1 : Option aV) (d2 : Option aV) (d3 : Option aV) : rn 348 (13, [d0, d1, d2, d3], [], MM I w k) = some (.inl (some (.inl 1)), MM I w k) := y_t (y_ic 14 1 rfl rfl rfl) <| y_ri rfl fT_348
-- L_bestPolicy
set_option maxRecDepth 4000 in
theorem e349_0 (I : aI) (w : aW) (k : aQ) (p1 : Int32) : rn 349 (0, [some (.inr (.inr (some (30, 0)))), some (.inl p1), some (.inr (.inr (some (32, 0)))), none], [], MM I w k) = (rn 151 (a_en 151 [.inr (.inr (some (30, 0))), .inl p1] (MM I w k))).bind (fun o => a_bk 349 151 (4, [some (.inr (.inr (some (30, 0)))), some (.inl p1), some (.inr (.inr (some (32, 0)))), none], [.inl 0, .inr (.inr (some (32, 0)))], MM I w k) o (rn 349)) := y_t (y_aln 1 rfl rfl rfl) <| y_t (y_ic 2 0 rfl rfl rfl) <| y_t (y_aln 3 rfl rfl rfl) <| y_t (y_iln 4 rfl rfl rfl) <| y_xv [.inr (.inr (some (30, 0))), .inl p1] [.inl 0, .inr (.inr (some (32, 0)))] rfl fM_349_140 rfl rfl rfl rfl rfl (y_rk fR_151_30)
set_option maxRecDepth 4000 in
theorem e349_7 (I : aI) (w : aW) (k : aQ) (d0 : Option aV) (d1 : Option aV) (d2 : Option aV) (d3 : Option aV) (y0 : Int32) : rn 349 (7, [d0, d1, d2, d3], [.inl y0, .inl 0, .inr (.inr (some (32, 0)))], MM I w k) = some (.inl (some (.inl 0)), MM I w (a_setL k.1 32 0 0 (Int32.toInt64 y0), k.2)) := y_t (y_i2l 8 rfl rfl) <| y_t (y_last 9 1 0 rfl rfl rfl rfl rfl rfl) <| y_t (y_go 15 rfl rfl) <| y_t (y_ic 16 0 rfl rfl rfl) <| y_ri rfl fT_349
set_option maxRecDepth 4000 in
theorem e349_13 (I : aI) (w : aW) (k : aQ) (d0 : Option aV) (d1 : Option aV) (d2 : Option aV) (d3 : Option aV) : rn 349 (13, [d0, d1, d2, d3], [], MM I w k) = some (.inl (some (.inl 1)), MM I w k) := y_t (y_ic 14 1 rfl rfl rfl) <| y_ri rfl fT_349
-- L_appendText
set_option maxRecDepth 4000 in
theorem e350_0 (I : aI) (w : aW) (k : aQ) (p1 : Int32) : rn 350 (0, [some (.inr (.inr (some (30, 0)))), some (.inl p1), some (.inr (.inr (some (32, 0)))), none], [], MM I w k) = (rn 152 (a_en 152 [.inr (.inr (some (30, 0))), .inl p1] (MM I w k))).bind (fun o => a_bk 350 152 (4, [some (.inr (.inr (some (30, 0)))), some (.inl p1), some (.inr (.inr (some (32, 0)))), none], [.inl 0, .inr (.inr (some (32, 0)))], MM I w k) o (rn 350)) := y_t (y_aln 1 rfl rfl rfl) <| y_t (y_ic 2 0 rfl rfl rfl) <| y_t (y_aln 3 rfl rfl rfl) <| y_t (y_iln 4 rfl rfl rfl) <| y_xv [.inr (.inr (some (30, 0))), .inl p1] [.inl 0, .inr (.inr (some (32, 0)))] rfl fM_350_143 rfl rfl rfl rfl rfl (y_rk fR_152_30)
set_option maxRecDepth 4000 in
theorem e350_7 (I : aI) (w : aW) (k : aQ) (d0 : Option aV) (d1 : Option aV) (d2 : Option aV) (d3 : Option aV) (y0 : Int32) : rn 350 (7, [d0, d1, d2, d3], [.inl y0, .inl 0, .inr (.inr (some (32, 0)))], MM I w k) = some (.inl (some (.inl 0)), MM I w (a_setL k.1 32 0 0 (Int32.toInt64 y0), k.2)) := y_t (y_i2l 8 rfl rfl) <| y_t (y_last 9 1 0 rfl rfl rfl rfl rfl rfl) <| y_t (y_go 15 rfl rfl) <| y_t (y_ic 16 0 rfl rfl rfl) <| y_ri rfl fT_350
set_option maxRecDepth 4000 in
theorem e350_13 (I : aI) (w : aW) (k : aQ) (d0 : Option aV) (d1 : Option aV) (d2 : Option aV) (d3 : Option aV) : rn 350 (13, [d0, d1, d2, d3], [], MM I w k) = some (.inl (some (.inl 1)), MM I w k) := y_t (y_ic 14 1 rfl rfl rfl) <| y_ri rfl fT_350
-- L_truncateText
set_option maxRecDepth 4000 in
theorem e351_0 (I : aI) (w : aW) (k : aQ) (p1 : Int32) : rn 351 (0, [some (.inr (.inr (some (30, 0)))), some (.inl p1), some (.inr (.inr (some (32, 0)))), none], [], MM I w k) = (rn 153 (a_en 153 [.inr (.inr (some (30, 0))), .inl p1] (MM I w k))).bind (fun o => a_bk 351 153 (4, [some (.inr (.inr (some (30, 0)))), some (.inl p1), some (.inr (.inr (some (32, 0)))), none], [.inl 0, .inr (.inr (some (32, 0)))], MM I w k) o (rn 351)) := y_t (y_aln 1 rfl rfl rfl) <| y_t (y_ic 2 0 rfl rfl rfl) <| y_t (y_aln 3 rfl rfl rfl) <| y_t (y_iln 4 rfl rfl rfl) <| y_xv [.inr (.inr (some (30, 0))), .inl p1] [.inl 0, .inr (.inr (some (32, 0)))] rfl fM_351_146 rfl rfl rfl rfl rfl (y_rk fR_153_30)
set_option maxRecDepth 4000 in
theorem e351_7 (I : aI) (w : aW) (k : aQ) (d0 : Option aV) (d1 : Option aV) (d2 : Option aV) (d3 : Option aV) (y0 : Int32) : rn 351 (7, [d0, d1, d2, d3], [.inl y0, .inl 0, .inr (.inr (some (32, 0)))], MM I w k) = some (.inl (some (.inl 0)), MM I w (a_setL k.1 32 0 0 (Int32.toInt64 y0), k.2)) := y_t (y_i2l 8 rfl rfl) <| y_t (y_last 9 1 0 rfl rfl rfl rfl rfl rfl) <| y_t (y_go 15 rfl rfl) <| y_t (y_ic 16 0 rfl rfl rfl) <| y_ri rfl fT_351
set_option maxRecDepth 4000 in
theorem e351_13 (I : aI) (w : aW) (k : aQ) (d0 : Option aV) (d1 : Option aV) (d2 : Option aV) (d3 : Option aV) : rn 351 (13, [d0, d1, d2, d3], [], MM I w k) = some (.inl (some (.inl 1)), MM I w k) := y_t (y_ic 14 1 rfl rfl rfl) <| y_ri rfl fT_351
-- L_save
set_option maxRecDepth 4000 in
theorem e352_0 (I : aI) (w : aW) (k : aQ) (p1 : Int32) : rn 352 (0, [some (.inr (.inr (some (30, 0)))), some (.inl p1), none], [], MM I w k) = (rn 157 (a_en 157 [.inr (.inr (some (30, 0))), .inl p1] (MM I w k))).bind (fun o => a_bk 352 157 (2, [some (.inr (.inr (some (30, 0)))), some (.inl p1), none], [], MM I w k) o (rn 352)) := y_t (y_aln 1 rfl rfl rfl) <| y_t (y_iln 2 rfl rfl rfl) <| y_xv [.inr (.inr (some (30, 0))), .inl p1] [] rfl fM_352_149 rfl rfl rfl rfl rfl (y_rk fR_157_30)
set_option maxRecDepth 4000 in
theorem e352_5 (I : aI) (w : aW) (k : aQ) (d0 : Option aV) (d1 : Option aV) (d2 : Option aV) : rn 352 (5, [d0, d1, d2], [], MM I w k) = some (.inl (some (.inl 0)), MM I w k) := y_t (y_go 11 rfl rfl) <| y_t (y_ic 12 0 rfl rfl rfl) <| y_ri rfl fT_352
set_option maxRecDepth 4000 in
theorem e352_9 (I : aI) (w : aW) (k : aQ) (d0 : Option aV) (d1 : Option aV) (d2 : Option aV) : rn 352 (9, [d0, d1, d2], [], MM I w k) = some (.inl (some (.inl 1)), MM I w k) := y_t (y_ic 10 1 rfl rfl rfl) <| y_ri rfl fT_352
-- L_restore
set_option maxRecDepth 4000 in
theorem e353_0 (I : aI) (w : aW) (k : aQ) (p1 : Int32) : rn 353 (0, [some (.inr (.inr (some (30, 0)))), some (.inl p1), none], [], MM I w k) = (rn 158 (a_en 158 [.inr (.inr (some (30, 0))), .inl p1] (MM I w k))).bind (fun o => a_bk 353 158 (2, [some (.inr (.inr (some (30, 0)))), some (.inl p1), none], [], MM I w k) o (rn 353)) := y_t (y_aln 1 rfl rfl rfl) <| y_t (y_iln 2 rfl rfl rfl) <| y_xv [.inr (.inr (some (30, 0))), .inl p1] [] rfl fM_353_152 rfl rfl rfl rfl rfl (y_rk fR_158_30)
set_option maxRecDepth 4000 in
theorem e353_5 (I : aI) (w : aW) (k : aQ) (d0 : Option aV) (d1 : Option aV) (d2 : Option aV) : rn 353 (5, [d0, d1, d2], [], MM I w k) = some (.inl (some (.inl 0)), MM I w k) := y_t (y_go 14 rfl rfl) <| y_t (y_ic 15 0 rfl rfl rfl) <| y_ri rfl fT_353
set_option maxRecDepth 4000 in
theorem e353_9 (I : aI) (w : aW) (k : aQ) (d0 : Option aV) (d1 : Option aV) (d2 : Option aV) : rn 353 (9, [d0, d1, d2], [], MM I w k) = some (.inl (some (.inl 1)), MM I w k) := y_t (y_ic 10 1 rfl rfl rfl) <| y_ri rfl fT_353
set_option maxRecDepth 4000 in
theorem e353_12 (I : aI) (w : aW) (k : aQ) (d0 : Option aV) (d1 : Option aV) (d2 : Option aV) : rn 353 (12, [d0, d1, d2], [], MM I w k) = some (.inl (some (.inl 2)), MM I w k) := y_t (y_ic 13 2 rfl rfl rfl) <| y_ri rfl fT_353
