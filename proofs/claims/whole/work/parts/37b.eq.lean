/-! ===== equations (by wip/whole/gen31.py) ===== -/
-- L_save
set_option maxRecDepth 4000 in
theorem e352_0 (I : aI) (w : aW) (k : aQ) (p1 : Int32) : rn 352 (0, [some (.inr (.inr (some (30, 0)))), some (.inl p1), none], [], MM I w k) = (rn 157 (a_en 157 [.inr (.inr (some (30, 0))), .inl p1] (MM I w k))).bind (fun o => a_bk 352 157 (2, [some (.inr (.inr (some (30, 0)))), some (.inl p1), none], [], MM I w k) o (rn 352)) := y_t (y_aln 1 rfl rfl rfl) <| y_t (y_iln 2 rfl rfl rfl) <| y_gv rfl rfl
set_option maxRecDepth 4000 in
theorem e352_5 (I : aI) (w : aW) (k : aQ) (d0 : Option aV) (d1 : Option aV) (d2 : Option aV) : rn 352 (5, [d0, d1, d2], [], MM I w k) = some (.inl (some (.inl 0)), MM I w k) := y_t (y_go 11 rfl rfl) <| y_t (y_ic 12 0 rfl rfl rfl) <| y_ri rfl rfl
set_option maxRecDepth 4000 in
theorem e352_9 (I : aI) (w : aW) (k : aQ) (d0 : Option aV) (d1 : Option aV) (d2 : Option aV) : rn 352 (9, [d0, d1, d2], [], MM I w k) = some (.inl (some (.inl 1)), MM I w k) := y_t (y_ic 10 1 rfl rfl rfl) <| y_ri rfl rfl
-- L_restore
set_option maxRecDepth 4000 in
theorem e353_0 (I : aI) (w : aW) (k : aQ) (p1 : Int32) : rn 353 (0, [some (.inr (.inr (some (30, 0)))), some (.inl p1), none], [], MM I w k) = (rn 158 (a_en 158 [.inr (.inr (some (30, 0))), .inl p1] (MM I w k))).bind (fun o => a_bk 353 158 (2, [some (.inr (.inr (some (30, 0)))), some (.inl p1), none], [], MM I w k) o (rn 353)) := y_t (y_aln 1 rfl rfl rfl) <| y_t (y_iln 2 rfl rfl rfl) <| y_gv rfl rfl
set_option maxRecDepth 4000 in
theorem e353_5 (I : aI) (w : aW) (k : aQ) (d0 : Option aV) (d1 : Option aV) (d2 : Option aV) : rn 353 (5, [d0, d1, d2], [], MM I w k) = some (.inl (some (.inl 0)), MM I w k) := y_t (y_go 14 rfl rfl) <| y_t (y_ic 15 0 rfl rfl rfl) <| y_ri rfl rfl
set_option maxRecDepth 4000 in
theorem e353_9 (I : aI) (w : aW) (k : aQ) (d0 : Option aV) (d1 : Option aV) (d2 : Option aV) : rn 353 (9, [d0, d1, d2], [], MM I w k) = some (.inl (some (.inl 1)), MM I w k) := y_t (y_ic 10 1 rfl rfl rfl) <| y_ri rfl rfl
set_option maxRecDepth 4000 in
theorem e353_12 (I : aI) (w : aW) (k : aQ) (d0 : Option aV) (d1 : Option aV) (d2 : Option aV) : rn 353 (12, [d0, d1, d2], [], MM I w k) = some (.inl (some (.inl 2)), MM I w k) := y_t (y_ic 13 2 rfl rfl rfl) <| y_ri rfl rfl
