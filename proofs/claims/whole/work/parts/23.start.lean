/-! ===== the law's start (by wip/whole/gen24.py; the head out of the skeleton) ===== -/
/-! THE CLAIM OUT OF ONE WALK OF THE LAW'S BODY. Your part is whole_start (and what it stands on); all else here is the same for every law, but numbers. -/
def R_law : String := "PassLinkLaw"
def lw_P (b : Addr) (xs : List Int32) (args : Array Value) (s : State) : Prop := args = #[.ref b] ∧ s.IntsAt b xs ∧ xs.length ≤ 3584 ∧ (Jvm.Cond.and given_1 narrow_1).before args s = true
def lw_Q (_ : Array Value) (s : State) (o : Outcome) (t : State) : Prop := o = .returned (some (.int 1)) ∧ Framed s o t [] room_1.cells room_1.slots
def lw_Z (below : List Frame) (a : Array Value) (s : State) : State → Prop := fun t => ∃ o, t.status = .running ∧ Ended t below o ∧ lw_Q a s o t
/-- the law's own end, with 1 on the stack, nothing written that was there before, its room as the claim has it -/
theorem lw_ret {p : Program} {l : Launch} {e : Env} {s : State} {m : MethodId} {below : List Frame} {meth : Method} {c : Code} {b : Nat} (hx : p.tables.exec = Jvm.exec) (hb : c.code = code) (hr : meth.sig.returnType = ret) (hlocks : meth.locks = false) {pc : Nat} {H : Heap} {ls : Array Slot} (hdg : decode code pc = .ok (.ireturn, 1)) : W p l e room_1 s m #[Value.ref b] below meth c H [] room_1.cells room_1.slots (lw_Z below #[Value.ref b] s) (F0 m pc ls [.int 1]) := by
  intro T hT X
  obtain ⟨fs, hret, hrun, hended, hW, hframe⟩ := X.leave (v := some (.int 1)) (hlocks := hlocks) (fun h => by rw [hr] at h; cases h)
  have hmeth' : T.vm.method? m = some meth := X.method'
  refine ⟨T.setFrames fs, ?_, .returned (some (.int 1)), hrun, hended, rfl, ⟨_, rfl⟩, hW, hframe⟩
  jvm_step X.here [X.here.top, hx, hb, hdg, hmeth', hr, ret, narrow_b1]
  (try refine ⟨rfl, ?_⟩); (try refine ⟨rfl, ?_⟩)
  first | (intro acts; rw [hret _ acts rfl rfl rfl]) | rw [hret _ _ rfl rfl rfl]
  exact Steps.refl _
/-- what holds at the law's entry: the machine, the code, the tables' words (any of lw_tbl by 'hts w (by decide +kernel)'), the script of L ints xs at the cell b, what the Statement gives of the start (any of its parts by flat_of_before) -/
def lw_At (p : Program) (s : State) (m : MethodId) (meth : Method) (c : Code) (b L : Nat) (xs : Nat → Int32) : Prop :=
  p.tables.exec = Jvm.exec ∧ c.code = code ∧ meth.sig.returnType = ret ∧ c.maxLocals = 7 ∧ s.vm.findClass R_law = some m.cls ∧ (∀ w ∈ lw_tbl, w.before #[Value.ref b] s = true) ∧ va_X b L xs s s.heap ∧ b < s.heap.size ∧ meth.locks = false ∧ (Jvm.Cond.and given_1 narrow_1).before #[Value.ref b] s = true ∧ meth.name = "law" ∧ c.exceptionTable.toList = []
theorem a_tIns_ok : a_tIns := fun f hf => a_iq_all f (Nat.zero_le f) hf
theorem a_n1 {i : Nat} {w : Cond} (h : tables_1_1[i]? = some w) : w ∈ lw_tbl := List.mem_append_right _ (List.mem_append_left _ (List.mem_of_getElem? h))
theorem a_n2 {i : Nat} {w : Cond} (h : tables_1_2[i]? = some w) : w ∈ lw_tbl := List.mem_append_right _ (List.mem_append_right _ (List.mem_append_left _ (List.mem_of_getElem? h)))
theorem a_n3 {i : Nat} {w : Cond} (h : tables_1_3[i]? = some w) : w ∈ lw_tbl := List.mem_append_right _ (List.mem_append_right _ (List.mem_append_right _ (List.mem_append_left _ (List.mem_of_getElem? h))))
theorem a_n4 {i : Nat} {w : Cond} (h : tables_1_4[i]? = some w) : w ∈ lw_tbl := List.mem_append_right _ (List.mem_append_right _ (List.mem_append_right _ (List.mem_append_right _ (List.mem_append_left _ (List.mem_of_getElem? h)))))
theorem a_n5 {i : Nat} {w : Cond} (h : tables_1_5[i]? = some w) : w ∈ lw_tbl := List.mem_append_right _ (List.mem_append_right _ (List.mem_append_right _ (List.mem_append_right _ (List.mem_append_right _ (List.mem_append_left _ (List.mem_of_getElem? h))))))
theorem a_n6 {i : Nat} {w : Cond} (h : tables_1_6[i]? = some w) : w ∈ lw_tbl := List.mem_append_right _ (List.mem_append_right _ (List.mem_append_right _ (List.mem_append_right _ (List.mem_append_right _ (List.mem_append_right _ (List.mem_append_left _ (List.mem_of_getElem? h)))))))
theorem a_n7 {i : Nat} {w : Cond} (h : tables_1_7[i]? = some w) : w ∈ lw_tbl := List.mem_append_right _ (List.mem_append_right _ (List.mem_append_right _ (List.mem_append_right _ (List.mem_append_right _ (List.mem_append_right _ (List.mem_append_right _ (List.mem_append_left _ (List.mem_of_getElem? h))))))))
theorem a_n8 {i : Nat} {w : Cond} (h : tables_1_8[i]? = some w) : w ∈ lw_tbl := List.mem_append_right _ (List.mem_append_right _ (List.mem_append_right _ (List.mem_append_right _ (List.mem_append_right _ (List.mem_append_right _ (List.mem_append_right _ (List.mem_append_right _ ((List.mem_of_getElem? h)))))))))
section
variable {s : State} {b : Nat}
set_option maxHeartbeats 2000000 in
theorem st_K (ht : ∀ w ∈ lw_tbl, w.before #[Value.ref b] s = true) : ∃ (D : va_G) (tyc : Nat → ClassId), va_K D a_cls (a_tys tyc) s := by
  have hg : ∀ w ∈ lw_gd, w.before #[Value.ref b] s = true := fun w hw => ht w (List.mem_filter.mp hw).1
  obtain ⟨c0, i0, h0⟩ := u_known (C := RX0) (T := TX0) (N := 7) (n := 7) hg (a_uws uw_0) (hg _ (a_m1 (i := 210) rfl rfl))
  obtain ⟨c1, i1, h1⟩ := u_known (C := RX1) (T := TX1) (N := 10) (n := 10) hg (a_uws uw_1) (hg _ (a_m1 (i := 157) rfl rfl))
  obtain ⟨c2, i2, h2⟩ := u_known (C := RX2) (T := TX2) (N := 6) (n := 6) hg (a_uws uw_2) (hg _ (a_m1 (i := 111) rfl rfl))
  obtain ⟨c3, i3, h3⟩ := u_known (C := RX3) (T := TX3) (N := 8) (n := 8) hg (a_uws uw_3) (hg _ (a_m2 (i := 65) rfl rfl))
  obtain ⟨c4, i4, h4⟩ := u_known (C := RX4) (T := TX4) (N := 10) (n := 10) hg (a_uws uw_4) (hg _ (a_m1 (i := 33) rfl rfl))
  obtain ⟨c5, i5, h5⟩ := u_known (C := RX5) (T := TX5) (N := 6) (n := 6) hg (a_uws uw_5) (hg _ (a_m1 (i := 39) rfl rfl))
  obtain ⟨c6, i6, h6⟩ := u_known (C := RX6) (T := TX6) (N := 7) (n := 7) hg (a_uws uw_6) (hg _ (a_m1 (i := 46) rfl rfl))
  obtain ⟨c7, i7, h7⟩ := u_known (C := RX7) (T := TX7) (N := 5) (n := 5) hg (a_uws uw_7) (hg _ (a_m1 (i := 25) rfl rfl))
  obtain ⟨c8, i8, h8⟩ := u_known (C := RX8) (T := TX8) (N := 18) (n := 18) hg (a_uws uw_8) (hg _ (a_m6 (i := 142) rfl rfl))
  obtain ⟨a1, k1, p1, f1, g1, e1⟩ := Cond.arrayClass_spec (type := .int) (args := #[Value.ref b]) (first := s) (o := none) (s := s) (idx := []) (hg _ (a_m1 (i := 86) rfl rfl))
  obtain ⟨a2, k2, p2, f2, g2, e2⟩ := Cond.arrayClass_spec (type := .byte) (args := #[Value.ref b]) (first := s) (o := none) (s := s) (idx := []) (hg _ (a_m2 (i := 98) rfl rfl))
  obtain ⟨a3, k3, p3, f3, g3, e3⟩ := Cond.arrayClass_spec (type := .boolean) (args := #[Value.ref b]) (first := s) (o := none) (s := s) (idx := []) (hg _ (a_m6 (i := 206) rfl rfl))
  obtain ⟨a4, k4, p4, f4, g4, e4⟩ := Cond.arrayClass_spec (type := .long) (args := #[Value.ref b]) (first := s) (o := none) (s := s) (idx := []) (hg _ (a_m8 (i := 229) rfl rfl))
  obtain ⟨p10, a10, k10, f10, -, g10, e10, d10⟩ := Cond.arrayOver_spec (n := RX0) (args := #[Value.ref b]) (first := s) (o := none) (s := s) (idx := []) (ht _ (a_n1 (i := 156) rfl))
  obtain ⟨p11, a11, k11, f11, -, g11, e11, d11⟩ := Cond.arrayOver_spec (n := RX1) (args := #[Value.ref b]) (first := s) (o := none) (s := s) (idx := []) (ht _ (a_n1 (i := 154) rfl))
  obtain ⟨p14, a14, k14, f14, -, g14, e14, d14⟩ := Cond.arrayOver_spec (n := RX4) (args := #[Value.ref b]) (first := s) (o := none) (s := s) (idx := []) (ht _ (a_n2 (i := 99) rfl))
  obtain ⟨p16, a16, k16, f16, -, g16, e16, d16⟩ := Cond.arrayOver_spec (n := RX6) (args := #[Value.ref b]) (first := s) (o := none) (s := s) (idx := []) (ht _ (a_n1 (i := 45) rfl))
  refine ⟨(fun k => match k with | 0 => c0 | 1 => c1 | 2 => c2 | 3 => c3 | 4 => c4 | 5 => c5 | 6 => c6 | 7 => c7 | _ => c8, fun k => match k with | 0 => i0 | 1 => i1 | 2 => i2 | 3 => i3 | 4 => i4 | 5 => i5 | 6 => i6 | 7 => i7 | _ => i8), fun k => match k with | 1 => a1 | 2 => a2 | 3 => a3 | 4 => a4 | 10 => a10 | 11 => a11 | 14 => a14 | _ => a16, ?_, ?_⟩
  · intro k q hq
    match k, hq with
    | 0, hq => cases hq; exact h0
    | 1, hq => cases hq; exact h1
    | 2, hq => cases hq; exact h2
    | 3, hq => cases hq; exact h3
    | 4, hq => cases hq; exact h4
    | 5, hq => cases hq; exact h5
    | 6, hq => cases hq; exact h6
    | 7, hq => cases hq; exact h7
    | 8, hq => cases hq; exact h8
    | n + 9, hq => cases hq
  · intro k q hq
    match k, hq with
    | 0, hq => cases hq; exact ⟨fun _ _ => ⟨fun _ h => (by cases h), k1, g1, p1, e1⟩, f1⟩
    | 1, hq => cases hq; exact ⟨fun _ _ => ⟨fun _ h => (by cases h), k2, g2, p2, e2⟩, f2⟩
    | 2, hq => cases hq; exact ⟨fun _ _ => ⟨fun _ h => (by cases h), k3, g3, p3, e3⟩, f3⟩
    | 3, hq => cases hq; exact ⟨fun _ _ => ⟨fun _ h => (by cases h), k4, g4, p4, e4⟩, f4⟩
    | 4, hq => cases hq; exact ⟨fun _ _ => ⟨fun _ h => (by cases h), k10, g10, p10, e10⟩, k10, p10, g10, e10, f10, d10⟩
    | 5, hq => cases hq; exact ⟨fun _ _ => ⟨fun _ h => (by cases h), k11, g11, p11, e11⟩, k11, p11, g11, e11, f11, d11⟩
    | 6, hq => cases hq; exact ⟨fun _ _ => ⟨fun _ h => (by cases h), k14, g14, p14, e14⟩, k14, p14, g14, e14, f14, d14⟩
    | 7, hq => cases hq; exact ⟨fun _ _ => ⟨fun _ h => (by cases h), k16, g16, p16, e16⟩, k16, p16, g16, e16, f16, d16⟩
    | n + 8, hq => cases hq
def a_sbl (z : List Int32) : List (List Int32) := [[111, 114, 98, 105, 116], [115, 116, 97, 116, 105, 111, 110], [103, 114, 111, 117, 110, 100], [112, 97, 116, 105, 101, 110, 99, 101], [102, 114, 101, 115, 104], [109, 101, 109, 111, 114, 121], [112, 111, 108, 105, 99, 121], [114, 101, 99, 111, 114, 100], [115, 116, 97, 121], [108, 111, 110, 103, 101, 115, 116], z]
set_option maxHeartbeats 4000000 in
set_option maxRecDepth 100000 in
theorem st_S (z : List Int32) (hs : ∀ w ∈ flatC (Jvm.Cond.and given_1 narrow_1), w.before #[Value.ref b] s = true) : ∃ adK adV : Nat → Nat, vk_S 10 a_sll (a_sbl z) adK adV (a_A s) s s.heap ∧ ∀ i : Nat, i < 10 → (Term.string RX3 (a_sik i)).eval #[Value.ref b] s none [] s = some (.ref (adK i)) := by
  refine vk_Sof (args := #[Value.ref b]) (tm := fun i => Term.string RX3 (a_sik i)) ?_ ?_ ?_ ?_ ?_ ?_ ?_ (fun a ha => Nat.not_le.mpr ha)
  · decide +kernel
  · intro i hi
    match i, hi with
    | 0, _ => exact (hs _ (List.mem_of_getElem? (i := 96) rfl))
    | 1, _ => exact (hs _ (List.mem_of_getElem? (i := 105) rfl))
    | 2, _ => exact (hs _ (List.mem_of_getElem? (i := 117) rfl))
    | 3, _ => exact (hs _ (List.mem_of_getElem? (i := 129) rfl))
    | 4, _ => exact (hs _ (List.mem_of_getElem? (i := 144) rfl))
    | 5, _ => exact (hs _ (List.mem_of_getElem? (i := 157) rfl))
    | 6, _ => exact (hs _ (List.mem_of_getElem? (i := 172) rfl))
    | 7, _ => exact (hs _ (List.mem_of_getElem? (i := 222) rfl))
    | 8, _ => exact (hs _ (List.mem_of_getElem? (i := 188) rfl))
    | 9, _ => exact (hs _ (List.mem_of_getElem? (i := 203) rfl))
  · intro i hi
    match i, hi with
    | 0, _ => exact (hs _ (List.mem_of_getElem? (i := 97) rfl))
    | 1, _ => exact (hs _ (List.mem_of_getElem? (i := 106) rfl))
    | 2, _ => exact (hs _ (List.mem_of_getElem? (i := 118) rfl))
    | 3, _ => exact (hs _ (List.mem_of_getElem? (i := 130) rfl))
    | 4, _ => exact (hs _ (List.mem_of_getElem? (i := 145) rfl))
    | 5, _ => exact (hs _ (List.mem_of_getElem? (i := 158) rfl))
    | 6, _ => exact (hs _ (List.mem_of_getElem? (i := 173) rfl))
    | 7, _ => exact (hs _ (List.mem_of_getElem? (i := 223) rfl))
    | 8, _ => exact (hs _ (List.mem_of_getElem? (i := 189) rfl))
    | 9, _ => exact (hs _ (List.mem_of_getElem? (i := 204) rfl))
  · intro i hi
    match i, hi with
    | 0, _ => exact (hs _ (List.mem_of_getElem? (i := 98) rfl))
    | 1, _ => exact (hs _ (List.mem_of_getElem? (i := 107) rfl))
    | 2, _ => exact (hs _ (List.mem_of_getElem? (i := 119) rfl))
    | 3, _ => exact (hs _ (List.mem_of_getElem? (i := 131) rfl))
    | 4, _ => exact (hs _ (List.mem_of_getElem? (i := 146) rfl))
    | 5, _ => exact (hs _ (List.mem_of_getElem? (i := 159) rfl))
    | 6, _ => exact (hs _ (List.mem_of_getElem? (i := 174) rfl))
    | 7, _ => exact (hs _ (List.mem_of_getElem? (i := 224) rfl))
    | 8, _ => exact (hs _ (List.mem_of_getElem? (i := 190) rfl))
    | 9, _ => exact (hs _ (List.mem_of_getElem? (i := 205) rfl))
  · intro i hi
    match i, hi with
    | 0, _ => exact (hs _ (List.mem_of_getElem? (i := 99) rfl))
    | 1, _ => exact (hs _ (List.mem_of_getElem? (i := 108) rfl))
    | 2, _ => exact (hs _ (List.mem_of_getElem? (i := 120) rfl))
    | 3, _ => exact (hs _ (List.mem_of_getElem? (i := 132) rfl))
    | 4, _ => exact (hs _ (List.mem_of_getElem? (i := 147) rfl))
    | 5, _ => exact (hs _ (List.mem_of_getElem? (i := 160) rfl))
    | 6, _ => exact (hs _ (List.mem_of_getElem? (i := 175) rfl))
    | 7, _ => exact (hs _ (List.mem_of_getElem? (i := 225) rfl))
    | 8, _ => exact (hs _ (List.mem_of_getElem? (i := 191) rfl))
    | 9, _ => exact (hs _ (List.mem_of_getElem? (i := 206) rfl))
  · intro i hi
    match i, hi with
    | 0, _ =>
      intro j hj
      have hj : j < 5 := hj
      match j, hj with
      | 0, _ => exact (hs _ (List.mem_of_getElem? (i := 100) rfl))
      | 1, _ => exact (hs _ (List.mem_of_getElem? (i := 101) rfl))
      | 2, _ => exact (hs _ (List.mem_of_getElem? (i := 102) rfl))
      | 3, _ => exact (hs _ (List.mem_of_getElem? (i := 103) rfl))
      | 4, _ => exact (hs _ (List.mem_of_getElem? (i := 104) rfl))
    | 1, _ =>
      intro j hj
      have hj : j < 7 := hj
      match j, hj with
      | 0, _ => exact (hs _ (List.mem_of_getElem? (i := 109) rfl))
      | 1, _ => exact (hs _ (List.mem_of_getElem? (i := 110) rfl))
      | 2, _ => exact (hs _ (List.mem_of_getElem? (i := 111) rfl))
      | 3, _ => exact (hs _ (List.mem_of_getElem? (i := 112) rfl))
      | 4, _ => exact (hs _ (List.mem_of_getElem? (i := 113) rfl))
      | 5, _ => exact (hs _ (List.mem_of_getElem? (i := 114) rfl))
      | 6, _ => exact (hs _ (List.mem_of_getElem? (i := 115) rfl))
    | 2, _ =>
      intro j hj
      have hj : j < 6 := hj
      match j, hj with
      | 0, _ => exact (hs _ (List.mem_of_getElem? (i := 121) rfl))
      | 1, _ => exact (hs _ (List.mem_of_getElem? (i := 122) rfl))
      | 2, _ => exact (hs _ (List.mem_of_getElem? (i := 123) rfl))
      | 3, _ => exact (hs _ (List.mem_of_getElem? (i := 124) rfl))
      | 4, _ => exact (hs _ (List.mem_of_getElem? (i := 125) rfl))
      | 5, _ => exact (hs _ (List.mem_of_getElem? (i := 126) rfl))
    | 3, _ =>
      intro j hj
      have hj : j < 8 := hj
      match j, hj with
      | 0, _ => exact (hs _ (List.mem_of_getElem? (i := 133) rfl))
      | 1, _ => exact (hs _ (List.mem_of_getElem? (i := 134) rfl))
      | 2, _ => exact (hs _ (List.mem_of_getElem? (i := 135) rfl))
      | 3, _ => exact (hs _ (List.mem_of_getElem? (i := 136) rfl))
      | 4, _ => exact (hs _ (List.mem_of_getElem? (i := 137) rfl))
      | 5, _ => exact (hs _ (List.mem_of_getElem? (i := 138) rfl))
      | 6, _ => exact (hs _ (List.mem_of_getElem? (i := 139) rfl))
      | 7, _ => exact (hs _ (List.mem_of_getElem? (i := 140) rfl))
    | 4, _ =>
      intro j hj
      have hj : j < 5 := hj
      match j, hj with
      | 0, _ => exact (hs _ (List.mem_of_getElem? (i := 148) rfl))
      | 1, _ => exact (hs _ (List.mem_of_getElem? (i := 149) rfl))
      | 2, _ => exact (hs _ (List.mem_of_getElem? (i := 150) rfl))
      | 3, _ => exact (hs _ (List.mem_of_getElem? (i := 151) rfl))
      | 4, _ => exact (hs _ (List.mem_of_getElem? (i := 152) rfl))
    | 5, _ =>
      intro j hj
      have hj : j < 6 := hj
      match j, hj with
      | 0, _ => exact (hs _ (List.mem_of_getElem? (i := 161) rfl))
      | 1, _ => exact (hs _ (List.mem_of_getElem? (i := 162) rfl))
      | 2, _ => exact (hs _ (List.mem_of_getElem? (i := 163) rfl))
      | 3, _ => exact (hs _ (List.mem_of_getElem? (i := 164) rfl))
      | 4, _ => exact (hs _ (List.mem_of_getElem? (i := 165) rfl))
      | 5, _ => exact (hs _ (List.mem_of_getElem? (i := 166) rfl))
    | 6, _ =>
      intro j hj
      have hj : j < 6 := hj
      match j, hj with
      | 0, _ => exact (hs _ (List.mem_of_getElem? (i := 176) rfl))
      | 1, _ => exact (hs _ (List.mem_of_getElem? (i := 177) rfl))
      | 2, _ => exact (hs _ (List.mem_of_getElem? (i := 178) rfl))
      | 3, _ => exact (hs _ (List.mem_of_getElem? (i := 179) rfl))
      | 4, _ => exact (hs _ (List.mem_of_getElem? (i := 180) rfl))
      | 5, _ => exact (hs _ (List.mem_of_getElem? (i := 181) rfl))
    | 7, _ =>
      intro j hj
      have hj : j < 6 := hj
      match j, hj with
      | 0, _ => exact (hs _ (List.mem_of_getElem? (i := 226) rfl))
      | 1, _ => exact (hs _ (List.mem_of_getElem? (i := 227) rfl))
      | 2, _ => exact (hs _ (List.mem_of_getElem? (i := 228) rfl))
      | 3, _ => exact (hs _ (List.mem_of_getElem? (i := 229) rfl))
      | 4, _ => exact (hs _ (List.mem_of_getElem? (i := 230) rfl))
      | 5, _ => exact (hs _ (List.mem_of_getElem? (i := 231) rfl))
    | 8, _ =>
      intro j hj
      have hj : j < 4 := hj
      match j, hj with
      | 0, _ => exact (hs _ (List.mem_of_getElem? (i := 192) rfl))
      | 1, _ => exact (hs _ (List.mem_of_getElem? (i := 193) rfl))
      | 2, _ => exact (hs _ (List.mem_of_getElem? (i := 194) rfl))
      | 3, _ => exact (hs _ (List.mem_of_getElem? (i := 195) rfl))
    | 9, _ =>
      intro j hj
      have hj : j < 7 := hj
      match j, hj with
      | 0, _ => exact (hs _ (List.mem_of_getElem? (i := 207) rfl))
      | 1, _ => exact (hs _ (List.mem_of_getElem? (i := 208) rfl))
      | 2, _ => exact (hs _ (List.mem_of_getElem? (i := 209) rfl))
      | 3, _ => exact (hs _ (List.mem_of_getElem? (i := 210) rfl))
      | 4, _ => exact (hs _ (List.mem_of_getElem? (i := 211) rfl))
      | 5, _ => exact (hs _ (List.mem_of_getElem? (i := 212) rfl))
      | 6, _ => exact (hs _ (List.mem_of_getElem? (i := 213) rfl))
  · intro i j hi hj hij
    match i, hi with
    | 0, _ =>
      match j, hj with
      | 0, _ => exact absurd rfl hij
      | 1, _ => exact Or.inl (hs _ (List.mem_of_getElem? (i := 116) rfl))
      | 2, _ => exact Or.inl (hs _ (List.mem_of_getElem? (i := 127) rfl))
      | 3, _ => exact Or.inl (hs _ (List.mem_of_getElem? (i := 141) rfl))
      | 4, _ => exact Or.inl (hs _ (List.mem_of_getElem? (i := 153) rfl))
      | 5, _ => exact Or.inl (hs _ (List.mem_of_getElem? (i := 167) rfl))
      | 6, _ => exact Or.inl (hs _ (List.mem_of_getElem? (i := 182) rfl))
      | 7, _ => exact Or.inl (hs _ (List.mem_of_getElem? (i := 232) rfl))
      | 8, _ => exact Or.inl (hs _ (List.mem_of_getElem? (i := 196) rfl))
      | 9, _ => exact Or.inl (hs _ (List.mem_of_getElem? (i := 214) rfl))
    | 1, _ =>
      match j, hj with
      | 0, _ => exact Or.inr (hs _ (List.mem_of_getElem? (i := 116) rfl))
      | 1, _ => exact absurd rfl hij
      | 2, _ => exact Or.inl (hs _ (List.mem_of_getElem? (i := 128) rfl))
      | 3, _ => exact Or.inl (hs _ (List.mem_of_getElem? (i := 142) rfl))
      | 4, _ => exact Or.inl (hs _ (List.mem_of_getElem? (i := 154) rfl))
      | 5, _ => exact Or.inl (hs _ (List.mem_of_getElem? (i := 168) rfl))
      | 6, _ => exact Or.inl (hs _ (List.mem_of_getElem? (i := 183) rfl))
      | 7, _ => exact Or.inl (hs _ (List.mem_of_getElem? (i := 233) rfl))
      | 8, _ => exact Or.inl (hs _ (List.mem_of_getElem? (i := 197) rfl))
      | 9, _ => exact Or.inl (hs _ (List.mem_of_getElem? (i := 215) rfl))
    | 2, _ =>
      match j, hj with
      | 0, _ => exact Or.inr (hs _ (List.mem_of_getElem? (i := 127) rfl))
      | 1, _ => exact Or.inr (hs _ (List.mem_of_getElem? (i := 128) rfl))
      | 2, _ => exact absurd rfl hij
      | 3, _ => exact Or.inl (hs _ (List.mem_of_getElem? (i := 143) rfl))
      | 4, _ => exact Or.inl (hs _ (List.mem_of_getElem? (i := 155) rfl))
      | 5, _ => exact Or.inl (hs _ (List.mem_of_getElem? (i := 169) rfl))
      | 6, _ => exact Or.inl (hs _ (List.mem_of_getElem? (i := 184) rfl))
      | 7, _ => exact Or.inl (hs _ (List.mem_of_getElem? (i := 234) rfl))
      | 8, _ => exact Or.inl (hs _ (List.mem_of_getElem? (i := 198) rfl))
      | 9, _ => exact Or.inl (hs _ (List.mem_of_getElem? (i := 216) rfl))
    | 3, _ =>
      match j, hj with
      | 0, _ => exact Or.inr (hs _ (List.mem_of_getElem? (i := 141) rfl))
      | 1, _ => exact Or.inr (hs _ (List.mem_of_getElem? (i := 142) rfl))
      | 2, _ => exact Or.inr (hs _ (List.mem_of_getElem? (i := 143) rfl))
      | 3, _ => exact absurd rfl hij
      | 4, _ => exact Or.inl (hs _ (List.mem_of_getElem? (i := 156) rfl))
      | 5, _ => exact Or.inl (hs _ (List.mem_of_getElem? (i := 170) rfl))
      | 6, _ => exact Or.inl (hs _ (List.mem_of_getElem? (i := 185) rfl))
      | 7, _ => exact Or.inl (hs _ (List.mem_of_getElem? (i := 235) rfl))
      | 8, _ => exact Or.inl (hs _ (List.mem_of_getElem? (i := 199) rfl))
      | 9, _ => exact Or.inl (hs _ (List.mem_of_getElem? (i := 217) rfl))
    | 4, _ =>
      match j, hj with
      | 0, _ => exact Or.inr (hs _ (List.mem_of_getElem? (i := 153) rfl))
      | 1, _ => exact Or.inr (hs _ (List.mem_of_getElem? (i := 154) rfl))
      | 2, _ => exact Or.inr (hs _ (List.mem_of_getElem? (i := 155) rfl))
      | 3, _ => exact Or.inr (hs _ (List.mem_of_getElem? (i := 156) rfl))
      | 4, _ => exact absurd rfl hij
      | 5, _ => exact Or.inl (hs _ (List.mem_of_getElem? (i := 171) rfl))
      | 6, _ => exact Or.inl (hs _ (List.mem_of_getElem? (i := 186) rfl))
      | 7, _ => exact Or.inl (hs _ (List.mem_of_getElem? (i := 236) rfl))
      | 8, _ => exact Or.inl (hs _ (List.mem_of_getElem? (i := 200) rfl))
      | 9, _ => exact Or.inl (hs _ (List.mem_of_getElem? (i := 218) rfl))
    | 5, _ =>
      match j, hj with
      | 0, _ => exact Or.inr (hs _ (List.mem_of_getElem? (i := 167) rfl))
      | 1, _ => exact Or.inr (hs _ (List.mem_of_getElem? (i := 168) rfl))
      | 2, _ => exact Or.inr (hs _ (List.mem_of_getElem? (i := 169) rfl))
      | 3, _ => exact Or.inr (hs _ (List.mem_of_getElem? (i := 170) rfl))
      | 4, _ => exact Or.inr (hs _ (List.mem_of_getElem? (i := 171) rfl))
      | 5, _ => exact absurd rfl hij
      | 6, _ => exact Or.inl (hs _ (List.mem_of_getElem? (i := 187) rfl))
      | 7, _ => exact Or.inl (hs _ (List.mem_of_getElem? (i := 237) rfl))
      | 8, _ => exact Or.inl (hs _ (List.mem_of_getElem? (i := 201) rfl))
      | 9, _ => exact Or.inl (hs _ (List.mem_of_getElem? (i := 219) rfl))
    | 6, _ =>
      match j, hj with
      | 0, _ => exact Or.inr (hs _ (List.mem_of_getElem? (i := 182) rfl))
      | 1, _ => exact Or.inr (hs _ (List.mem_of_getElem? (i := 183) rfl))
      | 2, _ => exact Or.inr (hs _ (List.mem_of_getElem? (i := 184) rfl))
      | 3, _ => exact Or.inr (hs _ (List.mem_of_getElem? (i := 185) rfl))
      | 4, _ => exact Or.inr (hs _ (List.mem_of_getElem? (i := 186) rfl))
      | 5, _ => exact Or.inr (hs _ (List.mem_of_getElem? (i := 187) rfl))
      | 6, _ => exact absurd rfl hij
      | 7, _ => exact Or.inl (hs _ (List.mem_of_getElem? (i := 238) rfl))
      | 8, _ => exact Or.inl (hs _ (List.mem_of_getElem? (i := 202) rfl))
      | 9, _ => exact Or.inl (hs _ (List.mem_of_getElem? (i := 220) rfl))
    | 7, _ =>
      match j, hj with
      | 0, _ => exact Or.inr (hs _ (List.mem_of_getElem? (i := 232) rfl))
      | 1, _ => exact Or.inr (hs _ (List.mem_of_getElem? (i := 233) rfl))
      | 2, _ => exact Or.inr (hs _ (List.mem_of_getElem? (i := 234) rfl))
      | 3, _ => exact Or.inr (hs _ (List.mem_of_getElem? (i := 235) rfl))
      | 4, _ => exact Or.inr (hs _ (List.mem_of_getElem? (i := 236) rfl))
      | 5, _ => exact Or.inr (hs _ (List.mem_of_getElem? (i := 237) rfl))
      | 6, _ => exact Or.inr (hs _ (List.mem_of_getElem? (i := 238) rfl))
      | 7, _ => exact absurd rfl hij
      | 8, _ => exact Or.inr (hs _ (List.mem_of_getElem? (i := 239) rfl))
      | 9, _ => exact Or.inr (hs _ (List.mem_of_getElem? (i := 240) rfl))
    | 8, _ =>
      match j, hj with
      | 0, _ => exact Or.inr (hs _ (List.mem_of_getElem? (i := 196) rfl))
      | 1, _ => exact Or.inr (hs _ (List.mem_of_getElem? (i := 197) rfl))
      | 2, _ => exact Or.inr (hs _ (List.mem_of_getElem? (i := 198) rfl))
      | 3, _ => exact Or.inr (hs _ (List.mem_of_getElem? (i := 199) rfl))
      | 4, _ => exact Or.inr (hs _ (List.mem_of_getElem? (i := 200) rfl))
      | 5, _ => exact Or.inr (hs _ (List.mem_of_getElem? (i := 201) rfl))
      | 6, _ => exact Or.inr (hs _ (List.mem_of_getElem? (i := 202) rfl))
      | 7, _ => exact Or.inl (hs _ (List.mem_of_getElem? (i := 239) rfl))
      | 8, _ => exact absurd rfl hij
      | 9, _ => exact Or.inl (hs _ (List.mem_of_getElem? (i := 221) rfl))
    | 9, _ =>
      match j, hj with
      | 0, _ => exact Or.inr (hs _ (List.mem_of_getElem? (i := 214) rfl))
      | 1, _ => exact Or.inr (hs _ (List.mem_of_getElem? (i := 215) rfl))
      | 2, _ => exact Or.inr (hs _ (List.mem_of_getElem? (i := 216) rfl))
      | 3, _ => exact Or.inr (hs _ (List.mem_of_getElem? (i := 217) rfl))
      | 4, _ => exact Or.inr (hs _ (List.mem_of_getElem? (i := 218) rfl))
      | 5, _ => exact Or.inr (hs _ (List.mem_of_getElem? (i := 219) rfl))
      | 6, _ => exact Or.inr (hs _ (List.mem_of_getElem? (i := 220) rfl))
      | 7, _ => exact Or.inl (hs _ (List.mem_of_getElem? (i := 240) rfl))
      | 8, _ => exact Or.inr (hs _ (List.mem_of_getElem? (i := 221) rfl))
      | 9, _ => exact absurd rfl hij
theorem st_R {own : String} {k : Nat} {tx : String} (h1 : (Cond.stringRef own k tx).before #[Value.ref b] s = true) (h2 : (Cond.exactly (Term.string own k) "java/lang/String").before #[Value.ref b] s = true) : ∃ sa, vk_R own k tx sa s := by
  obtain ⟨a, _, _, _, q1, -⟩ := Cond.exactly_spec (args := #[Value.ref b]) (first := s) (o := none) (s := s) (idx := []) h2
  exact ⟨a, vk_R.of h1 q1⟩
set_option maxRecDepth 100000 in
theorem st_at_59 : ∀ w ∈ vx_atS RX7 59 (a_En 1) a_nm, w ∈ lw_gd := by decide +kernel
theorem st_ot_59 : ∀ w ∈ Cond.classLink RX7 55 (a_En 1) :: Cond.initialized (a_En 1) :: vx_atS RX7 59 (a_En 1) a_nm, vx_ot w = true := by decide +kernel
set_option maxRecDepth 100000 in
theorem st_at_217 : ∀ w ∈ vx_atS RX7 217 (a_En 2) a_nm, w ∈ lw_gd := by decide +kernel
theorem st_ot_217 : ∀ w ∈ Cond.classLink RX7 213 (a_En 2) :: Cond.initialized (a_En 2) :: vx_atS RX7 217 (a_En 2) a_nm, vx_ot w = true := by decide +kernel
set_option maxRecDepth 100000 in
theorem st_at_346 : ∀ w ∈ vx_atS RX7 346 (a_En 0) a_nm, w ∈ lw_gd := by decide +kernel
theorem st_ot_346 : ∀ w ∈ Cond.classLink RX7 342 (a_En 0) :: Cond.initialized (a_En 0) :: vx_atS RX7 346 (a_En 0) a_nm, vx_ot w = true := by decide +kernel
def a_tT1 (G : aG) (e : Nat × Nat) : Prop := a_hh (e.1 % 512) = [] ∧ a_own (e.1 % 512) = 7 ∧ e.2 < 3 ∧ ∃ (ik is ic : Nat) (text : String) (sa : Nat), decode (a_c (e.1 % 512)) (e.1 / 512) = .ok (.new ik, 3) ∧ decode (a_c (e.1 % 512)) (e.1 / 512 + 3) = .ok (.dup, 1) ∧
  ((decode (a_c (e.1 % 512)) (e.1 / 512 + 4) = .ok (.ldc is, 2) ∧ decode (a_c (e.1 % 512)) (e.1 / 512 + 6) = .ok (.invokespecial ic, 3) ∧ decode (a_c (e.1 % 512)) (e.1 / 512 + 9) = .ok (.athrow, 1)) ∨ (decode (a_c (e.1 % 512)) (e.1 / 512 + 4) = .ok (.ldc_w is, 3) ∧ decode (a_c (e.1 % 512)) (e.1 / 512 + 7) = .ok (.invokespecial ic, 3) ∧ decode (a_c (e.1 % 512)) (e.1 / 512 + 10) = .ok (.athrow, 1))) ∧
  Cond.classLink RX7 ik (a_En e.2) ∈ lw_gd ∧ Cond.initialized (a_En e.2) ∈ lw_gd ∧ vk_R RX7 is text sa G.1 ∧ (∀ w ∈ vx_atS RX7 ic (a_En e.2) a_nm, w ∈ lw_gd) ∧ ∀ w ∈ Cond.classLink RX7 ik (a_En e.2) :: Cond.initialized (a_En e.2) :: vx_atS RX7 ic (a_En e.2) a_nm, vx_ot w = true
set_option maxHeartbeats 4000000 in
set_option maxRecDepth 100000 in
theorem st_T {G : aG} (hG : G.1 = s) (ht : ∀ w ∈ lw_tbl, w.before #[Value.ref b] s = true) (hs : ∀ w ∈ flatC (Jvm.Cond.and given_1 narrow_1), w.before #[Value.ref b] s = true) : a_tT G := by
  subst hG
  obtain ⟨z0, r0⟩ := st_R (own := RX7) (k := 57) (tx := "there are 4 stations") (ht _ (a_n4 (i := 65) rfl)) (hs _ (List.mem_of_getElem? (i := 282) rfl))
  have q0 : a_tT1 G (30306, 1) := ⟨rfl, rfl, by decide, 55, 57, 59, "there are 4 stations", z0, by decide +kernel, by decide +kernel, Or.inl ⟨by decide +kernel, by decide +kernel, by decide +kernel⟩, a_m4 (i := 56) rfl rfl, a_m1 (i := 15) rfl rfl, r0, st_at_59, st_ot_59⟩
  obtain ⟨z1, r1⟩ := st_R (own := RX7) (k := 104) (tx := "more frames are in use") (ht _ (a_n4 (i := 129) rfl)) (hs _ (List.mem_of_getElem? (i := 348) rfl))
  have q1 : a_tT1 G (10344, 1) := ⟨rfl, rfl, by decide, 55, 104, 59, "more frames are in use", z1, by decide +kernel, by decide +kernel, Or.inl ⟨by decide +kernel, by decide +kernel, by decide +kernel⟩, a_m4 (i := 56) rfl rfl, a_m1 (i := 15) rfl rfl, r1, st_at_59, st_ot_59⟩
  obtain ⟨z2, r2⟩ := st_R (own := RX7) (k := 165) (tx := "there are 40 records, or not enough memory") (ht _ (a_n5 (i := 70) rfl)) (hs _ (List.mem_of_getElem? (i := 387) rfl))
  have q2 : a_tT1 G (18037, 1) := ⟨rfl, rfl, by decide, 55, 165, 59, "there are 40 records, or not enough memory", z2, by decide +kernel, by decide +kernel, Or.inl ⟨by decide +kernel, by decide +kernel, by decide +kernel⟩, a_m4 (i := 56) rfl rfl, a_m1 (i := 15) rfl rfl, r2, st_at_59, st_ot_59⟩
  obtain ⟨z3, r3⟩ := st_R (own := RX7) (k := 215) (tx := "no such frame") (ht _ (a_n5 (i := 117) rfl)) (hs _ (List.mem_of_getElem? (i := 480) rfl))
  have q3 : a_tT1 G (14972, 2) := ⟨rfl, rfl, by decide, 213, 215, 217, "no such frame", z3, by decide +kernel, by decide +kernel, Or.inl ⟨by decide +kernel, by decide +kernel, by decide +kernel⟩, a_m4 (i := 85) rfl rfl, a_m1 (i := 16) rfl rfl, r3, st_at_217, st_ot_217⟩
  obtain ⟨z4, r4⟩ := st_R (own := RX7) (k := 236) (tx := "the present time would be greater than 20000") (ht _ (a_n5 (i := 156) rfl)) (hs _ (List.mem_of_getElem? (i := 513) rfl))
  have q4 : a_tT1 G (11907, 1) := ⟨rfl, rfl, by decide, 55, 236, 59, "the present time would be greater than 20000", z4, by decide +kernel, by decide +kernel, Or.inl ⟨by decide +kernel, by decide +kernel, by decide +kernel⟩, a_m4 (i := 56) rfl rfl, a_m1 (i := 15) rfl rfl, r4, st_at_59, st_ot_59⟩
  obtain ⟨z5, r5⟩ := st_R (own := RX7) (k := 312) (tx := "the text would be longer than 400 bytes") (ht _ (a_n6 (i := 114) rfl)) (hs _ (List.mem_of_getElem? (i := 636) rfl))
  have q5 : a_tT1 G (5272, 1) := ⟨rfl, rfl, by decide, 55, 312, 59, "the text would be longer than 400 bytes", z5, by decide +kernel, by decide +kernel, Or.inr ⟨by decide +kernel, by decide +kernel, by decide +kernel⟩, a_m4 (i := 56) rfl rfl, a_m1 (i := 15) rfl rfl, r5, st_at_59, st_ot_59⟩
  obtain ⟨z6, r6⟩ := st_R (own := RX7) (k := 340) (tx := "nothing is saved there") (ht _ (a_n6 (i := 140) rfl)) (hs _ (List.mem_of_getElem? (i := 698) rfl))
  have q6 : a_tT1 G (8862, 1) := ⟨rfl, rfl, by decide, 55, 340, 59, "nothing is saved there", z6, by decide +kernel, by decide +kernel, Or.inr ⟨by decide +kernel, by decide +kernel, by decide +kernel⟩, a_m4 (i := 56) rfl rfl, a_m1 (i := 15) rfl rfl, r6, st_at_59, st_ot_59⟩
  obtain ⟨z7, r7⟩ := st_R (own := RX7) (k := 344) (tx := "an argument is out of range") (ht _ (a_n4 (i := 20) rfl)) (hs _ (List.mem_of_getElem? (i := 241) rfl))
  have q7 : a_tT1 G (4768, 0) := ⟨rfl, rfl, by decide, 342, 344, 346, "an argument is out of range", z7, by decide +kernel, by decide +kernel, Or.inr ⟨by decide +kernel, by decide +kernel, by decide +kernel⟩, a_m3 (i := 219) rfl rfl, a_m1 (i := 14) rfl rfl, r7, st_at_346, st_ot_346⟩
  obtain ⟨z8, r8⟩ := st_R (own := RX7) (k := 347) (tx := "no such station") (ht _ (a_n4 (i := 94) rfl)) (hs _ (List.mem_of_getElem? (i := 317) rfl))
  have q8 : a_tT1 G (10402, 2) := ⟨rfl, rfl, by decide, 213, 347, 217, "no such station", z8, by decide +kernel, by decide +kernel, Or.inr ⟨by decide +kernel, by decide +kernel, by decide +kernel⟩, a_m4 (i := 85) rfl rfl, a_m1 (i := 16) rfl rfl, r8, st_at_217, st_ot_217⟩
  obtain ⟨z9, r9⟩ := st_R (own := RX7) (k := 349) (tx := "no such record") (ht _ (a_n5 (i := 83) rfl)) (hs _ (List.mem_of_getElem? (i := 447) rfl))
  have q9 : a_tT1 G (8867, 2) := ⟨rfl, rfl, by decide, 213, 349, 217, "no such record", z9, by decide +kernel, by decide +kernel, Or.inr ⟨by decide +kernel, by decide +kernel, by decide +kernel⟩, a_m4 (i := 85) rfl rfl, a_m1 (i := 16) rfl rfl, r9, st_at_217, st_ot_217⟩
  obtain ⟨z10, r10⟩ := st_R (own := RX7) (k := 354) (tx := "no such contact, or it was forgotten") (ht _ (a_n6 (i := 5) rfl)) (hs _ (List.mem_of_getElem? (i := 578) rfl))
  have q10 : a_tT1 G (5796, 2) := ⟨rfl, rfl, by decide, 213, 354, 217, "no such contact, or it was forgotten", z10, by decide +kernel, by decide +kernel, Or.inr ⟨by decide +kernel, by decide +kernel, by decide +kernel⟩, a_m4 (i := 85) rfl rfl, a_m1 (i := 16) rfl rfl, r10, st_at_217, st_ot_217⟩
  have hall : ∀ e ∈ a_thrl, a_tT1 G e := List.forall_mem_cons.mpr ⟨q0, List.forall_mem_cons.mpr ⟨q1, List.forall_mem_cons.mpr ⟨q2, List.forall_mem_cons.mpr ⟨q3, List.forall_mem_cons.mpr ⟨q4, List.forall_mem_cons.mpr ⟨q5, List.forall_mem_cons.mpr ⟨q6, List.forall_mem_cons.mpr ⟨q7, List.forall_mem_cons.mpr ⟨q8, List.forall_mem_cons.mpr ⟨q9, List.forall_mem_cons.mpr ⟨q10, fun _ h => absurd h List.not_mem_nil⟩⟩⟩⟩⟩⟩⟩⟩⟩⟩⟩
  exact hall
theorem st_AO {G : aG} (hG : G.1 = s) (ht : ∀ w ∈ lw_tbl, w.before #[Value.ref b] s = true) : a_tAO G := by
  subst hG
  intro si hsi h5
  have : ∀ s, s < 33 → (a_sk s).1 = 5 → s = 11 ∨ s = 12 ∨ s = 16 ∨ s = 22 := by decide
  rcases this si hsi h5 with rfl | rfl | rfl | rfl
  · exact va_AO.of (ht _ (a_n1 (i := 154) rfl))
  · exact va_AO.of (ht _ (a_n1 (i := 156) rfl))
  · exact va_AO.of (ht _ (a_n1 (i := 45) rfl))
  · exact va_AO.of (ht _ (a_n2 (i := 99) rfl))
theorem st_Nc {G : aG} (hG : G.1 = s) (hs : ∀ w ∈ flatC (Jvm.Cond.and given_1 narrow_1), w.before #[Value.ref b] s = true) : a_tNc G := by
  subst hG
  intro i j hi hj hij
  match i, hi with
  | 0, _ =>
    match j, hj with
    | 0, _ => exact absurd rfl hij
    | 1, _ => exact va_Nc.of (hs _ (List.mem_of_getElem? (i := 31) rfl))
    | 2, _ => exact va_Nc.of (hs _ (List.mem_of_getElem? (i := 42) rfl))
  | 1, _ =>
    match j, hj with
    | 0, _ => exact va_Nc.of (hs _ (List.mem_of_getElem? (i := 20) rfl))
    | 1, _ => exact absurd rfl hij
    | 2, _ => exact va_Nc.of (hs _ (List.mem_of_getElem? (i := 43) rfl))
  | 2, _ =>
    match j, hj with
    | 0, _ => exact va_Nc.of (hs _ (List.mem_of_getElem? (i := 21) rfl))
    | 1, _ => exact va_Nc.of (hs _ (List.mem_of_getElem? (i := 32) rfl))
    | 2, _ => exact absurd rfl hij
set_option maxHeartbeats 4000000 in
set_option maxRecDepth 100000 in
/-- what the law's start gives -/
theorem a_begin {p : Program} {m : MethodId} {meth : Method} {c : Code} {L : Nat} {xs : Nat → Int32} (l : Launch) (hflags : l.flags = flags0) (C0 : lw_At p s m meth c b L xs) : ∃ (G : aG) (z : List Int32), G.1 = s ∧ G.2.2.2.1 = b ∧ G.2.2.2.2.1 = L ∧ G.2.2.2.2.2.2.1 = xs ∧ G.2.2.2.2.2.2.2.2.2 = a_sbl z ∧ a_G l G ∧ (∀ w ∈ lw_gd, ∃ a0, w.before a0 G.1 = true) ∧ a_tAll G := by
  obtain ⟨hx, hb, hr, hml, hown, ht, hX, hbl, hlocks, hgv, -, -⟩ := C0
  have hs := flat_of_before _ hgv
  have hA : ∀ a : Nat, a < s.heap.size → ¬ a_A s a := fun a ha => Nat.not_le.mpr ha
  obtain ⟨D, tyc, hK⟩ := st_K ht
  have hz1 : vx_Zq Bundle.tN "UNASSIGNED_STACK" Bundle.steD (a_A s) s s.heap := vx_Zqof (ht _ (a_n4 (i := 6) rfl)) (ht _ (a_n1 (i := 11) rfl)) (hs _ (List.mem_of_getElem? (i := 9) rfl)) hA
  have hz2 : vx_Zq Bundle.tN "SUPPRESSED_SENTINEL" Bundle.listD (a_A s) s s.heap := vx_Zqof (ht _ (a_n4 (i := 8) rfl)) (ht _ (a_n1 (i := 11) rfl)) (hs _ (List.mem_of_getElem? (i := 10) rfl)) hA
  have hcs : va_Z "java/lang/String" "COMPACT_STRINGS" "Z" (.int 1) (a_A s) s s.heap := va_Zof (ht _ (a_n3 (i := 26) rfl)) (ht _ (a_n1 (i := 20) rfl)) (va_eqi (hs _ (List.mem_of_getElem? (i := 4) rfl))) hA
  have hfm : va_Zq "jdk/internal/util/Preconditions" "SIOOBE_FORMATTER" "Ljava/util/function/BiFunction;" (a_A s) s s.heap := va_Zqof (ht _ (a_n3 (i := 42) rfl)) (ht _ (a_n1 (i := 22) rfl)) (hs _ (List.mem_of_getElem? (i := 5) rfl)) hA
  have hfl : l.stackTraces = false := by
    unfold Launch.stackTraces
    rw [hflags]
    decide +kernel
  have mk : ∀ (z : List Int32) (fm : Nat), va_Z "jdk/internal/util/Preconditions" "SIOOBE_FORMATTER" "Ljava/util/function/BiFunction;" (match a_fz (a_sbl z) with | none => .null | some _ => .ref fm) (a_A s) s s.heap → ∃ (G : aG) (z : List Int32), G.1 = s ∧ G.2.2.2.1 = b ∧ G.2.2.2.2.1 = L ∧ G.2.2.2.2.2.2.1 = xs ∧ G.2.2.2.2.2.2.2.2.2 = a_sbl z ∧ a_G l G ∧ (∀ w ∈ lw_gd, ∃ a0, w.before a0 G.1 = true) ∧ a_tAll G := by
    intro z fm hf
    obtain ⟨adK, adV, hS, hev⟩ := st_S (b := b) z hs
    have hR : ∀ i, i < 10 → vk_R RX3 (a_sik i) (a_stx i) (adK i) s := by
      intro i hi
      have h2 := hev i hi
      match i, hi with
      | 0, _ => exact vk_R.of (ht _ (a_n3 (i := 12) rfl)) h2
      | 1, _ => exact vk_R.of (ht _ (a_n3 (i := 89) rfl)) h2
      | 2, _ => exact vk_R.of (ht _ (a_n3 (i := 108) rfl)) h2
      | 3, _ => exact vk_R.of (ht _ (a_n3 (i := 113) rfl)) h2
      | 4, _ => exact vk_R.of (ht _ (a_n3 (i := 118) rfl)) h2
      | 5, _ => exact vk_R.of (ht _ (a_n3 (i := 123) rfl)) h2
      | 6, _ => exact vk_R.of (ht _ (a_n3 (i := 129) rfl)) h2
      | 7, _ => exact vk_R.of (ht _ (a_n3 (i := 136) rfl)) h2
      | 8, _ => exact vk_R.of (ht _ (a_n3 (i := 134) rfl)) h2
      | 9, _ => exact vk_R.of (ht _ (a_n3 (i := 135) rfl)) h2
    refine ⟨(s, D, tyc, b, L, fm, xs, adK, adV, a_sbl z), z, rfl, rfl, rfl, rfl, rfl, ⟨hfl, hK, ⟨hz1, hz2⟩, ⟨hX, hbl⟩, hS, hR, hcs, hf⟩, fun w hw => ⟨_, ht w (List.mem_filter.mp hw).1⟩, a_tC_ok, a_tL_ok, a_tG_ok, a_tCls_ok, a_tF_ok, a_tI_ok, a_tS_ok, st_T rfl ht hs, st_AO rfl ht, a_tH_ok, st_Nc rfl hs, a_tCall_ok, a_tIns_ok⟩
  rcases hfm with hfm | ⟨fm, hfm⟩
  · exact mk [] 0 hfm
  · exact mk [1] fm hfm
end
