/-! ===== rows of instructions: calls ===== -/
/-- what the tables say of an entry of the pool that names a method -/
def a_CE (kd cc idx g : Nat) : Prop := match kd with
  | 3 => Cond.methodLink (a_Rn cc) idx objectInit ∈ lw_gd ∧ Cond.instanceMethod objectInit ∈ lw_gd ∧ Cond.code objectInit ⟨#[0xb1]⟩ 1 none ∈ lw_gd
  | 4 => Cond.methodLink (a_Rn cc) idx arraycopyName ∈ lw_gd ∧ Cond.native arraycopyName ∈ lw_gd ∧ Cond.static arraycopyName ∈ lw_gd ∧ Cond.initialized "java/lang/System" ∈ lw_gd
  | 9 => Cond.methodLink (a_Rn cc) idx Lib.Math.abs.name ∈ lw_gd ∧ Cond.static Lib.Math.abs.name ∈ lw_gd ∧ Cond.initialized "java/lang/Math" ∈ lw_gd ∧ Cond.code Lib.Math.abs.name Lib.Math.abs.code 1 (some .int) ∈ lw_gd
  | 10 => Cond.methodLink (a_Rn cc) idx Lib.Math.min.name ∈ lw_gd ∧ Cond.static Lib.Math.min.name ∈ lw_gd ∧ Cond.initialized "java/lang/Math" ∈ lw_gd ∧ Cond.code Lib.Math.min.name Lib.Math.min.code 2 (some .int) ∈ lw_gd
  | 11 => Cond.methodLink (a_Rn cc) idx Lib.Math.max.name ∈ lw_gd ∧ Cond.static Lib.Math.max.name ∈ lw_gd ∧ Cond.initialized "java/lang/Math" ∈ lw_gd ∧ Cond.code Lib.Math.max.name Lib.Math.max.code 2 (some .int) ∈ lw_gd
  | 0 => a_mk0 g ∧ (1 ≤ a_na g ∧ (parseMethodDescriptor (a_y g).desc).map (fun d => d.parameters.length) = some (a_na g - 1)) ∧ Cond.code (a_y g) (a_c g) (a_ml g) (a_rt g) ∈ lw_gd ∧ a_hh g = [] ∧ Cond.methodLink (a_Rn cc) idx (a_y g) ∈ lw_gd ∧ Cond.instanceMethod (a_y g) ∈ lw_gd ∧ Cond.selects (a_Rn (a_own g)) (a_y g) (a_y g) ∈ lw_gd
  | 8 => a_mk0 g ∧ (1 ≤ a_na g ∧ (parseMethodDescriptor (a_y g).desc).map (fun d => d.parameters.length) = some (a_na g - 1)) ∧ Cond.code (a_y g) (a_c g) (a_ml g) (a_rt g) ∈ lw_gd ∧ a_hh g = [] ∧ Cond.methodLink (a_Rn cc) idx (a_y g) ∈ lw_gd ∧ Cond.instanceMethod (a_y g) ∈ lw_gd ∧ Cond.selects (a_Rn (a_own g)) (a_y g) (a_y g) ∈ lw_gd
  | 1 => a_mk0 g ∧ (parseMethodDescriptor (a_y g).desc).map (fun d => d.parameters.length) = some (a_na g) ∧ Cond.code (a_y g) (a_c g) (a_ml g) (a_rt g) ∈ lw_gd ∧ a_hh g = [] ∧ Cond.methodLink (a_Rn cc) idx (a_y g) ∈ lw_gd ∧ Cond.static (a_y g) ∈ lw_gd
  | 5 => a_mk0 g ∧ (parseMethodDescriptor (a_y g).desc).map (fun d => d.parameters.length) = some (a_na g) ∧ Cond.codeWith (a_y g) (a_c g) (a_ml g) (a_rt g) (a_hh g) ∈ lw_gd ∧ Cond.methodLink (a_Rn cc) idx (a_y g) ∈ lw_gd ∧ Cond.static (a_y g) ∈ lw_gd
  | 2 => a_mk0 g ∧ (1 ≤ a_na g ∧ (parseMethodDescriptor (a_y g).desc).map (fun d => d.parameters.length) = some (a_na g - 1)) ∧ Cond.code (a_y g) (a_c g) (a_ml g) (a_rt g) ∈ lw_gd ∧ a_hh g = [] ∧ Cond.methodLink (a_Rn cc) idx (a_y g) ∈ lw_gd ∧ Cond.instanceMethod (a_y g) ∈ lw_gd ∧ (a_y g).name = "<init>" ∧ a_rt g = none
  | 6 => a_mk0 g ∧ (1 ≤ a_na g ∧ (parseMethodDescriptor (a_y g).desc).map (fun d => d.parameters.length) = some (a_na g - 1)) ∧ Cond.code (a_y g) (a_c g) (a_ml g) (a_rt g) ∈ lw_gd ∧ a_hh g = [] ∧ Cond.methodLinkNest (a_Rn cc) idx (a_y g) RX7 ∈ lw_gd ∧ Cond.instanceMethod (a_y g) ∈ lw_gd ∧ (a_y g).name = "<init>" ∧ a_rt g = none
  | 7 => a_mk0 g ∧ (parseMethodDescriptor (a_y g).desc).map (fun d => d.parameters.length) = some (a_na g) ∧ Cond.code (a_y g) (a_c g) (a_ml g) (a_rt g) ∈ lw_gd ∧ a_hh g = [] ∧ Cond.methodLinkNest (a_Rn cc) idx (a_y g) RX7 ∈ lw_gd ∧ Cond.static (a_y g) ∈ lw_gd
  | _ => False
def a_tCall : Prop := ∀ e ∈ a_cpMl, a_CE e.2.2 (e.1 % 16) (e.1 / 16) e.2.1
theorem a_par {y : MethodName} {n : Nat} (h : (parseMethodDescriptor y.desc).map (fun d => d.parameters.length) = some n) : ∀ sig, parseMethodDescriptor y.desc = some sig → n = sig.parameters.length := by
  intro sig hs
  rw [hs] at h
  exact (Option.some.inj h).symm
section
variable {p : Program} {l : Launch} {e : Env} {R : Room} {s : State} {m : MethodId} {args : Array Value} {below : List Frame} {meth : Method} {c : Code}
variable {G : aG} {f n g : Nat} {al0 : Nat → Nat → Nat} {M0 : aM} {o o1 : aO}
variable {al : Nat → Nat → Nat} {H : Heap} {locs : List Loc} {lsA : Array Slot} {pc : Nat} {ls : List (Option aV)} {st rest as : List aV} {M : aM}
theorem a_cats (al : Nat → Nat → Nat) (st : List aV) : ((st.map (cv al)).map fun v => v.category).sum = a_cs st := by
  unfold a_cs
  rw [List.map_map]
  congr 1
  apply List.map_congr_left
  intro v _
  exact cv_cat al v
theorem a_pre (hB : a_B f p s m args meth c R G) (J : a_J f s G M0.2.2.2.2.1 M0.2.2.2.2.2 al H locs lsA (pc, ls, st, M)) : ∀ U : State, U.heap = H → s.WarmedH U.vm → a_Pc G al M as (as.map (cv al)).toArray U := by
  intro U hU hW
  have hS := J.2.2.2.1
  refine ⟨rfl, State.WarmedH.trans hB.warm hW, fun q hq => ?_, ?_, by rw [hU]; exact J.1, J.2.1, J.2.2.1⟩
  · rw [hU, hS.2.1 q (Nat.lt_of_lt_of_le hq hB.size) (Nat.not_le.mpr hq)]
    exact hB.low q hq (Nat.not_le.mpr hq)
  · rw [hU]
    exact Nat.le_trans hB.size hS.1
theorem a_cb {idx mc ms k : Nat} (hB : a_B f p s m args meth c R G) (hg : a_mk0 g) (hpar : (parseMethodDescriptor (a_y g).desc).map (fun d => d.parameters.length) = some k) (hcode : Cond.code (a_y g) (a_c g) (a_ml g) (a_rt g) ∈ lw_gd) (hlink : Cond.methodLink (a_Rn (a_own f)) idx (a_y g) ∈ lw_gd) (hF : a_rF g + 1 ≤ a_rF f) (hL : 8 + (a_ml g + 11) + a_rL g ≤ a_rL f) :
    CallB R s args (a_Rn (a_own f)) idx (a_y g) (a_c g) (a_ml g) (a_rt g) [Cond.code (a_y g) (a_c g) (a_ml g) (a_rt g)] (a_rm g mc ms) mc ms k :=
  ⟨rfl, rfl, Nat.le_trans hF hB.2.2.2.2.2.2.2.2.2.1, Nat.le_trans hL hB.2.2.2.2.2.2.2.2.2.2.1, fun w hw a' U hW => by rw [List.mem_singleton.mp hw]; exact a_gw_at hW (List.mem_filter.mp hcode).2 (hB.tbl _ hcode), List.mem_cons_self, hB.tbl _ hcode, hB.tbl _ hg.2.2.2.1, hg.2.2.1, a_par hpar, hB.tbl _ hlink⟩
theorem a_cn {idx mc ms k : Nat} (hB : a_B f p s m args meth c R G) (hg : a_mk0 g) (hpar : (parseMethodDescriptor (a_y g).desc).map (fun d => d.parameters.length) = some k) (hcode : Cond.code (a_y g) (a_c g) (a_ml g) (a_rt g) ∈ lw_gd) (hlink : Cond.methodLinkNest (a_Rn (a_own f)) idx (a_y g) RX7 ∈ lw_gd) (hF : a_rF g + 1 ≤ a_rF f) (hL : 8 + (a_ml g + 11) + a_rL g ≤ a_rL f) :
    va_CN R s args (a_Rn (a_own f)) idx (a_y g) RX7 (a_c g) (a_ml g) (a_rt g) [Cond.code (a_y g) (a_c g) (a_ml g) (a_rt g)] (a_rm g mc ms) mc ms k :=
  ⟨⟨rfl, rfl, Nat.le_trans hF hB.2.2.2.2.2.2.2.2.2.1, Nat.le_trans hL hB.2.2.2.2.2.2.2.2.2.2.1, fun w hw a' U hW => by rw [List.mem_singleton.mp hw]; exact a_gw_at hW (List.mem_filter.mp hcode).2 (hB.tbl _ hcode), List.mem_cons_self⟩, hB.tbl _ hcode, hB.tbl _ hg.2.2.2.1, hg.2.2.1, a_par hpar, hB.tbl _ hlink⟩
theorem a_fix (hB : a_B f p s m args meth c R G) : CallFix p m c (a_c f) (a_ml f) s args lw_gd (a_Rn (a_own f)) := ⟨hB.1, hB.2.1, hB.2.2.1, hB.own, hB.tbl⟩
/-- the receiver's cell -/
theorem a_recv (hG : a_G l G) (hB : a_B f p s m args meth c R G) (J : a_J f s G M0.2.2.2.2.1 M0.2.2.2.2.2 al H locs lsA (pc, ls, st, M)) (tCls : a_tCls) {nn : aN} (hn : a_okn M nn) (h0 : (a_sk nn.1).1 = 0) : ∃ cellB : Cell, H[al nn.1 nn.2]? = some cellB ∧ cellB.vm.isStatics = false ∧ s.vm.findClass (a_Rn (a_sk nn.1).2.1) = some cellB.cls := by
  rcases hn with ⟨h4, hkc⟩ | ⟨h4, hq⟩
  · rcases a_kc_of h4 hkc with rfl | ⟨i, hi, rfl⟩ | ⟨i, hi, rfl⟩ | rfl
    · cases h0
    · have hv := vk_recv (vk_S.kept (vk_S.moved hB.warm.alike hG.2.2.2.2.1) hB.low) hi J.2.2.2.1
      rw [(J.2.2.1.2.1 i hi).1]
      exact hv
    · cases h0
    · cases h0
  · obtain ⟨LP, fE, hP, hD, hal, hin⟩ := J.1
    obtain ⟨q0, hq0⟩ := a_HR.at (D := G.2.1) (s0 := G.1) hal h4 hq
    rw [a_ce_obj h0] at hq0
    obtain ⟨C, T, hcl⟩ := a_sk_obj h0 h4
    obtain ⟨hC, -⟩ := tCls _ C T _ hcl
    have := va_recv (hB.K hG) hP hcl hq0
    rw [← hC]
    exact this
theorem a_toX {Qa : State → Outcome → State → Prop} {XC : String → State → State → Prop} {mc ms cells slots : Nat} {gg : JFrame} {rr : List Value} {free : Addr → Prop} (h : va_Run p l e R s m args below meth c H locs cells slots mc ms gg rr Qa free) : vx_Run p l e R s m args below meth c H locs cells slots mc ms gg rr Qa XC free := fun T hT X => Or.inl (h T hT X)
/-- the stack before a call -/
theorem a_stack {k : Nat} (hk : k ≤ st.length) : st.map (cv al) = (((st.take k).reverse).map (cv al)).reverse ++ (st.drop k).map (cv al) := by
  rw [← List.map_reverse, List.reverse_reverse, ← List.map_append, List.take_append_drop]
theorem a_bkE {r : Option aV ⊕ Nat} {M1 : aM} {x : aS} {k : aS → Option aO} (h : a_bk f g x (r, M1) k = some o) (hn : a_nt g = true) : ∃ rv, r = .inl rv := by
  rcases r with rv | ex
  · exact ⟨rv, rfl⟩
  · simp only [a_bk] at h
    rw [hn] at h
    cases h
set_option maxHeartbeats 4000000 in
/-- a call of a method of the tables -/
theorem a_inv {idx op kd : Nat} {ig : Instr} (hG : a_G l G) (hW0 : ∀ w ∈ lw_gd, ∃ a0, w.before a0 G.1 = true) (hS : a_Snd l G n) (tCls : a_tCls) (tH : a_tH) (tNc : a_tNc G) (tE : ∀ g as M o1, a_run n g (a_en g as M) = some o1 → ∀ ex, o1.1 = .inr ex → ex < 3) (hf : f < 355) (hB : a_B f p s m args meth c R G) (hop : (op = 0 ∧ ig = .invokevirtual idx) ∨ (op = 1 ∧ ig = .invokestatic idx) ∨ (op = 2 ∧ ig = .invokespecial idx)) (hd : decode (a_c f) pc = .ok (ig, 3))
    (J : a_J f s G M0.2.2.2.2.1 M0.2.2.2.2.2 al H locs lsA (pc, ls, st, M)) (hCE : a_CE kd (a_own f) idx g) (hko : a_ko kd = op) (hml : a_na g ≤ a_ml g) (hsl : a_na g ≤ st.length) (hF : a_rF g + 1 ≤ a_rF f) (hL : 8 + (a_ml g + 11) + a_rL g ≤ a_rL f) (hcs : a_cs (st.drop (a_na g)) ≤ 8) (hcat : ∀ v ∈ st.take (a_na g), a_cat v = 1)
    (hrc : (kd = 0 ∨ kd = 8 → a_rcv g (st.take (a_na g)).reverse = true) ∧ (kd = 2 ∨ kd = 6 → a_nnl (st.take (a_na g)).reverse = true ∧ a_nt g = true) ∧ (kd = 7 → a_nt g = true))
    (hrun : a_run n g (a_en g (st.take (a_na g)).reverse M) = some o1) (hback : a_bk f g (pc, ls, st.drop (a_na g), M) o1 (a_run n f) = some o) (hRo : o.2.2.2.2.2.1 - M0.2.2.2.2.1 ≤ R.cells ∧ o.2.2.2.2.2.2 - M0.2.2.2.2.2 ≤ R.slots) (hRo1 : o1.2.2.2.2.2.1 - M0.2.2.2.2.1 ≤ R.cells ∧ o1.2.2.2.2.2.2 - M0.2.2.2.2.2 ≤ R.slots) (hx0 : a_ext al0 al M0) (hm0 : ∀ s, M0.2.2.2.1 s ≤ M.2.2.2.1 s) :
    a_T p l e R s m args below meth c M0.2.2.2.2.1 M0.2.2.2.2.2 (a_Q G al0 M0 o below args s M0.2.2.2.2.1 M0.2.2.2.2.2) al H locs lsA (pc, ls, st, M) := by
  have hle : a_le M o1.2 := a_run_mono n g _ o1 hrun
  have hc0 : M0.2.2.2.2.1 ≤ M.2.2.2.2.1 := J.2.2.2.2.2.2.1
  have hk0 : M0.2.2.2.2.2 ≤ M.2.2.2.2.2 := J.2.2.2.2.2.2.2
  have hrest : ∀ v ∈ st.drop (a_na g), a_okv M v := fun v hv => J.2.2.2.2.2.1 v (List.mem_of_mem_drop hv)
  have hasl : (st.take (a_na g)).reverse.length = a_na g := by rw [List.length_reverse, List.length_take]; omega
  have hasok : ∀ v ∈ (st.take (a_na g)).reverse, a_okv M v := fun v hv => J.2.2.2.2.2.1 v (List.mem_of_mem_take (List.mem_reverse.mp hv))
  have hascat : ∀ v ∈ (st.take (a_na g)).reverse, a_cat v = 1 := fun v hv => hcat v (List.mem_reverse.mp hv)
  have hroom : M.2.2.2.2.1 - M0.2.2.2.2.1 + (o1.2.2.2.2.2.1 - M.2.2.2.2.1) ≤ R.cells ∧ M.2.2.2.2.2 - M0.2.2.2.2.2 + (o1.2.2.2.2.2.2 - M.2.2.2.2.2) ≤ R.slots := by
    have h1 := hle.1
    have h2 := hle.2.1
    omega
  have hst := a_stack (al := al) hsl
  have hls : lsA.size = a_ml f := J.2.2.2.2.1.1
  have hwd : 2 * (F0 m pc lsA (st.map (cv al))).monitorRoom + (((st.drop (a_na g)).map (cv al)).map fun v => v.category).sum ≤ 8 := lv_room (by rw [a_cats]; exact hcs)
  refine a_goes (A := (((st.take (a_na g)).reverse).map (cv al)).toArray) hS tH tNc tE hf hB J hrun hback hrest hRo hx0 hm0 ?_
  have hpre := a_pre (as := (st.take (a_na g)).reverse) hB J
  generalize hase : (st.take (a_na g)).reverse = as at *
  generalize hre : st.drop (a_na g) = rest at *
  have hhd : ∀ (P : Prop), a_nnl as = true → (∀ nn as', as = .inr (.inr (some nn)) :: as' → P) → P := by
    intro P h1 h2
    unfold a_nnl at h1
    split at h1
    · next nn as' => exact h2 nn as' rfl
    · cases h1
  have hvirt : (kd = 0 ∨ kd = 8) → op = 0 → (a_mk0 g ∧ (1 ≤ a_na g ∧ (parseMethodDescriptor (a_y g).desc).map (fun d => d.parameters.length) = some (a_na g - 1)) ∧ Cond.code (a_y g) (a_c g) (a_ml g) (a_rt g) ∈ lw_gd ∧ a_hh g = [] ∧ Cond.methodLink (a_Rn (a_own f)) idx (a_y g) ∈ lw_gd ∧ Cond.instanceMethod (a_y g) ∈ lw_gd ∧ Cond.selects (a_Rn (a_own g)) (a_y g) (a_y g) ∈ lw_gd) → vx_Run p l e R s m args below meth c H locs (M.2.2.2.2.1 - M0.2.2.2.2.1) (M.2.2.2.2.2 - M0.2.2.2.2.2) (o1.2.2.2.2.2.1 - M.2.2.2.2.1) (o1.2.2.2.2.2.2 - M.2.2.2.2.2) (F0 m pc lsA (st.map (cv al))) (rest.map (cv al)) (a_Qc G al M o1 (as.map (cv al)).toArray) (a_XC G al M o1) (a_A G.1) := by
    rintro hkd hop0 ⟨hg, ⟨h1n, hpar⟩, hcode, hhh, hlink, hinst, hsel⟩
    have hig : ig = .invokevirtual idx := by
      rcases hop with ⟨-, h⟩ | ⟨h, -⟩ | ⟨h, -⟩
      · exact h
      · omega
      · omega
    have hr := hrc.1 hkd
    unfold a_rcv at hr
    split at hr
    · next nn as' =>
      obtain ⟨b1, b2⟩ := a_and hr
      have b1 := a_beq b1
      have b2 := a_beq b2
      have hM := a_met hW0 hS hg hhh hrun (by omega) hasok hascat (al := al)
      have hrcv := a_recv hG hB J tCls (nn := nn) (hasok _ List.mem_cons_self) b1
      rw [b2] at hrcv
      rw [hig] at hd
      exact vx_runV (As := as'.map (cv al)) (rest := rest.map (cv al)) (b := al nn.1 nn.2) (a_fix hB) hM ⟨a_cb hB hg hpar hcode hlink hF hL, hB.tbl _ hinst, hB.tbl _ hsel⟩ ⟨a_Pc_blind, hrcv, hpre⟩ rfl (by rw [List.length_map]; simp only [List.length_cons] at hasl; omega) hls (by rw [hst]; simp [cv]) hwd hd hroom
    · cases hr
  have hinit : (kd = 2 ∨ kd = 6) → op = 2 → ∃ nn as', as = .inr (.inr (some nn)) :: as' ∧ ig = .invokespecial idx ∧ ∃ rv, o1.1 = .inl rv := by
    intro hkd hop2
    have hig : ig = .invokespecial idx := by
      rcases hop with ⟨h, -⟩ | ⟨h, -⟩ | ⟨-, h⟩
      · omega
      · omega
      · exact h
    obtain ⟨r1, r2⟩ := hrc.2.1 hkd
    refine hhd _ r1 (fun nn as' hz => ⟨nn, as', hz, hig, ?_⟩)
    exact a_bkE hback r2
  unfold a_CE at hCE
  split at hCE
  · exact absurd hko (by rcases hop with ⟨h, -⟩ | ⟨h, -⟩ | ⟨h, -⟩ <;> rw [h] <;> decide)
  · exact absurd hko (by rcases hop with ⟨h, -⟩ | ⟨h, -⟩ | ⟨h, -⟩ <;> rw [h] <;> decide)
  · exact absurd hko (by rcases hop with ⟨h, -⟩ | ⟨h, -⟩ | ⟨h, -⟩ <;> rw [h] <;> decide)
  · exact absurd hko (by rcases hop with ⟨h, -⟩ | ⟨h, -⟩ | ⟨h, -⟩ <;> rw [h] <;> decide)
  · exact absurd hko (by rcases hop with ⟨h, -⟩ | ⟨h, -⟩ | ⟨h, -⟩ <;> rw [h] <;> decide)
  · exact hvirt (Or.inl rfl) hko.symm hCE
  · exact hvirt (Or.inr rfl) hko.symm hCE
  · obtain ⟨hg, hpar, hcode, hhh, hlink, hstat⟩ := hCE
    have hig : ig = .invokestatic idx := by
      have hko : 1 = op := hko
      rcases hop with ⟨h, -⟩ | ⟨-, h⟩ | ⟨h, -⟩
      · omega
      · exact h
      · omega
    rw [hig] at hd
    have hM := a_met hW0 hS hg hhh hrun (by omega) hasok hascat (al := al)
    exact vx_runS (As := as.map (cv al)) (rest := rest.map (cv al)) (a_fix hB) hM ⟨a_cb hB hg hpar hcode hlink hF hL, hB.tbl _ hstat⟩ ⟨a_Pc_blind, hpre⟩ rfl (by rw [List.length_map]; exact hasl) hls hst hwd hd hroom
  · obtain ⟨hg, hpar, hcode, hlink, hstat⟩ := hCE
    have hig : ig = .invokestatic idx := by
      have hko : 1 = op := hko
      rcases hop with ⟨h, -⟩ | ⟨-, h⟩ | ⟨h, -⟩
      · omega
      · exact h
      · omega
    rw [hig] at hd
    have hM := a_metW hW0 hS hg hrun (by omega) hasok hascat (al := al)
    exact vx_runSX (As := as.map (cv al)) (rest := rest.map (cv al)) (hh := a_hh g) (bytes := a_c g) (maxL := a_ml g) (ret := a_rt g) (a_fix hB) hM ⟨⟨rfl, rfl, Nat.le_trans hF hB.2.2.2.2.2.2.2.2.2.1, Nat.le_trans hL hB.2.2.2.2.2.2.2.2.2.2.1, fun w hw a' U hW => by rw [List.mem_singleton.mp hw]; exact a_gw_at hW (List.mem_filter.mp hcode).2 (hB.tbl _ hcode), List.mem_cons_self⟩, hB.tbl _ hcode, hB.tbl _ hg.2.2.2.1, hg.2.2.1, a_par hpar, hB.tbl _ hlink, hB.tbl _ hstat⟩ ⟨a_Pc_blind, hpre⟩ rfl (by rw [List.length_map]; exact hasl) hls hst hwd hd hroom
  · obtain ⟨hg, ⟨h1n, hpar⟩, hcode, hhh, hlink, hinst, hname, hrt⟩ := hCE
    obtain ⟨nn, as', rfl, hig, rv, hrv⟩ := hinit (Or.inl rfl) hko.symm
    rw [hig] at hd
    have hM := a_noX (a_met hW0 hS hg hhh hrun (by omega) hasok hascat (al := al)) hrv
    have hcb := a_cb (mc := o1.2.2.2.2.2.1 - M.2.2.2.2.1) (ms := o1.2.2.2.2.2.2 - M.2.2.2.2.2) hB hg hpar hcode hlink hF hL
    rw [hrt] at hcb hM
    exact a_toX (va_runI (As := as'.map (cv al)) (rest := rest.map (cv al)) (b := al nn.1 nn.2) (a_fix hB) hM ⟨hcb, hname, hB.tbl _ hinst⟩ ⟨a_Pc_blind, hpre⟩ rfl (by rw [List.length_map]; simp only [List.length_cons] at hasl; omega) hls (by rw [hst]; simp [cv]) hwd hd hroom)
  · obtain ⟨hg, ⟨h1n, hpar⟩, hcode, hhh, hlink, hinst, hname, hrt⟩ := hCE
    obtain ⟨nn, as', rfl, hig, rv, hrv⟩ := hinit (Or.inr rfl) hko.symm
    rw [hig] at hd
    have hM := a_noX (a_met hW0 hS hg hhh hrun (by omega) hasok hascat (al := al)) hrv
    have hcn := a_cn (mc := o1.2.2.2.2.2.1 - M.2.2.2.2.1) (ms := o1.2.2.2.2.2.2 - M.2.2.2.2.2) hB hg hpar hcode hlink hF hL
    rw [hrt] at hcn hM
    exact a_toX (va_runIN (As := as'.map (cv al)) (rest := rest.map (cv al)) (b := al nn.1 nn.2) (a_fix hB) hM ⟨hcn, hname, hB.tbl _ hinst⟩ ⟨a_Pc_blind, hpre⟩ rfl (by rw [List.length_map]; simp only [List.length_cons] at hasl; omega) hls (by rw [hst]; simp [cv]) hwd hd hroom)
  · obtain ⟨hg, hpar, hcode, hhh, hlink, hstat⟩ := hCE
    have hig : ig = .invokestatic idx := by
      have hko : 1 = op := hko
      rcases hop with ⟨h, -⟩ | ⟨-, h⟩ | ⟨h, -⟩
      · omega
      · exact h
      · omega
    rw [hig] at hd
    obtain ⟨rv, hrv⟩ := a_bkE hback (hrc.2.2 rfl)
    have hM := a_noX (a_met hW0 hS hg hhh hrun (by omega) hasok hascat (al := al)) hrv
    exact a_toX (va_runSN (As := as.map (cv al)) (rest := rest.map (cv al)) (a_fix hB) hM ⟨a_cn hB hg hpar hcode hlink hF hL, hB.tbl _ hstat, trivial⟩ ⟨a_Pc_blind, hpre⟩ rfl (by rw [List.length_map]; exact hasl) hls hst hwd hd hroom)
  · exact hCE.elim
end
