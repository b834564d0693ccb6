/-! ===== rows of instructions: constants, statics, switches ===== -/
def a_sikl : List Nat := [53, 62, 67, 72, 77, 82, 87, 92, 143, 147]
def a_sik (i : Nat) : Nat := a_sikl.getD i 0
def a_stxl : List String := ["orbit", "station", "ground", "patience", "fresh", "memory", "policy", "record", "stay", "longest"]
def a_stx (i : Nat) : String := a_stxl.getD i ""
/-- what the tables say of the constants -/
def a_tC : Prop := ∀ e ∈ a_cpCl, (∃ x, e.2 = .inl x ∧ Cond.constant (a_Rn (e.1 % 16)) (e.1 / 16) x ∈ lw_gd) ∨ ∃ i, i < 10 ∧ e.2 = .inr (.inr (some (1, i))) ∧ e.1 = 3 + 16 * a_sik i
def a_tL : Prop := ∀ e ∈ a_cpLl, Cond.constantLong (a_Rn (e.1 % 16)) (e.1 / 16) e.2 ∈ lw_gd
def a_tG : Prop := Cond.fieldLink RJ0 38 "java/lang/String" "COMPACT_STRINGS" "Z" ∈ lw_gd ∧ Cond.fieldLink RJ0 1053 "jdk/internal/util/Preconditions" "SIOOBE_FORMATTER" "Ljava/util/function/BiFunction;" ∈ lw_gd
/-- what holds at the law's start -/
def a_G (l : Launch) (G : aG) : Prop :=
  l.stackTraces = false ∧ va_K G.2.1 a_cls (a_tys G.2.2.1) G.1 ∧ (vx_Zq Bundle.tN "UNASSIGNED_STACK" Bundle.steD (a_A G.1) G.1 G.1.heap ∧ vx_Zq Bundle.tN "SUPPRESSED_SENTINEL" Bundle.listD (a_A G.1) G.1 G.1.heap) ∧ (va_X G.2.2.2.1 G.2.2.2.2.1 G.2.2.2.2.2.2.1 G.1 G.1.heap ∧ G.2.2.2.1 < G.1.heap.size) ∧
  vk_S 10 a_sll G.2.2.2.2.2.2.2.2.2 G.2.2.2.2.2.2.2.1 G.2.2.2.2.2.2.2.2.1 (a_A G.1) G.1 G.1.heap ∧ (∀ i, i < 10 → vk_R RX3 (a_sik i) (a_stx i) (G.2.2.2.2.2.2.2.1 i) G.1) ∧ va_Z "java/lang/String" "COMPACT_STRINGS" "Z" (.int 1) (a_A G.1) G.1 G.1.heap ∧ va_Z "jdk/internal/util/Preconditions" "SIOOBE_FORMATTER" "Ljava/util/function/BiFunction;" (match a_fz G.2.2.2.2.2.2.2.2.2 with | none => .null | some _ => .ref G.2.2.2.2.2.1) (a_A G.1) G.1 G.1.heap
theorem a_key {c i : Nat} (h : c < 16) : (c + 16 * i) % 16 = c ∧ (c + 16 * i) / 16 = i := by omega
theorem a_own_lt (f : Nat) : a_own f < 16 := Nat.mod_lt _ (by decide)
section
variable {p : Program} {l : Launch} {e : Env} {R : Room} {s : State} {m : MethodId} {args : Array Value} {below : List Frame} {meth : Method} {c : Code} {Q : State → Prop}
variable {G : aG} {f c0 k0 : Nat} {kd : aO → Prop} {kc : Nat → List aV → aS → Prop}
variable {al : Nat → Nat → Nat} {H : Heap} {locs : List Loc} {lsA : Array Slot} {pc : Nat} {ls : List (Option aV)} {st : List aV} {M : aM}
theorem a_B.tbl (hB : a_B f p s m args meth c R G) : ∀ w ∈ lw_gd, w.before args s = true := hB.2.2.2.2.2.2.1
theorem a_B.own (hB : a_B f p s m args meth c R G) : s.vm.findClass (a_Rn (a_own f)) = some m.cls := hB.2.2.2.2.2.1
theorem a_B.warm (hB : a_B f p s m args meth c R G) : G.1.WarmedH s.vm := hB.2.2.2.2.2.2.2.2.2.2.2.1
theorem a_B.low (hB : a_B f p s m args meth c R G) : ∀ q, q < G.1.heap.size → ¬ a_A G.1 q → s.heap[q]? = G.1.heap[q]? := fun q h _ => hB.2.2.2.2.2.2.2.2.2.2.2.2.1 q h
theorem a_B.size (hB : a_B f p s m args meth c R G) : G.1.heap.size ≤ s.heap.size := hB.2.2.2.2.2.2.2.2.2.2.2.2.2
theorem a_B.hA (hB : a_B f p s m args meth c R G) : ∀ q, s.heap.size ≤ q → a_A G.1 q := fun _ h => Nat.le_trans hB.size h
theorem a_B.K (hB : a_B f p s m args meth c R G) (hG : a_G l G) : va_K G.2.1 a_cls (a_tys G.2.2.1) s := va_K.moved hB.warm.alike hG.2.1
theorem sx_ldc (hG : a_G l G) (tC : a_tC) {k : Nat} (hB : a_B f p s m args meth c R G) (hd : decode (a_c f) pc = .ok (.ldc k, 2)) (J : a_J f s G c0 k0 al H locs lsA (pc, ls, st, M)) (h : a_Th kd (a_K f p l e R s m args below meth c G c0 k0 Q al M) kc (a_ex f pc 2 ls st M (.ldc k))) : a_T p l e R s m args below meth c c0 k0 Q al H locs lsA (pc, ls, st, M) := by
  simp only [a_ex] at h
  split at h
  · next v hv =>
    obtain ⟨-, -, hK⟩ := h
    obtain ⟨q1, q2⟩ := a_key (i := k) (a_own_lt f)
    rcases tC _ (a_find_mem hv) with ⟨x, rfl, hw⟩ | ⟨i, hi, rfl, hk⟩
    · rw [q1, q2] at hw
      exact lv_ldc hB.1 hB.2.1 hB.own (hB.tbl _ hw) hd (hK al H locs lsA (J.st (ok_c trivial J.2.2.2.2.2.1)) a_ext.refl)
    · have e1 : a_own f = 3 := by have := a_own_lt f; omega
      have e2 : k = a_sik i := by have := a_own_lt f; omega
      have ho := hB.own
      rw [e1] at ho
      subst e2
      have hAl := (J.2.2.1.2.1 i hi).1
      refine va_ldcS hB.1 hB.2.1 ho ((hG.2.2.2.2.2.1 i hi).warm hB.warm) hd ?_
      have := hK al H locs lsA (J.st (ok_c (Or.inl ⟨by show 1 < 4; decide, by show Nat.blt i 10 = true; exact Nat.blt_eq.mpr hi⟩) J.2.2.2.2.2.1)) a_ext.refl
      rw [← hAl]
      exact this
  · exact a_stk_no h
theorem sx_ldc_w (hG : a_G l G) (tC : a_tC) {k : Nat} (hB : a_B f p s m args meth c R G) (hd : decode (a_c f) pc = .ok (.ldc_w k, 3)) (J : a_J f s G c0 k0 al H locs lsA (pc, ls, st, M)) (h : a_Th kd (a_K f p l e R s m args below meth c G c0 k0 Q al M) kc (a_ex f pc 3 ls st M (.ldc_w k))) : a_T p l e R s m args below meth c c0 k0 Q al H locs lsA (pc, ls, st, M) := by
  simp only [a_ex] at h
  split at h
  · next v hv =>
    split at h
    · next x =>
      obtain ⟨-, -, hK⟩ := h
      obtain ⟨q1, q2⟩ := a_key (i := k) (a_own_lt f)
      rcases tC _ (a_find_mem hv) with ⟨x, hx, hw⟩ | ⟨i, hi, hx, hk⟩
      · cases hx
        rw [q1, q2] at hw
        exact lv_ldcw hB.1 hB.2.1 hB.own (hB.tbl _ hw) hd (hK al H locs lsA (J.st (ok_c trivial J.2.2.2.2.2.1)) a_ext.refl)
      · cases hx
    · exact a_stk_no h
  · exact a_stk_no h
theorem sx_ldc2_w (tL : a_tL) {k : Nat} (hB : a_B f p s m args meth c R G) (hd : decode (a_c f) pc = .ok (.ldc2_w k, 3)) (J : a_J f s G c0 k0 al H locs lsA (pc, ls, st, M)) (h : a_Th kd (a_K f p l e R s m args below meth c G c0 k0 Q al M) kc (a_ex f pc 3 ls st M (.ldc2_w k))) : a_T p l e R s m args below meth c c0 k0 Q al H locs lsA (pc, ls, st, M) := by
  simp only [a_ex] at h
  split at h
  · next v hv =>
    obtain ⟨-, -, hK⟩ := h
    obtain ⟨q1, q2⟩ := a_key (i := k) (a_own_lt f)
    have hw := tL _ (a_find_mem hv)
    simp only [q1, q2] at hw
    exact lv_ldc2 hB.1 hB.2.1 hB.own (hB.tbl _ hw) hd (hK al H locs lsA (J.st (ok_c trivial J.2.2.2.2.2.1)) a_ext.refl)
  · exact a_stk_no h
theorem sx_getstatic (hG : a_G l G) (tG : a_tG) {k : Nat} (hB : a_B f p s m args meth c R G) (hd : decode (a_c f) pc = .ok (.getstatic k, 3)) (J : a_J f s G c0 k0 al H locs lsA (pc, ls, st, M)) (h : a_Th kd (a_K f p l e R s m args below meth c G c0 k0 Q al M) kc (a_ex f pc 3 ls st M (.getstatic k))) : a_T p l e R s m args below meth c c0 k0 Q al H locs lsA (pc, ls, st, M) := by
  have ho := hB.own
  have hlt := a_own_lt f
  simp only [a_ex] at h
  split at h
  · next v hv =>
    have hmem := a_find_mem hv
    obtain ⟨-, -, hK⟩ := h
    rcases List.mem_cons.mp hmem with h1 | h1
    · have e0 : a_own f + 16 * k = 618 := congrArg Prod.fst h1
      have ev : (Sum.inl v : Int32 ⊕ (Int64 ⊕ Option (Nat × Nat))) = .inl 1 := congrArg Prod.snd h1
      cases ev
      have e1 : a_own f = 10 := by omega
      have e2 : k = 38 := by omega
      rw [e1] at ho
      subst e2
      exact va_gets hB.1 hB.2.1 (va_Z.kept (va_Z.moved hB.warm.alike hG.2.2.2.2.2.2.1) hB.low) J.2.2.2.1 ho (hB.tbl _ tG.1) (fun _ h => h) hd (hK al H locs lsA (J.st (ok_c trivial J.2.2.2.2.2.1)) a_ext.refl)
    · have h1 := List.mem_singleton.mp h1
      have ev : (Sum.inl v : Int32 ⊕ (Int64 ⊕ Option (Nat × Nat))) = .inr (.inr (some (3, 0))) := congrArg Prod.snd h1
      cases ev
  · next v hv =>
    have hmem := a_find_mem hv
    obtain ⟨-, -, hK⟩ := h
    rcases List.mem_cons.mp hmem with h1 | h1
    · have ev : (Sum.inr v : Int32 ⊕ (Int64 ⊕ Option (Nat × Nat))) = .inl 1 := congrArg Prod.snd h1
      cases ev
    · have h1 := List.mem_singleton.mp h1
      have e0 : a_own f + 16 * k = 16858 := congrArg Prod.fst h1
      have e1 : a_own f = 10 := by omega
      have e2 : k = 1053 := by omega
      rw [e1] at ho
      subst e2
      have hz := J.2.1.2.2.2
      have hokz : a_okv M (.inr (.inr (M.2.1 3 0 0))) := by
        have hz : M.2.1 3 0 0 = a_fz G.2.2.2.2.2.2.2.2.2 := hz
        rw [hz]
        unfold a_fz
        split
        · trivial
        · exact Or.inl ⟨by show 3 < 4; decide, rfl⟩
      have hT := hK al H locs lsA (J.st (ok_c hokz J.2.2.2.2.2.1)) a_ext.refl
      refine va_gets hB.1 hB.2.1 (va_Z.kept (va_Z.moved hB.warm.alike hG.2.2.2.2.2.2.2) hB.low) J.2.2.2.1 ho (hB.tbl _ tG.2) (fun _ h => h) hd ?_
      have hT : W p l e R s m args below meth c H locs (M.2.2.2.2.1 - c0) (M.2.2.2.2.2 - k0) Q (F0 m (pc + 3) lsA (cv al (.inr (.inr (M.2.1 3 0 0))) :: st.map (cv al))) := hT
      have hz : M.2.1 3 0 0 = a_fz G.2.2.2.2.2.2.2.2.2 := hz
      rw [hz] at hT
      have hcv : cv al (.inr (.inr (a_fz G.2.2.2.2.2.2.2.2.2))) = (match a_fz G.2.2.2.2.2.2.2.2.2 with | none => Value.null | some _ => .ref G.2.2.2.2.2.1) := by
        unfold a_fz
        split
        · rfl
        · show Value.ref (al 3 0) = _
          rw [J.2.2.1.2.2]
      rw [hcv] at hT
      exact hT
  · exact a_stk_no h
theorem a_swl_pick {x : Int32} {d : aS} : ∀ (o : List Int) (lo : Int), a_pick (a_swl pc ls st M x lo o) d = if lo ≤ x.toInt then (match o[(x.toInt - lo).toNat]? with | some t => (((pc : Int) + t).toNat, ls, st, M) | none => d) else d
  | [], lo => by
    show d = _
    split <;> simp
  | t :: r, lo => by
    show cond (decide (x.toInt = lo)) _ (a_pick (a_swl pc ls st M x (lo + 1) r) d) = _
    by_cases hx : x.toInt = lo
    · rw [decide_eq_true hx, if_pos (by omega), show (x.toInt - lo).toNat = 0 by omega]
      rfl
    · rw [decide_eq_false hx]
      show a_pick (a_swl pc ls st M x (lo + 1) r) d = _
      rw [a_swl_pick r (lo + 1)]
      by_cases h1 : lo + 1 ≤ x.toInt
      · rw [if_pos h1, if_pos (by omega), show (x.toInt - lo).toNat = (x.toInt - (lo + 1)).toNat + 1 by omega]
        rfl
      · rw [if_neg h1, if_neg (by omega)]
theorem sx_tableswitch {d lo hi : Int} {offs : Array Int} {len : Nat} (hB : a_B f p s m args meth c R G) (hd : decode (a_c f) pc = .ok (.tableswitch d lo hi offs, len)) (J : a_J f s G c0 k0 al H locs lsA (pc, ls, st, M)) (h : a_Th kd (a_K f p l e R s m args below meth c G c0 k0 Q al M) kc (a_ex f pc len ls st M (.tableswitch d lo hi offs))) : a_T p l e R s m args below meth c c0 k0 Q al H locs lsA (pc, ls, st, M) := by
  simp only [a_ex] at h
  split at h
  · next x r =>
    cases hb : (decide (hi + 1 - lo = (offs.toList.length : Int)) && (d :: offs.toList).all (fun o => decide (0 ≤ (pc : Int) + o))) with
    | false => rw [hb] at h; exact a_stk_no h
    | true =>
      rw [hb] at h
      have hK : a_K f p l e R s m args below meth c G c0 k0 Q al M (a_pick (a_swl pc ls r M x lo offs.toList) (((pc : Int) + d).toNat, ls, r, M)) := h
      obtain ⟨b1, b2⟩ := Bool.and_eq_true_iff.mp hb
      have b1 := of_decide_eq_true b1
      have b2 : ∀ o ∈ d :: offs.toList, 0 ≤ (pc : Int) + o := fun o ho => of_decide_eq_true (List.all_eq_true.mp b2 o ho)
      rw [a_swl_pick] at hK
      have hJ : ∀ t, a_J f s G c0 k0 al H locs lsA (t, ls, r, M) := fun t => J.st (ok_t J.2.2.2.2.2.1)
      by_cases h1 : lo ≤ x.toInt
      · rw [if_pos h1] at hK
        cases ht : offs.toList[(x.toInt - lo).toNat]? with
        | none =>
          rw [ht] at hK
          have h2 : offs.toList.length ≤ (x.toInt - lo).toNat := List.getElem?_eq_none_iff.mp ht
          refine lv_tableOut hB.1 hB.2.1 hd (Or.inr (by omega)) (tgt := ((pc : Int) + d).toNat) (Int.toNat_of_nonneg (b2 d List.mem_cons_self)).symm ?_
          exact hK.2 al H locs lsA (hJ _) a_ext.refl
        | some t =>
          rw [ht] at hK
          have h2 : (x.toInt - lo).toNat < offs.toList.length := (List.getElem?_eq_some_iff.mp ht).1
          refine lv_tableIn hB.1 hB.2.1 hd (by omega) (by omega) (off := t) (by rw [← Array.getElem?_toList]; exact ht) (tgt := ((pc : Int) + t).toNat) (Int.toNat_of_nonneg (b2 t (List.mem_cons_of_mem _ (List.mem_of_getElem? ht)))).symm ?_
          exact hK.2 al H locs lsA (hJ _) a_ext.refl
      · rw [if_neg h1] at hK
        refine lv_tableOut hB.1 hB.2.1 hd (Or.inl (by omega)) (tgt := ((pc : Int) + d).toNat) (Int.toNat_of_nonneg (b2 d List.mem_cons_self)).symm ?_
        exact hK.2 al H locs lsA (hJ _) a_ext.refl
  · exact a_stk_no h
end
