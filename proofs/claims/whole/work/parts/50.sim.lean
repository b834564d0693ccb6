/-! ===== the class: what a simulation's cells hold of a row ===== -/
def kLow (a8 : Int32) (i : Nat) (I : aI) (r : aR) : Prop := (I 9 i 0 = r 0 ∧ I 9 i 1 = r 1 ∧ I 9 i 2 = r 2 ∧ I 9 i 3 = r 3) ∧ (I 10 i 0 = r 10 ∧ I 10 i 1 = r 11 ∧ I 10 i 2 = r 6 ∧ I 10 i 3 = r 7 ∧ I 10 i 4 = r 8 ∧ I 10 i 5 = r 9) ∧ (I 20 i 3 = r 4 ∧ I 20 i 5 = r 12 ∧ I 20 i 7 = r 15 ∧ I 20 i 8 = r 5) ∧ (a8 = 0 → I 20 i 9 = r 14) ∧ 0 ≤ I 20 i 9
def kFig (i : Nat) (I : aI) (r : aR) : Prop := ∀ j, j < 8 → I 13 i j = r (16 + j)
def kSt1 (a8 : Int32) (f g r : aR) (s : Nat) : Prop := (∀ j, j < 5 → f j = r (24 + 11 * s + j)) ∧ (a8 = 0 → f 5 = r (24 + 11 * s + 5)) ∧ (¬ a8 = 0 → f 5 = 0) ∧ ∀ j, j < 5 → g j = r (24 + 11 * s + 6 + j)
def kSta (a8 : Int32) (i : Nat) (I : aI) (r : aR) : Prop := ∀ s, s < nS r → kSt1 a8 (I 18 (4 * i + s)) (I 19 (4 * i + s)) r s
def kRe1 (f g r : aR) (q : Nat) : Prop := (f 0 = r (68 + 8 * q + 0) ∧ f 1 = r (68 + 8 * q + 1) ∧ f 2 = r (68 + 8 * q + 2) ∧ f 3 = r (68 + 8 * q + 3)) ∧ f 4 = m_uw r q ∧ (f 5 = r (68 + 8 * q + 4) ∧ f 6 = r (68 + 8 * q + 5) ∧ f 7 = r (68 + 8 * q + 6) ∧ f 8 = r (68 + 8 * q + 7)) ∧ ∀ x, x < 24 → g x = r (388 + 24 * q + x)
def kRec (i : Nat) (I : aI) (r : aR) : Prop := ∀ q, q < nR r → kRe1 (I 14 (40 * i + q)) (I 6 (40 * i + q)) r q
def kCo1 (f g h r : aR) (c : Nat) : Prop := f 0 = nI c ∧ (f 1 = r (1348 + 84 * (c % 60) + 0) ∧ f 2 = r (1348 + 84 * (c % 60) + 1) ∧ f 3 = r (1348 + 84 * (c % 60) + 2) ∧ f 4 = r (1348 + 84 * (c % 60) + 3)) ∧ ∀ q, q < 40 → g q = r (1348 + 84 * (c % 60) + 4 + q) ∧ h q = r (1348 + 84 * (c % 60) + 44 + q)
def kCon (i : Nat) (I : aI) (r : aR) : Prop := ∀ c, c < nC r → nC r ≤ c + 60 → kCo1 (I 15 (60 * i + c % 60)) (I 4 (60 * i + c % 60)) (I 5 (60 * i + c % 60)) r c
/-- the phase of a station -/
def mPh (r : aR) (s : Nat) : Nat := (r (24 + 11 * s + 3)).toNatClampNeg
def kPha (i : Nat) (I : aI) (r : aR) : Prop := ∃ π : Nat → Nat, (∀ a, a < nS r → π a < nS r ∧ I 17 i a = nI (π a)) ∧ ∀ a b, a < b → b < nS r → mPh r (π a) < mPh r (π b) ∨ (mPh r (π a) = mPh r (π b) ∧ π a < π b)
def Sim (a8 : Int32) (i : Nat) (I : aI) (r : aR) : Prop := kLow a8 i I r ∧ kFig i I r ∧ kSta a8 i I r ∧ kPha i I r ∧ kRec i I r ∧ kCon i I r
/-- the cells of the simulation i -/
def own (i s q : Nat) : Prop := match s with
  | 9 => q = i
  | 10 => q = i
  | 13 => q = i
  | 17 => q = i
  | 20 => q = i
  | 14 => q / 40 = i
  | 6 => q / 40 = i
  | 15 => q / 60 = i
  | 4 => q / 60 = i
  | 5 => q / 60 = i
  | 18 => q / 4 = i
  | 19 => q / 4 = i
  | _ => False
/-- nothing but the simulation i has changed -/
def Fr (i : Nat) (I I' : aI) : Prop := ∀ s q, ¬ own i s q → I' s q = I s q
theorem Fr.refl (i : Nat) (I : aI) : Fr i I I := fun _ _ _ => rfl
theorem Fr.trans {i : Nat} {I J K : aI} (h : Fr i I J) (h2 : Fr i J K) : Fr i I K := fun s q z => (h2 s q z).trans (h s q z)
theorem Fr.set {i s q : Nat} (h : own i s q) (I : aI) (j : Nat) (v : Int32) : Fr i I (a_setI I s q j v) := by
  intro s' q' z
  funext j'
  rw [gI, if_neg]
  rintro ⟨rfl, -, rfl⟩
  exact z h
theorem Fr.cp {i s q : Nat} (h : own i s q) (I : aI) (g : aR) : Fr i I (a_cpI I s q g) := by
  intro s' q' z
  funext j'
  rw [gC, if_neg]
  rintro ⟨rfl, rfl⟩
  exact z h
theorem gI_q (I : aI) (s q j : Nat) (v : Int32) {q' : Nat} (h : q' ≠ q) : a_setI I s q j v s q' = I s q' := by
  funext j'; rw [gI, if_neg (fun z => h z.2.2)]
theorem gI_u (I : aI) (s q j : Nat) (v : Int32) : a_setI I s q j v s q = upd (I s q) j v := by
  funext j'; rw [gI]; unfold upd
  by_cases h : j' = j
  · rw [if_pos ⟨rfl, h, rfl⟩, if_pos h]
  · rw [if_neg (fun z => h z.2.1), if_neg h]
theorem own_q {i q : Nat} (h : q < 40) : (40 * i + q) / 40 = i := by omega
theorem own_c {i q : Nat} (h : q < 60) : (60 * i + q) / 60 = i := by omega
theorem own_s {i q : Nat} (h : q < 4) : (4 * i + q) / 4 = i := by omega
/-! a row that is the same where it matters -/
theorem m_uw_c {r r' : aR} {q : Nat} (h0 : r' (68 + 8 * q + 0) = r (68 + 8 * q + 0)) (h3 : r' (68 + 8 * q + 3) = r (68 + 8 * q + 3)) (h4 : r' (68 + 8 * q + 4) = r (68 + 8 * q + 4)) : m_uw r' q = m_uw r q := by
  unfold m_uw m_full; rw [h0, h3, h4]
theorem kLow_r {a8 : Int32} {i : Nat} {I : aI} {r r' : aR} (h : kLow a8 i I r) (e : ∀ x, x < 16 → r' x = r x) : kLow a8 i I r' := by
  obtain ⟨⟨a0, a1, a2, a3⟩, ⟨b0, b1, b2, b3, b4, b5⟩, ⟨c0, c1, c2, c3⟩, d, d2⟩ := h
  refine ⟨⟨?_, ?_, ?_, ?_⟩, ⟨?_, ?_, ?_, ?_, ?_, ?_⟩, ⟨?_, ?_, ?_, ?_⟩, fun z => ?_, d2⟩
  all_goals rw [e _ (by omega)]
  all_goals first | assumption | exact d z
theorem kFig_r {i : Nat} {I : aI} {r r' : aR} (h : kFig i I r) (e : ∀ x, 16 ≤ x → x < 24 → r' x = r x) : kFig i I r' := fun j hj => by rw [e _ (by omega) (by omega)]; exact h j hj
theorem kSt1_r {a8 : Int32} {f g r r' : aR} {s : Nat} (h : kSt1 a8 f g r s) (e : ∀ j, j < 11 → r' (24 + 11 * s + j) = r (24 + 11 * s + j)) : kSt1 a8 f g r' s := by
  obtain ⟨h1, h2, h3, h4⟩ := h
  refine ⟨fun j hj => ?_, fun z => ?_, h3, fun j hj => ?_⟩
  · rw [e j (by omega)]; exact h1 j hj
  · rw [e 5 (by omega)]; exact h2 z
  · rw [show 24 + 11 * s + 6 + j = 24 + 11 * s + (6 + j) by omega, e (6 + j) (by omega), show 24 + 11 * s + (6 + j) = 24 + 11 * s + 6 + j by omega]; exact h4 j hj
theorem kSta_r {a8 : Int32} {i : Nat} {I : aI} {r r' : aR} (h : kSta a8 i I r) (e3 : nS r' = nS r) (e : ∀ s j, s < nS r → j < 11 → r' (24 + 11 * s + j) = r (24 + 11 * s + j)) : kSta a8 i I r' := fun s hs => kSt1_r (h s (by omega)) (fun j hj => e s j (by omega) hj)
theorem kRe1_r {f g r r' : aR} {q : Nat} (h : kRe1 f g r q) (e : ∀ j, j < 8 → r' (68 + 8 * q + j) = r (68 + 8 * q + j)) (e2 : ∀ x, x < 24 → r' (388 + 24 * q + x) = r (388 + 24 * q + x)) : kRe1 f g r' q := by
  obtain ⟨⟨a0, a1, a2, a3⟩, b, ⟨c0, c1, c2, c3⟩, d⟩ := h
  refine ⟨⟨?_, ?_, ?_, ?_⟩, ?_, ⟨?_, ?_, ?_, ?_⟩, fun x hx => ?_⟩
  · rw [e 0 (by omega)]; exact a0
  · rw [e 1 (by omega)]; exact a1
  · rw [e 2 (by omega)]; exact a2
  · rw [e 3 (by omega)]; exact a3
  · rw [m_uw_c (e 0 (by omega)) (e 3 (by omega)) (e 4 (by omega))]; exact b
  · rw [e 4 (by omega)]; exact c0
  · rw [e 5 (by omega)]; exact c1
  · rw [e 6 (by omega)]; exact c2
  · rw [e 7 (by omega)]; exact c3
  · rw [e2 x hx]; exact d x hx
theorem kRec_r {i : Nat} {I : aI} {r r' : aR} (h : kRec i I r) (e4 : nR r' = nR r) (e : ∀ q j, q < nR r → j < 8 → r' (68 + 8 * q + j) = r (68 + 8 * q + j)) (e2 : ∀ q x, q < nR r → x < 24 → r' (388 + 24 * q + x) = r (388 + 24 * q + x)) : kRec i I r' := fun q hq => kRe1_r (h q (by omega)) (fun j hj => e q j (by omega) hj) (fun x hx => e2 q x (by omega) hx)
theorem kCo1_r {f g h r r' : aR} {c : Nat} (k : kCo1 f g h r c) (e : ∀ j, j < 84 → r' (1348 + 84 * (c % 60) + j) = r (1348 + 84 * (c % 60) + j)) : kCo1 f g h r' c := by
  obtain ⟨a, ⟨b0, b1, b2, b3⟩, d⟩ := k
  refine ⟨a, ⟨?_, ?_, ?_, ?_⟩, fun q hq => ⟨?_, ?_⟩⟩
  · rw [e 0 (by omega)]; exact b0
  · rw [e 1 (by omega)]; exact b1
  · rw [e 2 (by omega)]; exact b2
  · rw [e 3 (by omega)]; exact b3
  · rw [show 1348 + 84 * (c % 60) + 4 + q = 1348 + 84 * (c % 60) + (4 + q) by omega, e (4 + q) (by omega), show 1348 + 84 * (c % 60) + (4 + q) = 1348 + 84 * (c % 60) + 4 + q by omega]; exact (d q hq).1
  · rw [show 1348 + 84 * (c % 60) + 44 + q = 1348 + 84 * (c % 60) + (44 + q) by omega, e (44 + q) (by omega), show 1348 + 84 * (c % 60) + (44 + q) = 1348 + 84 * (c % 60) + 44 + q by omega]; exact (d q hq).2
theorem kCon_r {i : Nat} {I : aI} {r r' : aR} (h : kCon i I r) (e12 : nC r' = nC r) (e : ∀ p j, p < 60 → j < 84 → r' (1348 + 84 * p + j) = r (1348 + 84 * p + j)) : kCon i I r' := fun c h1 h2 => kCo1_r (h c (by omega) (by omega)) (fun j hj => e (c % 60) j (Nat.mod_lt _ (by decide)) hj)
theorem kPha_r {i : Nat} {I : aI} {r r' : aR} (h : kPha i I r) (e3 : nS r' = nS r) (e : ∀ s, s < nS r → r' (24 + 11 * s + 3) = r (24 + 11 * s + 3)) : kPha i I r' := by
  obtain ⟨π, h1, h2⟩ := h
  refine ⟨π, fun a ha => ?_, fun a b hab hb => ?_⟩
  · rw [e3] at ha ⊢; exact h1 a ha
  · rw [e3] at hb
    have e1 : mPh r' (π a) = mPh r (π a) := by unfold mPh; rw [e _ (h1 a (by omega)).1]
    have e2 : mPh r' (π b) = mPh r (π b) := by unfold mPh; rw [e _ (h1 b hb).1]
    rw [e1, e2]; exact h2 a b hab hb
theorem nS_c {r r' : aR} (h : r' 3 = r 3) : nS r' = nS r := by unfold nS; rw [h]
theorem nR_c {r r' : aR} (h : r' 4 = r 4) : nR r' = nR r := by unfold nR; rw [h]
theorem nC_c {r r' : aR} (h : r' 12 = r 12) : nC r' = nC r := by unfold nC; rw [h]
theorem nT_c {r r' : aR} (h : r' 5 = r 5) : nT r' = nT r := by unfold nT; rw [h]
/-- a row that agrees below 6388 -/
theorem Sim_r {a8 : Int32} {i : Nat} {I : aI} {r r' : aR} (h : Sim a8 i I r) (hS : nS r ≤ 4) (hR : nR r ≤ 40) (e : ∀ x, x < 6388 → r' x = r x) : Sim a8 i I r' := by
  obtain ⟨h1, h2, h3, h4, h5, h6⟩ := h
  have e3 := nS_c (e 3 (by omega))
  have e4 := nR_c (e 4 (by omega))
  have e12 := nC_c (e 12 (by omega))
  exact ⟨kLow_r h1 (fun x hx => e x (by omega)), kFig_r h2 (fun x h1 h2 => e x (by omega)), kSta_r h3 e3 (fun s j hs hj => e _ (by omega)), kPha_r h4 e3 (fun s hs => e _ (by omega)), kRec_r h5 e4 (fun q j hq hj => e _ (by omega)) (fun q x hq hx => e _ (by omega)), kCon_r h6 e12 (fun p j hp hj => e _ (by omega))⟩
/-- cells of another simulation -/
theorem Sim_f {a8 : Int32} {i j : Nat} {I I' : aI} {r : aR} (h : Sim a8 j I r) (hij : j ≠ i) (hS : nS r ≤ 4) (hR : nR r ≤ 40) (f : Fr i I I') : Sim a8 j I' r := by
  obtain ⟨h1, h2, h3, h4, h5, h6⟩ := h
  have e9 : I' 9 j = I 9 j := f 9 j hij
  have e10 : I' 10 j = I 10 j := f 10 j hij
  have e13 : I' 13 j = I 13 j := f 13 j hij
  have e17 : I' 17 j = I 17 j := f 17 j hij
  have e20 : I' 20 j = I 20 j := f 20 j hij
  refine ⟨?_, ?_, ?_, ?_, ?_, ?_⟩
  · unfold kLow at h1 ⊢; rw [e9, e10, e20]; exact h1
  · unfold kFig at h2 ⊢; rw [e13]; exact h2
  · intro s hs
    have a : I' 18 (4 * j + s) = I 18 (4 * j + s) := f 18 _ (fun z => by have z : (4 * j + s) / 4 = i := z; omega)
    have b : I' 19 (4 * j + s) = I 19 (4 * j + s) := f 19 _ (fun z => by have z : (4 * j + s) / 4 = i := z; omega)
    rw [a, b]; exact h3 s hs
  · unfold kPha at h4 ⊢; rw [e17]; exact h4
  · intro q hq
    have a : I' 14 (40 * j + q) = I 14 (40 * j + q) := f 14 _ (fun z => by have z : (40 * j + q) / 40 = i := z; omega)
    have b : I' 6 (40 * j + q) = I 6 (40 * j + q) := f 6 _ (fun z => by have z : (40 * j + q) / 40 = i := z; omega)
    rw [a, b]; exact h5 q hq
  · intro c h7 h8
    have hm := Nat.mod_lt c (by decide : 0 < 60)
    have a : I' 15 (60 * j + c % 60) = I 15 (60 * j + c % 60) := f 15 _ (fun z => by have z : (60 * j + c % 60) / 60 = i := z; omega)
    have b : I' 4 (60 * j + c % 60) = I 4 (60 * j + c % 60) := f 4 _ (fun z => by have z : (60 * j + c % 60) / 60 = i := z; omega)
    have d : I' 5 (60 * j + c % 60) = I 5 (60 * j + c % 60) := f 5 _ (fun z => by have z : (60 * j + c % 60) / 60 = i := z; omega)
    rw [a, b, d]; exact h6 c h7 h8
