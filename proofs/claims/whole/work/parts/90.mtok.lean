/-! ===== the reference's tokens ===== -/
/-- a byte of a text -/
def By (x : Int32) : Prop := ∃ m, m < 256 ∧ x = (Int8.ofNat m).toInt32
theorem by_all : ∀ m, m < 256 → (((Int8.ofNat m).toInt32 &&& 255 = 32 ↔ (Int8.ofNat m).toInt32 = 32) ∧ ((Int8.ofNat m).toInt32 &&& 255 = 10 ↔ (Int8.ofNat m).toInt32 = 10) ∧ ((Int8.ofNat m).toInt32 &&& 255 = 59 ↔ (Int8.ofNat m).toInt32 = 59) ∧ ((97 ≤ (Int8.ofNat m).toInt32 &&& 255 ∧ (Int8.ofNat m).toInt32 &&& 255 ≤ 122) ↔ (97 ≤ (Int8.ofNat m).toInt32 ∧ (Int8.ofNat m).toInt32 ≤ 122)) ∧ ((48 ≤ (Int8.ofNat m).toInt32 &&& 255 ∧ (Int8.ofNat m).toInt32 &&& 255 ≤ 57) ↔ (48 ≤ (Int8.ofNat m).toInt32 ∧ (Int8.ofNat m).toInt32 ≤ 57)) ∧ ¬ (Int8.ofNat m).toInt32 &&& 255 = -1 ∧ ((48 ≤ (Int8.ofNat m).toInt32 ∧ (Int8.ofNat m).toInt32 ≤ 57) → (Int8.ofNat m).toInt32 &&& 255 = (Int8.ofNat m).toInt32)) := by decide +kernel
theorem By.f {x : Int32} (h : By x) : ((x &&& 255 = 32 ↔ x = 32) ∧ (x &&& 255 = 10 ↔ x = 10) ∧ (x &&& 255 = 59 ↔ x = 59) ∧ ((97 ≤ x &&& 255 ∧ x &&& 255 ≤ 122) ↔ (97 ≤ x ∧ x ≤ 122)) ∧ ((48 ≤ x &&& 255 ∧ x &&& 255 ≤ 57) ↔ (48 ≤ x ∧ x ≤ 57)) ∧ ¬ x &&& 255 = -1 ∧ ((48 ≤ x ∧ x ≤ 57) → x &&& 255 = x)) := by
  obtain ⟨m, hm, rfl⟩ := h
  exact by_all m hm
theorem By.of (y : Int8) : By y.toInt32 := by
  refine ⟨y.toBitVec.toNat, y.toBitVec.isLt, ?_⟩
  congr 1
  exact Int8.toBitVec_inj.mp (by simp)
theorem kB_1 (x : Int32) : kB x = 1 ↔ (97 ≤ x ∧ x ≤ 122) := by
  unfold kB
  split
  · exact ⟨fun _ => by assumption, fun _ => rfl⟩
  · constructor
    · intro h
      split at h
      · omega
      · split at h <;> omega
    · intro h; contradiction
theorem kB_2 (x : Int32) : kB x = 2 ↔ (48 ≤ x ∧ x ≤ 57) := by
  unfold kB
  by_cases h1 : 97 ≤ x ∧ x ≤ 122
  · rw [if_pos h1]
    refine ⟨fun h => by omega, fun h => ?_⟩
    have := Int32.le_trans h1.1 h.2
    exact absurd this (by decide)
  · rw [if_neg h1]
    by_cases h2 : 48 ≤ x ∧ x ≤ 57
    · rw [if_pos h2]; exact ⟨fun _ => h2, fun _ => rfl⟩
    · rw [if_neg h2]
      refine ⟨fun h => ?_, fun h => absurd h h2⟩
      split at h <;> omega
def t_s (b : aR) (n p : Nat) : Int32 := if p < n then b p &&& 255 else -1
section
variable {b : aR} {n : Nat}
theorem M_278 (I : aI) (w : aW) (k : aQ) {p : Nat} (hn : n ≤ 400) (hp : p ≤ n) (hb : ∀ x, x < n → I 28 0 x = b x) (h10 : I 31 0 10 = nI n) (h11 : I 31 0 11 = nI p) : rn 278 (a_en 278 [.inr (.inr (some (31, 0)))] (MM I w k)) = some (.inl (some (.inl (t_s b n p))), MM I w k) := by
  refine (e278_0 I w k).trans ?_
  rw [h10, h11]
  unfold t_s
  by_cases h : p < n
  · rw [zc_f (nI_ge h (by omega)), z_in (by omega) (by decide), nI_clamp (by omega), cond_true, hb p h, if_pos h]
  · rw [zc_t (nI_le (by omega) (by omega)), if_neg h]
theorem M_279 (I : aI) (w : aW) (k : aQ) {p : Nat} (hn : n ≤ 400) (hp : p ≤ n) (hb : ∀ x, x < n → I 28 0 x = b x) (hy : ∀ x, x < n → By (b x)) (h10 : I 31 0 10 = nI n) (h11 : I 31 0 11 = nI p) : rn 279 (a_en 279 [.inr (.inr (some (31, 0)))] (MM I w k)) = some (.inl (some (.inl (tf (p < n ∧ kB (b p) = 1)))), MM I w k) := by
  refine (e279_0 I w k).trans ?_
  refine (bk_v (M_278 I w k hn hp hb h10 h11)).trans ?_
  refine (e279_4 I w k _ _).trans ?_
  refine (bk_v (M_173 I w k _ _ _)).trans ?_
  refine (e279_11 I w k _ _).trans ?_
  rw [tfb, cond_true]
  refine congrArg (fun v => (some (.inl (some (.inl v)), MM I w k) : Option aO)) (tfe ?_)
  unfold t_s
  by_cases h : p < n
  · rw [if_pos h, (hy p h).f.2.2.2.1, kB_1]; exact ⟨fun z => ⟨h, z⟩, fun z => z.2⟩
  · rw [if_neg h]; exact ⟨fun z => absurd z.1 (by decide), fun z => absurd z.1 h⟩
theorem M_280 (I : aI) (w : aW) (k : aQ) {p : Nat} (hn : n ≤ 400) (hp : p ≤ n) (hb : ∀ x, x < n → I 28 0 x = b x) (hy : ∀ x, x < n → By (b x)) (h10 : I 31 0 10 = nI n) (h11 : I 31 0 11 = nI p) : rn 280 (a_en 280 [.inr (.inr (some (31, 0)))] (MM I w k)) = some (.inl (some (.inl (tf (p < n ∧ kB (b p) = 2)))), MM I w k) := by
  refine (e280_0 I w k).trans ?_
  refine (bk_v (M_278 I w k hn hp hb h10 h11)).trans ?_
  refine (e280_4 I w k _ _).trans ?_
  refine (bk_v (M_173 I w k _ _ _)).trans ?_
  refine (e280_11 I w k _ _).trans ?_
  rw [tfb, cond_true]
  refine congrArg (fun v => (some (.inl (some (.inl v)), MM I w k) : Option aO)) (tfe ?_)
  unfold t_s
  by_cases h : p < n
  · rw [if_pos h, (hy p h).f.2.2.2.2.1, kB_2]; exact ⟨fun z => ⟨h, z⟩, fun z => z.2⟩
  · rw [if_neg h]; exact ⟨fun z => absurd z.1 (by decide), fun z => absurd z.1 h⟩
/-- a state in which the reference can read the text: where it stands -/
def Mt (b : aR) (n p : Nat) (I : aI) : Prop := (∀ x, x < n → I 28 0 x = b x) ∧ I 31 0 10 = nI n ∧ I 31 0 11 = nI p
theorem Mt.at {I : aI} {p q : Nat} (h : Mt b n p I) : Mt b n q (a_setI I 31 0 11 (nI q)) := ⟨fun x hx => by rw [set_n (by omega)]; exact h.1 x hx, by rw [set_n (by omega)]; exact h.2.1, set_e⟩
theorem Mt.oth {I : aI} {p j : Nat} (h : Mt b n p I) (v : Int32) (hj : j ≠ 10 ∧ j ≠ 11) : Mt b n p (a_setI I 31 0 j v) := ⟨fun x hx => by rw [set_n (by omega)]; exact h.1 x hx, by rw [set_n (by omega)]; exact h.2.1, by rw [set_n (by omega)]; exact h.2.2⟩
/-- only the reference's token may have changed -/
def Mq (I J : aI) : Prop := ∀ s q j, ¬ (s = 31 ∧ q = 0 ∧ (j = 11 ∨ j = 12 ∨ j = 13 ∨ j = 14)) → J s q j = I s q j
theorem Mq.refl (I : aI) : Mq I I := fun _ _ _ _ => rfl
theorem Mq.trans {I J K : aI} (h : Mq I J) (h2 : Mq J K) : Mq I K := fun s q j z => (h2 s q j z).trans (h s q j z)
theorem Mq.set {I : aI} {j : Nat} (v : Int32) (h : j = 11 ∨ j = 12 ∨ j = 13 ∨ j = 14) : Mq I (a_setI I 31 0 j v) := fun s q j' z => by
  rw [gI, if_neg (fun y => z ⟨y.1, y.2.2, by rw [y.2.1]; exact h⟩)]
theorem M_281W (w : aW) (k : aQ) (hn : n ≤ 400) (hy : ∀ x, x < n → By (b x)) (d : Nat) : ∀ (p : Nat) (J : aI), p + d = n → Mt b n p J → J 31 0 13 = 1 → ∃ J', rn 281 (126, [some (.inr (.inr (some (31, 0))))], [], MM J w k) = some (.inl none, MM J' w k) ∧ J' 31 0 11 = nI (t_rn b 1 d p) ∧ ∀ s q j, ¬ (s = 31 ∧ q = 0 ∧ j = 11) → J' s q j = J s q j := by
  induction d with
  | zero =>
    intro p J hp hM h13
    refine ⟨J, ?_, hM.2.2, fun _ _ _ _ => rfl⟩
    refine (e281_126 J w k).trans ?_
    rw [h13]
    refine (zc_f (fun z => z rfl)).trans ?_
    refine (bk_v (M_279 J w k hn (by omega) hM.1 hy hM.2.1 hM.2.2)).trans ?_
    refine (e281_138 J w k _).trans ?_
    refine (zc_t (tff (fun z => by omega))).trans ?_
    refine (e281_154 J w k).trans ?_
    rw [h13]
    exact zc_t (by decide)
  | succ d ih =>
    intro p J hp hM h13
    have start : rn 281 (126, [some (.inr (.inr (some (31, 0))))], [], MM J w k) = cond (decide (tf (p < n ∧ kB (b p) = 1) = 0)) (some (.inl none, MM J w k)) (rn 281 (126, [some (.inr (.inr (some (31, 0))))], [], MM (a_setI J 31 0 11 (nI (p + 1))) w k)) := by
      refine (e281_126 J w k).trans ?_
      rw [h13]
      refine (zc_f (fun z => z rfl)).trans ?_
      refine (bk_v (M_279 J w k hn (by omega) hM.1 hy hM.2.1 hM.2.2)).trans ?_
      refine (e281_138 J w k _).trans ?_
      have e2 : rn 281 (154, [some (.inr (.inr (some (31, 0))))], [], MM J w k) = some (.inl none, MM J w k) := by
        refine (e281_154 J w k).trans ?_
        rw [h13]
        exact zc_t (by decide)
      rw [e2, hM.2.2, nI_1]
    by_cases h : kB (b p) = 1
    · obtain ⟨J', j1, j2, j3⟩ := ih (p + 1) (a_setI J 31 0 11 (nI (p + 1))) (by omega) hM.at (by rw [set_n (by omega)]; exact h13)
      refine ⟨J', start.trans ((zc_f (by rw [tft ⟨by omega, h⟩]; decide)).trans j1), ?_, fun s q j z => (j3 s q j z).trans (set_n (by omega))⟩
      rw [j2]
      show _ = nI (if kB (b p) = 1 then t_rn b 1 d (p + 1) else p)
      rw [if_pos h]
    · refine ⟨J, start.trans (zc_t (tff (fun z => h z.2))), ?_, fun _ _ _ _ => rfl⟩
      rw [hM.2.2]
      show _ = nI (if kB (b p) = 1 then t_rn b 1 d (p + 1) else p)
      rw [if_neg h]
def t_ml (b : aR) : Nat → Nat → Nat → Nat
  | 0, _, v => v
  | d + 1, j, v => t_ml b d (j + 1) (if v ≤ 100000 then 10 * v + t_d (b j) else v)
theorem M_281N (w : aW) (k : aQ) (hn : n ≤ 400) (hy : ∀ x, x < n → By (b x)) (d : Nat) : ∀ (p v : Nat) (J : aI), p + d = n → v < 2000000 → Mt b n p J → J 31 0 13 = 2 → J 31 0 14 = nI v → ∃ J', rn 281 (154, [some (.inr (.inr (some (31, 0))))], [], MM J w k) = some (.inl none, MM J' w k) ∧ J' 31 0 11 = nI (t_rn b 2 d p) ∧ J' 31 0 14 = nI (t_ml b (t_rn b 2 d p - p) p v) ∧ ∀ s q j, ¬ (s = 31 ∧ q = 0 ∧ (j = 11 ∨ j = 14)) → J' s q j = J s q j := by
  induction d with
  | zero =>
    intro p v J hp hv hM h13 h14
    refine ⟨J, ?_, hM.2.2, ?_, fun _ _ _ _ => rfl⟩
    · refine (e281_154 J w k).trans ?_
      rw [h13]
      refine (zc_f (fun z => z rfl)).trans ?_
      refine (bk_v (M_280 J w k hn (by omega) hM.1 hy hM.2.1 hM.2.2)).trans ?_
      refine (e281_166 J w k _).trans ?_
      exact zc_t (tff (fun z => by omega))
    · rw [h14, show t_rn b 2 0 p = p from rfl, Nat.sub_self]; rfl
  | succ d ih =>
    intro p v J hp hv hM h13 h14
    have start : rn 281 (154, [some (.inr (.inr (some (31, 0))))], [], MM J w k) = cond (decide (tf (p < n ∧ kB (b p) = 2) = 0)) (some (.inl none, MM J w k)) (cond (decide (nI v ≤ 100000)) ((rn 278 (a_en 278 [.inr (.inr (some (31, 0)))] (MM J w k))).bind (fun o => a_bk 281 278 (194, [some (.inr (.inr (some (31, 0))))], [.inl (10 * nI v), .inr (.inr (some (31, 0)))], MM J w k) o (rn 281))) (rn 281 (154, [some (.inr (.inr (some (31, 0))))], [], MM (a_setI (a_setI J 31 0 14 (nI v)) 31 0 11 (nI (p + 1))) w k))) := by
      refine (e281_154 J w k).trans ?_
      rw [h13]
      refine (zc_f (fun z => z rfl)).trans ?_
      refine (bk_v (M_280 J w k hn (by omega) hM.1 hy hM.2.1 hM.2.2)).trans ?_
      refine (e281_166 J w k _).trans ?_
      rw [h14, hM.2.2, nI_1]
    by_cases h : kB (b p) = 2
    · obtain ⟨g1, g2⟩ := t_d_r h
      have go : rn 281 (154, [some (.inr (.inr (some (31, 0))))], [], MM J w k) = rn 281 (154, [some (.inr (.inr (some (31, 0))))], [], MM (a_setI (a_setI J 31 0 14 (nI (if v ≤ 100000 then 10 * v + t_d (b p) else v))) 31 0 11 (nI (p + 1))) w k) := by
        refine start.trans ((zc_f (by rw [tft ⟨by omega, h⟩]; decide)).trans ?_)
        by_cases h5 : v ≤ 100000
        · refine (zc_t (show nI v ≤ (100000 : Int32) from nI_le (b := 100000) h5 (by omega))).trans ?_
          refine (bk_v (M_278 J w k hn (by omega) hM.1 hM.2.1 hM.2.2)).trans ?_
          refine (e281_197 J w k _ _).trans ?_
          have e5 : t_s b n p = nI (48 + t_d (b p)) := by
            unfold t_s
            rw [if_pos (by omega), (hy p (by omega)).f.2.2.2.2.2.2 ((kB_2 _).mp h)]; exact g2
          rw [e5, hM.2.2, nI_1, show (10 : Int32) * nI v = nI (10 * v) from z_mul 10 v, nI_add, show nI (10 * v + (48 + t_d (b p))) - 48 = nI (10 * v + (48 + t_d (b p)) - 48) from z_sub (b := 48) (by omega), if_pos h5, show 10 * v + (48 + t_d (b p)) - 48 = 10 * v + t_d (b p) by omega]
        · refine (zc_f (show ¬ nI v ≤ (100000 : Int32) from nI_ge (a := 100000) (by omega) (by omega))).trans ?_
          rw [if_neg h5]
      obtain ⟨J', j1, j2, j3, j4⟩ := ih (p + 1) (if v ≤ 100000 then 10 * v + t_d (b p) else v) (a_setI (a_setI J 31 0 14 (nI (if v ≤ 100000 then 10 * v + t_d (b p) else v))) 31 0 11 (nI (p + 1))) (by omega) (by split <;> omega) (hM.oth _ (by omega)).at (by rw [set_n (by omega), set_n (by omega)]; exact h13) (by rw [set_n (by omega), set_e])
      have er : t_rn b 2 (d + 1) p = t_rn b 2 d (p + 1) := by
        show (if kB (b p) = 2 then t_rn b 2 d (p + 1) else p) = _
        rw [if_pos h]
      have hr := rn_r b 2 d (p + 1)
      refine ⟨J', go.trans j1, by rw [er]; exact j2, ?_, fun s q j z => (j4 s q j z).trans ((set_n (by omega)).trans (set_n (by omega)))⟩
      rw [er, j3, show t_rn b 2 d (p + 1) - p = (t_rn b 2 d (p + 1) - (p + 1)) + 1 by omega]
      rfl
    · have er : t_rn b 2 (d + 1) p = p := by
        show (if kB (b p) = 2 then t_rn b 2 d (p + 1) else p) = _
        rw [if_neg h]
      refine ⟨J, start.trans (zc_t (tff (fun z => h z.2))), by rw [er]; exact hM.2.2, ?_, fun _ _ _ _ => rfl⟩
      rw [er, Nat.sub_self]; exact h14
/-- what the reference's token must be: the token behind p -/
def Mk (b : aR) (n p : Nat) (I : aI) : Prop := I 31 0 11 = nI (t_e b n p) ∧ I 31 0 12 = nI (t_f b n p) ∧ I 31 0 13 = nI (t_k b n p) ∧ (t_k b n p = 2 → I 31 0 14 = nI (t_ml b (t_e b n p - t_f b n p) (t_f b n p) 0))
theorem M_281C (w : aW) (k : aQ) (hn : n ≤ 400) (hy : ∀ x, x < n → By (b x)) {f : Nat} (hf : f ≤ n) (J : aI) (hM : Mt b n f J) : ∃ J', (rn 278 (a_en 278 [.inr (.inr (some (31, 0)))] (MM (a_setI J 31 0 12 (J 31 0 11)) w k))).bind (fun o => a_bk 281 278 (41, [some (.inr (.inr (some (31, 0))))], [.inr (.inr (some (31, 0)))], MM (a_setI J 31 0 12 (J 31 0 11)) w k) o (rn 281)) = some (.inl none, MM J' w k) ∧ (J' 31 0 11 = nI (if f < n then (if kB (b f) = 1 ∨ kB (b f) = 2 then t_rn b (kB (b f)) (n - f) f else f + 1) else f) ∧ J' 31 0 12 = nI f ∧ J' 31 0 13 = nI (if f < n then kB (b f) else 0) ∧ (f < n → kB (b f) = 2 → J' 31 0 14 = nI (t_ml b (t_rn b 2 (n - f) f - f) f 0))) ∧ Mq J J' := by
  have hM1 : Mt b n f (a_setI J 31 0 12 (J 31 0 11)) := hM.oth _ (by omega)
  have f12 : a_setI J 31 0 12 (J 31 0 11) 31 0 12 = nI f := by rw [set_e]; exact hM.2.2
  have q1 : Mq J (a_setI J 31 0 12 (J 31 0 11)) := Mq.set _ (by omega)
  generalize a_setI J 31 0 12 (J 31 0 11) = A at hM1 f12 q1
  have ek : ∀ (K : Nat) (c : Int32), Mt b n f (a_setI (a_setI A 31 0 13 (nI K)) 31 0 14 0) := fun K c => (hM1.oth _ (by omega)).oth _ (by omega)
  have fin : ∀ (K e : Nat), K ≠ 1 → K ≠ 2 → K ≤ 4 → rn 281 (126, [some (.inr (.inr (some (31, 0))))], [], MM (a_setI (a_setI (a_setI A 31 0 13 (nI K)) 31 0 14 0) 31 0 11 (nI e)) w k) = some (.inl none, MM (a_setI (a_setI (a_setI A 31 0 13 (nI K)) 31 0 14 0) 31 0 11 (nI e)) w k) := fun K e g1 g2 g3 => by
    have e13 : a_setI (a_setI (a_setI A 31 0 13 (nI K)) 31 0 14 0) 31 0 11 (nI e) 31 0 13 = nI K := by rw [set_n (by omega), set_n (by omega), set_e]
    generalize a_setI (a_setI (a_setI A 31 0 13 (nI K)) 31 0 14 0) 31 0 11 (nI e) = B at e13
    refine (e281_126 B w k).trans ?_
    rw [e13]
    have hz1 : ¬ nI K = 1 := fun z => g1 ((nI_eq (b := 1) (by omega) (by omega)).mp z)
    have hz2 : ¬ nI K = 2 := fun z => g2 ((nI_eq (b := 2) (by omega) (by omega)).mp z)
    refine (zc_t hz1).trans ?_
    refine (e281_154 B w k).trans ?_
    rw [e13]
    exact zc_t hz2
  have qf : ∀ (K e : Nat), Mq J (a_setI (a_setI (a_setI A 31 0 13 (nI K)) 31 0 14 0) 31 0 11 (nI e)) := fun K e => ((q1.trans (Mq.set _ (by omega))).trans (Mq.set _ (by omega))).trans (Mq.set _ (by omega))
  have vf : ∀ (K e : Nat), a_setI (a_setI (a_setI A 31 0 13 (nI K)) 31 0 14 0) 31 0 11 (nI e) 31 0 11 = nI e ∧ a_setI (a_setI (a_setI A 31 0 13 (nI K)) 31 0 14 0) 31 0 11 (nI e) 31 0 12 = nI f ∧ a_setI (a_setI (a_setI A 31 0 13 (nI K)) 31 0 14 0) 31 0 11 (nI e) 31 0 13 = nI K := fun K e => ⟨set_e, by rw [set_n (by omega), set_n (by omega), set_n (by omega)]; exact f12, by rw [set_n (by omega), set_n (by omega), set_e]⟩
  by_cases h : f < n
  · have hk := kB_r (b f)
    have c1 := M_279 A w k hn hf hM1.1 hy hM1.2.1 hM1.2.2
    have c2 := M_280 A w k hn hf hM1.1 hy hM1.2.1 hM1.2.2
    have c0 := M_278 A w k hn hf hM1.1 hM1.2.1 hM1.2.2
    have es : t_s b n f = b f &&& 255 := by unfold t_s; rw [if_pos h]
    have hb0 : ¬ b f &&& 255 = -1 := (hy f h).f.2.2.2.2.2.1
    rw [if_pos h, if_pos h]
    have st : (rn 278 (a_en 278 [.inr (.inr (some (31, 0)))] (MM A w k))).bind (fun o => a_bk 281 278 (41, [some (.inr (.inr (some (31, 0))))], [.inr (.inr (some (31, 0)))], MM A w k) o (rn 281)) = cond (decide (tf (f < n ∧ kB (b f) = 1) = 0)) ((rn 280 (a_en 280 [.inr (.inr (some (31, 0)))] (MM A w k))).bind (fun o => a_bk 281 280 (64, [some (.inr (.inr (some (31, 0))))], [.inr (.inr (some (31, 0)))], MM A w k) o (rn 281))) (rn 281 (126, [some (.inr (.inr (some (31, 0))))], [], MM (a_setI (a_setI (a_setI A 31 0 13 1) 31 0 14 0) 31 0 11 (nI f)) w k)) := by
      refine (bk_v c0).trans ?_
      refine (e281_44 A w k _).trans ?_
      rw [es]
      refine (zc_t hb0).trans ?_
      refine (bk_v c1).trans ?_
      refine (e281_56 A w k _).trans ?_
      rw [hM1.2.2, Int32.add_zero]
    by_cases h1 : kB (b f) = 1
    · obtain ⟨J', j1, j2, j3⟩ := M_281W w k hn hy (n - f) f (a_setI (a_setI (a_setI A 31 0 13 (nI 1)) 31 0 14 0) 31 0 11 (nI f)) (by omega) ((hM1.oth _ (by omega)).oth _ (by omega)).at (vf 1 f).2.2
      refine ⟨J', st.trans ((zc_f (by rw [tft ⟨h, h1⟩]; decide)).trans j1), ⟨by rw [if_pos (Or.inl h1), h1]; exact j2, by rw [j3 _ _ _ (by omega)]; exact (vf 1 f).2.1, by rw [j3 _ _ _ (by omega), h1]; exact (vf 1 f).2.2, fun _ z => by omega⟩, (qf 1 f).trans (fun s q j z => j3 s q j (by omega))⟩
    · have st2 : (rn 278 (a_en 278 [.inr (.inr (some (31, 0)))] (MM A w k))).bind (fun o => a_bk 281 278 (41, [some (.inr (.inr (some (31, 0))))], [.inr (.inr (some (31, 0)))], MM A w k) o (rn 281)) = cond (decide (tf (f < n ∧ kB (b f) = 2) = 0)) ((rn 278 (a_en 278 [.inr (.inr (some (31, 0)))] (MM A w k))).bind (fun o => a_bk 281 278 (75, [some (.inr (.inr (some (31, 0))))], [.inr (.inr (some (31, 0)))], MM A w k) o (rn 281))) (rn 281 (126, [some (.inr (.inr (some (31, 0))))], [], MM (a_setI (a_setI (a_setI A 31 0 13 2) 31 0 14 0) 31 0 11 (nI f)) w k)) := by
        refine st.trans ((zc_t (tff (fun z => h1 z.2))).trans ?_)
        refine (bk_v c2).trans ?_
        refine (e281_67 A w k _).trans ?_
        rw [hM1.2.2, Int32.add_zero]
      by_cases h2 : kB (b f) = 2
      · obtain ⟨J', j1, j2, j3, j4⟩ := M_281N w k hn hy (n - f) f 0 (a_setI (a_setI (a_setI A 31 0 13 (nI 2)) 31 0 14 0) 31 0 11 (nI f)) (by omega) (by omega) ((hM1.oth _ (by omega)).oth _ (by omega)).at (vf 2 f).2.2 (by rw [set_n (by omega), set_e]; rfl)
        refine ⟨J', st2.trans ((zc_f (by rw [tft ⟨h, h2⟩]; decide)).trans ?_), ⟨by rw [if_pos (Or.inr h2), h2]; exact j2, by rw [j4 _ _ _ (by omega)]; exact (vf 2 f).2.1, by rw [j4 _ _ _ (by omega), h2]; exact (vf 2 f).2.2, fun _ _ => j3⟩, (qf 2 f).trans (fun s q j z => j4 s q j (by omega))⟩
        refine (e281_126 _ w k).trans ?_
        have e13 := (vf 2 f).2.2
        rw [show a_setI (a_setI (a_setI A 31 0 13 2) 31 0 14 0) 31 0 11 (nI f) 31 0 13 = nI 2 from e13]
        refine (zc_t (by decide)).trans ?_
        exact j1
      · have st3 : (rn 278 (a_en 278 [.inr (.inr (some (31, 0)))] (MM A w k))).bind (fun o => a_bk 281 278 (41, [some (.inr (.inr (some (31, 0))))], [.inr (.inr (some (31, 0)))], MM A w k) o (rn 281)) = rn 281 (126, [some (.inr (.inr (some (31, 0))))], [], MM (a_setI (a_setI (a_setI A 31 0 13 (nI (kB (b f)))) 31 0 14 0) 31 0 11 (nI (f + 1))) w k) := by
          refine st2.trans ((zc_t (tff (fun z => h2 z.2))).trans ?_)
          refine (bk_v c0).trans ?_
          refine (e281_78 A w k _).trans ?_
          rw [es, hM1.2.2, nI_1]
          have h59 := (hy f h).f.2.2.1
          have kk : kB (b f) = if b f = 59 then 3 else 4 := by
            have g1 := fun z => h1 ((kB_1 (b f)).mpr z)
            have g2 := fun z => h2 ((kB_2 (b f)).mpr z)
            unfold kB
            rw [if_neg g1, if_neg g2]
          by_cases h5 : b f = 59
          · rw [kk, if_pos h5]
            exact zc_f (fun z => z (h59.mpr h5))
          · rw [kk, if_neg h5]
            have hz : ¬ b f &&& 255 = 59 := fun z => h5 (h59.mp z)
            exact zc_t hz
        refine ⟨_, st3.trans (fin (kB (b f)) (f + 1) h1 h2 hk.2), ⟨?_, (vf _ _).2.1, (vf _ _).2.2, fun _ z => absurd z h2⟩, qf _ _⟩
        rw [(vf _ _).1, if_neg (fun z => z.elim h1 h2)]
  · rw [if_neg h, if_neg h]
    refine ⟨a_setI (a_setI (a_setI A 31 0 13 (nI 0)) 31 0 14 0) 31 0 11 (nI f), ?_, ⟨(vf 0 f).1, (vf 0 f).2.1, (vf 0 f).2.2, fun z => absurd z h⟩, qf 0 f⟩
    refine (bk_v (M_278 A w k hn hf hM1.1 hM1.2.1 hM1.2.2)).trans ?_
    refine (e281_44 A w k _).trans ?_
    have es : t_s b n f = -1 := by unfold t_s; rw [if_neg h]
    rw [es]
    refine (zc_f (fun z => z rfl)).trans ?_
    rw [hM1.2.2, Int32.add_zero]
    exact fin 0 f (by omega) (by omega) (by omega)
theorem M_281L (w : aW) (k : aQ) (hn : n ≤ 400) (hy : ∀ x, x < n → By (b x)) (d : Nat) : ∀ (p : Nat) (J : aI), p + d = n → Mt b n p J → ∃ A, rn 281 (0, [some (.inr (.inr (some (31, 0))))], [], MM J w k) = (rn 278 (a_en 278 [.inr (.inr (some (31, 0)))] (MM (a_setI A 31 0 12 (A 31 0 11)) w k))).bind (fun o => a_bk 281 278 (41, [some (.inr (.inr (some (31, 0))))], [.inr (.inr (some (31, 0)))], MM (a_setI A 31 0 12 (A 31 0 11)) w k) o (rn 281)) ∧ Mt b n (t_sk b d p) A ∧ Mq J A := by
  induction d with
  | zero =>
    intro p J hp hM
    refine ⟨J, ?_, hM, Mq.refl J⟩
    refine (e281_0 J w k).trans ?_
    have c0 := M_278 J w k hn (by omega) hM.1 hM.2.1 hM.2.2
    have es : t_s b n p = -1 := by unfold t_s; rw [if_neg (by omega)]
    rw [es] at c0
    refine (bk_v c0).trans ?_
    refine (e281_4 J w k _).trans ?_
    refine (zc_f (by decide)).trans ?_
    refine (bk_v c0).trans ?_
    refine (e281_13 J w k _).trans ?_
    exact zc_t (by decide)
  | succ d ih =>
    intro p J hp hM
    have hpn : p < n := by omega
    have c0 := M_278 J w k hn (by omega) hM.1 hM.2.1 hM.2.2
    have es : t_s b n p = b p &&& 255 := by unfold t_s; rw [if_pos hpn]
    rw [es] at c0
    have hf := (hy p hpn).f
    have start : rn 281 (0, [some (.inr (.inr (some (31, 0))))], [], MM J w k) = cond (decide (b p &&& 255 = 32)) (rn 281 (0, [some (.inr (.inr (some (31, 0))))], [], MM (a_setI J 31 0 11 (nI (p + 1))) w k)) (cond (decide (¬ b p &&& 255 = 10)) ((rn 278 (a_en 278 [.inr (.inr (some (31, 0)))] (MM (a_setI J 31 0 12 (J 31 0 11)) w k))).bind (fun o => a_bk 281 278 (41, [some (.inr (.inr (some (31, 0))))], [.inr (.inr (some (31, 0)))], MM (a_setI J 31 0 12 (J 31 0 11)) w k) o (rn 281))) (rn 281 (0, [some (.inr (.inr (some (31, 0))))], [], MM (a_setI J 31 0 11 (nI (p + 1))) w k))) := by
      refine (e281_0 J w k).trans ?_
      refine (bk_v c0).trans ?_
      refine (e281_4 J w k _).trans ?_
      rw [hM.2.2, nI_1]
      by_cases g : b p &&& 255 = 32
      · rw [zc_t g, zc_t g]
      · rw [zc_f g, zc_f g]
        refine (bk_v c0).trans ?_
        refine (e281_13 J w k _).trans ?_
        rw [hM.2.2, nI_1]
    by_cases h : b p = 32 ∨ b p = 10
    · obtain ⟨A, a1, a2, a3⟩ := ih (p + 1) (a_setI J 31 0 11 (nI (p + 1))) (by omega) hM.at
      have et : t_sk b (d + 1) p = t_sk b d (p + 1) := by
        show (if b p = 32 ∨ b p = 10 then t_sk b d (p + 1) else p) = _
        rw [if_pos h]
      rw [et]
      refine ⟨A, start.trans ?_, a2, (Mq.set _ (by omega)).trans a3⟩
      by_cases g : b p &&& 255 = 32
      · exact (zc_t g).trans a1
      · refine (zc_f g).trans ?_
        have g2 : b p &&& 255 = 10 := hf.2.1.mpr (h.resolve_left (fun z => g (hf.1.mpr z)))
        exact (zc_f (fun z => z g2)).trans a1
    · have et : t_sk b (d + 1) p = p := by
        show (if b p = 32 ∨ b p = 10 then t_sk b d (p + 1) else p) = _
        rw [if_neg h]
      rw [et]
      have g1 : ¬ b p &&& 255 = 32 := fun z => h (Or.inl (hf.1.mp z))
      have g2 : ¬ b p &&& 255 = 10 := fun z => h (Or.inr (hf.2.1.mp z))
      exact ⟨J, start.trans ((zc_f g1).trans (zc_t g2)), hM, Mq.refl J⟩
/-- the next token of the reference -/
theorem M_281 (I : aI) (w : aW) (k : aQ) {p : Nat} (hn : n ≤ 400) (hp : p ≤ n) (hy : ∀ x, x < n → By (b x)) (hM : Mt b n p I) : ∃ J, rn 281 (a_en 281 [.inr (.inr (some (31, 0)))] (MM I w k)) = some (.inl none, MM J w k) ∧ Mk b n p J ∧ Mq I J := by
  obtain ⟨A, a1, a2, a3⟩ := M_281L w k hn hy (n - p) p I (by omega) hM
  have hf := t_f_r b hp
  obtain ⟨J, j1, ⟨j2, j3, j4, j5⟩, j6⟩ := M_281C w k hn hy (f := t_f b n p) hf.2 A a2
  refine ⟨J, a1.trans j1, ⟨?_, j3, j4, fun h2 => ?_⟩, a3.trans j6⟩
  · rw [j2]
    have hk := kB_r (b (t_f b n p))
    by_cases h : t_f b n p < n
    · have ek : t_k b n p = kB (b (t_f b n p)) := by unfold t_k; rw [if_pos h]
      rw [if_pos h]
      unfold t_e
      rw [ek]
      by_cases h1 : kB (b (t_f b n p)) = 1 ∨ kB (b (t_f b n p)) = 2
      · rw [if_pos h1, if_pos h1]
      · rw [if_neg h1, if_neg h1, if_neg (show ¬ kB (b (t_f b n p)) = 0 by omega)]
    · have ek : t_k b n p = 0 := (t_k_0 b).mpr h
      rw [if_neg h]
      unfold t_e
      rw [ek, if_neg (by decide), if_pos rfl]
  · have h : t_f b n p < n := by
      refine Classical.byContradiction (fun z => ?_)
      have := (t_k_0 b).mpr z; omega
    have ek : t_k b n p = kB (b (t_f b n p)) := by unfold t_k; rw [if_pos h]
    have ee : t_e b n p = t_rn b 2 (n - t_f b n p) (t_f b n p) := by unfold t_e; rw [h2]; rfl
    rw [ee]
    exact j5 h (by rw [← ek]; exact h2)
end
/-- the two values of a number's digits -/
theorem vm_l (b : aR) : ∀ (d j v u : Nat), (v = u ∧ v < 100000) ∨ (100000 ≤ v ∧ 100000 ≤ u) → (t_vl b d j v = t_ml b d j u ∧ t_vl b d j v < 100000) ∨ (100000 ≤ t_vl b d j v ∧ 100000 ≤ t_ml b d j u)
  | 0, _, _, _, h => h
  | d + 1, j, v, u, h => by
    refine vm_l b d (j + 1) _ _ ?_
    rcases h with ⟨rfl, h⟩ | ⟨h1, h2⟩
    · rw [if_pos h, if_pos (by omega)]; omega
    · rw [if_neg (by omega)]
      split <;> omega
theorem ml_r (b : aR) : ∀ (d j v : Nat), v ≤ 1000009 → (∀ x, j ≤ x → x < j + d → kB (b x) = 2) → t_ml b d j v ≤ 1000009
  | 0, _, v, h, _ => h
  | d + 1, j, v, h, hx => by
    have := (t_d_r (hx j (Nat.le_refl _) (by omega))).1
    unfold t_ml
    refine ml_r b d (j + 1) _ ?_ (fun x h1 h2 => hx x (by omega) (by omega))
    split <;> omega
