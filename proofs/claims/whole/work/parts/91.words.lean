/-! ===== words ===== -/
def wN : List (List Nat) := [[111, 114, 98, 105, 116], [115, 116, 97, 116, 105, 111, 110], [103, 114, 111, 117, 110, 100], [112, 97, 116, 105, 101, 110, 99, 101], [102, 114, 101, 115, 104], [109, 101, 109, 111, 114, 121], [112, 111, 108, 105, 99, 121], [114, 101, 99, 111, 114, 100], [115, 116, 97, 121], [108, 111, 110, 103, 101, 115, 116]]
def wC (q j : Nat) : Int32 := nI ((wN.getD q []).getD j 0)
def wB (q : Nat) : Nat := ([0, 6, 14, 21, 30, 36, 43, 50, 57, 62] : List Nat).getD q 70
def wZ (x : Nat) : Int32 := nI (([111, 114, 98, 105, 116, 32, 115, 116, 97, 116, 105, 111, 110, 32, 103, 114, 111, 117, 110, 100, 32, 112, 97, 116, 105, 101, 110, 99, 101, 32, 102, 114, 101, 115, 104, 32, 109, 101, 109, 111, 114, 121, 32, 112, 111, 108, 105, 99, 121, 32, 114, 101, 99, 111, 114, 100, 32, 115, 116, 97, 121, 32, 108, 111, 110, 103, 101, 115, 116, 32] : List Nat).getD x 0)
theorem wz_c : ∀ q, q < 10 → (∀ j, j < a_sl q → wZ (wB q + j) = wC q j ∧ ¬ wC q j = 32) ∧ wZ (wB q + a_sl q) = 32 ∧ wB (q + 1) = wB q + a_sl q + 1 ∧ wB q + a_sl q < 70 ∧ a_sl q ≤ 8 := by decide +kernel
theorem ws_c : ∀ q, q < 10 → Int32.ofNat (a_sl q) >>> ((0 : Int32) &&& 31) = nI (a_sl q) ∧ ∀ j, j < a_sl q → UInt32.toInt32 (Int32.toUInt32 (wC q j &&& 255) % 65536) = wC q j ∧ a_rok (a_rt 307) (wC q j) = true ∧ a_rok (a_rt 303) (wC q j) = true := by decide +kernel
theorem ws_0 : a_rok (a_rt 304) 0 = true := by decide +kernel
/-- the constants: the class's strings and the reference's words -/
def Wd (I : aI) : Prop := (∀ q, q < 10 → I 1 q 1 = 0 ∧ ∀ j, j < a_sl q → I 2 q j = wC q j) ∧ ∀ x, x < 70 → I 29 0 x = wZ x
theorem C_302 (I : aI) (w : aW) (k : aQ) (hW : Wd I) {q : Nat} (hq : q < 10) : rn 302 (a_en 302 [.inr (.inr (some (1, q)))] (MM I w k)) = some (.inl (some (.inl (nI (a_sl q)))), MM I w k) := by
  refine (e302_0 I w k _).trans ?_
  have e : rn 304 (a_en 304 [.inr (.inr (some (1, q)))] (MM I w k)) = some (.inl (some (.inl 0)), MM I w k) := by
    refine (e304_0 I w k _).trans ?_
    rw [(hW.1 q hq).1, ws_0, cond_true]
  refine (bk_v e).trans ?_
  refine (e302_9 I w k _ _ _).trans ?_
  rw [(ws_c q hq).1]
theorem C_303 (I : aI) (w : aW) (k : aQ) (hW : Wd I) {q j : Nat} (hq : q < 10) (hj : j < a_sl q) : rn 303 (a_en 303 [.inr (.inr (some (1, q))), .inl (nI j)] (MM I w k)) = some (.inl (some (.inl (wC q j))), MM I w k) := by
  have h8 := (wz_c q hq).2.2.2.2
  refine (e303_0 I w k _ _).trans ?_
  have e5 : rn 305 (a_en 305 [.inr (.inr (some (1, q)))] (MM I w k)) = some (.inl (some (.inl 1)), MM I w k) := by
    refine (e305_0 I w k _).trans ?_
    rw [(hW.1 q hq).1]
    exact zc_f (fun z => z rfl)
  refine (bk_v e5).trans ?_
  refine (e303_4 I w k _ _ _).trans ?_
  refine (zc_f (by decide)).trans ?_
  have e6 : rn 306 (a_en 306 [.inl (nI j), .inl (Int32.ofNat (a_sl q))] (MM I w k)) = some (.inl none, MM I w k) := by
    refine (e306_0 I w k _ _).trans ?_
    have e9 : rn 309 (a_en 309 [.inl (nI j), .inl (Int32.ofNat (a_sl q)), .inr (.inr w.2.2.2.2)] (MM I w k)) = some (.inl (some (.inl (nI j))), MM I w k) := by
      refine (e309_0 I w k _ _ _).trans ?_
      refine (zc_f (fun z => by have z := (fa_lt _ _).mp z; rw [nI_toInt (by omega), show (0 : Int32).toInt = 0 from by decide] at z; omega)).trans ?_
      exact zc_t (show nI j < nI (a_sl q) from (fa_lt _ _).mpr (by rw [nI_toInt (by omega), nI_toInt (by omega)]; omega))
    refine (bk_v e9).trans ?_
    exact e306_8 I w k _ _ _
  have e7 : rn 307 (a_en 307 [.inr (.inr (some (2, q))), .inl (nI j)] (MM I w k)) = some (.inl (some (.inl (wC q j))), MM I w k) := by
    refine (e307_0 I w k _ _).trans ?_
    refine (bk_n e6).trans ?_
    refine (e307_6 I w k _ _).trans ?_
    obtain ⟨g1, g2, g3⟩ := (ws_c q hq).2 j hj
    rw [z_in hj (by omega), cond_true, nI_clamp (by omega), (hW.1 q hq).2 j hj, g1, g2, cond_true]
  refine (bk_v e7).trans ?_
  refine (e303_15 I w k _ _ _).trans ?_
  rw [((ws_c q hq).2 j hj).2.2, cond_true]
def t_l (b : aR) (f q : Nat) : Nat → Nat → Bool
  | 0, _ => true
  | d + 1, j => if b (f + j) = wC q j then t_l b f q d (j + 1) else false
/-- the token behind p is the word q -/
abbrev t_m (b : aR) (n p q : Nat) : Prop := t_k b n p = 1 ∧ t_e b n p - t_f b n p = a_sl q ∧ t_l b (t_f b n p) q (a_sl q) 0 = true
section
variable {b : aR} {n p : Nat}
theorem C_35L (I : aI) (w : aW) (k : aQ) (hW : Wd I) {f q : Nat} (hq : q < 10) (hb : ∀ x, x < n → I 7 0 x = b x) (hn : n ≤ 400) (hf : f + a_sl q ≤ n) (h6 : I 21 0 5 = nI f) : ∀ (d j : Nat), j + d = a_sl q → rn 35 (28, [some (.inr (.inr (some (21, 0)))), some (.inr (.inr (some (1, q)))), some (.inl (nI j))], [], MM I w k) = some (.inl (some (.inl (tf (t_l b f q d j = true)))), MM I w k) := by
  have h8 := (wz_c q hq).2.2.2.2
  intro d
  induction d with
  | zero =>
    intro j hj
    refine (e35_28 I w k _ _).trans ?_
    refine (bk_v (C_302 I w k hW hq)).trans ?_
    refine (e35_33 I w k _ _ _ _).trans ?_
    refine (zc_t (nI_le (by omega) (by omega))).trans ?_
    rw [tft (show t_l b f q 0 j = true from rfl)]
  | succ d ih =>
    intro j hj
    refine (e35_28 I w k _ _).trans ?_
    refine (bk_v (C_302 I w k hW hq)).trans ?_
    refine (e35_33 I w k _ _ _ _).trans ?_
    refine (zc_f (nI_ge (by omega) (by omega))).trans ?_
    rw [h6, nI_add, z_in (by omega) (by decide), nI_clamp (by omega), cond_true]
    refine (bk_v (C_303 I w k hW hq (show j < a_sl q by omega))).trans ?_
    refine (e35_52 I w k _ _ _ _).trans ?_
    rw [hb _ (by omega), nI_1]
    unfold t_l
    by_cases h : b (f + j) = wC q j
    · rw [zc_t h, if_pos h]; exact ih (j + 1) (by omega)
    · rw [zc_f h, if_neg h]; rfl
/-- the class's token stands at the token behind p -/
def Ck (b : aR) (n p : Nat) (I : aI) : Prop := I 21 0 4 = nI (t_k b n p) ∧ I 21 0 5 = nI (t_f b n p) ∧ I 21 0 6 = nI (t_e b n p)
theorem C_35 (I : aI) (w : aW) (k : aQ) (hW : Wd I) {q : Nat} (hq : q < 10) (hb : ∀ x, x < n → I 7 0 x = b x) (hn : n ≤ 400) (hp : p ≤ n) (hk : Ck b n p I) : rn 35 (a_en 35 [.inr (.inr (some (21, 0))), .inr (.inr (some (1, q)))] (MM I w k)) = some (.inl (some (.inl (tf (t_m b n p q)))), MM I w k) := by
  have h8 := (wz_c q hq).2.2.2.2
  have he := t_e_r b hp
  refine (e35_0 I w k _).trans ?_
  rw [hk.1]
  by_cases h1 : t_k b n p = 1
  · refine (zc_f (fun z => z (by rw [h1]; rfl))).trans ?_
    refine (bk_v (C_302 I w k hW hq)).trans ?_
    refine (e35_21 I w k _ _ _ _).trans ?_
    rw [hk.2.1, hk.2.2, z_sub he.1]
    by_cases h2 : t_e b n p - t_f b n p = a_sl q
    · refine (zc_t (by rw [h2])).trans ?_
      rw [tfe (show t_m b n p q ↔ t_l b (t_f b n p) q (a_sl q) 0 = true from ⟨fun z => z.2.2, fun z => ⟨h1, h2, z⟩⟩)]
      exact C_35L I w k hW hq hb hn (by omega) hk.2.1 (a_sl q) 0 (by omega)
    · refine (zc_f (fun z => h2 ((nI_eq (by omega) (by omega)).mp z))).trans ?_
      rw [tff (fun z => h2 z.2.1)]
  · have := t_k_r b n p
    have hz : ¬ nI (t_k b n p) = 1 := fun z => h1 ((nI_eq (b := 1) (by omega) (by omega)).mp z)
    refine (zc_t hz).trans ?_
    rw [tff (fun z => h1 z.1)]
/-! the reference's words -/
def t_i (b : aR) (f e q : Nat) : Nat → Nat → Bool → Bool
  | 0, _, B => B
  | d + 1, j, B => t_i b f e q d (j + 1) (if B = true then (if f + j < e then decide (b (f + j) = wC q j) else false) else false)
theorem t_i_f (b : aR) (f e q : Nat) : ∀ (d j : Nat), t_i b f e q d j false = false
  | 0, _ => rfl
  | d + 1, j => by unfold t_i; rw [if_neg (by decide)]; exact t_i_f b f e q d (j + 1)
theorem t_i_t (b : aR) {f e q : Nat} : ∀ (d j : Nat), f + j + d ≤ e → t_i b f e q d j true = t_l b f q d j
  | 0, _, _ => rfl
  | d + 1, j, h => by
    unfold t_i t_l
    rw [if_pos rfl, if_pos (by omega)]
    by_cases g : b (f + j) = wC q j
    · rw [decide_eq_true g, if_pos g]; exact t_i_t b d (j + 1) (by omega)
    · rw [decide_eq_false g, if_neg g]; exact t_i_f b f e q d (j + 1)
def t_wl (b : aR) (n p : Nat) : Nat → Nat → Int32
  | 0, _ => -1
  | d + 1, q => if t_m b n p q then nI q else t_wl b n p d (q + 1)
/-- which word stands behind p; none -/
def t_w (b : aR) (n p : Nat) : Int32 := t_wl b n p 10 0
theorem M_284I (I : aI) (w : aW) (k : aQ) (hW : Wd I) {q f e : Nat} (hq : q < 10) (hb : ∀ x, x < n → I 28 0 x = b x) (hn : n ≤ 400) (hfe : f ≤ e) (he : e ≤ n) (h11 : I 31 0 11 = nI e) (h12 : I 31 0 12 = nI f) : ∀ (d j : Nat) (B : Bool), j + d = a_sl q → rn 284 (23, [some (.inr (.inr (some (31, 0)))), some (.inl (nI (wB q))), some (.inl (nI q)), some (.inl (nI j)), some (.inl (tf (B = true)))], [], MM I w k) = cond (decide (t_i b f e q d j B = true ∧ e - f = a_sl q)) (some (.inl (some (.inl (nI q))), MM I w k)) (rn 284 (4, [some (.inr (.inr (some (31, 0)))), some (.inl (nI (wB (q + 1)))), some (.inl (nI (q + 1))), some (.inl (nI (a_sl q))), some (.inl (tf (t_i b f e q d j B = true)))], [], MM I w k)) := by
  obtain ⟨g1, g2, g3, g4, g5⟩ := wz_c q hq
  intro d
  induction d with
  | zero =>
    intro j B hj
    have hj2 : j = a_sl q := by omega
    subst hj2
    refine (e284_23 I w k _ _ _ _).trans ?_
    rw [nI_add, z_in g4 (by decide), nI_clamp (by omega), cond_true, hW.2 _ g4, g2]
    refine (zc_t rfl).trans ?_
    rw [nI_1, nI_1, nI_add, h11, h12, z_sub hfe, g3, Nat.add_assoc]
    show _ = cond (decide (B = true ∧ e - f = a_sl q)) _ (rn 284 (4, [some (.inr (.inr (some (31, 0)))), some (.inl (nI (wB q + (a_sl q + 1)))), some (.inl (nI (q + 1))), some (.inl (nI (a_sl q))), some (.inl (tf (B = true)))], [], MM I w k))
    by_cases hB : B = true
    · refine (zc_f (by rw [tft hB]; decide)).trans ?_
      by_cases h5 : e - f = a_sl q
      · rw [zc_f (fun z => z (by rw [h5])), zc_t ⟨hB, h5⟩]
      · have hz : ¬ nI (e - f) = nI (a_sl q) := fun z => h5 ((nI_eq (by omega) (by omega)).mp z)
        rw [zc_t hz, zc_f (fun z => h5 z.2)]
    · refine (zc_t (tff hB)).trans ?_
      rw [zc_f (fun z => hB z.1)]
  | succ d ih =>
    intro j B hj
    obtain ⟨k1, k2⟩ := g1 j (by omega)
    refine (e284_23 I w k _ _ _ _).trans ?_
    rw [nI_add, z_in (by omega) (by decide), nI_clamp (by omega), cond_true, hW.2 _ (by omega), k1]
    refine (zc_f k2).trans ?_
    rw [nI_1]
    have stepF := ih (j + 1) false (by omega)
    have stepT := ih (j + 1) true (by omega)
    rw [tff (show ¬ false = true by decide)] at stepF
    rw [tft (rfl : true = true)] at stepT
    by_cases hB : B = true
    · refine (zc_f (by rw [tft hB]; decide)).trans ?_
      rw [h11, h12, nI_add]
      by_cases h5 : f + j < e
      · refine (zc_f (nI_ge h5 (by omega))).trans ?_
        rw [z_in (by omega) (by decide), nI_clamp (by omega), cond_true, cond_true, hb _ (by omega)]
        by_cases h6 : b (f + j) = wC q j
        · refine (zc_f (fun z => z h6)).trans ?_
          refine stepT.trans ?_
          have et : t_i b f e q (d + 1) j B = t_i b f e q d (j + 1) true := by
            show t_i b f e q d (j + 1) (if B = true then (if f + j < e then decide (b (f + j) = wC q j) else false) else false) = _
            rw [if_pos hB, if_pos h5, decide_eq_true h6]
          rw [et]
        · refine (zc_t h6).trans ?_
          refine stepF.trans ?_
          have et : t_i b f e q (d + 1) j B = t_i b f e q d (j + 1) false := by
            show t_i b f e q d (j + 1) (if B = true then (if f + j < e then decide (b (f + j) = wC q j) else false) else false) = _
            rw [if_pos hB, if_pos h5, decide_eq_false h6]
          rw [et]
      · refine (zc_t (nI_le (by omega) (by omega))).trans ?_
        refine stepF.trans ?_
        have et : t_i b f e q (d + 1) j B = t_i b f e q d (j + 1) false := by
          show t_i b f e q d (j + 1) (if B = true then (if f + j < e then decide (b (f + j) = wC q j) else false) else false) = _
          rw [if_pos hB, if_neg h5]
        rw [et]
    · refine (zc_t (tff hB)).trans ?_
      refine stepF.trans ?_
      have et : t_i b f e q (d + 1) j B = t_i b f e q d (j + 1) false := by
        show t_i b f e q d (j + 1) (if B = true then (if f + j < e then decide (b (f + j) = wC q j) else false) else false) = _
        rw [if_neg hB]
      rw [et]
theorem M_284L (I : aI) (w : aW) (k : aQ) (hW : Wd I) (hb : ∀ x, x < n → I 28 0 x = b x) (hn : n ≤ 400) (hp : p ≤ n) (hk : t_k b n p = 1) (h11 : I 31 0 11 = nI (t_e b n p)) (h12 : I 31 0 12 = nI (t_f b n p)) (h13 : I 31 0 13 = 1) : ∀ (d q : Nat) (d3 d4 : Option aV), q + d = 10 → rn 284 (4, [some (.inr (.inr (some (31, 0)))), some (.inl (nI (wB q))), some (.inl (nI q)), d3, d4], [], MM I w k) = some (.inl (some (.inl (t_wl b n p d q))), MM I w k) := by
  have he := t_e_r b hp
  intro d
  induction d with
  | zero =>
    intro q d3 d4 hq
    refine (e284_4 I w k _ _ _ _).trans ?_
    rw [h13]
    refine (zc_f (fun z => z rfl)).trans ?_
    exact zc_t (show (10 : Int32) ≤ nI q from nI_le (a := 10) (by omega) (by omega))
  | succ d ih =>
    intro q d3 d4 hq
    refine (e284_4 I w k _ _ _ _).trans ?_
    rw [h13]
    refine (zc_f (fun z => z rfl)).trans ?_
    refine (zc_f (show ¬ (10 : Int32) ≤ nI q from nI_ge (b := 10) (by omega) (by omega))).trans ?_
    have i1 := M_284I I w k hW (q := q) (by omega) hb hn he.1 he.2.1 h11 h12 (a_sl q) 0 true (by omega)
    rw [tft (rfl : true = true)] at i1
    refine i1.trans ?_
    unfold t_wl
    have iff : (t_i b (t_f b n p) (t_e b n p) q (a_sl q) 0 true = true ∧ t_e b n p - t_f b n p = a_sl q) ↔ t_m b n p q := by
      constructor
      · rintro ⟨z1, z2⟩
        rw [t_i_t b _ _ (by omega)] at z1
        exact ⟨hk, z2, z1⟩
      · rintro ⟨-, z2, z3⟩
        rw [t_i_t b _ _ (by omega)]
        exact ⟨z3, z2⟩
    by_cases h : t_m b n p q
    · rw [zc_t (iff.mpr h), if_pos h]
    · rw [zc_f (fun z => h (iff.mp z)), if_neg h]; exact ih (q + 1) _ _ (by omega)
theorem wl_n (hk : ¬ t_k b n p = 1) : ∀ (d q : Nat), t_wl b n p d q = -1
  | 0, _ => rfl
  | d + 1, q => by unfold t_wl; rw [if_neg (fun z => hk z.1)]; exact wl_n hk d (q + 1)
theorem M_284 (I : aI) (w : aW) (k : aQ) (hW : Wd I) (hb : ∀ x, x < n → I 28 0 x = b x) (hn : n ≤ 400) (hp : p ≤ n) (hk : Mk b n p I) : rn 284 (a_en 284 [.inr (.inr (some (31, 0)))] (MM I w k)) = some (.inl (some (.inl (t_w b n p))), MM I w k) := by
  refine (e284_0 I w k).trans ?_
  by_cases h : t_k b n p = 1
  · exact M_284L I w k hW hb hn hp h hk.1 hk.2.1 (by rw [hk.2.2.1, h]; rfl) 10 0 _ _ (by omega)
  · refine (e284_4 I w k _ _ _ _).trans ?_
    rw [hk.2.2.1]
    have := t_k_r b n p
    have hz : ¬ nI (t_k b n p) = 1 := fun z => h ((nI_eq (b := 1) (by omega) (by omega)).mp z)
    refine (zc_t hz).trans ?_
    unfold t_w
    rw [wl_n h]
/-- two words at one place are one -/
theorem t_l_g (b : aR) {f q : Nat} : ∀ (d j : Nat), t_l b f q d j = true → ∀ x, j ≤ x → x < j + d → b (f + x) = wC q x
  | 0, j, _, x, h1, h2 => by omega
  | d + 1, j, h, x, h1, h2 => by
    unfold t_l at h
    by_cases g : b (f + j) = wC q j
    · rw [if_pos g] at h
      by_cases e : x = j
      · subst e; exact g
      · exact t_l_g b d (j + 1) h x (by omega) (by omega)
    · rw [if_neg g] at h; cases h
theorem w_ne : ∀ q, q < 10 → ∀ r, r < 10 → q ≠ r → a_sl q ≠ a_sl r ∨ ¬ wC q 0 = wC r 0 ∨ ¬ wC q 1 = wC r 1 := by decide +kernel
theorem t_m_u {q r : Nat} (hq : q < 10) (hr : r < 10) (h1 : t_m b n p q) (h2 : t_m b n p r) : q = r := by
  refine Classical.byContradiction (fun hne => ?_)
  have q4 : ∀ q, q < 10 → 2 ≤ a_sl q := by decide +kernel
  have g := q4 q hq
  have g2 := q4 r hr
  rcases w_ne q hq r hr hne with z | z | z
  · exact z (h1.2.1.symm.trans h2.2.1)
  · exact z ((t_l_g b _ _ h1.2.2 0 (by omega) (by omega)).symm.trans (t_l_g b _ _ h2.2.2 0 (by omega) (by omega)))
  · exact z ((t_l_g b _ _ h1.2.2 1 (by omega) (by omega)).symm.trans (t_l_g b _ _ h2.2.2 1 (by omega) (by omega)))
theorem wl_y {q : Nat} (h : t_m b n p q) (hq : q < 10) : ∀ (d r : Nat), r + d = 10 → r ≤ q → t_wl b n p d r = nI q
  | 0, r, h1, h2 => by omega
  | d + 1, r, h1, h2 => by
    unfold t_wl
    by_cases g : t_m b n p r
    · rw [if_pos g, t_m_u (by omega) hq g h]
    · rw [if_neg g]
      have : r ≠ q := fun z => g (z ▸ h)
      exact wl_y h hq d (r + 1) (by omega) (by omega)
theorem wl_z (h : ∀ q, q < 10 → ¬ t_m b n p q) : ∀ (d r : Nat), r + d = 10 → t_wl b n p d r = -1
  | 0, _, _ => rfl
  | d + 1, r, h1 => by unfold t_wl; rw [if_neg (h r (by omega))]; exact wl_z h d (r + 1) (by omega)
theorem t_w_y {q : Nat} (h : t_m b n p q) (hq : q < 10) : t_w b n p = nI q := wl_y h hq 10 0 (by omega) (by omega)
theorem t_w_n (h : ∀ q, q < 10 → ¬ t_m b n p q) : t_w b n p = -1 := wl_z h 10 0 (by omega)
end
