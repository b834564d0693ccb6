/-! ===== the class: fractions and the median ===== -/
theorem C_169L (I : aI) (w : aW) (k : aQ) (d0 d1 : Option aV) : ∀ (m x y j : Nat) (d5 : Option aV), y ≤ x → x < 2 ^ m → m ≤ 31 → j + 2 * m ≤ 70 → rn 169 (7, [d0, d1, some (.inl (nI x)), some (.inl (nI y)), some (.inl (nI j)), d5], [], MM I w k) = some (.inl (some (.inl (nI (Nat.gcd x y)))), MM I w k) := by
  intro m
  induction m with
  | zero =>
    intro x y j d5 hy hx _ hj
    have hx0 : x = 0 := by simpa using hx
    subst hx0
    have hy0 : y = 0 := by omega
    subst hy0
    refine (e169_7 I w k _ _ _ _ _ _).trans ?_
    refine (zc_f (show ¬ (100 : Int32) ≤ nI j from nI_ge (b := 100) (by omega) (by omega))).trans ?_
    exact zc_t (show nI 0 ≤ (0 : Int32) from by decide)
  | succ m ih =>
    intro x y j d5 hy hx hm hj
    have hx31 : x < 2 ^ 31 := Nat.lt_of_lt_of_le hx (Nat.pow_le_pow_right (by decide) hm)
    refine (e169_7 I w k _ _ _ _ _ _).trans ?_
    refine (zc_f (show ¬ (100 : Int32) ≤ nI j from nI_ge (b := 100) (by omega) (by omega))).trans ?_
    rcases Nat.eq_zero_or_pos y with h0 | h0
    · subst h0
      rw [Nat.gcd_zero_right]
      exact zc_t (show nI 0 ≤ (0 : Int32) from by decide)
    · have hr := Nat.mod_lt x h0
      refine (zc_f (show ¬ nI y ≤ (0 : Int32) from nI_ge (a := 0) (b := y) (by omega) (by omega))).trans ?_
      refine (zc_t (nI_ne0 h0 (by omega))).trans ?_
      rw [z_rem hx31 (by omega), nI_1]
      refine (e169_7 I w k _ _ _ _ _ _).trans ?_
      refine (zc_f (show ¬ (100 : Int32) ≤ nI (j + 1) from nI_ge (b := 100) (by omega) (by omega))).trans ?_
      have eg : Nat.gcd x y = Nat.gcd y (x % y) := by rw [Nat.gcd_comm x y, Nat.gcd_rec y x, Nat.gcd_comm]
      rcases Nat.eq_zero_or_pos (x % y) with h1 | h1
      · rw [eg, h1, Nat.gcd_zero_right]
        exact zc_t (show nI 0 ≤ (0 : Int32) from by decide)
      · refine (zc_f (show ¬ nI (x % y) ≤ (0 : Int32) from nI_ge (a := 0) (b := x % y) (by omega) (by omega))).trans ?_
        refine (zc_t (nI_ne0 h1 (by omega))).trans ?_
        rw [z_rem (by omega) (by omega), nI_1]
        have hh : x % y < 2 ^ m := by
          have h2 := Nat.div_add_mod x y
          have h3 : 1 ≤ x / y := (Nat.one_le_div_iff h0).mpr hy
          have h4 : y * 1 ≤ y * (x / y) := Nat.mul_le_mul_left y h3
          rw [Nat.pow_succ] at hx
          omega
        have h5 := Nat.mod_lt y h1
        rw [ih (x % y) (y % (x % y)) (j + 1 + 1) _ (by omega) hh (by omega) (by omega), eg, Nat.gcd_comm y (x % y), Nat.gcd_rec (x % y) y, Nat.gcd_comm (y % (x % y))]
theorem C_169 (I : aI) (w : aW) (k : aQ) {x y : Nat} (hx : x < 2 ^ 31) (hy : y < 2 ^ 31) : rn 169 (a_en 169 [.inl (nI x), .inl (nI y)] (MM I w k)) = some (.inl (some (.inl (nI (Nat.gcd x y)))), MM I w k) := by
  refine (e169_0 I w k _ _).trans ?_
  rcases Nat.lt_or_ge x y with h | h
  · refine (e169_7 I w k _ _ _ _ _ _).trans ?_
    refine (zc_f (show ¬ (100 : Int32) ≤ 0 from by decide)).trans ?_
    refine (zc_f (show ¬ nI y ≤ (0 : Int32) from nI_ge (a := 0) (b := y) (by omega) (by omega))).trans ?_
    refine (zc_t (nI_ne0 (by omega) (by omega))).trans ?_
    rw [z_rem hx hy, Nat.mod_eq_of_lt h, Nat.gcd_comm]
    exact C_169L I w k _ _ 31 y x 1 _ (by omega) hy (by omega) (by omega)
  · exact C_169L I w k _ _ 31 x y 0 _ h hx (by omega) (by omega)
theorem C_168 (I : aI) (w : aW) (k : aQ) {x y : Nat} (hx : x < 2 ^ 31) (hy : y < 2 ^ 31) : rn 168 (a_en 168 [.inl (nI x), .inl (nI y)] (MM I w k)) = some (.inl (some (.inl (nI (x / Nat.gcd x y)))), MM I w k) := by
  refine (e168_0 I w k _ _).trans ?_
  refine (bk_v (C_169 I w k hx hy)).trans ?_
  refine (e168_5 I w k _ _ _ _).trans ?_
  rcases Nat.eq_zero_or_pos (Nat.gcd x y) with h | h
  · rw [h, Nat.div_zero]
    exact zc_f (show ¬ (1 : Int32) ≤ nI 0 from by decide)
  · have hl : Nat.gcd x y < 2 ^ 31 := by
      rcases Nat.eq_zero_or_pos x with h1 | h1
      · subst h1; rw [Nat.gcd_zero_left]; exact hy
      · exact Nat.lt_of_le_of_lt (Nat.gcd_le_left y h1) hx
    refine (zc_t (show (1 : Int32) ≤ nI (Nat.gcd x y) from nI_le (a := 1) h hl)).trans ?_
    refine (zc_t (nI_ne0 h hl)).trans ?_
    rw [z_div hx hl]
/-! sorted rows and counts -/
def cL (K : Nat → Nat) (v c : Nat) : Nat := fb_ct (fun a => decide (K a < v)) c
def Srt (K : Nat → Nat) (c : Nat) : Prop := ∀ a b, a < b → b < c → K a ≤ K b
theorem ct_all {p : Nat → Bool} : ∀ {n : Nat}, (∀ a, a < n → p a = true) → fb_ct p n = n
  | 0, _ => rfl
  | n + 1, h => by rw [fb_ct_succ, ct_all (fun a ha => h a (by omega)), h n (by omega), if_pos rfl]
theorem ct_none {p : Nat → Bool} : ∀ {m n : Nat}, m ≤ n → (∀ a, m ≤ a → a < n → p a = false) → fb_ct p n = fb_ct p m
  | m, 0, h, _ => by have : m = 0 := by omega
                     rw [this]
  | m, n + 1, h, h2 => by
    by_cases hm : m = n + 1
    · rw [hm]
    · rw [fb_ct_succ, h2 n (by omega) (by omega), if_neg (by decide), Nat.add_zero, ct_none (by omega) (fun a h3 h4 => h2 a h3 (by omega))]
theorem srt_lo {K : Nat → Nat} {c p v : Nat} (hs : Srt K c) (hp : p < c) (hv : v ≤ K p) : cL K v c ≤ p := by
  unfold cL
  rw [ct_none (m := p) (by omega) (fun a h1 h2 => decide_eq_false (by
    by_cases h3 : a = p
    · subst h3; omega
    · have := hs p a (by omega) h2; omega))]
  exact fb_ct_le _ p
theorem srt_hi {K : Nat → Nat} {c p v : Nat} (hs : Srt K c) (hp : p < c) (hv : K p < v) : p < cL K v c := by
  unfold cL
  have h1 : fb_ct (fun a => decide (K a < v)) (p + 1) = p + 1 := ct_all (fun a ha => decide_eq_true (by
    by_cases h3 : a = p
    · subst h3; omega
    · have := hs a p (by omega) hp; omega))
  have := fb_ct_mono (fun a => decide (K a < v)) (m := p + 1) (n := c) (by omega)
  omega
/-- how many of the delivered records have a delay below v -/
def dN (r : aR) (q : Nat) : Nat := (m_dy r q).toNatClampNeg
def cR (r : aR) (v n : Nat) : Nat := fb_ct (fun q => decide (¬ r (68 + 8 * q + 6) = -1 ∧ dN r q < v)) n
theorem dN_v {r : aR} {q : Nat} (hD : Rd r) (hq : q < nR r) (h : ¬ r (68 + 8 * q + 6) = -1) : m_dy r q = nI (dN r q) ∧ dN r q < 2 ^ 31 := by
  rcases hD q hq with ⟨-, h2⟩ | ⟨v, v1, v2, -⟩
  · exact absurd h2 h
  · have : dN r q = v := by unfold dN; rw [v2, nI_clamp v1]
    rw [this]; exact ⟨v2, v1⟩
theorem bw_v {r : aR} (hD : Rd r) {v : Nat} (hv : v < 2 ^ 31) (b : Int32) : ∀ (d j n : Nat), j + d = nR r → n = cR r (if b = 0 then v else v + 1) j → nR r < 2 ^ 20 → m_bw r (nI v) b d j (nI n) = nI (cR r (if b = 0 then v else v + 1) (nR r)) := by
  intro d
  induction d with
  | zero =>
    intro j n hj hn h20
    rw [hn, show j = nR r by omega]; rfl
  | succ d ih =>
    intro j n hj hn h20
    have hs : cR r (if b = 0 then v else v + 1) (j + 1) = cR r (if b = 0 then v else v + 1) j + (if decide (¬ r (68 + 8 * j + 6) = -1 ∧ dN r j < (if b = 0 then v else v + 1)) = true then 1 else 0) := fb_ct_succ _ _
    unfold m_bw
    rcases hD j (by omega) with ⟨h1, h2⟩ | ⟨u, u1, u2, u3⟩
    · rw [if_pos h1, Int32.add_zero]
      refine ih (j + 1) n (by omega) ?_ h20
      rw [hs, decide_eq_false (fun z => z.1 h2)]; exact hn
    · have hd : dN r j = u := by unfold dN; rw [u2, nI_clamp u1]
      rw [u2, if_neg (nI_n1 u1), Int32.add_zero, show nI n + 1 = nI (n + 1) from nI_1 n]
      have yes : dN r j < (if b = 0 then v else v + 1) → m_bw r (nI v) b d (j + 1) (nI (n + 1)) = nI (cR r (if b = 0 then v else v + 1) (nR r)) := fun z => by
        refine ih (j + 1) (n + 1) (by omega) ?_ h20
        rw [hs, decide_eq_true ⟨u3, z⟩, if_pos rfl, hn]
      have no : ¬ dN r j < (if b = 0 then v else v + 1) → m_bw r (nI v) b d (j + 1) (nI n) = nI (cR r (if b = 0 then v else v + 1) (nR r)) := fun z => by
        refine ih (j + 1) n (by omega) ?_ h20
        rw [hs, decide_eq_false (fun y => z y.2)]; exact hn
      by_cases h5 : u < v
      · rw [if_pos (show nI u < nI v from (fa_lt _ _).mpr (by rw [nI_toInt u1, nI_toInt hv]; omega))]
        exact yes (by rw [hd]; split <;> omega)
      · rw [if_neg (show ¬ nI u < nI v from fun z => h5 (by have z := (fa_lt _ _).mp z; rw [nI_toInt u1, nI_toInt hv] at z; omega))]
        by_cases hb : b = 0
        · rw [if_pos hb]; exact no (by rw [hd, if_pos hb]; omega)
        · rw [if_neg hb]
          by_cases h6 : u = v
          · rw [if_pos (by rw [h6])]; exact yes (by rw [hd, if_neg hb]; omega)
          · rw [if_neg (fun z => h6 ((nI_eq u1 hv).mp z))]; exact no (by rw [hd, if_neg hb]; omega)
/-- the class's row stands for the delays of the first j records -/
def Rw (r : aR) (K : Nat → Nat) (c j : Nat) : Prop := Srt K c ∧ ∀ v, cL K v c = cR r v j
theorem md_v {r : aR} (hD : Rd r) (h20 : nR r < 2 ^ 20) {K : Nat → Nat} {c p : Nat} (hR : Rw r K c (nR r)) (hp : p < c) (hp2 : p < 2 ^ 20) (hK : K p < 2 ^ 31) : ∀ (d j : Nat), j + d = nR r → (∃ q, j ≤ q ∧ q < nR r ∧ ¬ r (68 + 8 * q + 6) = -1 ∧ dN r q = K p) → m_md r (nI p) d j = nI (K p) := by
  intro d
  induction d with
  | zero => rintro j hj ⟨q, q1, q2, -⟩; omega
  | succ d ih =>
    rintro j hj ⟨q, q1, q2, q3, q4⟩
    have next : ¬ (¬ r (68 + 8 * j + 6) = -1 ∧ dN r j = K p) → m_md r (nI p) d (j + 1) = nI (K p) := fun z => ih (j + 1) (by omega) ⟨q, by
      by_cases e : j = q
      · subst e; exact absurd ⟨q3, q4⟩ z
      · omega, q2, q3, q4⟩
    unfold m_md
    rcases hD j (by omega) with ⟨h1, h2⟩ | ⟨u, u1, u2, u3⟩
    · rw [if_pos h1]; exact next (fun z => z.1 h2)
    · have hd : dN r j = u := by unfold dN; rw [u2, nI_clamp u1]
      have b0 := bw_v hD u1 0 (nR r) 0 0 (by omega) rfl h20
      have b1 := bw_v hD u1 1 (nR r) 0 0 (by omega) rfl h20
      rw [if_pos rfl] at b0
      rw [if_neg (by decide)] at b1
      have c0 : cR r u (nR r) < 2 ^ 31 := Nat.lt_of_le_of_lt (fb_ct_le _ _) (by omega)
      have c1 : cR r (u + 1) (nR r) < 2 ^ 31 := Nat.lt_of_le_of_lt (fb_ct_le _ _) (by omega)
      have b0 : m_bw r (nI u) 0 (nR r) 0 0 = nI (cR r u (nR r)) := b0
      have b1 : m_bw r (nI u) 1 (nR r) 0 0 = nI (cR r (u + 1) (nR r)) := b1
      rw [u2, if_neg (nI_n1 u1), b0, b1]
      have hlt : (nI p < nI (cR r u (nR r))) ↔ p < cR r u (nR r) := by rw [fa_lt, nI_toInt (by omega), nI_toInt c0]; omega
      have hle : (nI (cR r (u + 1) (nR r)) ≤ nI p) ↔ cR r (u + 1) (nR r) ≤ p := by rw [fa_le, nI_toInt c1, nI_toInt (by omega)]; omega
      rcases Nat.lt_trichotomy u (K p) with h | h | h
      · have h5 : cR r (u + 1) (nR r) ≤ p := by rw [← hR.2]; exact srt_lo hR.1 hp (by omega)
        rw [if_pos (hle.mpr h5)]
        split <;> exact next (fun z => by omega)
      · have h5 : cR r u (nR r) ≤ p := by rw [← hR.2]; exact srt_lo hR.1 hp (by omega)
        have h6 : p < cR r (u + 1) (nR r) := by rw [← hR.2]; exact srt_hi hR.1 hp (by omega)
        rw [if_neg (fun z => by have := hlt.mp z; omega), if_neg (fun z => by have := hle.mp z; omega), h]
      · have h5 : p < cR r u (nR r) := by rw [← hR.2]; exact srt_hi hR.1 hp (by omega)
        rw [if_pos (hlt.mpr h5)]; exact next (fun z => by omega)
theorem md_ex {r : aR} {K : Nat → Nat} {c p : Nat} (hR : Rw r K c (nR r)) (hp : p < c) : ∃ q, 0 ≤ q ∧ q < nR r ∧ ¬ r (68 + 8 * q + 6) = -1 ∧ dN r q = K p := by
  refine Classical.byContradiction (fun hx => ?_)
  have e : cR r (K p) (nR r) = cR r (K p + 1) (nR r) := fb_ct_cong (fun q hq => by
    by_cases h : ¬ r (68 + 8 * q + 6) = -1
    · have h2 : dN r q ≠ K p := fun z => hx ⟨q, by omega, hq, h, z⟩
      by_cases h3 : dN r q < K p
      · rw [decide_eq_true ⟨h, h3⟩, decide_eq_true ⟨h, by omega⟩]
      · rw [decide_eq_false (fun z => h3 z.2), decide_eq_false (fun z => by have := z.2; omega)]
    · rw [decide_eq_false (fun z => h z.1), decide_eq_false (fun z => h z.1)])
  rw [← hR.2, ← hR.2] at e
  have h1 := srt_lo hR.1 hp (Nat.le_refl _)
  have h2 := srt_hi hR.1 hp (show K p < K p + 1 from Nat.lt_succ_self (K p))
  omega
/-! the insertion -/
theorem C_53L (w : aW) (k : aQ) {n v : Nat} (hn : n < 40) (hv : v < 2 ^ 31) (d1 : Option aV) (K : Nat → Nat) (hK : ∀ a, a < n → K a < 2 ^ 31) : ∀ (c : Nat) (J : aI), c ≤ n → (∀ a, a < c → J 23 0 a = nI (K a)) → (∀ a, c ≤ a → a < n → J 23 0 (a + 1) = nI (K a)) → (∀ a, c ≤ a → a < n → v < K a) → ∃ J' t, rn 53 (2, [some (.inr (.inr (some (23, 0)))), d1, some (.inl (nI v)), some (.inl (nI c))], [], MM J w k) = some (.inl none, MM J' w k) ∧ t ≤ n ∧ (∀ a, a < t → J' 23 0 a = nI (K a)) ∧ J' 23 0 t = nI v ∧ (∀ a, t ≤ a → a < n → J' 23 0 (a + 1) = nI (K a)) ∧ (∀ a, t ≤ a → a < n → v < K a) ∧ (t = 0 ∨ K (t - 1) ≤ v) ∧ ∀ s q, ¬ (s = 23 ∧ q = 0) → J' s q = J s q := by
  intro c
  induction c with
  | zero =>
    intro J hc h1 h2 h3
    refine ⟨a_setI J 23 0 0 (nI v), 0, (e53_2 J w k _ _ _).trans ?_, by omega, fun a ha => by omega, ?_, fun a g1 g2 => ?_, h3, Or.inl rfl, fun s q h => set_o h⟩
    · rw [zc_t (show nI 0 ≤ (0 : Int32) from by decide), z_in (by omega) (by decide), nI_clamp (by omega), cond_true]
    · rw [gI_u, upd_s]
    · rw [gI_u, upd_n _ _ _ (by omega)]; exact h2 a g1 g2
  | succ c ih =>
    intro J hc h1 h2 h3
    have e1 : nI (c + 1) - 1 = nI c := z_sub (a := c + 1) (b := 1) (by omega)
    have e2 : nI (c + 1) + (-1) = nI c := by rw [← e1, Int32.sub_eq_add_neg]
    by_cases hx : K c ≤ v
    · refine ⟨a_setI J 23 0 (c + 1) (nI v), c + 1, (e53_2 J w k _ _ _).trans ?_, hc, fun a ha => ?_, ?_, fun a g1 g2 => ?_, h3, Or.inr hx, fun s q h => set_o h⟩
      · rw [zc_f (show ¬ nI (c + 1) ≤ (0 : Int32) from nI_ge (b := c + 1) (a := 0) (by omega) (by omega)), e1, z_in (by omega) (by decide), nI_clamp (by omega), cond_true, h1 c (by omega), zc_t (nI_le hx hv), z_in (by omega) (by decide), nI_clamp (by omega), cond_true]
      · rw [gI_u, upd_n _ _ _ (by omega)]; exact h1 a ha
      · rw [gI_u, upd_s]
      · rw [gI_u, upd_n _ _ _ (by omega)]; exact h2 a g1 g2
    · obtain ⟨J', t, k1, k2, k3, k4, k5, k6, k7, k8⟩ := ih (a_setI J 23 0 (c + 1) (nI (K c))) (by omega) (fun a ha => by rw [gI_u, upd_n _ _ _ (by omega)]; exact h1 a (by omega)) (fun a g1 g2 => by
        rw [gI_u]
        by_cases ha : a = c
        · subst ha; rw [upd_s]
        · rw [upd_n _ _ _ (by omega)]; exact h2 a (by omega) g2) (fun a g1 g2 => by
        by_cases ha : a = c
        · subst ha; omega
        · exact h3 a (by omega) g2)
      refine ⟨J', t, (e53_2 J w k _ _ _).trans ?_, k2, k3, k4, k5, k6, k7, fun s q h => (k8 s q h).trans (set_o h)⟩
      rw [zc_f (show ¬ nI (c + 1) ≤ (0 : Int32) from nI_ge (b := c + 1) (a := 0) (by omega) (by omega)), e1, z_in (by omega) (by decide), nI_clamp (by omega), cond_true, h1 c (by omega), zc_f (nI_ge (by omega) (hK c (by omega))), cond_true, z_in (by omega) (by decide), nI_clamp (by omega), cond_true, e2]
      exact k1
/-- the row after the insertion -/
def iK (K : Nat → Nat) (t v : Nat) : Nat → Nat := fun a => if a < t then K a else if a = t then v else K (a - 1)
theorem iK_ct (K : Nat → Nat) {t v n : Nat} (ht : t ≤ n) (x : Nat) : cL (iK K t v) x (n + 1) = cL K x n + (if v < x then 1 else 0) := by
  induction n with
  | zero =>
    have : t = 0 := by omega
    subst this
    show fb_ct _ 0 + _ = 0 + _
    show 0 + (if decide (iK K 0 v 0 < x) = true then 1 else 0) = _
    rw [show iK K 0 v 0 = v from rfl]
    by_cases h : v < x
    · rw [decide_eq_true h, if_pos rfl, if_pos h]
    · rw [decide_eq_false h, if_neg (by decide), if_neg h]
  | succ n ih =>
    unfold cL
    by_cases h : t ≤ n
    · rw [fb_ct_succ, show fb_ct (fun a => decide (iK K t v a < x)) (n + 1) = _ from ih h, fb_ct_succ (fun a => decide (K a < x))]
      rw [show iK K t v (n + 1) = K n from by unfold iK; rw [if_neg (by omega), if_neg (by omega)]; rfl]
      show cL K x n + _ + _ = cL K x n + _ + _
      omega
    · have ht2 : t = n + 1 := by omega
      subst ht2
      rw [fb_ct_succ, show iK K (n + 1) v (n + 1) = v from by unfold iK; rw [if_neg (by omega), if_pos rfl]]
      rw [fb_ct_cong (p := fun a => decide (iK K (n + 1) v a < x)) (q := fun a => decide (K a < x)) (fun a ha => by rw [show iK K (n + 1) v a = K a from by unfold iK; rw [if_pos ha]])]
      by_cases h : v < x
      · rw [decide_eq_true h, if_pos rfl, if_pos h]
      · rw [decide_eq_false h, if_neg (by decide), if_neg h]
theorem iK_srt {K : Nat → Nat} {t v n : Nat} (ht : t ≤ n) (hs : Srt K n) (h1 : ∀ a, t ≤ a → a < n → v < K a) (h2 : t = 0 ∨ K (t - 1) ≤ v) : Srt (iK K t v) (n + 1) := by
  have low : ∀ a, a < t → K a ≤ v := fun a ha => by
    rcases h2 with z | z
    · omega
    · by_cases e : a = t - 1
      · subst e; exact z
      · have := hs a (t - 1) (by omega) (by omega); omega
  intro a b hab hb
  unfold iK
  by_cases g1 : b < t
  · rw [if_pos g1, if_pos (by omega)]; exact hs a b hab (by omega)
  · rw [if_neg g1]
    by_cases g2 : b = t
    · rw [if_pos g2, if_pos (by omega)]; exact low a (by omega)
    · rw [if_neg g2]
      have h3 := h1 (b - 1) (by omega) (by omega)
      by_cases g3 : a < t
      · rw [if_pos g3]; have := low a g3; omega
      · rw [if_neg g3]
        by_cases g4 : a = t
        · rw [if_pos g4]; omega
        · rw [if_neg g4]; exact hs (a - 1) (b - 1) (by omega) (by omega)
theorem C_52L (w : aW) (k : aQ) {a8 : Int32} {i : Nat} {r : aR} (hQ : Rq r) (hD : Rd r) (d : Nat) : ∀ (j c : Nat) (J : aI) (K : Nat → Nat), j + d = nR r → c ≤ j → c = cD r j → Sim a8 i J r → Rw r K c j → (∀ a, a < c → J 23 0 a = nI (K a) ∧ K a < 2 ^ 31) → ∃ J' K', rn 52 (4, [some (.inr (.inr (some (20, i)))), some (.inr (.inr (some (23, 0)))), some (.inl (nI c)), some (.inl (nI j))], [], MM J w k) = some (.inl (some (.inl (nI (cD r (nR r))))), MM J' w k) ∧ Rw r K' (cD r (nR r)) (nR r) ∧ (∀ a, a < cD r (nR r) → J' 23 0 a = nI (K' a) ∧ K' a < 2 ^ 31) ∧ ∀ s q, ¬ (s = 23 ∧ q = 0) → J' s q = J s q := by
  have h2 := hQ.2
  induction d with
  | zero =>
    intro j c J K hj hcj hc hS hW hK
    have h3 : J 20 i 3 = nI (nR r) := hS.1.2.2.1.1.trans hQ.1
    have hjn : j = nR r := by omega
    subst hjn
    rw [← hc]
    refine ⟨J, K, (e52_4 J w k _ _ _).trans ?_, hW, hK, fun s q _ => rfl⟩
    rw [h3]
    exact zc_t (nI_le (by omega) (by omega))
  | succ d ih =>
    intro j c J K hj hcj hc hS hW hK
    have h3 : J 20 i 3 = nI (nR r) := hS.1.2.2.1.1.trans hQ.1
    have hjr : j < nR r := by omega
    have hk := hS.2.2.2.2.1 j hjr
    have start : rn 52 (4, [some (.inr (.inr (some (20, i)))), some (.inr (.inr (some (23, 0)))), some (.inl (nI c)), some (.inl (nI j))], [], MM J w k) = cond (decide (r (68 + 8 * j + 6) = -1)) (rn 52 (4, [some (.inr (.inr (some (20, i)))), some (.inr (.inr (some (23, 0)))), some (.inl (nI c)), some (.inl (nI (j + 1)))], [], MM J w k)) ((rn 10 (a_en 10 [.inr (.inr (some (14, (40 * i + j))))] (MM J w k))).bind (fun o => a_bk 52 10 (39, [some (.inr (.inr (some (20, i)))), some (.inr (.inr (some (23, 0)))), some (.inl (nI c)), some (.inl (nI j))], [.inl (nI c), .inr (.inr (some (23, 0)))], MM J w k) o (rn 52))) := by
      refine (e52_4 J w k _ _ _).trans ?_
      rw [h3]
      refine (zc_f (nI_ge (by omega) (by omega))).trans ?_
      refine (zc_f (show ¬ (40 : Int32) ≤ nI c from nI_ge (b := 40) (by omega) (by omega))).trans ?_
      rw [z_in (by omega) (by decide), nI_clamp (by omega), cond_true, hk.2.2.1.2.2.1, nI_1, cond_true]
    by_cases h6 : r (68 + 8 * j + 6) = -1
    · obtain ⟨J', K', k1, k2, k3, k4⟩ := ih (j + 1) c J K (by omega) (by omega) (by
        show c = fb_ct _ (j + 1)
        rw [fb_ct_succ, decide_eq_false (fun z => z h6), if_neg (by decide), Nat.add_zero]; exact hc) hS ⟨hW.1, fun v => by
        rw [hW.2 v]
        show _ = fb_ct _ (j + 1)
        rw [fb_ct_succ, decide_eq_false (fun z => z.1 h6), if_neg (by decide), Nat.add_zero]; rfl⟩ hK
      exact ⟨J', K', start.trans ((zc_t h6).trans k1), k2, k3, k4⟩
    · obtain ⟨v1, v2⟩ := dN_v hD hjr h6
      have edy : m_dy r j = r (68 + 8 * j + 6) - r (68 + 8 * j + 2) := by unfold m_dy; rw [if_neg h6]
      have ev : rn 10 (a_en 10 [.inr (.inr (some (14, (40 * i + j))))] (MM J w k)) = some (.inl (some (.inl (nI (dN r j)))), MM J w k) := by
        refine (e10_0 J w k _).trans ?_
        rw [hk.2.2.1.2.2.1, hk.1.2.2.1, ← edy, v1]
      obtain ⟨J1, t, t1, t2, t3, t4, t5, t6, t7, t8⟩ := C_53L w k (n := c) (by omega) v2 (some (.inl (nI c))) K (fun a ha => (hK a ha).2) c J (Nat.le_refl _) (fun a ha => (hK a ha).1) (fun a _ _ => by omega) (fun a _ _ => by omega)
      have hS1 : Sim a8 i J1 r := by
        obtain ⟨g1, g2, g3, g4, g5, g6⟩ := hS
        refine ⟨?_, ?_, ?_, ?_, ?_, ?_⟩
        · unfold kLow at g1 ⊢; rw [t8 9 i (by omega), t8 10 i (by omega), t8 20 i (by omega)]; exact g1
        · unfold kFig at g2 ⊢; rw [t8 13 i (by omega)]; exact g2
        · intro s hs; rw [t8 18 _ (by omega), t8 19 _ (by omega)]; exact g3 s hs
        · unfold kPha at g4 ⊢; rw [t8 17 i (by omega)]; exact g4
        · intro q hq; rw [t8 14 _ (by omega), t8 6 _ (by omega)]; exact g5 q hq
        · intro c c1 c2; rw [t8 15 _ (by omega), t8 4 _ (by omega), t8 5 _ (by omega)]; exact g6 c c1 c2
      obtain ⟨J', K', k1, k2, k3, k4⟩ := ih (j + 1) (c + 1) J1 (iK K t (dN r j)) (by omega) (by omega) (by
        show c + 1 = fb_ct _ (j + 1)
        rw [fb_ct_succ, decide_eq_true h6, if_pos rfl]; exact congrArg (· + 1) hc) hS1 ⟨iK_srt t2 hW.1 t6 t7, fun v => by
        rw [iK_ct K t2, hW.2 v]
        show _ = fb_ct _ (j + 1)
        rw [fb_ct_succ]
        by_cases h : dN r j < v
        · rw [if_pos h, decide_eq_true ⟨h6, h⟩, if_pos rfl]; rfl
        · rw [if_neg h, decide_eq_false (fun z => h z.2), if_neg (by decide)]; rfl⟩ (fun a ha => by
        unfold iK
        by_cases g1 : a < t
        · rw [if_pos g1]; exact ⟨t3 a g1, (hK a (by omega)).2⟩
        · rw [if_neg g1]
          by_cases g2 : a = t
          · rw [if_pos g2]; subst g2; exact ⟨t4, v2⟩
          · rw [if_neg g2]
            have := t5 (a - 1) (by omega) (by omega)
            rw [show a - 1 + 1 = a by omega] at this
            exact ⟨this, (hK (a - 1) (by omega)).2⟩)
      refine ⟨J', K', start.trans ((zc_f h6).trans ?_), k2, k3, fun s q h => (k4 s q h).trans (t8 s q h)⟩
      refine (bk_v ev).trans ?_
      refine (e52_42 J w k _ _ _ _ _).trans ?_
      refine (bk_n ((e53_0 J w k _ _).trans t1)).trans ?_
      refine (e52_45 J1 w k _ _ _).trans ?_
      rw [nI_1, nI_1]
      exact k1
theorem C_148 (I : aI) (w : aW) (k : aQ) {r : aR} {a8 : Int32} (hS : Sim a8 0 I r) (hQ : Rq r) (hD : Rd r) (h20 : r 20 = nI (cD r (nR r))) : ∃ J, rn 148 (a_en 148 [.inr (.inr (some (30, 0)))] (MM I w k)) = some (.inl (some (.inl (m_md r ((r 20 - 1) / 2) (nR r) 0))), MM J w k) ∧ ∀ s q, ¬ (s = 23 ∧ q = 0) → J s q = I s q := by
  have h2 := hQ.2
  have hc := cD_le r (nR r)
  obtain ⟨J, K, k1, k2, k3, k4⟩ := C_52L w k hQ hD (nR r) 0 0 I (fun _ => 0) (by omega) (Nat.le_refl _) rfl hS ⟨fun a b _ hb => absurd hb (by omega), fun v => rfl⟩ (fun a ha => absurd ha (by omega))
  refine ⟨J, ?_, k4⟩
  refine (e148_0 I w k).trans ?_
  refine (bk_v ((e52_0 I w k _).trans k1)).trans ?_
  refine (e148_11 J w k _ _).trans ?_
  rcases Nat.eq_zero_or_pos (cD r (nR r)) with h0 | h0
  · rw [h0] at h20 ⊢
    refine (zc_t (show nI 0 < (1 : Int32) from by decide)).trans ?_
    have : ∀ (d j : Nat) (p : Int32), j + d = nR r → m_md r p d j = -1 := by
      intro d
      induction d with
      | zero => intro j p _; rfl
      | succ d ih =>
        intro j p hj
        unfold m_md
        rcases hD j (by omega) with ⟨h1, h6⟩ | ⟨u, u1, u2, u3⟩
        · rw [if_pos h1]; exact ih (j + 1) p (by omega)
        · exfalso
          have h7 : 0 < cD r (nR r) := by
            have h8 := fb_ct_mono (fun q => decide (¬ r (68 + 8 * q + 6) = -1)) (m := j + 1) (n := nR r) (by omega)
            rw [fb_ct_succ, decide_eq_true u3, if_pos rfl] at h8
            show 0 < fb_ct _ _
            omega
          omega
    rw [this (nR r) 0 _ (by omega)]
  · refine (zc_f (show ¬ nI (cD r (nR r)) < (1 : Int32) from fun z => by
      have z := (fa_lt _ _).mp z
      rw [nI_toInt (by omega), show (1 : Int32).toInt = 1 from by decide] at z
      omega)).trans ?_
    refine (zc_t (show nI (cD r (nR r)) ≤ (40 : Int32) from nI_le (b := 40) (by omega) (by omega))).trans ?_
    rw [h20, show nI (cD r (nR r)) - 1 = nI (cD r (nR r) - 1) from z_sub (b := 1) (by omega), show nI (cD r (nR r) - 1) / 2 = nI ((cD r (nR r) - 1) / 2) from z_div (b := 2) (by omega) (by omega)]
    have hp : (cD r (nR r) - 1) / 2 < cD r (nR r) := by omega
    rw [z_in (show (cD r (nR r) - 1) / 2 < 40 by omega) (by decide), nI_clamp (by omega), cond_true, (k3 _ hp).1]
    rw [md_v hD (by omega) k2 hp (by omega) (k3 _ hp).2 (nR r) 0 (by omega) (md_ex k2 hp)]
