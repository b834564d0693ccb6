/-! ===== rows: what a sent frame keeps ===== -/
theorem sf_cases (a8 : Int32) (q f s c : Nat) (t : Int32) (r : aR) (hs : s < 4) : ∃ Y : aR, (∀ x, x ≠ 14 → Y x = m_s3 q f c s r x) ∧ (0 ≤ m_s3 q f c s r 14 → 0 ≤ Y 14) ∧ (m_sf a8 q f s c t r = upd Y 17 (Y 17 + 1) ∨ m_sf a8 q f s c t r = m_rc q f t (m_s4 q f c s Y)) := by
  by_cases h8 : a8 = 0
  · refine ⟨upd (m_s3 q f c s r) 14 (m_dr (m_s3 q f c s r 14)), fun x hx => upd_n _ _ _ hx, fun z => by rw [upd_s]; exact (m_dr_nn z).1, ?_⟩
    by_cases h9 : upd (m_s3 q f c s r) 14 (m_dr (m_s3 q f c s r 14)) (24 + 11 * s + 5) ≤ m_d100 (m_s3 q f c s r 14)
    · exact Or.inr ((if_pos h8).trans (if_pos h9))
    · exact Or.inl ((if_pos h8).trans (if_neg h9))
  · exact ⟨m_s3 q f c s r, fun _ _ => rfl, fun z => z, Or.inr (if_neg h8)⟩
/-- delivered records -/
def cD (r : aR) (n : Nat) : Nat := fb_ct (fun q => decide (¬ r (68 + 8 * q + 6) = -1)) n
/-- what talks keep: records n, present contact c, minutes T, b frames sent at most -/
def Wv (n c T b : Nat) (r : aR) : Prop := (∀ e, e ≤ c → c + 1 ≤ e + 60 → ∀ q f, q < n → f < 24 → r (388 + 24 * q + f) = nI e → bt (r (1348 + 84 * (e % 60) + 4 + q)) f = true) ∧ (∀ q f, q < n → f < 24 → r (388 + 24 * q + f) = -1 ∨ ∃ e, e < c + 1 ∧ r (388 + 24 * q + f) = nI e) ∧ (∀ e, e ≤ c → c + 1 ≤ e + 60 → ∀ q, n ≤ q → q < 40 → r (1348 + 84 * (e % 60) + 4 + q) = 0 ∧ r (1348 + 84 * (e % 60) + 44 + q) = 0) ∧ (∀ q, q < n → (r (68 + 8 * q + 6) = -1 ↔ ¬ r (68 + 8 * q + 5) = m_full r q) ∧ ∃ a, a ≤ T ∧ r (68 + 8 * q + 2) = nI a ∧ (r (68 + 8 * q + 6) = -1 ∨ ∃ d, a ≤ d ∧ d ≤ T ∧ r (68 + 8 * q + 6) = nI d)) ∧ (∃ S A, S ≤ b ∧ A ≤ S ∧ r 16 = nI S ∧ r 19 = nI A ∧ r 20 = nI (cD r n)) ∧ 0 ≤ r 14
theorem cD_c {r r' : aR} {n : Nat} (h : ∀ q, q < n → r' (68 + 8 * q + 6) = r (68 + 8 * q + 6)) : cD r' n = cD r n := fb_ct_cong (fun q hq => by rw [h q hq])
theorem cD_le (r : aR) (n : Nat) : cD r n ≤ n := fb_ct_le _ n
theorem cD_set {r r' : aR} {n q : Nat} (hq : q < n) (h : ∀ p, p < n → p ≠ q → r' (68 + 8 * p + 6) = r (68 + 8 * p + 6)) (h1 : r (68 + 8 * q + 6) = -1) (h2 : ¬ r' (68 + 8 * q + 6) = -1) : cD r' n = cD r n + 1 := by
  have e := fb_ct_upd (fun p => decide (¬ r (68 + 8 * p + 6) = -1)) true (i := q) hq
  have e2 : fb_ct (fun p => if p = q then true else decide (¬ r (68 + 8 * p + 6) = -1)) n = cD r' n := fb_ct_cong (fun p hp => by
    by_cases z : p = q
    · subst z; rw [if_pos rfl, decide_eq_true h2]
    · rw [if_neg z, h p hp z])
  rw [e2] at e
  have e3 : decide (¬ r (68 + 8 * q + 6) = -1) = false := decide_eq_false (fun z => z h1)
  simp only [e3] at e
  show cD r' n = fb_ct _ n + 1
  simpa using e
theorem Wv.snd {n c T b s : Nat} {r : aR} (h : Wv n c T b r) (hn : n ≤ 40) (hs : s < 4) (hT : T < 2 ^ 31) (hb : b + 1 < 2 ^ 31) (hcb : c < 2 ^ 31) (a8 : Int32) {q f : Nat} (hq : q < n) (hf : f < 24) (hfl : bt (m_full r q) f = true) : Wv n c T (b + 1) (m_sf a8 q f s c (nI T) r) := by
  obtain ⟨w1, w2, w3, w4, ⟨S, A, s1, s2, s3, s4, s5⟩, w6⟩ := h
  have hm := Nat.mod_lt c (by decide : 0 < 60)
  obtain ⟨Y, y1, y2, y3⟩ := sf_cases a8 q f s c (nI T) r hs
  have e3 : ∀ x, x ≠ 68 + 8 * q + 3 → x ≠ 388 + 24 * q + f → x ≠ 1348 + 84 * (c % 60) + 4 + q → x ≠ 16 → x ≠ 24 + 11 * s + 6 + 2 → m_s3 q f c s r x = r x := by
    intro x a b d e g
    unfold m_s3 m_ct m_s2 m_s1
    rw [upd_n _ _ _ g, upd_n _ _ _ e, upd_n _ _ _ d, upd_n _ _ _ b, upd_n _ _ _ a]
  have v16 : m_s3 q f c s r 16 = r 16 + 1 := by
    unfold m_s3 m_ct m_s2 m_s1
    rw [upd_n _ _ _ (by omega), upd_s, upd_n _ _ _ (by omega), upd_n _ _ _ (by omega), upd_n _ _ _ (by omega)]
  have vl : m_s3 q f c s r (388 + 24 * q + f) = nI c := by
    unfold m_s3 m_ct m_s2 m_s1
    rw [upd_n _ _ _ (by omega), upd_n _ _ _ (by omega), upd_n _ _ _ (by omega), upd_s]
  have vs : m_s3 q f c s r (1348 + 84 * (c % 60) + 4 + q) = r (1348 + 84 * (c % 60) + 4 + q) ||| ((1 : Int32) <<< (nI f &&& 31)) := by
    unfold m_s3 m_ct m_s2 m_s1
    rw [upd_n _ _ _ (by omega), upd_n _ _ _ (by omega), upd_s, upd_n _ _ _ (by omega), upd_n _ _ _ (by omega)]
  -- a row that keeps all but a few places
  have fin : ∀ z : aR, (∀ p x, p < n → x < 24 → z (388 + 24 * p + x) = m_s3 q f c s r (388 + 24 * p + x)) → (∀ e p, e < 60 → p < 40 → z (1348 + 84 * e + 4 + p) = m_s3 q f c s r (1348 + 84 * e + 4 + p)) → (∀ e p, e < 60 → n ≤ p → p < 40 → z (1348 + 84 * e + 44 + p) = m_s3 q f c s r (1348 + 84 * e + 44 + p)) → (∀ p, p < n → (z (68 + 8 * p + 6) = -1 ↔ ¬ z (68 + 8 * p + 5) = m_full z p) ∧ ∃ a, a ≤ T ∧ z (68 + 8 * p + 2) = nI a ∧ (z (68 + 8 * p + 6) = -1 ∨ ∃ d, a ≤ d ∧ d ≤ T ∧ z (68 + 8 * p + 6) = nI d)) → (∃ S A, S ≤ b + 1 ∧ A ≤ S ∧ z 16 = nI S ∧ z 19 = nI A ∧ z 20 = nI (cD z n)) → 0 ≤ z 14 → Wv n c T (b + 1) z := by
    intro z g1 g2 g3 g4 g5 g6
    refine ⟨fun e a d p x hp hx hz => ?_, fun p x hp hx => ?_, fun e a d p hp1 hp2 => ?_, g4, g5, g6⟩
    · have hme := Nat.mod_lt e (by decide : 0 < 60)
      rw [g1 p x hp hx] at hz
      rw [g2 _ p hme (by omega)]
      by_cases k1 : p = q ∧ x = f
      · obtain ⟨rfl, rfl⟩ := k1
        rw [vl] at hz
        have : c = e := (nI_eq hcb (by omega)).mp hz
        subst this
        rw [vs, b_or, b_one x (by omega) x (by omega), decide_eq_true rfl, Bool.or_true]
      · rw [e3 _ (by omega) (by omega) (by omega) (by omega) (by omega)] at hz
        have hold := w1 e a d p x hp hx hz
        by_cases k2 : e % 60 = c % 60 ∧ p = q
        · rw [k2.1, k2.2, vs, b_or]
          rw [k2.1, k2.2] at hold
          rw [hold]; rfl
        · rw [e3 _ (by omega) (by omega) (by omega) (by omega) (by omega)]; exact hold
    · rw [g1 p x hp hx]
      by_cases k1 : p = q ∧ x = f
      · obtain ⟨rfl, rfl⟩ := k1
        exact Or.inr ⟨c, by omega, vl⟩
      · rw [e3 _ (by omega) (by omega) (by omega) (by omega) (by omega)]; exact w2 p x hp hx
    · have hme := Nat.mod_lt e (by decide : 0 < 60)
      rw [g2 _ p hme hp2, g3 _ p hme hp1 hp2, e3 _ (by omega) (by omega) (by omega) (by omega) (by omega), e3 _ (by omega) (by omega) (by omega) (by omega) (by omega)]
      exact w3 e a d p hp1 hp2
  have n14 : 0 ≤ Y 14 := y2 (by rw [e3 14 (by omega) (by omega) (by omega) (by omega) (by omega)]; exact w6)
  have fu : ∀ (z : aR) (p : Nat), z (68 + 8 * p + 0) = r (68 + 8 * p + 0) → m_full z p = m_full r p := fun z p hz => by unfold m_full; rw [hz]
  -- records and figures as they were
  have same : ∀ z : aR, (∀ p j, p < n → (j = 0 ∨ j = 2 ∨ j = 5 ∨ j = 6) → z (68 + 8 * p + j) = m_s3 q f c s r (68 + 8 * p + j)) → z 16 = m_s3 q f c s r 16 → z 19 = m_s3 q f c s r 19 → z 20 = m_s3 q f c s r 20 → (∀ p, p < n → (z (68 + 8 * p + 6) = -1 ↔ ¬ z (68 + 8 * p + 5) = m_full z p) ∧ ∃ a, a ≤ T ∧ z (68 + 8 * p + 2) = nI a ∧ (z (68 + 8 * p + 6) = -1 ∨ ∃ d, a ≤ d ∧ d ≤ T ∧ z (68 + 8 * p + 6) = nI d)) ∧ ∃ S A, S ≤ b + 1 ∧ A ≤ S ∧ z 16 = nI S ∧ z 19 = nI A ∧ z 20 = nI (cD z n) := by
    intro z g a16 a19 a20
    have g' : ∀ p j, p < n → (j = 0 ∨ j = 2 ∨ j = 5 ∨ j = 6) → z (68 + 8 * p + j) = r (68 + 8 * p + j) := fun p j hp hj => by rw [g p j hp hj, e3 _ (by omega) (by omega) (by omega) (by omega) (by omega)]
    refine ⟨fun p hp => ?_, S + 1, A, by omega, by omega, by rw [a16, v16, s3, nI_1], by rw [a19, e3 _ (by omega) (by omega) (by omega) (by omega) (by omega)]; exact s4, ?_⟩
    · rw [fu z p (g' p 0 hp (by omega)), g' p 6 hp (by omega), g' p 5 hp (by omega), g' p 2 hp (by omega)]
      exact w4 p hp
    · rw [a20, e3 _ (by omega) (by omega) (by omega) (by omega) (by omega), cD_c (fun p hp => g' p 6 hp (by omega))]; exact s5
  rcases y3 with y3 | y3
  · rw [y3]
    have ez : ∀ x, x ≠ 14 → x ≠ 17 → upd Y 17 (Y 17 + 1) x = m_s3 q f c s r x := fun x a b => by rw [upd_n _ _ _ b, y1 x a]
    obtain ⟨k1, k2⟩ := same _ (fun p j hp hj => ez _ (by omega) (by omega)) (ez _ (by omega) (by omega)) (ez _ (by omega) (by omega)) (ez _ (by omega) (by omega))
    exact fin _ (fun p x hp hx => ez _ (by omega) (by omega)) (fun e p he hp => ez _ (by omega) (by omega)) (fun e p he hp hp2 => ez _ (by omega) (by omega)) k1 k2 (by rw [upd_n _ _ _ (by omega)]; exact n14)
  · rw [y3]
    have eX : ∀ x, x ≠ 14 → x ≠ 1348 + 84 * (c % 60) + 44 + q → x ≠ 24 + 11 * s + 6 + 3 → m_s4 q f c s Y x = m_s3 q f c s r x := fun x a b d => by unfold m_s4 m_ct; rw [upd_n _ _ _ d, upd_n _ _ _ b, y1 x a]
    have eX14 : m_s4 q f c s Y 14 = Y 14 := by unfold m_s4 m_ct; rw [upd_n _ _ _ (by omega), upd_n _ _ _ (by omega)]
    generalize m_s4 q f c s Y = X at eX eX14
    have x5 : X (68 + 8 * q + 5) = r (68 + 8 * q + 5) := by rw [eX _ (by omega) (by omega) (by omega), e3 _ (by omega) (by omega) (by omega) (by omega) (by omega)]
    by_cases h1 : (X (68 + 8 * q + 5) >>> (nI f &&& 31)) &&& 1 = 1
    · rw [show m_rc q f (nI T) X = upd X 18 (X 18 + 1) from if_pos h1]
      have ez : ∀ x, x ≠ 14 → x ≠ 1348 + 84 * (c % 60) + 44 + q → x ≠ 24 + 11 * s + 6 + 3 → x ≠ 18 → upd X 18 (X 18 + 1) x = m_s3 q f c s r x := fun x a b d e => by rw [upd_n _ _ _ e, eX x a b d]
      obtain ⟨k1, k2⟩ := same _ (fun p j hp hj => ez _ (by omega) (by omega) (by omega) (by omega)) (ez _ (by omega) (by omega) (by omega) (by omega)) (ez _ (by omega) (by omega) (by omega) (by omega)) (ez _ (by omega) (by omega) (by omega) (by omega))
      exact fin _ (fun p x hp hx => ez _ (by omega) (by omega) (by omega) (by omega)) (fun e p he hp => ez _ (by omega) (by omega) (by omega) (by omega)) (fun e p he hp hp2 => ez _ (by omega) (by omega) (by omega) (by omega)) k1 k2 (by rw [upd_n _ _ _ (by omega), eX14]; exact n14)
    · -- a new frame in the archive
      have hbit : bt (r (68 + 8 * q + 5)) f = false := by rw [← x5]; exact Bool.eq_false_iff.mpr (fun z => h1 ((b_has _ (by omega)).mpr z))
      have hnf : ¬ r (68 + 8 * q + 5) = m_full r q := fun z => by rw [z, hfl] at hbit; cases hbit
      obtain ⟨w4a, a, ha, hadd, -⟩ := w4 q hq
      have hd : r (68 + 8 * q + 6) = -1 := w4a.mpr hnf
      have e1 : ∀ x, x ≠ 68 + 8 * q + 5 → x ≠ 19 → m_rc1 q f X x = X x := fun x a b => by unfold m_rc1; rw [upd_n _ _ _ b, upd_n _ _ _ a]
      have r19 : m_rc1 q f X 19 = nI (A + 1) := by
        unfold m_rc1
        rw [upd_s, upd_n _ _ _ (by omega), eX _ (by omega) (by omega) (by omega), e3 _ (by omega) (by omega) (by omega) (by omega) (by omega), s4, nI_1]
      have eM : ∀ x, x ≠ 14 → x ≠ 1348 + 84 * (c % 60) + 44 + q → x ≠ 24 + 11 * s + 6 + 3 → x ≠ 68 + 8 * q + 5 → x ≠ 19 → m_rc1 q f X x = m_s3 q f c s r x := fun x a b d e g => by rw [e1 x e g, eX x a b d]
      have e14 : m_rc1 q f X 14 = Y 14 := by rw [e1 14 (by omega) (by omega), eX14]
      have efull : m_full (m_rc1 q f X) q = m_full r q := fu _ q (by rw [eM _ (by omega) (by omega) (by omega) (by omega) (by omega), e3 _ (by omega) (by omega) (by omega) (by omega) (by omega)])
      by_cases h2 : m_rc1 q f X (68 + 8 * q + 5) = m_full (m_rc1 q f X) q
      · rw [show m_rc q f (nI T) X = m_rc2 q (nI T) (m_rc1 q f X) from (if_neg h1).trans (if_pos h2)]
        have ez : ∀ x, x ≠ 14 → x ≠ 1348 + 84 * (c % 60) + 44 + q → x ≠ 24 + 11 * s + 6 + 3 → x ≠ 68 + 8 * q + 5 → x ≠ 19 → x ≠ 68 + 8 * q + 6 → x ≠ 20 → m_rc2 q (nI T) (m_rc1 q f X) x = m_s3 q f c s r x := fun x a b d e g u v => by unfold m_rc2; rw [upd_n _ _ _ v, upd_n _ _ _ u, eM x a b d e g]
        have z5 : m_rc2 q (nI T) (m_rc1 q f X) (68 + 8 * q + 5) = m_full r q := by unfold m_rc2; rw [upd_n _ _ _ (by omega), upd_n _ _ _ (by omega), h2, efull]
        have z6 : m_rc2 q (nI T) (m_rc1 q f X) (68 + 8 * q + 6) = nI T := by unfold m_rc2; rw [upd_n _ _ _ (by omega), upd_s]
        have z19 : m_rc2 q (nI T) (m_rc1 q f X) 19 = nI (A + 1) := by unfold m_rc2; rw [upd_n _ _ _ (by omega), upd_n _ _ _ (by omega), r19]
        have z20 : m_rc2 q (nI T) (m_rc1 q f X) 20 = nI (cD r n + 1) := by
          unfold m_rc2
          rw [upd_s, upd_n _ _ _ (by omega), eM _ (by omega) (by omega) (by omega) (by omega) (by omega), e3 _ (by omega) (by omega) (by omega) (by omega) (by omega), s5, nI_1]
        have z14 : m_rc2 q (nI T) (m_rc1 q f X) 14 = Y 14 := by unfold m_rc2; rw [upd_n _ _ _ (by omega), upd_n _ _ _ (by omega), e14]
        have er : ∀ p j, p < n → p ≠ q → (j = 0 ∨ j = 2 ∨ j = 5 ∨ j = 6) → m_rc2 q (nI T) (m_rc1 q f X) (68 + 8 * p + j) = r (68 + 8 * p + j) := fun p j hp hpq hj => by rw [ez _ (by omega) (by omega) (by omega) (by omega) (by omega) (by omega) (by omega), e3 _ (by omega) (by omega) (by omega) (by omega) (by omega)]
        have er0 : ∀ j, (j = 0 ∨ j = 2) → m_rc2 q (nI T) (m_rc1 q f X) (68 + 8 * q + j) = r (68 + 8 * q + j) := fun j hj => by rw [ez _ (by omega) (by omega) (by omega) (by omega) (by omega) (by omega) (by omega), e3 _ (by omega) (by omega) (by omega) (by omega) (by omega)]
        refine fin _ (fun p x hp hx => ez _ (by omega) (by omega) (by omega) (by omega) (by omega) (by omega) (by omega)) (fun e p he hp => ez _ (by omega) (by omega) (by omega) (by omega) (by omega) (by omega) (by omega)) (fun e p he hp hp2 => ez _ (by omega) (by omega) (by omega) (by omega) (by omega) (by omega) (by omega)) (fun p hp => ?_) ⟨S + 1, A + 1, by omega, by omega, by rw [ez _ (by omega) (by omega) (by omega) (by omega) (by omega) (by omega) (by omega), v16, s3, nI_1], z19, ?_⟩ (by rw [z14]; exact n14)
        · by_cases hpq : p = q
          · subst hpq
            rw [fu _ p (er0 0 (by omega)), z5, z6, er0 2 (by omega)]
            exact ⟨⟨fun z => absurd z (nI_n1 hT), fun z => absurd rfl z⟩, a, ha, hadd, Or.inr ⟨T, ha, Nat.le_refl _, rfl⟩⟩
          · rw [fu _ p (er p 0 hp hpq (by omega)), er p 6 hp hpq (by omega), er p 5 hp hpq (by omega), er p 2 hp hpq (by omega)]
            exact w4 p hp
        · rw [z20, cD_set hq (fun p hp hpq => er p 6 hp hpq (by omega)) hd (by rw [z6]; exact nI_n1 hT)]
      · rw [show m_rc q f (nI T) X = m_rc1 q f X from (if_neg h1).trans (if_neg h2)]
        have er : ∀ p j, p < n → (j = 0 ∨ j = 2 ∨ (j = 5 ∧ p ≠ q) ∨ j = 6) → m_rc1 q f X (68 + 8 * p + j) = r (68 + 8 * p + j) := fun p j hp hj => by rw [eM _ (by omega) (by omega) (by omega) (by omega) (by omega), e3 _ (by omega) (by omega) (by omega) (by omega) (by omega)]
        refine fin _ (fun p x hp hx => eM _ (by omega) (by omega) (by omega) (by omega) (by omega)) (fun e p he hp => eM _ (by omega) (by omega) (by omega) (by omega) (by omega)) (fun e p he hp hp2 => eM _ (by omega) (by omega) (by omega) (by omega) (by omega)) (fun p hp => ?_) ⟨S + 1, A + 1, by omega, by omega, by rw [eM _ (by omega) (by omega) (by omega) (by omega) (by omega), v16, s3, nI_1], r19, ?_⟩ (by rw [e14]; exact n14)
        · by_cases hpq : p = q
          · subst hpq
            rw [fu _ p (er p 0 hp (by omega)), er p 6 hp (by omega), er p 2 hp (by omega)]
            rw [efull] at h2
            exact ⟨⟨fun _ => h2, fun _ => hd⟩, a, ha, hadd, Or.inl hd⟩
          · rw [fu _ p (er p 0 hp (by omega)), er p 6 hp (by omega), er p 5 hp (by omega), er p 2 hp (by omega)]
            exact w4 p hp
        · rw [eM _ (by omega) (by omega) (by omega) (by omega) (by omega), e3 _ (by omega) (by omega) (by omega) (by omega) (by omega), cD_c (fun p hp => er p 6 hp (by omega))]; exact s5
