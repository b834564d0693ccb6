/-! ===== the table: keys of passes ===== -/
def bN (r : aR) (s o : Nat) : Nat := (r 0).toNatClampNeg * o + mPh r s
def kK (r : aR) (s o : Nat) : Nat := 4 * bN r s o + s
def Ps (r : aR) (s o : Nat) : Prop := ¬ m_lasts r s (nI o) ≤ 0
theorem per_n {r : aR} (hR : Rs r) : ∃ p, 60 ≤ p ∧ p ≤ 200 ∧ r 0 = nI p ∧ (r 0).toNatClampNeg = p := by
  obtain ⟨p, p1, p2, p3⟩ := hR.2.1
  exact ⟨p, p1, p2, p3, by rw [p3, nI_clamp (by omega)]⟩
theorem pha_n {r : aR} (hR : Rs r) {s : Nat} (hs : s < nS r) : mPh r s ≤ 59 ∧ r (24 + 11 * s + 3) = nI (mPh r s) := by
  obtain ⟨-, -, -, ⟨a, a1, a2⟩, -⟩ := hR.2.2.2.2 s hs
  have e : mPh r s = a := by unfold mPh; rw [a2, nI_clamp (by omega)]
  exact ⟨by omega, by rw [e]; exact a2⟩
theorem beg_n {r : aR} (hR : Rs r) {s o : Nat} (hs : s < nS r) (ho : o < 1000) : m_begin r s (nI o) = nI (bN r s o) ∧ bN r s o < 300000 := by
  obtain ⟨p, p1, p2, p3, p4⟩ := per_n hR
  obtain ⟨h1, h2⟩ := pha_n hR hs
  unfold bN
  rw [p4]
  refine ⟨m_begin_nat h2 p3, ?_⟩
  have : p * o ≤ 200 * 1000 := Nat.mul_le_mul p2 (by omega)
  omega
/-- (t, x) stands for the bound L -/
def Th (r : aR) (t x : Int32) (L : Nat) : Prop := ∀ s o, s < nS r → o < 1000 → ((t < m_begin r s (nI o) ∨ (m_begin r s (nI o) = t ∧ ¬ nI s ≤ x)) ↔ L ≤ kK r s o)
theorem Th_0 {r : aR} (hR : Rs r) {f : Nat} (hf : f < 2 ^ 30) : Th r (nI f) (-1) (4 * f) := by
  intro s o hs ho
  obtain ⟨h1, h2⟩ := beg_n hR hs ho
  have h4 := hR.1.2
  rw [h1, fa_lt, nI_toInt (by omega), nI_toInt (by omega), nI_eq (by omega) (by omega)]
  have e : ¬ nI s ≤ -1 := by rw [fa_le, nI_toInt (by omega), show (-1 : Int32).toInt = -1 from by decide +kernel]; omega
  unfold kK
  constructor
  · rintro (y | ⟨y, -⟩) <;> omega
  · intro y
    rcases Nat.lt_or_ge f (bN r s o) with z | z
    · exact Or.inl (by omega)
    · exact Or.inr ⟨by omega, e⟩
theorem Th_1 {r : aR} (hR : Rs r) {f y : Nat} (hf : f < 2 ^ 30) (hy : y < 4) : Th r (nI f) (nI y) (4 * f + y + 1) := by
  intro s o hs ho
  obtain ⟨h1, h2⟩ := beg_n hR hs ho
  have h4 := hR.1.2
  rw [h1, fa_lt, nI_toInt (by omega), nI_toInt (by omega), nI_eq (by omega) (by omega), fa_le, nI_toInt (by omega), nI_toInt (by omega)]
  unfold kK
  constructor
  · rintro (z | ⟨z, z2⟩) <;> omega
  · intro z
    rcases Nat.lt_or_ge f (bN r s o) with z | z
    · exact Or.inl (by omega)
    · exact Or.inr ⟨by omega, by omega⟩
/-- F is the least pass with key L or more among those before (s, o) -/
def Bs (r : aR) (L s o : Nat) (F : Option (Nat × Nat)) : Prop := (∀ p, F = some p → (p.1 < s ∨ (p.1 = s ∧ p.2 < o)) ∧ p.1 < nS r ∧ p.2 < 1000 ∧ Ps r p.1 p.2 ∧ L ≤ kK r p.1 p.2) ∧ ∀ s' o', (s' < s ∨ (s' = s ∧ o' < o)) → s' < nS r → o' < 1000 → Ps r s' o' → L ≤ kK r s' o' → ∃ p, F = some p ∧ kK r p.1 p.2 ≤ kK r s' o'
theorem Bs.step {r : aR} (hR : Rs r) {t x : Int32} {L s o : Nat} {F : Option (Nat × Nat)} (hL : Th r t x L) (hs : s < nS r) (ho : o < 1000) (h : Bs r L s o F) : Bs r L s (o + 1) (m_pl r t x s o F) := by
  obtain ⟨h1, h2⟩ := h
  have h4 := hR.1.2
  have hb := beg_n hR hs ho
  by_cases g : gF r t x s o F
  · rw [show m_pl r t x s o F = some (s, o) from if_pos g]
    obtain ⟨g1, g2, g3⟩ := g
    have g1 := (hL s o hs ho).mp g1
    refine ⟨fun p hp => by cases hp; exact ⟨Or.inr ⟨rfl, by show o < o + 1; omega⟩, hs, ho, g3, g1⟩, fun s' o' a b d e f => ⟨(s, o), rfl, ?_⟩⟩
    show kK r s o ≤ kK r s' o'
    by_cases z : s' < s ∨ (s' = s ∧ o' < o)
    · obtain ⟨p, p1, p2⟩ := h2 s' o' z b d e f
      obtain ⟨q1, q2, q3, -⟩ := h1 p p1
      have hb' := beg_n hR q2 q3
      have g2 := g2 p p1
      rw [hb.1, hb'.1, fa_le, nI_toInt (by omega), nI_toInt (by omega)] at g2
      unfold kK at p2 ⊢
      omega
    · have : s' = s ∧ o' = o := by omega
      rw [this.1, this.2]
      exact Nat.le_refl _
  · rw [show m_pl r t x s o F = F from if_neg g]
    refine ⟨fun p hp => ?_, fun s' o' a b d e f => ?_⟩
    · obtain ⟨q1, q2⟩ := h1 p hp
      exact ⟨by omega, q2⟩
    · by_cases z : s' < s ∨ (s' = s ∧ o' < o)
      · exact h2 s' o' z b d e f
      · have hso : s' = s ∧ o' = o := by omega
        rw [hso.1, hso.2] at e f ⊢
        have k1 := (hL s o hs ho).mpr f
        apply Classical.byContradiction
        intro no
        apply g
        refine ⟨k1, fun p hp hle => no ⟨p, hp, ?_⟩, e⟩
        obtain ⟨q1, q2, q3, -⟩ := h1 p hp
        have hb' := beg_n hR q2 q3
        rw [hb.1, hb'.1, fa_le, nI_toInt (by omega), nI_toInt (by omega)] at hle
        unfold kK
        omega
theorem Bs.po {r : aR} (hR : Rs r) {t x : Int32} {L s : Nat} (hL : Th r t x L) (hs : s < nS r) : ∀ (d o : Nat) (F : Option (Nat × Nat)), o + d = 1000 → Bs r L s o F → Bs r L s 1000 (m_po r t x s d o F)
  | 0, o, F, h, g => by rw [show o = 1000 by omega] at g; exact g
  | d + 1, o, F, h, g => Bs.po hR hL hs d (o + 1) _ (by omega) (g.step hR hL hs (by omega))
theorem Bs.next {r : aR} {L s : Nat} {F : Option (Nat × Nat)} (h : Bs r L s 1000 F) : Bs r L (s + 1) 0 F := by
  refine ⟨fun p hp => ?_, fun s' o' a b d e f => h.2 s' o' (by omega) b d e f⟩
  obtain ⟨q1, q2⟩ := h.1 p hp
  exact ⟨by omega, q2⟩
theorem Bs.ps {r : aR} (hR : Rs r) {t x : Int32} {L : Nat} (hL : Th r t x L) : ∀ (d s : Nat) (F : Option (Nat × Nat)), s + d = nS r → Bs r L s 0 F → Bs r L (nS r) 0 (m_ps r t x d s F)
  | 0, s, F, h, g => by rw [show s = nS r by omega] at g; exact g
  | d + 1, s, F, h, g => Bs.ps hR hL d (s + 1) _ (by omega) ((Bs.po hR hL (by omega) 1000 0 F (by omega) g).next)
/-- the next pass is the least with key L or more -/
theorem nx_v {r : aR} (hR : Rs r) {t x : Int32} {L : Nat} (hL : Th r t x L) : (∀ p, m_nx r t x = some p → p.1 < nS r ∧ p.2 < 1000 ∧ Ps r p.1 p.2 ∧ L ≤ kK r p.1 p.2) ∧ ∀ s' o', s' < nS r → o' < 1000 → Ps r s' o' → L ≤ kK r s' o' → ∃ p, m_nx r t x = some p ∧ kK r p.1 p.2 ≤ kK r s' o' := by
  have h := Bs.ps hR hL (nS r) 0 none (by omega) ⟨fun p hp => (by cases hp), fun s' o' a b d e f => absurd a (by omega)⟩
  exact ⟨fun p hp => (h.1 p hp).2, fun s' o' a b d e => h.2 s' o' (Or.inl a) a b d e⟩
theorem kK_inj {r : aR} (hR : Rs r) {s o s' o' : Nat} (h1 : s < nS r) (h2 : s' < nS r) (h : kK r s o = kK r s' o') : s = s' ∧ o = o' := by
  have h4 := hR.1.2
  unfold kK bN at h
  obtain ⟨p, p1, p2, p3, p4⟩ := per_n hR
  rw [p4] at h
  have hs : s = s' := by omega
  subst hs
  refine ⟨rfl, ?_⟩
  have : p * o = p * o' := by omega
  exact Nat.eq_of_mul_eq_mul_left (by omega) this
