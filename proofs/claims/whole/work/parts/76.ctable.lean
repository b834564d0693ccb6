/-! ===== the class's table of passes ===== -/
/-- a ranking of stations by phase -/
def Rk2 (r : aR) (π : Nat → Nat) : Prop := (∀ a, a < nS r → π a < nS r) ∧ ∀ a b, a < b → b < nS r → mPh r (π a) < mPh r (π b) ∨ (mPh r (π a) = mPh r (π b) ∧ π a < π b)
theorem onto4 {n : Nat} {π : Nat → Nat} (hn : n ≤ 4) (h1 : ∀ a, a < n → π a < n) (h2 : ∀ a b, a < b → b < n → π a ≠ π b) {s : Nat} (hs : s < n) : ∃ a, a < n ∧ π a = s := by
  apply Classical.byContradiction
  intro no
  have no : ∀ a, a < n → π a ≠ s := fun a ha e => no ⟨a, ha, e⟩
  rcases (show n = 1 ∨ n = 2 ∨ n = 3 ∨ n = 4 by omega) with rfl | rfl | rfl | rfl
  · have := h1 0 (by omega); have := no 0 (by omega); omega
  · have := h1 0 (by omega); have := h1 1 (by omega); have := no 0 (by omega); have := no 1 (by omega); have := h2 0 1 (by omega) (by omega); omega
  · have := h1 0 (by omega); have := h1 1 (by omega); have := h1 2 (by omega); have := no 0 (by omega); have := no 1 (by omega); have := no 2 (by omega); have := h2 0 1 (by omega) (by omega); have := h2 0 2 (by omega) (by omega); have := h2 1 2 (by omega) (by omega); omega
  · have := h1 0 (by omega); have := h1 1 (by omega); have := h1 2 (by omega); have := h1 3 (by omega); have := no 0 (by omega); have := no 1 (by omega); have := no 2 (by omega); have := no 3 (by omega); have := h2 0 1 (by omega) (by omega); have := h2 0 2 (by omega) (by omega); have := h2 1 2 (by omega) (by omega); have := h2 0 3 (by omega) (by omega); have := h2 1 3 (by omega) (by omega); have := h2 2 3 (by omega) (by omega); omega
theorem Rk2.onto {r : aR} {π : Nat → Nat} (h : Rk2 r π) (h4 : nS r ≤ 4) {s : Nat} (hs : s < nS r) : ∃ a, a < nS r ∧ π a = s :=
  onto4 h4 h.1 (fun a b x y z => by have := h.2 a b x y; rw [z] at this; omega) hs
theorem kK_mono {r : aR} {π : Nat → Nat} (hR : Rs r) (h : Rk2 r π) {a o b o' : Nat} (ha : a < nS r) (hb : b < nS r) (hx : o < o' ∨ (o' = o ∧ a < b)) : kK r (π a) o < kK r (π b) o' := by
  obtain ⟨p, p1, p2, p3, p4⟩ := per_n hR
  have h4 := hR.1.2
  have q1 := (pha_n hR (h.1 a ha)).1
  have q2 := (pha_n hR (h.1 b hb)).1
  have q3 := h.1 a ha
  unfold kK bN
  rw [p4]
  rcases hx with y | ⟨y, z⟩
  · have e : p * (o + 1) ≤ p * o' := Nat.mul_le_mul_left p y
    rw [Nat.mul_add] at e
    omega
  · subst y
    have := h.2 a b z hb
    omega
/-- the bound L at the place (o, a) of the walk -/
def Wk (r : aR) (π : Nat → Nat) (f o a L : Nat) : Prop := ∀ b o', b < nS r → o' < 1000 → Ps r (π b) o' → (L ≤ kK r (π b) o' ↔ (o < o' ∨ (o' = o ∧ a ≤ b)) ∧ 4 * f ≤ kK r (π b) o')
theorem Wk.hit {r : aR} {π : Nat → Nat} (hR : Rs r) (h : Rk2 r π) {f o a L : Nat} {t x : Int32} (hW : Wk r π f o a L) (hL : Th r t x L) (ha : a < nS r) (ho : o < 1000) (hP : Ps r (π a) o) (hf : 4 * f ≤ kK r (π a) o) : m_nx r t x = some (π a, o) := by
  have h4 := hR.1.2
  obtain ⟨n1, n2⟩ := nx_v hR hL
  obtain ⟨p, p1, p2⟩ := n2 (π a) o (h.1 a ha) ho hP ((hW a o ha ho hP).mpr ⟨Or.inr ⟨rfl, Nat.le_refl _⟩, hf⟩)
  obtain ⟨q1, q2, q3, q4⟩ := n1 p p1
  obtain ⟨b, b1, b2⟩ := h.onto h4 q1
  rw [← b2] at q3 q4
  obtain ⟨z, -⟩ := (hW b p.2 b1 q2 q3).mp q4
  have e : kK r (π a) o = kK r p.1 p.2 := by
    rw [← b2] at p2 ⊢
    by_cases y : o < p.2 ∨ (p.2 = o ∧ a < b)
    · have := kK_mono hR h ha b1 y
      omega
    · have : p.2 = o ∧ b = a := by omega
      rw [this.1, this.2]
  obtain ⟨e1, e2⟩ := kK_inj hR (h.1 a ha) q1 e
  rw [p1, e1, e2]
theorem Wk.after {r : aR} {π : Nat → Nat} (hR : Rs r) (h : Rk2 r π) {f o a : Nat} (ha : a < nS r) (hf : 4 * f ≤ kK r (π a) o) : Wk r π f o (a + 1) (kK r (π a) o + 1) := by
  intro b o' hb ho hP
  constructor
  · intro y
    refine ⟨?_, by omega⟩
    apply Classical.byContradiction
    intro no
    by_cases z : o' < o ∨ (o = o' ∧ b < a)
    · have := kK_mono hR h hb ha z
      omega
    · have : o' = o ∧ b = a := by omega
      rw [this.1, this.2] at y
      omega
  · rintro ⟨y, -⟩
    exact kK_mono hR h ha hb (by omega)
theorem Wk.miss {r : aR} {π : Nat → Nat} {f o a L : Nat} (hW : Wk r π f o a L) (hn : ¬ (Ps r (π a) o ∧ 4 * f ≤ kK r (π a) o)) : Wk r π f o (a + 1) L := by
  intro b o' hb ho hP
  rw [hW b o' hb ho hP]
  by_cases z : o' = o ∧ b = a
  · rw [z.1, z.2] at hP ⊢
    constructor
    · rintro ⟨-, y⟩; exact absurd ⟨hP, y⟩ hn
    · rintro ⟨-, y⟩; exact absurd ⟨hP, y⟩ hn
  · constructor
    · rintro ⟨y1, y2⟩; exact ⟨by omega, y2⟩
    · rintro ⟨y1, y2⟩; exact ⟨by omega, y2⟩
theorem Wk.row {r : aR} {π : Nat → Nat} {f o L : Nat} (hW : Wk r π f o (nS r) L) : Wk r π f (o + 1) 0 L := by
  intro b o' hb ho hP
  rw [hW b o' hb ho hP]
  constructor
  · rintro ⟨y1, y2⟩; exact ⟨by omega, y2⟩
  · rintro ⟨y1, y2⟩; exact ⟨by omega, y2⟩
theorem Wk.start {r : aR} {π : Nat → Nat} (hR : Rs r) (h : Rk2 r π) (f : Nat) : Wk r π f (f / (r 0).toNatClampNeg) 0 (4 * f) := by
  obtain ⟨p, p1, p2, p3, p4⟩ := per_n hR
  intro b o' hb ho hP
  refine ⟨fun y => ⟨?_, y⟩, fun y => y.2⟩
  have q := (pha_n hR (h.1 b hb)).1
  have h4 := hR.1.2
  have q2 := h.1 b hb
  unfold kK bN at y
  rw [p4] at y ⊢
  have : f / p < o' + 1 := (Nat.div_lt_iff_lt_mul (by omega)).mpr (by rw [Nat.mul_comm, Nat.mul_add]; omega)
  omega
theorem Wk.done {r : aR} {π : Nat → Nat} (hR : Rs r) (h : Rk2 r π) {f o a L : Nat} {t x : Int32} (hW : Wk r π f o a L) (hL : Th r t x L) (ho : 1000 ≤ o) : m_nx r t x = none := by
  cases e : m_nx r t x with
  | none => rfl
  | some p =>
    obtain ⟨q1, q2, q3, q4⟩ := (nx_v hR hL).1 p e
    obtain ⟨b, b1, b2⟩ := h.onto hR.1.2 q1
    rw [← b2] at q3 q4
    obtain ⟨z, -⟩ := (hW b p.2 b1 q2 q3).mp q4
    omega
theorem tb_none {r : aR} {t x : Int32} (h : m_nx r t x = none) (n : Nat) : m_tb r n t x = none := by
  cases n with
  | zero => exact h
  | succ n => unfold m_tb; rw [h]
theorem tb_some {r : aR} {t x : Int32} {p : Nat × Nat} (h : m_nx r t x = some p) (n : Nat) : m_tb r (n + 1) t x = m_tb r n (m_begin r p.1 (nI p.2)) (nI p.1) := by
  conv => lhs; unfold m_tb; rw [h]
