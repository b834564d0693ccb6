/-! ===== counting bits ===== -/
def uN (x : Int32) : Nat := x.toBitVec.toNat
theorem uN_lt (x : Int32) : uN x < 2 ^ 32 := x.toBitVec.isLt
theorem uN_inj {x y : Int32} (h : uN x = uN y) : x = y := Int32.toBitVec_inj.mp (BitVec.eq_of_toNat_eq h)
theorem uN_and (x y : Int32) : uN (x &&& y) = uN x &&& uN y := by unfold uN; rw [Int32.toBitVec_and, BitVec.toNat_and]
theorem uN_add {x y : Int32} (h : uN x + uN y < 2 ^ 32) : uN (x + y) = uN x + uN y := by
  unfold uN at *
  rw [Int32.toBitVec_add, BitVec.toNat_add, Nat.mod_eq_of_lt h]
theorem uN_sub {x y : Int32} (h : uN y ≤ uN x) : uN (x - y) = uN x - uN y := by
  have := uN_lt x
  unfold uN at *
  rw [Int32.toBitVec_sub, BitVec.toNat_sub]
  omega
theorem uN_shr (n : Nat) (hn : n < 32) (x : Int32) : uN ((x.toUInt32 >>> ((nI n).toUInt32 &&& Int32.toUInt32 31)).toInt32) = uN x / 2 ^ n := by
  show ((x.toUInt32 >>> ((nI n).toUInt32 &&& Int32.toUInt32 31)).toBitVec).toNat = x.toUInt32.toBitVec.toNat / 2 ^ n
  rw [UInt32.toBitVec_shiftRight]
  show (x.toUInt32.toBitVec >>> (((nI n).toUInt32 &&& Int32.toUInt32 31).toBitVec % 32).toNat).toNat = _
  rw [s_u n hn, BitVec.toNat_ushiftRight, Nat.shiftRight_eq_div_pow]
theorem uN_nI {n : Nat} (h : n < 2 ^ 32) : uN (nI n) = n := by
  show (BitVec.ofNat 32 n).toNat = n
  rw [BitVec.toNat_ofNat, Nat.mod_eq_of_lt h]
/-- set bits among the lowest k -/
def pc : Nat → Nat → Nat
  | 0, _ => 0
  | k + 1, n => n % 2 + pc k (n / 2)
theorem pc_0 : ∀ k, pc k 0 = 0
  | 0 => rfl
  | k + 1 => by show 0 % 2 + pc k (0 / 2) = 0; rw [Nat.zero_div, pc_0 k]
theorem pc_le : ∀ k n, pc k n ≤ k
  | 0, _ => Nat.le_refl _
  | k + 1, n => by
    have := pc_le k (n / 2)
    show n % 2 + pc k (n / 2) ≤ k + 1
    omega
theorem pc_cut : ∀ j k n, pc (j + k) n = pc j (n % 2 ^ j) + pc k (n / 2 ^ j)
  | 0, k, n => by rw [Nat.zero_add, Nat.pow_zero, Nat.div_one]; exact (Nat.zero_add _).symm
  | j + 1, k, n => by
    rw [show j + 1 + k = j + k + 1 by omega]
    show n % 2 + pc (j + k) (n / 2) = n % 2 ^ (j + 1) % 2 + pc j (n % 2 ^ (j + 1) / 2) + pc k (n / 2 ^ (j + 1))
    rw [pc_cut j k (n / 2), Nat.div_div_eq_div_mul, show 2 * 2 ^ j = 2 ^ (j + 1) by rw [Nat.pow_succ, Nat.mul_comm], Nat.mod_mod_of_dvd _ (show 2 ∣ 2 ^ (j + 1) from ⟨2 ^ j, by rw [Nat.pow_succ, Nat.mul_comm]⟩), show n % 2 ^ (j + 1) / 2 = n / 2 % 2 ^ j by rw [Nat.pow_succ, Nat.mul_comm, Nat.mod_mul_right_div_self], Nat.add_assoc]
theorem and_h (a b : Nat) : (a &&& b) / 2 = a / 2 &&& b / 2 := by
  have := @Nat.and_div_two_pow a b 1
  simpa using this
theorem and_m (a b : Nat) : (a &&& b) % 2 = (a % 2) &&& (b % 2) := by
  have := @Nat.and_mod_two_pow a b 1
  simpa using this
/-- a number without its lowest bit -/
theorem pc_low : ∀ k n, n < 2 ^ k → n ≠ 0 → pc k (n &&& (n - 1)) + 1 = pc k n
  | 0, n, h, h0 => absurd h (by omega)
  | k + 1, n, h, h0 => by
    show (n &&& (n - 1)) % 2 + pc k ((n &&& (n - 1)) / 2) + 1 = n % 2 + pc k (n / 2)
    rw [and_h, and_m]
    rw [Nat.pow_succ] at h
    rcases Nat.mod_two_eq_zero_or_one n with e | e
    · rw [e, Nat.zero_and, show (n - 1) / 2 = n / 2 - 1 by omega, Nat.zero_add, Nat.zero_add]
      exact pc_low k (n / 2) (by omega) (by omega)
    · rw [e, show (n - 1) % 2 = 0 by omega, show (n - 1) / 2 = n / 2 by omega, Nat.and_self, Nat.and_zero]
      omega
theorem pc_z : ∀ k n, n < 2 ^ k → (pc k n = 0 ↔ n = 0)
  | 0, n, h => ⟨fun _ => by omega, fun _ => rfl⟩
  | k + 1, n, h => by
    rw [Nat.pow_succ] at h
    have := pc_z k (n / 2) (by omega)
    show n % 2 + pc k (n / 2) = 0 ↔ n = 0
    constructor
    · intro y
      have := this.mp (by omega)
      omega
    · intro y
      subst y
      have := this.mpr rfl
      omega
/-! the sums in parallel, byte by byte -/
def mk (c : Nat) : Nat → Nat
  | 0 => 0
  | k + 1 => c + 256 * mk c k
theorem and_8 (a b c d : Nat) (ha : a < 256) (hc : c < 256) : (a + 256 * b) &&& (c + 256 * d) = (a &&& c) + 256 * (b &&& d) := by
  have h1 := @Nat.and_mod_two_pow (a + 256 * b) (c + 256 * d) 8
  have h2 := @Nat.and_div_two_pow (a + 256 * b) (c + 256 * d) 8
  rw [show (2 : Nat) ^ 8 = 256 by decide] at h1 h2
  rw [show (a + 256 * b) % 256 = a by omega, show (c + 256 * d) % 256 = c by omega] at h1
  rw [show (a + 256 * b) / 256 = b by omega, show (c + 256 * d) / 256 = d by omega] at h2
  omega
def f1 (a : Nat) : Nat := a - ((a / 2) &&& 85)
def f2 (a : Nat) : Nat := (a &&& 51) + ((a / 4) &&& 51)
def f3 (a : Nat) : Nat := (a + a / 16) % 16
theorem fb_1 : ∀ a, a < 256 → ∀ e, e < 2 → ((a / 2 + 128 * e) &&& 85) = (a / 2 &&& 85) := by decide +kernel
theorem fb_2 : ∀ a, a < 256 → ∀ e, e < 4 → ((a / 4 + 64 * e) &&& 51) = (a / 4 &&& 51) := by decide +kernel
theorem fl_1 : ∀ a, a < 256 → (a / 2 &&& 85) ≤ a := by decide +kernel
theorem fl_2 : ∀ a, a < 256 → f2 (f1 a) ≤ 68 ∧ f2 (f1 a) % 16 ≤ 4 ∧ f1 a < 256 ∧ f3 (f2 (f1 a)) = pc 8 a := by decide +kernel
def g1 (k n : Nat) : Nat := n - ((n / 2) &&& mk 85 k)
def g2 (k n : Nat) : Nat := (n &&& mk 51 k) + ((n / 4) &&& mk 51 k)
def g3 (k n : Nat) : Nat := (n + n / 16) &&& mk 15 k
theorem g1_s (k n : Nat) : g1 (k + 1) n = f1 (n % 256) + 256 * g1 k (n / 256) := by
  have ha := Nat.mod_lt n (show 0 < 256 by decide)
  have hb := Nat.mod_lt (n / 256) (show 0 < 2 by decide)
  have e := and_8 (n % 256 / 2 + 128 * (n / 256 % 2)) (n / 256 / 2) 85 (mk 85 k) (by omega) (by omega)
  rw [fb_1 _ ha _ hb, show n % 256 / 2 + 128 * (n / 256 % 2) + 256 * (n / 256 / 2) = n / 2 by omega] at e
  have l1 := fl_1 _ ha
  have l2 : (n / 256 / 2 &&& mk 85 k) ≤ n / 256 / 2 := Nat.and_le_left
  show n - (n / 2 &&& (85 + 256 * mk 85 k)) = n % 256 - (n % 256 / 2 &&& 85) + 256 * (n / 256 - (n / 256 / 2 &&& mk 85 k))
  rw [e]
  omega
theorem g2_s (k n : Nat) : g2 (k + 1) n = f2 (n % 256) + 256 * g2 k (n / 256) := by
  have ha := Nat.mod_lt n (show 0 < 256 by decide)
  have hb := Nat.mod_lt (n / 256) (show 0 < 4 by decide)
  have e := and_8 (n % 256 / 4 + 64 * (n / 256 % 4)) (n / 256 / 4) 51 (mk 51 k) (by omega) (by omega)
  rw [fb_2 _ ha _ hb, show n % 256 / 4 + 64 * (n / 256 % 4) + 256 * (n / 256 / 4) = n / 4 by omega] at e
  have e2 := and_8 (n % 256) (n / 256) 51 (mk 51 k) (by omega) (by omega)
  rw [show n % 256 + 256 * (n / 256) = n by omega] at e2
  show (n &&& (51 + 256 * mk 51 k)) + (n / 4 &&& (51 + 256 * mk 51 k)) = (n % 256 &&& 51) + (n % 256 / 4 &&& 51) + 256 * ((n / 256 &&& mk 51 k) + (n / 256 / 4 &&& mk 51 k))
  rw [e, e2]
  omega
theorem gh_s (k n : Nat) : g2 (k + 1) (g1 (k + 1) n) = f2 (f1 (n % 256)) + 256 * g2 k (g1 k (n / 256)) := by
  have ha := fl_2 _ (Nat.mod_lt n (show 0 < 256 by decide))
  rw [g2_s, g1_s, show (f1 (n % 256) + 256 * g1 k (n / 256)) % 256 = f1 (n % 256) by omega, show (f1 (n % 256) + 256 * g1 k (n / 256)) / 256 = g1 k (n / 256) by omega]
theorem gh_4 : ∀ k n, g2 k (g1 k n) % 16 ≤ 4
  | 0, n => by
    have : g2 0 (g1 0 n) = 0 := by unfold g2; rw [show mk 51 0 = 0 from rfl, Nat.and_zero, Nat.and_zero]
    omega
  | k + 1, n => by
    have ha := fl_2 _ (Nat.mod_lt n (show 0 < 256 by decide))
    rw [gh_s]
    omega
theorem and_15 (z : Nat) : z &&& 15 = z % 16 := Nat.and_two_pow_sub_one_eq_mod z 4
theorem gg_s (k n : Nat) : g3 (k + 1) (g2 (k + 1) (g1 (k + 1) n)) = pc 8 (n % 256) + 256 * g3 k (g2 k (g1 k (n / 256))) := by
  obtain ⟨h1, h2, h3, h4⟩ := fl_2 _ (Nat.mod_lt n (show 0 < 256 by decide))
  have h5 := gh_4 k (n / 256)
  rw [gh_s, ← h4]
  generalize f2 (f1 (n % 256)) = A at h1 h2
  generalize g2 k (g1 k (n / 256)) = B at h5
  have e := and_8 (A + A / 16 + 16 * (B % 16)) (B + B / 16) 15 (mk 15 k) (by omega) (by omega)
  rw [show A + A / 16 + 16 * (B % 16) + 256 * (B + B / 16) = A + 256 * B + (A + 256 * B) / 16 by omega, and_15] at e
  show (A + 256 * B + (A + 256 * B) / 16) &&& (15 + 256 * mk 15 k) = (A + A / 16) % 16 + 256 * ((B + B / 16) &&& mk 15 k)
  rw [e]
  omega
theorem pc_32 (n : Nat) (h : n < 2 ^ 32) : ∃ a b c d, a ≤ 8 ∧ b ≤ 8 ∧ c ≤ 8 ∧ d ≤ 8 ∧ g3 4 (g2 4 (g1 4 n)) = a + 256 * (b + 256 * (c + 256 * d)) ∧ pc 32 n = a + b + c + d := by
  refine ⟨pc 8 (n % 256), pc 8 (n / 256 % 256), pc 8 (n / 256 / 256 % 256), pc 8 (n / 256 / 256 / 256 % 256), pc_le _ _, pc_le _ _, pc_le _ _, pc_le _ _, ?_, ?_⟩
  · rw [gg_s, gg_s, gg_s, gg_s, show g3 0 (g2 0 (g1 0 (n / 256 / 256 / 256 / 256))) = 0 by unfold g3; rw [show mk 15 0 = 0 from rfl, Nat.and_zero]]
    omega
  · have c1 := pc_cut 8 24 n
    have c2 := pc_cut 8 16 (n / 256)
    have c3 := pc_cut 8 8 (n / 256 / 256)
    rw [show (2 : Nat) ^ 8 = 256 by decide] at c1 c2 c3
    rw [show n / 256 / 256 / 256 % 256 = n / 256 / 256 / 256 by omega]
    rw [show 8 + 24 = 32 by decide] at c1
    rw [show 8 + 16 = 24 by decide] at c2
    rw [show 8 + 8 = 16 by decide] at c3
    omega
/-- set bits of a word -/
def m_on (x : Int32) : Nat := pc 32 (uN x)
theorem m_on_e (x : Int32) : m_on x = pc 32 (uN x) := rfl
theorem m_on_le (x : Int32) : m_on x ≤ 32 := by rw [m_on_e]; exact pc_le _ _
section
variable {a8 : Int32} {i : Nat}
theorem C_298 (I : aI) (w : aW) (k : aQ) (x : Int32) : rn 298 (a_en 298 [.inl x] (MM I w k)) = some (.inl (some (.inl (nI (m_on x)))), MM I w k) := by
  have s1 : ∀ y : Int32, uN ((y.toUInt32 >>> (Int32.toUInt32 1 &&& Int32.toUInt32 31)).toInt32) = uN y / 2 := fun y => uN_shr 1 (by decide) y
  have s2 : ∀ y : Int32, uN ((y.toUInt32 >>> (Int32.toUInt32 2 &&& Int32.toUInt32 31)).toInt32) = uN y / 4 := fun y => uN_shr 2 (by decide) y
  have s4 : ∀ y : Int32, uN ((y.toUInt32 >>> (Int32.toUInt32 4 &&& Int32.toUInt32 31)).toInt32) = uN y / 16 := fun y => uN_shr 4 (by decide) y
  have s8 : ∀ y : Int32, uN ((y.toUInt32 >>> (Int32.toUInt32 8 &&& Int32.toUInt32 31)).toInt32) = uN y / 256 := fun y => uN_shr 8 (by decide) y
  have s16 : ∀ y : Int32, uN ((y.toUInt32 >>> (Int32.toUInt32 16 &&& Int32.toUInt32 31)).toInt32) = uN y / 65536 := fun y => uN_shr 16 (by decide) y
  have hx := uN_lt x
  obtain ⟨a, b, c, d, ha, hb, hc, hd, hg, hp⟩ := pc_32 (uN x) hx
  refine (e298_0 I w k _).trans ?_
  have t1 : uN (x - ((x.toUInt32 >>> (Int32.toUInt32 1 &&& Int32.toUInt32 31)).toInt32 &&& 1431655765)) = g1 4 (uN x) := by
    have l : (uN x / 2 &&& mk 85 4) ≤ uN x / 2 := Nat.and_le_left
    have q : uN ((x.toUInt32 >>> (Int32.toUInt32 1 &&& Int32.toUInt32 31)).toInt32 &&& 1431655765) = (uN x / 2 &&& mk 85 4) := by
      rw [uN_and, s1, show uN 1431655765 = mk 85 4 by decide +kernel]
    rw [uN_sub (by rw [q]; omega), q]; rfl
  generalize (x - ((x.toUInt32 >>> (Int32.toUInt32 1 &&& Int32.toUInt32 31)).toInt32 &&& 1431655765)) = x1 at t1
  refine (e298_10 I w k _).trans ?_
  have t2 : uN ((x1 &&& 858993459) + ((x1.toUInt32 >>> (Int32.toUInt32 2 &&& Int32.toUInt32 31)).toInt32 &&& 858993459)) = g2 4 (uN x1) := by
    have l1 : (uN x1 &&& mk 51 4) ≤ mk 51 4 := Nat.and_le_right
    have l2 : (uN x1 / 4 &&& mk 51 4) ≤ mk 51 4 := Nat.and_le_right
    have q1 : uN (x1 &&& 858993459) = (uN x1 &&& mk 51 4) := by rw [uN_and, show uN 858993459 = mk 51 4 by decide +kernel]
    have q2 : uN ((x1.toUInt32 >>> (Int32.toUInt32 2 &&& Int32.toUInt32 31)).toInt32 &&& 858993459) = (uN x1 / 4 &&& mk 51 4) := by rw [uN_and, s2, show uN 858993459 = mk 51 4 by decide +kernel]
    have q3 : mk 51 4 = 858993459 := by decide +kernel
    rw [uN_add (by rw [q1, q2]; omega), q1, q2]; rfl
  have t2b : g2 4 (uN x1) ≤ 1717986918 := by
    have l1 : (uN x1 &&& mk 51 4) ≤ mk 51 4 := Nat.and_le_right
    have l2 : (uN x1 / 4 &&& mk 51 4) ≤ mk 51 4 := Nat.and_le_right
    have q3 : mk 51 4 = 858993459 := by decide +kernel
    show (uN x1 &&& mk 51 4) + (uN x1 / 4 &&& mk 51 4) ≤ _
    omega
  generalize ((x1 &&& 858993459) + ((x1.toUInt32 >>> (Int32.toUInt32 2 &&& Int32.toUInt32 31)).toInt32 &&& 858993459)) = x2 at t2
  refine (e298_24 I w k _).trans ?_
  have t3 : uN ((x2 + (x2.toUInt32 >>> (Int32.toUInt32 4 &&& Int32.toUInt32 31)).toInt32) &&& 252645135) = g3 4 (uN x2) := by
    rw [uN_and, uN_add (by rw [s4]; omega), s4, show uN 252645135 = mk 15 4 by decide +kernel]; rfl
  generalize ((x2 + (x2.toUInt32 >>> (Int32.toUInt32 4 &&& Int32.toUInt32 31)).toInt32) &&& 252645135) = x3 at t3
  rw [t2, t1, hg] at t3
  refine (e298_34 I w k _).trans ?_
  have t4 : uN (x3 + (x3.toUInt32 >>> (Int32.toUInt32 8 &&& Int32.toUInt32 31)).toInt32) = uN x3 + uN x3 / 256 := by
    rw [uN_add (by rw [s8]; omega), s8]
  generalize (x3 + (x3.toUInt32 >>> (Int32.toUInt32 8 &&& Int32.toUInt32 31)).toInt32) = x4 at t4
  refine (e298_41 I w k _).trans ?_
  have t5 : uN (x4 + (x4.toUInt32 >>> (Int32.toUInt32 16 &&& Int32.toUInt32 31)).toInt32) = uN x4 + uN x4 / 65536 := by
    rw [uN_add (by rw [s16]; omega), s16]
  generalize (x4 + (x4.toUInt32 >>> (Int32.toUInt32 16 &&& Int32.toUInt32 31)).toInt32) = x5 at t5
  refine (e298_48 I w k _).trans ?_
  have t6 : x5 &&& 63 = nI (m_on x) := by
    apply uN_inj
    have l := m_on_le x
    rw [uN_and, uN_nI (by omega), show uN 63 = 2 ^ 6 - 1 by decide +kernel, Nat.and_two_pow_sub_one_eq_mod]
    rw [m_on_e]
    have y1 : uN x3 / 256 = b + 256 * c + 65536 * d := by rw [t3]; omega
    have y2 : uN x4 = a + b + 256 * (b + c) + 65536 * (c + d + 256 * d) := by rw [t4, y1, t3]; omega
    have y3 : uN x4 / 65536 = c + d + 256 * d := by rw [y2]; omega
    have y4 : uN x5 = a + b + c + d + 64 * (4 * (b + c + d) + 1024 * (c + d) + 262144 * d) := by rw [t5, y3, y2]; omega
    rw [y4, hp, show (2 : Nat) ^ 6 = 64 by decide]
    omega
  rw [t6]
theorem on_0 {x : Int32} (h : m_on x = 0) : x = 0 := by
  have h' : pc 32 (uN x) = 0 := (m_on_e x).symm.trans h
  have h2 : uN x = 0 := (pc_z 32 _ (uN_lt x)).mp h'
  exact uN_inj (h2.trans (by decide +kernel))
theorem on_s {x : Int32} {d : Nat} (h : m_on x = d + 1) : ¬ x = 0 ∧ m_on (x &&& (x - 1)) = d := by
  have h' : pc 32 (uN x) = d + 1 := (m_on_e x).symm.trans h
  have h0 : ¬ uN x = 0 := fun z => by rw [z, pc_0] at h'; omega
  refine ⟨fun z => h0 (by rw [z]; decide +kernel), ?_⟩
  have e : uN (x &&& (x - 1)) = (uN x &&& (uN x - 1)) := by
    have q : uN 1 = 1 := by decide +kernel
    rw [uN_and, uN_sub (by omega), q]
  have := pc_low 32 (uN x) (uN_lt x) h0
  rw [← e, h'] at this
  exact (m_on_e _).trans (Nat.succ.inj this)
theorem M_175L (I : aI) (w : aW) (k : aQ) (d0 : Option aV) (d : Nat) : ∀ (j : Nat) (x : Int32), m_on x = d → rn 175 (4, [d0, some (.inl (nI j)), some (.inl x)], [], MM I w k) = some (.inl (some (.inl (nI (j + d)))), MM I w k) := by
  induction d with
  | zero =>
    intro j x h
    refine (e175_4 I w k _ _ _).trans ((zc_t (on_0 h)).trans ?_)
    rw [Nat.add_zero]
  | succ d ih =>
    intro j x h
    obtain ⟨h1, h2⟩ := on_s h
    refine (e175_4 I w k _ _ _).trans ((zc_f h1).trans ?_)
    rw [nI_1, ih (j + 1) _ h2, show j + 1 + d = j + (d + 1) by omega]
theorem M_175 (I : aI) (w : aW) (k : aQ) (x : Int32) : rn 175 (a_en 175 [.inl x] (MM I w k)) = some (.inl (some (.inl (nI (m_on x)))), MM I w k) := by
  refine (e175_0 I w k _).trans ?_
  refine (M_175L I w k _ (m_on x) 0 x rfl).trans ?_
  rw [Nat.zero_add]
end
