/-! ===== Int32 by its bits (began as the kit's starting text BITS.to-paste, first family) ===== -/
def bt (x : Int32) (i : Nat) : Bool := x.toBitVec.getLsbD i
theorem b_ext {x y : Int32} (h : ∀ i, i < 32 → bt x i = bt y i) : x = y := Int32.toBitVec_inj.mp (BitVec.eq_of_getLsbD_eq (fun i hi => h i hi))
theorem b_or (x y : Int32) (i : Nat) : bt (x ||| y) i = (bt x i || bt y i) := by unfold bt; rw [Int32.toBitVec_or, BitVec.getLsbD_or]
theorem b_and (x y : Int32) (i : Nat) : bt (x &&& y) i = (bt x i && bt y i) := by unfold bt; rw [Int32.toBitVec_and, BitVec.getLsbD_and]
theorem b_xor (x y : Int32) (i : Nat) : bt (x ^^^ y) i = (bt x i ^^ bt y i) := by unfold bt; rw [Int32.toBitVec_xor, BitVec.getLsbD_xor]
theorem b_big {x : Int32} {i : Nat} (h : 32 ≤ i) : bt x i = false := BitVec.getLsbD_of_ge _ _ h
theorem b_255 (i : Nat) : bt 255 i = decide (i < 8) := by
  rcases Nat.lt_or_ge i 32 with h | h
  · exact (by decide +kernel : ∀ i, i < 32 → bt 255 i = decide (i < 8)) i h
  · rw [b_big h, decide_eq_false (by omega)]
theorem b_65535 (i : Nat) : bt 65535 i = decide (i < 16) := by
  rcases Nat.lt_or_ge i 32 with h | h
  · exact (by decide +kernel : ∀ i, i < 32 → bt 65535 i = decide (i < 16)) i h
  · rw [b_big h, decide_eq_false (by omega)]
theorem b_m1 : ∀ i, i < 32 → bt (-1) i = true := by decide +kernel
theorem b_0 (i : Nat) : bt 0 i = false := BitVec.getLsbD_zero
theorem s_l : ∀ n, n < 32 → ((nI n &&& 31).toBitVec.smod 32).toNat = n := by decide +kernel
theorem s_u : ∀ n, n < 32 → (((nI n).toUInt32 &&& Int32.toUInt32 31).toBitVec % 32).toNat = n := by decide +kernel
theorem b_shl (n : Nat) (hn : n < 32) (x : Int32) {i : Nat} (hi : i < 32) : bt (x <<< (nI n &&& 31)) i = (decide (n ≤ i) && bt x (i - n)) := by
  unfold bt
  rw [Int32.toBitVec_shiftLeft]
  show (x.toBitVec <<< ((nI n &&& 31).toBitVec.smod 32).toNat).getLsbD i = _
  rw [s_l n hn, BitVec.getLsbD_shiftLeft]
  rcases Nat.lt_or_ge i n with h | h
  · simp [h, Nat.not_le.mpr h]
  · simp [hi, h, Nat.not_lt.mpr h]
theorem b_ushr (n : Nat) (hn : n < 32) (x : Int32) (i : Nat) : bt ((x.toUInt32 >>> ((nI n).toUInt32 &&& Int32.toUInt32 31)).toInt32) i = bt x (n + i) := by
  show (x.toUInt32 >>> ((nI n).toUInt32 &&& Int32.toUInt32 31)).toBitVec.getLsbD i = x.toUInt32.toBitVec.getLsbD (n + i)
  rw [UInt32.toBitVec_shiftRight]
  show (x.toUInt32.toBitVec >>> (((nI n).toUInt32 &&& Int32.toUInt32 31).toBitVec % 32).toNat).getLsbD i = _
  rw [s_u n hn, BitVec.getLsbD_ushiftRight]
theorem b_sshr (n : Nat) (hn : n < 32) (x : Int32) {i : Nat} (hi : i < 32) : bt (x >>> (nI n &&& 31)) i = if n + i < 32 then bt x (n + i) else bt x 31 := by
  unfold bt
  rw [Int32.toBitVec_shiftRight]
  show (x.toBitVec.sshiftRight ((nI n &&& 31).toBitVec.smod 32).toNat).getLsbD i = _
  rw [s_l n hn, BitVec.getLsbD_sshiftRight, BitVec.msb_eq_getLsbD_last]
  simp [hi]
theorem b_one : ∀ f, f < 32 → ∀ i, i < 32 → bt ((1 : Int32) <<< (nI f &&& 31)) i = decide (i = f) := by decide +kernel
theorem b_not (x : Int32) {i : Nat} (hi : i < 32) : bt (x ^^^ (-1)) i = !bt x i := by rw [b_xor, b_m1 i hi, Bool.xor_true]
theorem b_fl : ∀ z, z < 25 → ∀ i, i < 32 → bt (((1 : Int32) <<< (nI z &&& 31)) - 1) i = decide (i < z) := by decide +kernel
theorem b_1 : ∀ i, i < 32 → bt 1 i = decide (i = 0) := by decide +kernel
theorem b_nz {x : Int32} (h : ¬ x = 0) : ∃ i, i < 32 ∧ bt x i = true := by
  apply Classical.byContradiction
  intro hn
  apply h
  apply b_ext
  intro i hi
  rw [b_0]
  cases hb : bt x i with
  | false => rfl
  | true => exact absurd ⟨i, hi, hb⟩ hn
theorem b_has (x : Int32) {f : Nat} (hf : f < 32) : ((x >>> (nI f &&& 31)) &&& 1 = 1) ↔ bt x f = true := by
  have h0 : bt ((x >>> (nI f &&& 31)) &&& 1) 0 = bt x f := by
    rw [b_and, b_sshr f hf x (by omega), b_1 0 (by omega), if_pos (by omega)]; simp
  constructor
  · intro h
    rw [← h0, h]; decide
  · intro h
    apply b_ext
    intro i hi
    rw [b_and, b_1 i hi]
    by_cases h1 : i = 0
    · subst h1
      rw [b_sshr f hf x (by omega), if_pos (by omega), Nat.add_zero, h]; rfl
    · rw [decide_eq_false h1, Bool.and_false]
theorem b_nhas (x : Int32) {f : Nat} (hf : f < 32) : ((x &&& ((1 : Int32) <<< (nI f &&& 31))) = 0) ↔ bt x f = false := by
  constructor
  · intro h
    have h2 : bt (x &&& ((1 : Int32) <<< (nI f &&& 31))) f = bt 0 f := by rw [h]
    rw [b_and, b_one f hf f hf, decide_eq_true rfl, Bool.and_true, b_0] at h2
    exact h2
  · intro h
    apply b_ext
    intro i hi
    rw [b_and, b_one f hf i hi, b_0]
    by_cases h1 : i = f
    · subst h1; rw [h]; rfl
    · rw [decide_eq_false h1, Bool.and_false]
/-- bits below 24 alone -/
def Lw (x : Int32) : Prop := ∀ i, 24 ≤ i → i < 32 → bt x i = false
theorem Lw.ex {x : Int32} (h : Lw x) (hx : ¬ x = 0) : ∃ f, f < 24 ∧ (x >>> (nI f &&& 31)) &&& 1 = 1 := by
  obtain ⟨i, hi, hb⟩ := b_nz hx
  rcases Nat.lt_or_ge i 24 with h1 | h1
  · exact ⟨i, h1, (b_has x hi).mpr hb⟩
  · rw [h i h1 hi] at hb; cases hb
theorem Lw.or {x : Int32} (h : Lw x) {f : Nat} (hf : f < 24) : Lw (x ||| ((1 : Int32) <<< (nI f &&& 31))) := by
  intro i h1 h2
  rw [b_or, h i h1 h2, b_one f (by omega) i h2, decide_eq_false (by omega)]; rfl
theorem Lw.and {x y : Int32} (h : Lw x) : Lw (x &&& y) := by
  intro i h1 h2
  rw [b_and, h i h1 h2]; rfl
theorem Lw.fl {z : Nat} (h : z ≤ 24) : Lw (((1 : Int32) <<< (nI z &&& 31)) - 1) := by
  intro i h1 h2
  rw [b_fl z (by omega) i h2, decide_eq_false (by omega)]
