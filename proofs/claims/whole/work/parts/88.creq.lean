/-! ===== the class: what the calls ask first; trials ===== -/
/-- an exception is made: one cell, six slots -/
def kx (k : aQ) : aQ := (k.1, k.2.1, k.2.2.1 + 1, k.2.2.2 + 6)
theorem C_159 (I : aI) (w : aW) (k : aQ) (x a b : Int32) : rn 159 (a_en 159 [.inl x, .inl a, .inl b] (MM I w k)) = some (.inl (some (.inl (tf (¬ (a ≤ x ∧ x ≤ b))))), MM I w k) := by
  refine (e159_0 I w k _ _ _).trans ?_
  by_cases h1 : x < a
  · have hz : ¬ (a ≤ x ∧ x ≤ b) := fun z => Int32.not_le.mpr h1 z.1
    rw [zc_t h1, tft hz]
  · rw [zc_f h1]
    by_cases h2 : x ≤ b
    · rw [zc_t h2, tff (fun z => z ⟨Int32.not_lt.mp h1, h2⟩)]
    · have hz : ¬ (a ≤ x ∧ x ≤ b) := fun z => h2 z.2
      rw [zc_f h2, tft hz]
theorem C_160 (I : aI) (w : aW) (k : aQ) {x a b : Int32} (h : a ≤ x ∧ x ≤ b) : rn 160 (a_en 160 [.inl x, .inl a, .inl b] (MM I w k)) = some (.inl none, MM I w k) := by
  refine (e160_0 I w k _ _ _).trans ?_
  refine (bk_v (C_159 I w k x a b)).trans ?_
  refine (e160_6 I w k _ _ _ _).trans ?_
  exact zc_t (tff (fun z => z h))
theorem C_160f (I : aI) (w : aW) (k : aQ) {x a b : Int32} (h : ¬ (a ≤ x ∧ x ≤ b)) : rn 160 (a_en 160 [.inl x, .inl a, .inl b] (MM I w k)) = some (.inr 0, MM I w (kx k)) := by
  refine (e160_0 I w k _ _ _).trans ?_
  refine (bk_v (C_159 I w k x a b)).trans ?_
  refine (e160_6 I w k _ _ _ _).trans ?_
  refine (zc_f ?_).trans rfl
  rw [tft h]; decide
theorem C_161 (I : aI) (w : aW) (k : aQ) {x y : Int32} (h : gSp x y) : rn 161 (a_en 161 [.inl x, .inl y] (MM I w k)) = some (.inl none, MM I w k) := by
  refine (e161_0 I w k _ _).trans ?_
  refine (bk_n (C_160 I w k h.1)).trans ?_
  refine (e161_7 I w k _ _).trans ?_
  refine (bk_n (C_160 I w k h.2)).trans ?_
  exact e161_15 I w k _ _
theorem C_161f (I : aI) (w : aW) (k : aQ) {x y : Int32} (h : ¬ gSp x y) : rn 161 (a_en 161 [.inl x, .inl y] (MM I w k)) = some (.inr 0, MM I w (kx k)) := by
  refine (e161_0 I w k _ _).trans ?_
  by_cases h1 : 0 ≤ x ∧ x ≤ 99999
  · refine (bk_n (C_160 I w k h1)).trans ?_
    refine (e161_7 I w k _ _).trans ?_
    exact bk_x (C_160f I w k (fun z => h ⟨h1, z⟩)) (by decide +kernel) (by decide +kernel)
  · exact bk_x (C_160f I w k h1) (by decide +kernel) (by decide +kernel)
section
variable {r : aR}
theorem C_162 (I : aI) (w : aW) (k : aQ) (hS : Sim 0 0 I r) {x : Int32} (h : 0 ≤ x ∧ x ≤ r 3 - 1) : rn 162 (a_en 162 [.inr (.inr (some (30, 0))), .inl x] (MM I w k)) = some (.inl none, MM I w k) := by
  refine (e162_0 I w k _).trans ?_
  refine (bk_v (C_159 I w k _ _ _)).trans ?_
  refine (e162_17 I w k _ _ _).trans ?_
  rw [hS.1.1.2.2.2]
  exact zc_t (tff (fun z => z h))
theorem C_162f (I : aI) (w : aW) (k : aQ) (hS : Sim 0 0 I r) {x : Int32} (h : ¬ (0 ≤ x ∧ x ≤ r 3 - 1)) : rn 162 (a_en 162 [.inr (.inr (some (30, 0))), .inl x] (MM I w k)) = some (.inr 2, MM I w (kx k)) := by
  refine (e162_0 I w k _).trans ?_
  refine (bk_v (C_159 I w k _ _ _)).trans ?_
  refine (e162_17 I w k _ _ _).trans ?_
  rw [hS.1.1.2.2.2]
  refine (zc_f ?_).trans rfl
  rw [tft h]; decide
theorem C_163 (I : aI) (w : aW) (k : aQ) (hS : Sim 0 0 I r) {x : Int32} (h : 0 ≤ x ∧ x ≤ r 4 - 1) : rn 163 (a_en 163 [.inr (.inr (some (30, 0))), .inl x] (MM I w k)) = some (.inl none, MM I w k) := by
  refine (e163_0 I w k _).trans ?_
  refine (bk_v (C_159 I w k _ _ _)).trans ?_
  refine (e163_14 I w k _ _ _).trans ?_
  rw [hS.1.2.2.1.1]
  exact zc_t (tff (fun z => z h))
theorem C_163f (I : aI) (w : aW) (k : aQ) (hS : Sim 0 0 I r) {x : Int32} (h : ¬ (0 ≤ x ∧ x ≤ r 4 - 1)) : rn 163 (a_en 163 [.inr (.inr (some (30, 0))), .inl x] (MM I w k)) = some (.inr 2, MM I w (kx k)) := by
  refine (e163_0 I w k _).trans ?_
  refine (bk_v (C_159 I w k _ _ _)).trans ?_
  refine (e163_14 I w k _ _ _).trans ?_
  rw [hS.1.2.2.1.1]
  refine (zc_f ?_).trans rfl
  rw [tft h]; decide
theorem gK_iff {n : Nat} (hn : n ≤ 100000) (h12 : r 12 = nI n) (hC : nC r = n) (x : Int32) : gK r x ↔ (¬ x < 0 ∧ ¬ x < r 12 - 60 ∧ ¬ r 12 ≤ x) := by
  unfold gK
  rw [h12, hC]
  have e1 : (nI n - 1).toInt = (n : Int) - 1 := by
    rcases Nat.eq_zero_or_pos n with h | h
    · subst h; decide
    · rw [show nI n - 1 = nI (n - 1) from z_sub (b := 1) (by omega), nI_toInt (by omega)]; omega
  have e2 : (nI n - 60).toInt = (n : Int) - 60 := by
    rcases Nat.lt_or_ge n 60 with h | h
    · have : ∀ m, m < 60 → (nI m - 60).toInt = (m : Int) - 60 := by decide
      exact this n h
    · rw [show nI n - 60 = nI (n - 60) from z_sub (b := 60) (by omega), nI_toInt (by omega)]; omega
  rw [fa_le, fa_le, fa_lt, fa_lt, fa_le, e1, e2, nI_toInt (show n - 60 < 2 ^ 31 by omega), nI_toInt (show n < 2 ^ 31 by omega), show (0 : Int32).toInt = 0 from by decide]
  omega
theorem C_164 (I : aI) (w : aW) (k : aQ) (hS : Sim 0 0 I r) (hC : Rc r) {x : Int32} (h : gK r x) : rn 164 (a_en 164 [.inr (.inr (some (30, 0))), .inl x] (MM I w k)) = some (.inl none, MM I w k) := by
  have hg := (gK_iff hC.2 hC.1 rfl x).mp h
  refine (e164_0 I w k _).trans ?_
  have e : rn 54 (a_en 54 [.inr (.inr (some (20, 0))), .inl x] (MM I w k)) = some (.inl (some (.inl 1)), MM I w k) := by
    refine (e54_0 I w k _ _).trans ?_
    rw [hS.1.2.2.1.2.1]
    exact (zc_f hg.1).trans ((zc_f hg.2.1).trans (zc_f hg.2.2))
  refine (bk_v e).trans ?_
  refine (e164_8 I w k _ _ _).trans ?_
  exact zc_t (by decide)
theorem C_164f (I : aI) (w : aW) (k : aQ) (hS : Sim 0 0 I r) (hC : Rc r) {x : Int32} (h : ¬ gK r x) : rn 164 (a_en 164 [.inr (.inr (some (30, 0))), .inl x] (MM I w k)) = some (.inr 2, MM I w (kx k)) := by
  have hg : ¬ (¬ x < 0 ∧ ¬ x < r 12 - 60 ∧ ¬ r 12 ≤ x) := fun z => h ((gK_iff hC.2 hC.1 rfl x).mpr z)
  refine (e164_0 I w k _).trans ?_
  have e : rn 54 (a_en 54 [.inr (.inr (some (20, 0))), .inl x] (MM I w k)) = some (.inl (some (.inl 0)), MM I w k) := by
    refine (e54_0 I w k _ _).trans ?_
    rw [hS.1.2.2.1.2.1]
    by_cases h1 : x < 0
    · exact zc_t h1
    · refine (zc_f h1).trans ?_
      by_cases h2 : x < r 12 - 60
      · exact zc_t h2
      · refine (zc_f h2).trans ?_
        by_cases h3 : r 12 ≤ x
        · exact zc_t h3
        · exact absurd ⟨h1, h2, h3⟩ hg
  refine (bk_v e).trans ?_
  refine (e164_8 I w k _ _ _).trans ?_
  exact (zc_f (by decide)).trans rfl
end
/-! trials -/
theorem C_150L (w : aW) (k : aQ) {i q : Nat} (d0 d1 : Option aV) (d : Nat) : ∀ (j T : Nat) (I : aI) (r : aR), j + d = 3000 → T + d < 99998 → Okt T r → q < nR r → Sim 1 i I r → ∃ J, rn 150 (27, [d0, d1, some (.inr (.inr (some (20, i)))), some (.inr (.inr (some (14, (40 * i + q))))), some (.inl (nI j))], [], MM I w k) = some (.inl (some (.inl (m_fc q d r (68 + 8 * q + 6)))), MM J w k) ∧ Fr i I J := by
  induction d with
  | zero =>
    intro j T I r hj hT hO hq hS
    refine ⟨I, (e150_27 I w k _ _ _ _ _).trans ?_, Fr.refl i I⟩
    rw [(hS.2.2.2.2.1 q hq).2.2.1.2.2.1]
    exact zc_t (show (3000 : Int32) ≤ nI j from nI_le (a := 3000) (by omega) (by omega))
  | succ d ih =>
    intro j T I r hj hT hO hq hS
    by_cases h : r (68 + 8 * q + 6) = -1
    · obtain ⟨J, j1, j2, j3⟩ := C_61 I w k hS (hO.mv (by omega))
      have e4 : m_min 1 r 4 = r 4 := hO.min_q (by omega) 1 (Or.inl (by omega))
      obtain ⟨K, k1, k2⟩ := ih (j + 1) (T + 1) J (m_min 1 r) (by omega) (by omega) (hO.min (by omega) 1) (by rw [nR_c e4]; exact hq) j2
      refine ⟨K, (e150_27 I w k _ _ _ _ _).trans ?_, j3.trans k2⟩
      rw [(hS.2.2.2.2.1 q hq).2.2.1.2.2.1]
      refine (zc_f (show ¬ (3000 : Int32) ≤ nI j from nI_ge (b := 3000) (by omega) (by omega))).trans ?_
      refine (zc_f (fun z => z h)).trans ?_
      refine (bk_n j1).trans ?_
      refine (e150_47 J w k _ _ _ _ _).trans ?_
      rw [nI_1, show m_fc q (d + 1) r = m_fc q d (m_min 1 r) from if_neg (fun z => z h)]
      exact k1
    · refine ⟨I, (e150_27 I w k _ _ _ _ _).trans ?_, Fr.refl i I⟩
      rw [(hS.2.2.2.2.1 q hq).2.2.1.2.2.1]
      refine (zc_f (show ¬ (3000 : Int32) ≤ nI j from nI_ge (b := 3000) (by omega) (by omega))).trans ?_
      refine (zc_t h).trans ?_
      rw [show m_fc q (d + 1) r = r from if_pos h]
/-- what spareSimulation gives: a simulation i that isn't the live one -/
def Spr (I : aI) (w : aW) (k : aQ) (I1 : aI) (w1 : aW) (k1 : aQ) (i : Nat) : Prop := rn 165 (a_en 165 [.inr (.inr (some (30, 0)))] (MM I w k)) = some (.inl (some (.inr (.inr (some (20, i))))), MM I1 w1 k1)
theorem C_166 {I I1 : aI} {w w1 : aW} {k k1 : aQ} {i : Nat} {r : aR} (h : Spr I w k I1 w1 k1 i) (hi : i ≠ 0) (hS : Sim 0 0 I1 r) (hR : Rs r) (hQ : Rq r) (hC : Rc r) : ∃ J, rn 166 (a_en 166 [.inr (.inr (some (30, 0)))] (MM I w k)) = some (.inl (some (.inr (.inr (some (20, i))))), MM J w1 k1) ∧ Sim 0 i J r ∧ Fr i I1 J := by
  obtain ⟨J, j1, j2, j3⟩ := C_41 I1 w1 k1 (i := i) (l := 0) (fun z => hi z.symm) hS hR hQ hC
  refine ⟨J, ?_, j2, j3⟩
  refine (e166_0 I w k).trans ?_
  refine (bk_v h).trans ?_
  refine (e166_4 I1 w1 k1 _ _).trans ?_
  refine (bk_n j1).trans ?_
  exact e166_13 J w1 k1 _ _
theorem C_150 {I I1 : aI} {w w1 : aW} {k k1 : aQ} {i q T : Nat} {r : aR} (h : Spr I w k I1 w1 k1 i) (hi : i ≠ 0) (hS0 : Sim 0 0 I r) (hS : Sim 0 0 I1 r) (hO : Okt T r) (hT : T ≤ 90000) (hq : q < nR r) : ∃ J, rn 150 (a_en 150 [.inr (.inr (some (30, 0))), .inl (nI q)] (MM I w k)) = some (.inl (some (.inl (m_fc q 3000 r (68 + 8 * q + 6)))), MM J w1 k1) ∧ Fr i I1 J := by
  have h40 := hO.rq.2
  obtain ⟨A, a1, a2, a3⟩ := C_166 h hi hS hO.rs hO.rq (hO.rc (by omega))
  obtain ⟨B, b1, b2, b3⟩ := C_78 A w1 k1 a2 hO.rs
  obtain ⟨D, d1, d2⟩ := C_150L w1 k1 (some (.inr (.inr (some (30, 0))))) (some (.inl (nI q))) 3000 0 T B r (by omega) (by omega) hO hq b2
  refine ⟨D, ?_, (a3.trans b3).trans d2⟩
  refine (e150_0 I w k _).trans ?_
  refine (bk_n (C_163 I w k hS0 (x := nI q) (by rw [hO.rq.1]; exact z_is hq (by omega)))).trans ?_
  refine (e150_5 I w k _ _ _ _).trans ?_
  refine (bk_v a1).trans ?_
  refine (e150_9 A w1 k1 _ _ _ _ _ _).trans ?_
  refine (bk_n b1).trans ?_
  refine (e150_17 B w1 k1 _ _ _ _ _).trans ?_
  rw [z_in (by omega) (by decide), nI_clamp (by omega), cond_true]
  exact d1
theorem C_167L (w : aW) (k : aQ) {i m : Nat} (hm : m ≤ 1440) (d0 d1 : Option aV) (d : Nat) : ∀ (j T : Nat) (I : aI) (r : aR), j + d = m → T + d < 99998 → Okt T r → Sim 0 i I r → ∃ J, rn 167 (16, [d0, d1, some (.inl (nI m)), some (.inr (.inr (some (20, i)))), some (.inl (nI j))], [], MM I w k) = some (.inl (some (.inl (m_it 0 d r 19))), MM J w k) ∧ Fr i I J := by
  induction d with
  | zero =>
    intro j T I r hj hT hO hS
    refine ⟨I, (e167_16 I w k _ _ _ _ _).trans ?_, Fr.refl i I⟩
    rw [hS.2.1 3 (by omega)]
    exact zc_t (nI_le (by omega) (by omega))
  | succ d ih =>
    intro j T I r hj hT hO hS
    obtain ⟨J, j1, j2, j3⟩ := C_61 I w k hS (hO.mv (by omega))
    obtain ⟨K, k1, k2⟩ := ih (j + 1) (T + 1) J (m_min 0 r) (by omega) (by omega) (hO.min (by omega) 0) j2
    refine ⟨K, (e167_16 I w k _ _ _ _ _).trans ?_, j3.trans k2⟩
    refine (zc_f (nI_ge (by omega) (by omega))).trans ?_
    refine (bk_n j1).trans ?_
    refine (e167_26 J w k _ _ _ _ _).trans ?_
    rw [nI_1]
    exact k1
theorem C_167 {I I1 : aI} {w w1 : aW} {k k1 : aQ} {i m p T : Nat} {r : aR} (h : Spr I w k I1 w1 k1 i) (hi : i ≠ 0) (hS : Sim 0 0 I1 r) (hO : Okt T r) (hT : T ≤ 90000) (hm : m ≤ 1440) (hp : p ≤ 1) : ∃ J, rn 167 (a_en 167 [.inr (.inr (some (30, 0))), .inl (nI p), .inl (nI m)] (MM I w k)) = some (.inl (some (.inl (m_tr 0 m (nI p) r))), MM J w1 k1) ∧ Fr i I1 J := by
  obtain ⟨A, a1, a2, a3⟩ := C_166 h hi hS hO.rs hO.rq (hO.rc (by omega))
  have hp5 : Rp (upd r 9 (nI p)) := by
    obtain ⟨b1, b2, b3, b4, b5, b6⟩ := hO.1.2.2.2.2.2.1
    exact ⟨by rw [upd_n _ _ _ (by omega)]; exact b1, by rw [upd_n _ _ _ (by omega)]; exact b2, by rw [upd_n _ _ _ (by omega)]; exact b3, ⟨p, hp, upd_s _ _ _⟩, by rw [upd_n _ _ _ (by omega)]; exact b5, by rw [upd_n _ _ _ (by omega)]; exact b6⟩
  obtain ⟨D, d1, d2⟩ := C_167L w1 k1 hm (some (.inr (.inr (some (30, 0))))) (some (.inl (nI p))) m 0 T (a_setI A 10 i 5 (nI p)) (upd r 9 (nI p)) (by omega) (by omega) (hO.par (by omega) (by omega) hp5) (Sim_ru5 a2 (nI p))
  refine ⟨D, ?_, (a3.trans (Fr.set (show own i 10 i from rfl) A 5 (nI p))).trans d2⟩
  refine (e167_0 I w k _ _).trans ?_
  refine (bk_v a1).trans ?_
  refine (e167_4 A w1 k1 _ _ _ _ _ _).trans ?_
  exact d1
