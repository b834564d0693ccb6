/-! ===== the class: what the sky tells ===== -/
theorem sn_t {x t : Int32} {r : aR} : ∀ (d j : Nat), m_sn x r t d j true = true
  | 0, _ => rfl
  | d + 1, j => sn_t d (j + 1)
theorem sn_hi {s : Nat} {t : Int32} {r : aR} (hs : s < 4) : ∀ (d j : Nat) (b : Bool), s < j → j + d ≤ 4 → m_sn (nI s) r t d j b = b
  | 0, _, _, _, _ => rfl
  | d + 1, j, b, h, h2 => by
    rw [m_snf (fun z => by
      rcases z.1 with y | y
      · exact nI_n1 (by omega) y
      · have := (nI_eq (by omega) (by omega)).mp y; omega)]
    exact sn_hi hs d (j + 1) b (by omega) (by omega)
theorem sn_lo {s : Nat} {t : Int32} {r : aR} (hs : s < 4) : ∀ (d j : Nat), j ≤ s → s < j + d → j + d ≤ 4 → (m_sn (nI s) r t d j false = true ↔ ¬ m_end r s t = -1)
  | 0, j, h1, h2, _ => by omega
  | d + 1, j, h1, h2, h3 => by
    by_cases e : j = s
    · subst e
      by_cases he : m_end r j t = -1
      · rw [m_snf (fun z => z.2 he), sn_hi hs d (j + 1) _ (by omega) (by omega)]
        exact ⟨fun z => (by cases z), fun z => absurd he z⟩
      · rw [m_snt ⟨Or.inr rfl, he⟩, sn_t]
        exact ⟨fun _ => he, fun _ => rfl⟩
    · rw [m_snf (fun z => by
        rcases z.1 with y | y
        · exact nI_n1 (by omega) y
        · have := (nI_eq (by omega) (by omega)).mp y; omega)]
      exact sn_lo hs d (j + 1) (by omega) (by omega) (by omega)
theorem see_s {s : Nat} {t : Int32} {r : aR} (hs : s < nS r) (h4 : nS r ≤ 4) : (m_see (nI s) r t = true) ↔ ¬ m_end r s t = -1 := sn_lo (by omega) (nS r) 0 (by omega) (by omega) (by omega)
theorem z_FT {F j : Nat} : nI F + nI j = nI (F + j) := nI_add F j
section
variable {a8 : Int32} {i : Nat} {r : aR}
theorem C_84L (I : aI) (w : aW) (k : aQ) (hS : Sim a8 i I r) (hR : Rs r) {T : Nat} (hT : T ≤ 110000) : ∀ (d j : Nat), j + d = nS r → rn 84 (2, [some (.inr (.inr (some (9, i)))), some (.inl (nI T)), some (.inl (nI j))], [], MM I w k) = some (.inl (some (.inl (tf (m_sn (-1) r (nI T) d j false = true)))), MM I w k) := by
  have h1 := hR.1.1
  have h2 := hR.1.2
  have h3 : I 9 i 3 = nI (nS r) := hS.1.1.2.2.2.trans h1
  intro d
  induction d with
  | zero =>
    intro j hj
    refine (e84_2 I w k _ _ _).trans ?_
    rw [h3, zc_t (nI_le (by omega) (by omega))]
    rfl
  | succ d ih =>
    intro j hj
    refine (e84_2 I w k _ _ _).trans ?_
    rw [h3, zc_f (nI_ge (by omega) (by omega)), z_in (by omega) (by decide), nI_clamp (by omega), cond_true]
    refine (bk_v (C_83 I w k hS hR (by omega) hT)).trans ?_
    refine (e84_21 I w k _ _ _ _).trans ?_
    by_cases h : m_end r j (nI T) = -1
    · rw [zc_t (by rw [tf0]; exact fun z => z h), nI_1, ih (j + 1) (by omega), m_snf (fun z => z.2 h)]
    · rw [zc_f (by rw [tf0]; exact fun z => z h), m_snt ⟨Or.inl rfl, h⟩, sn_t]
      rfl
theorem C_84 (I : aI) (w : aW) (k : aQ) (hS : Sim a8 i I r) (hR : Rs r) {T : Nat} (hT : T ≤ 110000) : rn 84 (a_en 84 [.inr (.inr (some (9, i))), .inl (nI T)] (MM I w k)) = some (.inl (some (.inl (tf (m_see (-1) r (nI T) = true)))), MM I w k) :=
  (e84_0 I w k _ _).trans (C_84L I w k hS hR hT (nS r) 0 (by omega))
theorem C_90L (I : aI) (w : aW) (k : aQ) (hS : Sim a8 i I r) (hR : Rs r) {s F m : Nat} (hs : s < nS r) (hF : F ≤ 99999) (hm : m ≤ 1440) : ∀ (d j : Nat) (a : Int32), j + d = m → rn 90 (6, [some (.inr (.inr (some (9, i)))), some (.inr (.inr (some (18, (4 * i + s))))), some (.inl (nI F)), some (.inl (nI m)), some (.inl a), some (.inl (nI (F + j)))], [], MM I w k) = some (.inl (some (.inl (m_cov (nI s) r (nI F) d j a))), MM I w k) := by
  have h2 := hR.1.2
  intro d
  induction d with
  | zero =>
    intro j a hj
    refine (e90_6 I w k _ _ _ _ _ _).trans ?_
    rw [z_FT, zc_t (nI_le (by omega) (by omega))]
    rfl
  | succ d ih =>
    intro j a hj
    refine (e90_6 I w k _ _ _ _ _ _).trans ?_
    rw [z_FT, zc_f (nI_ge (by omega) (by omega))]
    refine (bk_v (C_83 I w k hS hR hs (by omega))).trans ?_
    refine (e90_21 I w k _ _ _ _ _ _ _).trans ?_
    unfold m_cov
    rw [nI_1, show F + j + 1 = F + (j + 1) by omega, z_FT]
    by_cases h : m_end r s (nI (F + j)) = -1
    · rw [zc_t (by rw [tf0]; exact fun z => z h), if_neg (fun z => (see_s hs h2).mp z h), Int32.add_zero]
      exact ih (j + 1) _ (by omega)
    · rw [zc_f (by rw [tf0]; exact fun z => z h), if_pos ((see_s hs h2).mpr h)]
      exact ih (j + 1) _ (by omega)
theorem C_90 (I : aI) (w : aW) (k : aQ) (hS : Sim a8 i I r) (hR : Rs r) {s F m : Nat} (hs : s < nS r) (hF : F ≤ 99999) (hm : m ≤ 1440) : rn 90 (a_en 90 [.inr (.inr (some (9, i))), .inr (.inr (some (18, (4 * i + s)))), .inl (nI F), .inl (nI m)] (MM I w k)) = some (.inl (some (.inl (m_cov (nI s) r (nI F) m 0 0))), MM I w k) :=
  (e90_0 I w k _ _ _ _).trans (C_90L I w k hS hR hs hF hm m 0 0 (by omega))
theorem C_91L (I : aI) (w : aW) (k : aQ) (hS : Sim a8 i I r) (hR : Rs r) {F m : Nat} (hF : F ≤ 99999) (hm : m ≤ 1440) : ∀ (d j : Nat) (a : Int32), j + d = m → rn 91 (5, [some (.inr (.inr (some (9, i)))), some (.inl (nI F)), some (.inl (nI m)), some (.inl a), some (.inl (nI (F + j)))], [], MM I w k) = some (.inl (some (.inl (m_cov (-1) r (nI F) d j a))), MM I w k) := by
  intro d
  induction d with
  | zero =>
    intro j a hj
    refine (e91_5 I w k _ _ _ _ _).trans ?_
    rw [z_FT, zc_t (nI_le (by omega) (by omega))]
    rfl
  | succ d ih =>
    intro j a hj
    refine (e91_5 I w k _ _ _ _ _).trans ?_
    rw [z_FT, zc_f (nI_ge (by omega) (by omega))]
    refine (bk_v (C_84 I w k hS hR (by omega))).trans ?_
    refine (e91_19 I w k _ _ _ _ _ _).trans ?_
    unfold m_cov
    rw [nI_1, show F + j + 1 = F + (j + 1) by omega, z_FT]
    by_cases h : m_see (-1) r (nI (F + j)) = true
    · rw [zc_f (by rw [tf0]; exact fun z => z h), if_pos h]
      exact ih (j + 1) _ (by omega)
    · rw [zc_t (by rw [tf0]; exact h), if_neg h, Int32.add_zero]
      exact ih (j + 1) _ (by omega)
theorem C_91 (I : aI) (w : aW) (k : aQ) (hS : Sim a8 i I r) (hR : Rs r) {F m : Nat} (hF : F ≤ 99999) (hm : m ≤ 1440) : rn 91 (a_en 91 [.inr (.inr (some (9, i))), .inl (nI F), .inl (nI m)] (MM I w k)) = some (.inl (some (.inl (m_cov (-1) r (nI F) m 0 0))), MM I w k) :=
  (e91_0 I w k _ _ _).trans (C_91L I w k hS hR hF hm m 0 0 (by omega))
theorem C_92L (I : aI) (w : aW) (k : aQ) (hS : Sim a8 i I r) (hR : Rs r) {F m : Nat} (hF : F ≤ 99999) (hm : m ≤ 1440) : ∀ (d j : Nat) (l u : Int32), j + d = m → rn 92 (8, [some (.inr (.inr (some (9, i)))), some (.inl (nI F)), some (.inl (nI m)), some (.inl l), some (.inl u), some (.inl (nI (F + j)))], [], MM I w k) = some (.inl (some (.inl (m_gap r (nI F) d j l u))), MM I w k) := by
  intro d
  induction d with
  | zero =>
    intro j l u hj
    refine (e92_8 I w k _ _ _ _ _ _).trans ?_
    rw [z_FT, zc_t (nI_le (by omega) (by omega))]
    rfl
  | succ d ih =>
    intro j l u hj
    refine (e92_8 I w k _ _ _ _ _ _).trans ?_
    rw [z_FT, zc_f (nI_ge (by omega) (by omega))]
    refine (bk_v (C_84 I w k hS hR (by omega))).trans ?_
    refine (e92_22 I w k _ _ _ _ _ _ _).trans ?_
    unfold m_gap
    rw [nI_1, show F + j + 1 = F + (j + 1) by omega, z_FT]
    by_cases h : m_see (-1) r (nI (F + j)) = true
    · rw [zc_f (by rw [tf0]; exact fun z => z h), if_pos h, ih (j + 1) _ _ (by omega)]
      by_cases h0 : 0 ≤ l
      · rw [if_pos h0, if_neg (fun z => (fa_of_lt z).2.1 h0)]
      · rw [if_neg h0, if_pos (fa_of_nle h0)]
    · rw [zc_t (by rw [tf0]; exact h), if_neg h, ih (j + 1) _ _ (by omega)]
      by_cases h0 : u + 1 ≤ l
      · rw [if_pos h0, if_neg (fun z => (fa_of_lt z).2.1 h0)]
      · rw [if_neg h0, if_pos (fa_of_nle h0)]
theorem C_92 (I : aI) (w : aW) (k : aQ) (hS : Sim a8 i I r) (hR : Rs r) {F m : Nat} (hF : F ≤ 99999) (hm : m ≤ 1440) : rn 92 (a_en 92 [.inr (.inr (some (9, i))), .inl (nI F), .inl (nI m)] (MM I w k)) = some (.inl (some (.inl (m_gap r (nI F) m 0 0 0))), MM I w k) :=
  (e92_0 I w k _ _ _).trans (C_92L I w k hS hR hF hm m 0 0 0 (by omega))
theorem b1_cov (f : Int32) (s : Nat) : ∀ (d j : Nat) (a b : Int32), a = r (24 + 11 * s + 4) * b → m_b1 r f s d j a = r (24 + 11 * s + 4) * m_cov (nI s) r f d j b
  | 0, _, _, _, h => h
  | d + 1, j, a, b, h => by
    unfold m_b1 m_cov
    split
    · exact b1_cov f s d (j + 1) _ _ (by rw [h, Int32.mul_add, Int32.mul_one])
    · exact b1_cov f s d (j + 1) _ _ (by rw [h, Int32.add_zero, Int32.add_zero])
theorem C_93L (I : aI) (w : aW) (k : aQ) (hS : Sim a8 i I r) (hR : Rs r) {F m : Nat} (hF : F ≤ 99999) (hm : m ≤ 1440) : ∀ (d s : Nat) (b l : Int32) (d6 : Option aV), s + d = nS r → rn 93 (8, [some (.inr (.inr (some (9, i)))), some (.inl (nI F)), some (.inl (nI m)), some (.inl b), some (.inl l), some (.inl (nI s)), d6], [], MM I w k) = some (.inl (some (.inl (m_b2 r (nI F) m d s b l))), MM I w k) := by
  have h1 := hR.1.1
  have h2 := hR.1.2
  have h3 : I 9 i 3 = nI (nS r) := hS.1.1.2.2.2.trans h1
  intro d
  induction d with
  | zero =>
    intro s b l d6 hj
    refine (e93_8 I w k _ _ _ _ _ _ _).trans ?_
    rw [h3, zc_t (nI_le (by omega) (by omega))]
    rfl
  | succ d ih =>
    intro s b l d6 hj
    refine (e93_8 I w k _ _ _ _ _ _ _).trans ?_
    rw [h3, zc_f (nI_ge (by omega) (by omega)), z_in (by omega) (by decide), nI_clamp (by omega), cond_true, cond_true]
    refine (bk_v (C_90 I w k hS hR (by omega) hF hm)).trans ?_
    refine (e93_40 I w k _ _ _ _ _ _ _ _ _).trans ?_
    rw [(hS.2.2.1 s (by omega)).1 4 (by omega), nI_1]
    unfold m_b2
    rw [b1_cov (r := r) (nI F) s m 0 0 0 (by rw [Int32.mul_zero])]
    by_cases h : r (24 + 11 * s + 4) * m_cov (nI s) r (nI F) m 0 0 ≤ l
    · rw [zc_t h, if_pos h]; exact ih (s + 1) _ _ _ (by omega)
    · rw [zc_f h, if_neg h]; exact ih (s + 1) _ _ _ (by omega)
theorem C_93 (I : aI) (w : aW) (k : aQ) (hS : Sim a8 i I r) (hR : Rs r) {F m : Nat} (hF : F ≤ 99999) (hm : m ≤ 1440) : rn 93 (a_en 93 [.inr (.inr (some (9, i))), .inl (nI F), .inl (nI m)] (MM I w k)) = some (.inl (some (.inl (m_b2 r (nI F) m (nS r) 0 (-1) 0))), MM I w k) :=
  (e93_0 I w k _ _ _).trans (C_93L I w k hS hR hF hm (nS r) 0 (-1) 0 _ (by omega))
theorem C_87 (I : aI) (w : aW) (k : aQ) (hS : Sim a8 i I r) (hR : Rs r) {s O : Nat} (hs : s < nS r) (hO : O ≤ 2000) (f : Int32) : rn 87 (a_en 87 [.inr (.inr (some (9, i))), .inr (.inr (some (18, (4 * i + s)))), .inl (nI O), .inl f] (MM I w k)) = some (.inl (some (.inl (tf (¬ m_begin r s (nI O) < f ∧ ¬ m_lasts r s (nI O) ≤ 0)))), MM I w k) := by
  refine (e87_0 I w k _ _ _ _).trans ?_
  refine (bk_v (C_80 I w k hS hs _)).trans ?_
  refine (e87_6 I w k _ _ _ _ _).trans ?_
  by_cases h1 : m_begin r s (nI O) < f
  · rw [zc_t h1, tff (fun z => z.1 h1)]
  · rw [zc_f h1]
    refine (bk_v (C_81 I w k hS hR hs hO)).trans ?_
    refine (e87_16 I w k _ _ _ _ _).trans ?_
    by_cases h2 : m_lasts r s (nI O) ≤ 0
    · rw [zc_t h2, tff (fun z => z.2 h2)]
    · rw [zc_f h2, tft ⟨h1, h2⟩]
theorem C_89L (I : aI) (w : aW) (k : aQ) (hS : Sim a8 i I r) (hR : Rs r) {s : Nat} (hs : s < nS r) (f : Int32) : ∀ (d o : Nat), o + d = 1000 → rn 89 (6, [some (.inr (.inr (some (9, i)))), some (.inr (.inr (some (18, (4 * i + s))))), some (.inl f), some (.inl (nI o))], [], MM I w k) = some (.inl (some (.inl (m_np r s f d o))), MM I w k) := by
  intro d
  induction d with
  | zero =>
    intro o ho
    refine (e89_6 I w k _ _ _ _).trans ?_
    rw [zc_f (nI_pos (by omega)), zc_t (show (1000 : Int32) ≤ nI o from nI_le (a := 1000) (by omega) (by omega))]
    rfl
  | succ d ih =>
    intro o ho
    refine (e89_6 I w k _ _ _ _).trans ?_
    rw [zc_f (nI_pos (by omega)), zc_f (show ¬ (1000 : Int32) ≤ nI o from nI_ge (b := 1000) (by omega) (by omega))]
    refine (bk_v (C_87 I w k hS hR hs (by omega) f)).trans ?_
    refine (e89_24 I w k _ _ _ _ _).trans ?_
    unfold m_np
    rw [nI_1]
    by_cases h1 : m_begin r s (nI o) < f
    · rw [zc_t (by rw [tf0]; exact fun z => z.1 h1), if_pos h1]; exact ih (o + 1) (by omega)
    · rw [if_neg h1]
      by_cases h2 : m_lasts r s (nI o) ≤ 0
      · rw [zc_t (by rw [tf0]; exact fun z => z.2 h2), if_pos h2]; exact ih (o + 1) (by omega)
      · rw [zc_f (by rw [tf0]; exact fun z => z ⟨h1, h2⟩), if_neg h2]
        refine (bk_v (C_80 I w k hS hs _)).trans ?_
        exact e89_33 I w k _ _ _ _ _
theorem np_skip (hR : Rs r) {s F p : Nat} (hs : s < nS r) (hp : r 0 = nI p) (hp1 : 60 ≤ p) (hp2 : p ≤ 200) (hF : F ≤ 99999) : ∀ (n o : Nat), o + n = F / p → F / p ≤ 1000 → m_np r s (nI F) (1000 - o) o = m_np r s (nI F) (1000 - F / p) (F / p)
  | 0, o, h, _ => by rw [show o = F / p by omega]
  | n + 1, o, h, h2 => by
    obtain ⟨lo, re, le, ph, p', sh, nd, -, -, -, h4, -, -, -, -, -, -, e3, e4, -, -⟩ := pass_nat hR hs
    rw [show 1000 - o = (1000 - (o + 1)) + 1 by omega]
    have hb : m_begin r s (nI o) < nI F := by
      rw [m_begin_nat e3 hp]
      have h3 : p * (o + 1) ≤ p * (F / p) := Nat.mul_le_mul_left _ (by omega)
      have h5 : p * (F / p) ≤ F := Nat.mul_div_le _ _
      rw [Nat.mul_add, Nat.mul_one] at h3
      exact nI_lt (by omega) (by omega)
    rw [show m_np r s (nI F) (1000 - (o + 1) + 1) o = m_np r s (nI F) (1000 - (o + 1)) (o + 1) from if_pos hb]
    exact np_skip hR hs hp hp1 hp2 hF n (o + 1) (by omega) h2
theorem np_none (hR : Rs r) {s F p : Nat} (hs : s < nS r) (hp : r 0 = nI p) (hp1 : 60 ≤ p) (hp2 : p ≤ 200) (hF : F ≤ 99999) (hx : 1000 ≤ F / p) : ∀ (d o : Nat), o + d = 1000 → m_np r s (nI F) d o = -1
  | 0, _, _ => rfl
  | d + 1, o, h => by
    obtain ⟨lo, re, le, ph, p', sh, nd, -, -, -, h4, -, -, -, -, -, -, e3, e4, -, -⟩ := pass_nat hR hs
    have hb : m_begin r s (nI o) < nI F := by
      rw [m_begin_nat e3 hp]
      have h3 : p * (o + 1) ≤ p * (F / p) := Nat.mul_le_mul_left _ (by omega)
      have h5 : p * (F / p) ≤ F := Nat.mul_div_le _ _
      rw [Nat.mul_add, Nat.mul_one] at h3
      exact nI_lt (by omega) (by omega)
    rw [show m_np r s (nI F) (d + 1) o = m_np r s (nI F) d (o + 1) from if_pos hb]
    exact np_none hR hs hp hp1 hp2 hF hx d (o + 1) (by omega)
theorem C_89 (I : aI) (w : aW) (k : aQ) (hS : Sim a8 i I r) (hR : Rs r) {s F : Nat} (hs : s < nS r) (hF : F ≤ 99999) : rn 89 (a_en 89 [.inr (.inr (some (9, i))), .inr (.inr (some (18, (4 * i + s)))), .inl (nI F)] (MM I w k)) = some (.inl (some (.inl (m_np r s (nI F) 1000 0))), MM I w k) := by
  obtain ⟨-, ⟨p, p1, p2, p3⟩, -⟩ := id hR
  have hd : F / p ≤ F := Nat.div_le_self _ _
  refine (e89_0 I w k _ _ _).trans ?_
  refine (bk_v (C_79 I w k hS hR _)).trans ?_
  refine (e89_5 I w k _ _ _ _ _).trans ?_
  rw [if_neg (nI_pos (by omega)), p3, z_div (by omega) (by omega)]
  rcases Nat.lt_or_ge (F / p) 1000 with h | h
  · rw [show (1000 : Nat) = 1000 - 0 from rfl, np_skip hR hs p3 p1 p2 hF (F / p) 0 (by omega) (by omega)]
    exact C_89L I w k hS hR hs (nI F) (1000 - F / p) (F / p) (by omega)
  · rw [np_none hR hs p3 p1 p2 hF h 1000 0 (by omega)]
    refine (e89_6 I w k _ _ _ _).trans ?_
    rw [zc_f (nI_pos (by omega)), zc_t (show (1000 : Int32) ≤ nI (F / p) from nI_le (a := 1000) h (by omega))]
end
