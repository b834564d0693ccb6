/-! ===== the class: a minute ===== -/
def oRR (n : Nat) (r : aR) : Prop := ∀ q, q < n → oR r q
theorem oR_c {r r' : aR} {q : Nat} (h : oR r q) (e0 : r' (68 + 8 * q + 0) = r (68 + 8 * q + 0)) (e1 : r' (68 + 8 * q + 1) = r (68 + 8 * q + 1)) (e3 : r' (68 + 8 * q + 3) = r (68 + 8 * q + 3)) (e4 : r' (68 + 8 * q + 4) = r (68 + 8 * q + 4)) : oR r' q := by
  unfold oR at h ⊢; rw [e0, e1, e3, e4]; exact h
theorem oRR.up {n : Nat} {r : aR} (h : oRR n r) {x : Nat} {v : Int32} (hx : ∀ q j, q < n → (j = 0 ∨ j = 1 ∨ j = 3 ∨ j = 4) → 68 + 8 * q + j ≠ x) : oRR n (upd r x v) := fun q hq => oR_c (h q hq) (upd_n _ _ _ (hx q 0 hq (by omega))) (upd_n _ _ _ (hx q 1 hq (by omega))) (upd_n _ _ _ (hx q 3 hq (by omega))) (upd_n _ _ _ (hx q 4 hq (by omega)))
theorem oRR.sA {n : Nat} {r : aR} (h : oRR n r) {q : Nat} (hq : q < n) (set c : Int32) : oRR n (m_sA r q set c) := by
  intro p hp
  have e : ∀ x, x ≠ 68 + 8 * q + 3 → m_sA r q set c x = r x := fun x hx => upd_n _ _ _ hx
  by_cases hpq : p = q
  · subst hpq
    obtain ⟨⟨z, z1, z2, z3⟩, h2, h3⟩ := h p hp
    have e3 : m_sA r p set c (68 + 8 * p + 3) = m_sa (fun j => r (388 + 24 * p + j)) (set &&& m_uw r p) c 24 0 (r (68 + 8 * p + 3)) := upd_s _ _ _
    have key : ∀ x, x < 32 → bt (m_sA r p set c (68 + 8 * p + 3)) x = true → bt (r (68 + 8 * p + 3)) x = true ∨ (bt (m_full r p) x = true ∧ bt (r (68 + 8 * p + 4)) x = false) := by
      intro x hx hb
      rw [e3, bt_sa hx 24 0 _ (by omega), b_and, bt_uw _ _ hx] at hb
      cases hts : bt (r (68 + 8 * p + 3)) x with
      | true => exact Or.inl rfl
      | false =>
        right
        rw [hts] at hb
        cases hfl : bt (m_full r p) x with
        | false => rw [hfl] at hb; simp at hb
        | true =>
          cases hkn : bt (r (68 + 8 * p + 4)) x with
          | false => exact ⟨rfl, rfl⟩
          | true => rw [hkn] at hb; simp at hb
    refine ⟨⟨z, z1, by rw [e _ (by omega)]; exact z2, fun x hx hb => ?_⟩, fun x hx hb => ?_, by rw [e _ (by omega)]; exact h3⟩
    · rcases key x hx hb with a | ⟨a, -⟩
      · exact z3 x hx a
      · unfold m_full m_fl at a
        rw [z2, b_fl z (by omega) x hx] at a
        exact of_decide_eq_true a
    · rw [e _ (by omega)]
      rcases key x hx hb with a | ⟨-, a⟩
      · exact h2 x hx a
      · exact a
  · exact oR_c (h p hp) (e _ (by omega)) (e _ (by omega)) (e _ (by omega)) (e _ (by omega))
theorem oRR.gb {n : Nat} {c : Int32} : ∀ (d j : Nat) (r : aR), j + d ≤ n → oRR n r → oRR n (m_gb c d j r)
  | 0, _, _, _, h => h
  | d + 1, j, r, hj, h => oRR.gb d (j + 1) _ (by omega) (h.sA (by omega) _ _)
theorem oRR.g2 {n : Nat} {r : aR} (h : oRR n r) {p j : Nat} (hj : j < n) (hn : n ≤ 40) : oRR n (m_g2 p j r) := by
  intro q hq
  by_cases hqj : q = j
  · subst hqj
    obtain ⟨⟨z, z1, z2, z3⟩, h2, h3⟩ := h q hq
    have x1 : m_g2 p q r (68 + 8 * q + 3) = r (68 + 8 * q + 3) &&& (r (1348 + 84 * p + 44 + q) ^^^ (-1)) := by unfold m_g2 m_g1; rw [upd_s, upd_n _ _ _ (by omega)]
    have x2 : m_g2 p q r (68 + 8 * q + 4) = r (68 + 8 * q + 4) ||| r (1348 + 84 * p + 44 + q) := by unfold m_g2 m_g1; rw [upd_n _ _ _ (by omega), upd_s]
    have x3 : ∀ x, x ≠ 68 + 8 * q + 3 → x ≠ 68 + 8 * q + 4 → m_g2 p q r x = r x := fun x y z => by unfold m_g2 m_g1; rw [upd_n _ _ _ y, upd_n _ _ _ z]
    have key : ∀ x, x < 32 → bt (m_g2 p q r (68 + 8 * q + 3)) x = true → bt (r (68 + 8 * q + 3)) x = true ∧ bt (r (1348 + 84 * p + 44 + q)) x = false := by
      intro x hx hb
      rw [x1, b_and, b_not _ hx] at hb
      cases a : bt (r (68 + 8 * q + 3)) x <;> cases b : bt (r (1348 + 84 * p + 44 + q)) x <;> rw [a, b] at hb <;> simp at hb ⊢
    refine ⟨⟨z, z1, by rw [x3 _ (by omega) (by omega)]; exact z2, fun x hx hb => z3 x hx (key x hx hb).1⟩, fun x hx hb => ?_, by rw [x3 _ (by omega) (by omega)]; exact h3⟩
    rw [x2, b_or, h2 x hx (key x hx hb).1, (key x hx hb).2]; rfl
  · have x3 : ∀ x, x ≠ 68 + 8 * j + 3 → x ≠ 68 + 8 * j + 4 → m_g2 p j r x = r x := fun x y z => by unfold m_g2 m_g1; rw [upd_n _ _ _ y, upd_n _ _ _ z]
    exact oR_c (h q hq) (x3 _ (by omega) (by omega)) (x3 _ (by omega) (by omega)) (x3 _ (by omega) (by omega)) (x3 _ (by omega) (by omega))
theorem oRR.g5 {n : Nat} {r : aR} (h : oRR n r) (hn : n ≤ 40) {p j : Nat} (hj : j < n) (c t : Int32) : oRR n (m_g5 p c t j r) := by
  have h3 : oRR n (m_g3 p c j r) := (h.g2 hj hn).sA hj _ _
  unfold m_g5
  repeat' split
  all_goals first | exact h3 | exact (h3.up (fun q j hq hj => by omega)).up (fun q j hq hj => by omega)
theorem oRR.gl {n : Nat} (hn : n ≤ 40) {p : Nat} {c t : Int32} : ∀ (d j : Nat) (r : aR), j + d ≤ n → oRR n r → oRR n (m_gl p c t d j r)
  | 0, _, _, _, h => h
  | d + 1, j, r, hj, h => oRR.gl hn d (j + 1) _ (by omega) (h.g5 hn (by omega) c t)
theorem oRR.gR {n : Nat} {r : aR} (h : oRR n r) (hn : n ≤ 40) (c : Nat) (t : Int32) : oRR n (m_gR c t n r) := by
  unfold m_gR m_g6
  exact ((oRR.gl hn n 0 r (by omega) h).up (fun q j hq hj => by omega)).up (fun q j hq hj => by omega)
theorem oRR.bl {n : Nat} (hn : n ≤ 40) {s : Nat} (hs : s < 4) {t : Int32} : ∀ (d c : Nat) (r : aR), oRR n r → oRR n (m_bl s n t d c r)
  | 0, _, _, h => h
  | d + 1, c, r, h => by
    refine oRR.bl hn hs d (c + 1) _ ?_
    have h1 := h.gR hn c t
    have h2 : oRR n (m_ct s 4 (m_gR c t n r)) := h1.up (fun q j hq hj => by omega)
    unfold m_bq
    repeat' split
    all_goals first | exact h | exact h1 | exact h2
theorem oRR.vl {n : Nat} (hn : n ≤ 40) {t : Int32} : ∀ (d c : Nat) (r : aR), oRR n r → oRR n (m_vl n t d c r)
  | 0, _, _, h => h
  | d + 1, c, r, h => by
    refine oRR.vl hn d (c + 1) _ ?_
    unfold m_v1
    repeat' split
    all_goals first | exact h | exact ((oRR.gb n 0 r (by omega) h).up (fun q j hq hj => by omega)).up (fun q j hq hj => by omega)
theorem oRR.zl {n : Nat} (hn : n ≤ 40) {p : Nat} : ∀ (d j : Nat) (r : aR), oRR n r → oRR n (m_zl p d j r)
  | 0, _, _, h => h
  | d + 1, j, r, h => oRR.zl hn d (j + 1) _ (h.up (fun q j hq hj => by omega))
theorem oRR.bC {n : Nat} {r : aR} (h : oRR n r) (hn : n ≤ 40) {s : Nat} (hs : s < 4) (c : Nat) (t : Int32) : oRR n (m_bC c n s t r) := by
  unfold m_bC
  refine oRR.vl hn _ _ _ (oRR.bl hn hs _ _ _ ?_)
  have h0 : oRR n (m_n0 c n r) := by
    unfold m_n0
    split
    · exact h
    · exact oRR.gb n 0 r (by omega) h
  unfold m_n2 m_ct m_n1
  exact ((((((oRR.zl hn 84 0 _ h0).up (fun q j hq hj => by omega)).up (fun q j hq hj => by omega)).up (fun q j hq hj => by omega)).up (fun q j hq hj => by omega)).up (fun q j hq hj => by omega)).up (fun q j hq hj => by omega)
/-- what the talk of a minute needs -/
def Tv (n s c v : Nat) (t : Int32) (r : aR) : Prop := Rk n s c v r ∧ r 5 = t ∧ s < nS r ∧ nS r ≤ 4 ∧ (∃ b, b ≤ 9 ∧ r 7 = nI b) ∧ oRR n r
theorem Tv.ct {n s c v : Nat} {t : Int32} {r : aR} (h : Tv n s c v t r) : Tv n s c v t (m_ct s 1 r) := by
  obtain ⟨h1, h2, h3, h4, h5, h6⟩ := h
  have e : ∀ x, x ≠ 24 + 11 * s + 6 + 1 → m_ct s 1 r x = r x := fun x hx => upd_n _ _ _ hx
  have eS := nS_c (e 3 (by omega))
  exact ⟨h1.ct (by omega) 1 (by omega), by rw [e 5 (by omega)]; exact h2, by omega, by omega, by rw [e 7 (by omega)]; exact h5, h6.up (fun q j hq hj => by omega)⟩
theorem Tv.snd {n s c v : Nat} {t : Int32} {r : aR} (h : Tv n s c v t r) (hn : n ≤ 40) (a8 : Int32) {q : Nat} (hq : q < n) (hx : ¬ r (68 + 8 * q + 3) = 0) : Tv n s c v t (m_snd a8 q s c t r) := by
  obtain ⟨h1, h2, h3, h4, h5, h6⟩ := h
  have hm := Nat.mod_lt c (by decide : 0 < 60)
  have hs4 : s < 4 := by omega
  have hf := (m_lo_24 ((h6 q hq).lw.ex hx)).1
  refine ⟨h1.snd hs4 hn a8 t hq hx, ?_, ?_, ?_, ?_, fun p hp => ?_⟩
  all_goals unfold m_snd
  all_goals generalize m_lo (r (68 + 8 * q + 3)) 24 0 = f at hf
  · rw [m_sf_n (by omega) (by omega) (by omega) (by omega) (by omega) (by omega) (by omega) (by omega) (by omega) (by omega) (by omega) (by omega) (by omega) (by omega)]; exact h2
  · rw [nS_c (m_sf_n (by omega) (by omega) (by omega) (by omega) (by omega) (by omega) (by omega) (by omega) (by omega) (by omega) (by omega) (by omega) (by omega) (by omega))]; exact h3
  · rw [nS_c (m_sf_n (by omega) (by omega) (by omega) (by omega) (by omega) (by omega) (by omega) (by omega) (by omega) (by omega) (by omega) (by omega) (by omega) (by omega))]; exact h4
  · rw [m_sf_n (by omega) (by omega) (by omega) (by omega) (by omega) (by omega) (by omega) (by omega) (by omega) (by omega) (by omega) (by omega) (by omega) (by omega)]; exact h5
  · have e : ∀ x, x ≠ 68 + 8 * q + 3 → x ≠ 68 + 8 * q + 5 → x ≠ 68 + 8 * q + 6 → 68 ≤ x → x < 388 → m_sf a8 q f s c t r x = r x := fun x a b d e g => m_sf_n a (by omega) (by omega) (by omega) (by omega) (by omega) (by omega) (by omega) (by omega) b (by omega) d (by omega) (by omega)
    by_cases hpq : p = q
    · subst hpq
      obtain ⟨⟨z, z1, z2, z3⟩, g2, g3⟩ := h6 p hp
      have e3 : m_sf a8 p f s c t r (68 + 8 * p + 3) = r (68 + 8 * p + 3) &&& (((1 : Int32) <<< (nI f &&& 31)) ^^^ (-1)) := by
        rcases m_sf_3 (a8 := a8) (q := p) (f := f) (c := c) (t := t) (r := r) hs4 with h9 | h9 | h9
        · exact h9
        · omega
        · omega
      have key : ∀ x, x < 32 → bt (m_sf a8 p f s c t r (68 + 8 * p + 3)) x = true → bt (r (68 + 8 * p + 3)) x = true := by
        intro x hx hb
        rw [e3, b_and] at hb
        cases a : bt (r (68 + 8 * p + 3)) x with
        | true => rfl
        | false => rw [a] at hb; simp at hb
      refine ⟨⟨z, z1, by rw [e _ (by omega) (by omega) (by omega) (by omega) (by omega)]; exact z2, fun x hx hb => z3 x hx (key x hx hb)⟩, fun x hx hb => ?_, by rw [e _ (by omega) (by omega) (by omega) (by omega) (by omega)]; exact g3⟩
      rw [e _ (by omega) (by omega) (by omega) (by omega) (by omega)]
      exact g2 x hx (key x hx hb)
    · exact oR_c (h6 p hp) (e _ (by omega) (by omega) (by omega) (by omega) (by omega)) (e _ (by omega) (by omega) (by omega) (by omega) (by omega)) (e _ (by omega) (by omega) (by omega) (by omega) (by omega)) (e _ (by omega) (by omega) (by omega) (by omega) (by omega))
theorem Tv.ru {n s c v : Nat} {t : Int32} {r : aR} (h : Tv n s c v t r) (hn : n ≤ 40) : nR r = n ∧ Rq r ∧ Ru r := by
  have hR : nR r = n := by unfold nR; rw [h.1.1, nI_clamp (by omega)]
  exact ⟨hR, ⟨by rw [hR]; exact h.1.1, by omega⟩, h.2.2.2.2.1, fun q hq => (h.2.2.2.2.2 q (by omega)).2.2⟩
section
variable {a8 : Int32} {i : Nat}
theorem C_67L (w : aW) (k : aQ) {n s c v : Nat} {t : Int32} (hn : n ≤ 40) (hc : c < 100000) (hv : v ≤ 20) : ∀ (d j : Nat) (I : aI) (r : aR) (d4 : Option aV), j + d = v → Tv n s c v t r → Sim a8 i I r → ∃ I', rn 67 (12, [some (.inr (.inr (some (20, i)))), some (.inr (.inr (some (15, (60 * i + c % 60))))), some (.inr (.inr (some (18, (4 * i + s))))), some (.inl (nI j)), d4], [], MM I w k) = some (.inl none, MM I' w k) ∧ Sim a8 i I' (m_tl a8 s c t d (m_nxt r t) r) ∧ Fr i I I' := by
  intro d
  induction d with
  | zero =>
    intro j I r d4 hj hT hS
    refine ⟨I, ?_, hS, Fr.refl _ _⟩
    refine (e67_12 I w k _ _ _ _ _).trans ?_
    rw [(hS.2.2.1 s hT.2.2.1).1 4 (by omega), hT.1.2.2.1, zc_t (nI_le (by omega) (by omega))]
  | succ d ih =>
    intro j I r d4 hj hT hS
    obtain ⟨hR, hQ, hU⟩ := hT.ru hn
    have hC : nC r = c + 1 := by unfold nC; rw [hT.1.2.1, nI_clamp (by omega)]
    have st := e67_12 I w k i (60 * i + c % 60) (4 * i + s) (nI j) d4
    rw [(hS.2.2.1 s hT.2.2.1).1 4 (by omega), hT.1.2.2.1, zc_f (nI_ge (by omega) (by omega)), show (rn 49 (a_en 49 [.inr (.inr (some (20, i)))] (MM I w k))).bind (fun o => a_bk 67 49 (21, [some (.inr (.inr (some (20, i)))), some (.inr (.inr (some (15, 60 * i + c % 60)))), some (.inr (.inr (some (18, 4 * i + s)))), some (.inl (nI j)), d4], [], MM I w k) o (rn 67)) = _ from bk_v (C_49 I w k hS hQ hU), hT.2.1, show rn 67 (21 + 3, [some (.inr (.inr (some (20, i)))), some (.inr (.inr (some (15, 60 * i + c % 60)))), some (.inr (.inr (some (18, 4 * i + s)))), some (.inl (nI j)), d4], [.inl (m_nxt r t)], MM I w k) = _ from e67_24 I w k _ _ _ _ _ _] at st
    by_cases h1 : m_nxt r t = -1
    · refine ⟨I, st.trans (zc_f (fun z => z h1)), ?_, Fr.refl _ _⟩
      rw [show m_tl a8 s c t (d + 1) (m_nxt r t) r = r from if_pos h1]
      exact hS
    · obtain ⟨q, hq, hx, hz⟩ := (m_nxt_v r t).resolve_left h1
      rw [hR] at hq
      have hT2 := hT.snd hn a8 hq hz
      obtain ⟨I1, g1, g2, g3⟩ := C_68 I w k hS (by omega) hT.2.2.2.1 (q := q) (s := s) (c := c) (t := t) (by omega) hT.2.2.1 (by omega) (by omega) hT.2.1 hz (hT.2.2.2.2.2 q hq)
      obtain ⟨I2, y1, y2, y3⟩ := ih (j + 1) I1 _ (some (.inl (nI q))) (by omega) hT2 g2
      refine ⟨I2, st.trans ((zc_t h1).trans ?_), ?_, g3.trans y3⟩
      · rw [hx]
        refine (bk_n g1).trans ?_
        refine (e67_41 I1 w k _ _ _ _ _).trans ?_
        rw [nI_1]
        exact y1
      · rw [show m_tl a8 s c t (d + 1) (m_nxt r t) r = m_tl a8 s c t d (m_nxt (m_snd a8 (m_nxt r t).toNatClampNeg s c t r) t) (m_snd a8 (m_nxt r t).toNatClampNeg s c t r) from if_neg h1, hx, nI_clamp (by omega)]
        exact y2
theorem C_67 (I : aI) (w : aW) (k : aQ) {r : aR} {n s c v : Nat} {t : Int32} (hn : n ≤ 40) (hc : c < 100000) (hv : v ≤ 20) (hT : Tv n s c v t r) (hS : Sim a8 i I r) : ∃ I', rn 67 (a_en 67 [.inr (.inr (some (20, i))), .inr (.inr (some (15, (60 * i + c % 60)))), .inr (.inr (some (18, (4 * i + s))))] (MM I w k)) = some (.inl none, MM I' w k) ∧ Sim a8 i I' (m_tk a8 s c t r) ∧ Fr i I I' := by
  have hs4 : s < 4 := by have := hT.2.2.1; have := hT.2.2.2.1; omega
  have f1 : I 19 (4 * i + s) 1 = r (24 + 11 * s + 6 + 1) := (hS.2.2.1 s hT.2.2.1).2.2.2 1 (by omega)
  have hS1 := Sim_sfg hS hT.2.2.2.1 (s := s) (j := 1) hT.2.2.1 (by omega) (r (24 + 11 * s + 6 + 1) + 1)
  obtain ⟨I', g1, g2, g3⟩ := C_67L w k hn hc hv v 0 _ (m_ct s 1 r) none (by omega) hT.ct hS1
  refine ⟨I', (e67_0 I w k _ _ _).trans (by rw [f1]; exact g1), ?_, (Fr_19 hs4 _ _ _).trans g3⟩
  unfold m_tk
  rw [hT.1.2.2.1, nI_clamp (by omega)]
  exact g2
/-- the flag of a talk stands in no cell of the class -/
theorem Sim_13 {I : aI} {r : aR} (hS : Sim a8 i I r) (v : Int32) : Sim a8 i I (upd r 13 v) := by
  obtain ⟨⟨a, b, ⟨c0, c1, c2, c3⟩, d, d2⟩, h2, h3, hp, h5, h6⟩ := hS
  have e : ∀ x, x ≠ 13 → upd r 13 v x = r x := fun x hx => upd_n _ _ _ hx
  have eS := nS_c (e 3 (by omega))
  have eR := nR_c (e 4 (by omega))
  have eC := nC_c (e 12 (by omega))
  refine ⟨⟨?_, ?_, ?_, ?_, d2⟩, kFig_r h2 (fun x hx hy => e x (by omega)), kSta_r h3 eS (fun s j hs hj => e _ (by omega)), kPha_r hp eS (fun s hs => e _ (by omega)), kRec_r h5 eR (fun q j hq hj => e _ (by omega)) (fun q x hq hx => e _ (by omega)), kCon_r h6 eC (fun p j hp hj => e _ (by omega))⟩
  · rw [e 0 (by omega), e 1 (by omega), e 2 (by omega), e 3 (by omega)]; exact a
  · rw [e 10 (by omega), e 11 (by omega), e 6 (by omega), e 7 (by omega), e 8 (by omega), e 9 (by omega)]; exact b
  · rw [e 4 (by omega), e 12 (by omega), e 15 (by omega), e 5 (by omega)]; exact ⟨c0, c1, c2, c3⟩
  · rw [e 14 (by omega)]; exact d
end
/-! handovers are counted before or behind a contact's beginning -/
theorem g5_15 {r : aR} {p j : Nat} {v c t : Int32} (hj : j < 40) : m_g5 p c t j (upd r 15 v) = upd (m_g5 p c t j r) 15 v := by
  have e : ∀ y, y ≠ 15 → upd r 15 v y = r y := fun y a => upd_n _ _ _ a
  have h1 : m_g1 p j (upd r 15 v) = upd (m_g1 p j r) 15 v := by
    unfold m_g1; rw [e _ (by omega), e _ (by omega), fa_upd_swap _ (by omega)]
  have h2 : m_g2 p j (upd r 15 v) = upd (m_g2 p j r) 15 v := by
    unfold m_g2; rw [h1, upd_n _ _ _ (show 68 + 8 * j + 3 ≠ 15 by omega), e _ (by omega), fa_upd_swap _ (by omega)]
  have h3 : m_g3 p c j (upd r 15 v) = upd (m_g3 p c j r) 15 v := by
    unfold m_g3; rw [h2, e _ (by omega), e _ (by omega), sA_x hj (by omega)]
  have h4 : m_g4 t j (upd (m_g3 p c j r) 15 v) = upd (m_g4 t j (m_g3 p c j r)) 15 v := by
    unfold m_g4
    rw [fa_upd_swap _ (show 15 ≠ 68 + 8 * j + 7 by omega), upd_n _ _ _ (show 21 ≠ 15 by omega), fa_upd_swap _ (show 15 ≠ 21 by omega)]
  unfold m_g5
  rw [h3, upd_n _ _ _ (show 68 + 8 * j + 7 ≠ 15 by omega), upd_n _ _ _ (show 68 + 8 * j + 4 ≠ 15 by omega), full_x hj (by omega), h4]
  split
  · split <;> rfl
  · rfl
theorem gl_15 {p : Nat} {v c t : Int32} : ∀ (d j : Nat) (r : aR), j + d ≤ 40 → m_gl p c t d j (upd r 15 v) = upd (m_gl p c t d j r) 15 v
  | 0, _, _, _ => rfl
  | d + 1, j, r, h => by
    show m_gl p c t d (j + 1) (m_g5 p c t j (upd r 15 v)) = upd (m_gl p c t d (j + 1) (m_g5 p c t j r)) 15 v
    rw [g5_15 (by omega), gl_15 d (j + 1) _ (by omega)]
theorem gR_15 {e n : Nat} {t v : Int32} {r : aR} (hn : n ≤ 40) : m_gR e t n (upd r 15 v) = upd (m_gR e t n r) 15 v := by
  unfold m_gR m_g6
  rw [gl_15 n 0 r (by omega), fa_upd_swap _ (show 15 ≠ 1348 + 84 * (e % 60) + 3 by omega), upd_n _ _ _ (show 22 ≠ 15 by omega), fa_upd_swap _ (show 15 ≠ 22 by omega)]
theorem ct_15 {s j : Nat} {v : Int32} {r : aR} : m_ct s j (upd r 15 v) = upd (m_ct s j r) 15 v := by
  unfold m_ct; rw [upd_n _ _ _ (by omega), fa_upd_swap _ (by omega)]
theorem bq_15 {s n e : Nat} {t v : Int32} {r : aR} (hn : n ≤ 40) : m_bq s n t e (upd r 15 v) = upd (m_bq s n t e r) 15 v := by
  have q : ∀ y, y ≠ 15 → upd r 15 v y = r y := fun y a => upd_n _ _ _ a
  unfold m_bq
  rw [gR_15 hn, q _ (by omega), q _ (by omega), q _ (by omega), q _ (by omega), upd_n _ _ _ (by omega), ct_15]
  repeat' split
  all_goals rfl
theorem bl_15 {s n : Nat} {t v : Int32} (hn : n ≤ 40) : ∀ (d e : Nat) (r : aR), m_bl s n t d e (upd r 15 v) = upd (m_bl s n t d e r) 15 v
  | 0, _, _ => rfl
  | d + 1, e, r => by
    show m_bl s n t d (e + 1) (m_bq s n t e (upd r 15 v)) = upd (m_bl s n t d (e + 1) (m_bq s n t e r)) 15 v
    rw [bq_15 hn, bl_15 hn d (e + 1)]
theorem v1_15 {n e : Nat} {t v : Int32} {r : aR} (hn : n ≤ 40) : m_v1 n t e (upd r 15 v) = upd (m_v1 n t e r) 15 v := by
  have q : ∀ y, y ≠ 15 → upd r 15 v y = r y := fun y a => upd_n _ _ _ a
  have h0 : m_v0 e (m_gb (nI e) n 0 (upd r 15 v)) = upd (m_v0 e (m_gb (nI e) n 0 r)) 15 v := by
    unfold m_v0
    rw [gb_x (by omega) n 0 r (by omega), fa_upd_swap _ (show 15 ≠ 1348 + 84 * (e % 60) + 3 by omega), upd_n _ _ _ (show 23 ≠ 15 by omega), fa_upd_swap _ (show 15 ≠ 23 by omega)]
  unfold m_v1
  rw [h0, q _ (by omega), q _ (by omega), q _ (by omega)]
  repeat' split
  all_goals rfl
theorem vl_15 {n : Nat} {t v : Int32} (hn : n ≤ 40) : ∀ (d e : Nat) (r : aR), m_vl n t d e (upd r 15 v) = upd (m_vl n t d e r) 15 v
  | 0, _, _ => rfl
  | d + 1, e, r => by
    show m_vl n t d (e + 1) (m_v1 n t e (upd r 15 v)) = upd (m_vl n t d (e + 1) (m_v1 n t e r)) 15 v
    rw [v1_15 hn, vl_15 hn d (e + 1)]
theorem zl_15 {p : Nat} {v : Int32} : ∀ (d j : Nat) (r : aR), m_zl p d j (upd r 15 v) = upd (m_zl p d j r) 15 v
  | 0, _, _ => rfl
  | d + 1, j, r => by
    show m_zl p d (j + 1) (upd (upd r 15 v) (1348 + 84 * p + j) 0) = upd (m_zl p d (j + 1) (upd r (1348 + 84 * p + j) 0)) 15 v
    rw [fa_upd_swap _ (show 15 ≠ 1348 + 84 * p + j by omega), zl_15 d (j + 1)]
theorem bC_15 {c n s : Nat} {t v : Int32} {r : aR} (hn : n ≤ 40) : m_bC c n s t (upd r 15 v) = upd (m_bC c n s t r) 15 v := by
  have h0 : m_n0 c n (upd r 15 v) = upd (m_n0 c n r) 15 v := by
    unfold m_n0
    split
    · rfl
    · exact gb_x (by omega) n 0 r (by omega)
  have h2 : m_n2 c s t (upd (m_n0 c n r) 15 v) = upd (m_n2 c s t (m_n0 c n r)) 15 v := by
    unfold m_n2 m_n1
    rw [zl_15, fa_upd_swap _ (show 15 ≠ 1348 + 84 * (c % 60) + 0 by omega), fa_upd_swap _ (show 15 ≠ 1348 + 84 * (c % 60) + 1 by omega), fa_upd_swap _ (show 15 ≠ 1348 + 84 * (c % 60) + 2 by omega), fa_upd_swap _ (show 15 ≠ 12 by omega), fa_upd_swap _ (show 15 ≠ 13 by omega), ct_15]
  unfold m_bC
  rw [h0, h2, bl_15 hn, vl_15 hn]
