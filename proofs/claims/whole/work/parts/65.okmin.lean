/-! ===== rows: what a minute keeps ===== -/
/-- places that a talk with the station s leaves alone -/
def qu (s x : Nat) : Prop := x < 14 ∨ x = 15 ∨ (21 ≤ x ∧ x < 24) ∨ (24 ≤ x ∧ x < 68 ∧ x ≠ 24 + 11 * s + 6 + 1 ∧ x ≠ 24 + 11 * s + 6 + 2 ∧ x ≠ 24 + 11 * s + 6 + 3) ∨ (∃ q j, x = 68 + 8 * q + j ∧ q < 40 ∧ (j = 0 ∨ j = 1 ∨ j = 2 ∨ j = 4 ∨ j = 7)) ∨ (∃ e j, x = 1348 + 84 * e + j ∧ j < 4) ∨ 6388 ≤ x
theorem snd_q {a8 : Int32} {q s c : Nat} {t : Int32} {r : aR} {x : Nat} (hs : s < 4) (hq : q < 40) (hf : m_lo (r (68 + 8 * q + 3)) 24 0 < 24) (hx : qu s x) : m_snd a8 q s c t r x = r x := by
  have hm := Nat.mod_lt c (by decide : 0 < 60)
  unfold m_snd
  generalize m_lo (r (68 + 8 * q + 3)) 24 0 = f at hf
  rcases hx with h | h | h | h | ⟨p, j, rfl, hp, h⟩ | ⟨e, j, rfl, h⟩ | h
  all_goals exact m_sf_n (by omega) (by omega) (by omega) (by omega) (by omega) (by omega) (by omega) (by omega) (by omega) (by omega) (by omega) (by omega) (by omega) (by omega)
theorem Wv.mono {n c T b T' b' : Nat} {r : aR} (h : Wv n c T b r) (h1 : T ≤ T') (h2 : b ≤ b') : Wv n c T' b' r := by
  obtain ⟨w1, w2, w3, w4, ⟨S, A, s1, s2, s3⟩, w6⟩ := h
  refine ⟨w1, w2, w3, fun q hq => ?_, ⟨S, A, by omega, s2, s3⟩, w6⟩
  obtain ⟨a, d, d1, d2, d3⟩ := w4 q hq
  exact ⟨a, d, by omega, d2, d3.imp_right (fun ⟨u, u1, u2, u3⟩ => ⟨u, u1, by omega, u3⟩)⟩
theorem tl_keep (a8 : Int32) {n s c v T : Nat} (hn : n ≤ 40) (hT : T < 2 ^ 20) (hc : c < 2 ^ 20) : ∀ (d b : Nat) (r : aR), b + d < 2 ^ 30 → Tv n s c v (nI T) r → Wv n c T b r → Tv n s c v (nI T) (m_tl a8 s c (nI T) d (m_nxt r (nI T)) r) ∧ Wv n c T (b + d) (m_tl a8 s c (nI T) d (m_nxt r (nI T)) r) ∧ ∀ x, qu s x → m_tl a8 s c (nI T) d (m_nxt r (nI T)) r x = r x
  | 0, b, r, hb, h1, h2 => ⟨h1, h2, fun _ _ => rfl⟩
  | d + 1, b, r, hb, h1, h2 => by
    obtain ⟨hR, -, -⟩ := h1.ru hn
    by_cases h : m_nxt r (nI T) = -1
    · rw [show m_tl a8 s c (nI T) (d + 1) (m_nxt r (nI T)) r = r from if_pos h]
      exact ⟨h1, h2.mono (Nat.le_refl _) (by omega), fun _ _ => rfl⟩
    · obtain ⟨q, hq, hx, hz⟩ := (m_nxt_v r (nI T)).resolve_left h
      rw [hR] at hq
      rw [show m_tl a8 s c (nI T) (d + 1) (m_nxt r (nI T)) r = m_tl a8 s c (nI T) d (m_nxt (m_snd a8 (m_nxt r (nI T)).toNatClampNeg s c (nI T) r) (nI T)) (m_snd a8 (m_nxt r (nI T)).toNatClampNeg s c (nI T) r) from if_neg h, hx, nI_clamp (by omega)]
      have hs4 : s < 4 := by have := h1.2.2.1; have := h1.2.2.2.1; omega
      have ho := h1.2.2.2.2.2 q hq
      obtain ⟨hf, hbt⟩ := m_lo_24 (ho.lw.ex hz)
      have hbt := (b_has _ (by omega)).mp hbt
      have hfl : bt (m_full r q) (m_lo (r (68 + 8 * q + 3)) 24 0) = true := by
        obtain ⟨⟨z, z1, z2, z3⟩, -⟩ := ho
        unfold m_full m_fl
        rw [z2, b_fl z (by omega) _ (by omega)]
        exact decide_eq_true (z3 _ (by omega) hbt)
      have w := h2.snd hn hs4 (by omega) (by omega) (by omega) a8 hq hf hfl
      have w : Wv n c T (b + 1) (m_snd a8 q s c (nI T) r) := w
      obtain ⟨k1, k2, k3⟩ := tl_keep a8 hn hT hc d (b + 1) _ (by omega) (h1.snd hn a8 hq hz) w
      refine ⟨k1, by rw [show b + (d + 1) = b + 1 + d by omega]; exact k2, fun x hx => ?_⟩
      rw [k3 x hx, snd_q hs4 (by omega) hf hx]
theorem Wv.ct {n c T b s j : Nat} {r : aR} (h : Wv n c T b r) (hn : n ≤ 40) (hs : s < 4) (hj : j < 5) : Wv n c T b (m_ct s j r) := by
  obtain ⟨w1, w2, w3, w4, ⟨S, A, s1, s2, s3, s4, s5⟩, w6⟩ := h
  have e : ∀ x, x ≠ 24 + 11 * s + 6 + j → m_ct s j r x = r x := fun x hx => upd_n _ _ _ hx
  refine ⟨fun e1 a d q f hq hf hx => ?_, fun q f hq hf => ?_, fun e1 a d q h1 h2 => ?_, fun q hq => ?_, ⟨S, A, s1, s2, by rw [e _ (by omega)]; exact s3, by rw [e _ (by omega)]; exact s4, ?_⟩, by rw [e _ (by omega)]; exact w6⟩
  · rw [e _ (by omega)] at hx ⊢; exact w1 e1 a d q f hq hf hx
  · rw [e _ (by omega)]; exact w2 q f hq hf
  · rw [e _ (by omega), e _ (by omega)]; exact w3 e1 a d q h1 h2
  · have ef : m_full (m_ct s j r) q = m_full r q := by unfold m_full; rw [e _ (by omega)]
    rw [ef, e _ (by omega), e _ (by omega), e _ (by omega)]; exact w4 q hq
  · rw [e _ (by omega), cD_c (fun q hq => e _ (by omega))]; exact s5
theorem tk_keep (a8 : Int32) {n s c v T b : Nat} {r : aR} (hn : n ≤ 40) (hT : T < 2 ^ 20) (hc : c < 2 ^ 20) (hv : v ≤ 20) (hb : b < 2 ^ 29) (h1 : Tv n s c v (nI T) r) (h2 : Wv n c T b r) : Wv n c T (b + 20) (m_tk a8 s c (nI T) r) ∧ oRR n (m_tk a8 s c (nI T) r) ∧ ∀ x, qu s x → m_tk a8 s c (nI T) r x = r x := by
  have hs4 : s < 4 := by have := h1.2.2.1; have := h1.2.2.2.1; omega
  unfold m_tk
  rw [h1.1.2.2.1, nI_clamp (by omega)]
  obtain ⟨k1, k2, k3⟩ := tl_keep a8 hn hT hc v b (m_ct s 1 r) (by omega) h1.ct (h2.ct hn hs4 (by omega))
  refine ⟨k2.mono (Nat.le_refl _) (by omega), k1.2.2.2.2.2, fun x hx => ?_⟩
  rw [k3 x hx]
  refine upd_n _ _ _ ?_
  rcases hx with h | h | h | h | ⟨p, j, rfl, hp, h⟩ | ⟨e, j, rfl, h⟩ | h <;> omega
/-! a contact's beginning -/
theorem Jv.vl {n c : Nat} {t : Int32} (hn : n ≤ 40) : ∀ (d e : Nat) (r : aR), Jv n c t r → Jv n c t (m_vl n t d e r)
  | 0, _, _, h => h
  | d + 1, e, r, h => by
    refine Jv.vl hn d (e + 1) _ ?_
    unfold m_v1
    repeat' split
    all_goals first | exact h | exact (h.gb hn _).v0 hn e
theorem Jv_bC {n c s : Nat} {t : Int32} {r : aR} (hK : Kv n c r) (hr : r 4 = nI n) (hn : n ≤ 40) (h4 : nS r ≤ 4) (ht : r 5 = t) (hs : s < 4) : Jv n c t (m_bC c n s t r) := by
  have hR : nR r = n := by unfold nR; rw [hr, nI_clamp (by omega)]
  have e0 : ∀ x, (∀ q, q < n → x ≠ 68 + 8 * q + 3) → m_n0 c n r x = r x := by
    intro x hx
    unfold m_n0
    split
    · rfl
    · exact m_gb_n n 0 r (fun q hq => hx q (by omega))
  have hR0 : nR (m_n0 c n r) = n := by rw [nR_c (e0 4 (fun q hq => by omega))]; exact hR
  have hK0 : Kv n c (m_n0 c n r) := by
    refine ⟨fun e a b => ?_, fun e a b q f hq hf hx => ?_, fun q f hq hf => ?_⟩
    · rw [e0 _ (fun q hq => by omega), e0 _ (fun q hq => by omega)]; exact hK.1 e a b
    · rw [hR0] at hq
      rw [e0 _ (fun q hq => by omega)] at hx ⊢
      exact hK.2.1 e a b q f (by omega) hf hx
    · rw [e0 _ (fun q hq => by omega)]; exact hK.2.2 q f hq hf
  unfold m_bC
  exact Jv.vl hn _ _ _ (Jv.bl hn hs _ _ _ (hK0.jv (by rw [e0 4 (fun q hq => by omega)]; exact hr) hn (by rw [nS_c (e0 3 (fun q hq => by omega))]; exact h4) (by rw [e0 5 (fun q hq => by omega)]; exact ht) hs))
/-- places that the walks over the contacts leave alone -/
def qv (s x : Nat) : Prop := (∀ q, q < 40 → x ≠ 68 + 8 * q + 3 ∧ x ≠ 68 + 8 * q + 4 ∧ x ≠ 68 + 8 * q + 7) ∧ x ≠ 21 ∧ x ≠ 22 ∧ x ≠ 23 ∧ x ≠ 24 + 11 * s + 6 + 4 ∧ ∀ e, e < 60 → x ≠ 1348 + 84 * e + 3
theorem bl_q {s n : Nat} {t : Int32} {x : Nat} (hn : n ≤ 40) (hx : qv s x) : ∀ (d e : Nat) (r : aR), m_bl s n t d e r x = r x
  | 0, _, _ => rfl
  | d + 1, e, r => by
    show m_bl s n t d (e + 1) (m_bq s n t e r) x = r x
    rw [bl_q hn hx d (e + 1)]
    have h1 : m_gR e t n r x = r x := gR_f hn (fun q hq => hx.1 q (by omega)) hx.2.1 hx.2.2.1 (hx.2.2.2.2.2 _ (Nat.mod_lt _ (by decide)))
    have h2 : m_ct s 4 (m_gR e t n r) x = r x := by unfold m_ct; rw [upd_n _ _ _ hx.2.2.2.2.1, h1]
    unfold m_bq
    repeat' split
    all_goals first | rfl | exact h1 | exact h2
theorem vl_q {s n : Nat} {t : Int32} {x : Nat} (hn : n ≤ 40) (hx : qv s x) : ∀ (d e : Nat) (r : aR), m_vl n t d e r x = r x
  | 0, _, _ => rfl
  | d + 1, e, r => by
    show m_vl n t d (e + 1) (m_v1 n t e r) x = r x
    rw [vl_q (s := s) hn hx d (e + 1)]
    unfold m_v1
    repeat' split
    all_goals first | rfl | (unfold m_v0; rw [upd_n _ _ _ hx.2.2.2.1, upd_n _ _ _ (hx.2.2.2.2.2 _ (Nat.mod_lt _ (by decide))), m_gb_n n 0 r (fun q hq => (hx.1 q (by omega)).1)])
theorem bC_q {c s n : Nat} {t : Int32} {r : aR} {x : Nat} (hn : n ≤ 40) (hx : qv s x) (h12 : x ≠ 12) (h13 : x ≠ 13) (h6 : x ≠ 24 + 11 * s + 6 + 0) (hc : x < 1348 + 84 * (c % 60) ∨ 1348 + 84 * (c % 60) + 84 ≤ x) : m_bC c n s t r x = r x := by
  unfold m_bC
  rw [vl_q (s := s) hn hx, bl_q hn hx]
  unfold m_n2 m_ct m_n1
  rw [upd_n _ _ _ h6, upd_n _ _ _ h13, upd_n _ _ _ h12, upd_n _ _ _ (by omega), upd_n _ _ _ (by omega), upd_n _ _ _ (by omega), zl_v, if_neg (by omega)]
  unfold m_n0
  split
  · rfl
  · exact m_gb_n n 0 r (fun q hq => (hx.1 q (by omega)).1)
theorem bC_w {c s n j : Nat} {t : Int32} {r : aR} (hn : n ≤ 40) (hj : j < 84) (h3 : j ≠ 3) (h1 : j ≠ 1) (h2 : j ≠ 2) (hs : s < 4) : m_bC c n s t r (1348 + 84 * (c % 60) + j) = if j = 0 then nI s else 0 := by
  have hm := Nat.mod_lt c (by decide : 0 < 60)
  have hx : qv s (1348 + 84 * (c % 60) + j) := ⟨fun q hq => ⟨by omega, by omega, by omega⟩, by omega, by omega, by omega, by omega, fun e he => by omega⟩
  unfold m_bC
  rw [vl_q (s := s) hn hx, bl_q hn hx]
  unfold m_n2 m_ct m_n1
  rw [upd_n _ _ _ (by omega), upd_n _ _ _ (by omega), upd_n _ _ _ (by omega), upd_n _ _ _ (by omega), upd_n _ _ _ (by omega)]
  by_cases h0 : j = 0
  · subst h0; rw [upd_s]; rfl
  · rw [upd_n _ _ _ (by omega), zl_v, if_pos (by omega), if_neg h0]
