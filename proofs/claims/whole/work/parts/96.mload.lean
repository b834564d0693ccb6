/-! ===== the reference loads a text ===== -/
theorem MRes.wrap {b : aR} {n : Nat} {I : aI} {w : aW} {k : aQ} {o o' : Option aO} {x : PR} (h : MRes b n I w k o x) (hw : ∀ J : aI, o = some (.inl none, MM J w k) → o' = some (.inl none, MM J w k)) : MRes b n I w k o' x := by
  rcases x with ⟨c, y⟩ | ⟨r', p'⟩
  · obtain ⟨hc, J, j1, j2⟩ := h
    exact ⟨hc, J, hw J j1, j2⟩
  · obtain ⟨hp, J, j1, j2⟩ := h
    exact ⟨hp, J, hw J j1, j2⟩
section
variable {b : aR} {n : Nat}
theorem M_290 (I : aI) (w : aW) (k : aQ) {r : aR} (hn : n ≤ 400) (hy : ∀ x, x < n → By (b x)) (hX : Mx b n I) {p : Nat} (hp : p ≤ n) (hk : Mk b n (t_e b n p) I) (h0 : I 31 0 15 = 0) (hr : I 24 0 = r) (hO : Okt 0 r) : MRes b n I w k (rn 290 (a_en 290 [.inr (.inr (some (31, 0)))] (MM I w k))) (sPol b n r p) := by
  have he := t_e_r b hp
  have he2 := t_e_r b he.2.1
  have m := M_284 I w k hX.2.2 hX.1 hn he.2.1 hk
  have o0 := (e290_0 I w k).trans ((bk_v m).trans (e290_4 I w k _ _))
  have good : ∀ v, v ≤ 1 → t_w b n (t_e b n p) = nI (8 + v) → MRes b n I w k (rn 290 (a_en 290 [.inr (.inr (some (31, 0)))] (MM I w k))) (.inr (upd r 9 (nI v), t_e b n (t_e b n p))) := by
    intro v hv e
    rw [e, show nI (8 + v) - 8 = nI v from (z_sub (a := 8 + v) (b := 8) (by omega)).trans (by rw [show 8 + v - 8 = v by omega])] at o0
    have o1 := o0.trans (zc_t (show (0 : Int32) ≤ nI v from nI_le (a := 0) (by omega) (by omega)))
    have xA := hX.fe (s24_fm I 9 (nI v)).fe
    obtain ⟨J, j1, j2, j3⟩ := M_281 (a_setI I 24 0 9 (nI v)) w k hn he2.2.1 hy ⟨xA.1, xA.2.1, by rw [set_n (by omega)]; exact hk.1⟩
    have hpp : Rp (upd r 9 (nI v)) := by
      obtain ⟨y1, y2, y3, y4, y5, y6⟩ := hO.1.2.2.2.2.2.1
      exact ⟨by rw [upd_n _ _ _ (by omega)]; exact y1, by rw [upd_n _ _ _ (by omega)]; exact y2, by rw [upd_n _ _ _ (by omega)]; exact y3, ⟨v, hv, upd_s _ _ _⟩, by rw [upd_n _ _ _ (by omega)]; exact y5, by rw [upd_n _ _ _ (by omega)]; exact y6⟩
    refine ⟨he2.2.1, J, o1.trans ((bk_n j1).trans (e290_30 J w k _ _)), ?_, hO.par (by omega) (by omega) hpp, j2, (s24_fm I 9 (nI v)).trans j3.fm⟩
    rw [show J 24 0 = a_setI I 24 0 9 (nI v) 24 0 from funext (fun j => j3 24 0 j (by omega)), gI_u, hr]
  unfold sPol
  by_cases h8 : t_m b n (t_e b n p) 8
  · rw [if_pos h8]; exact good 0 (by omega) (t_w_y h8 (by omega))
  · rw [if_neg h8]
    by_cases h9 : t_m b n (t_e b n p) 9
    · rw [if_pos h9]; exact good 1 (by omega) (t_w_y h9 (by omega))
    · rw [if_neg h9]
      have neg : ¬ (0 : Int32) ≤ t_w b n (t_e b n p) - 8 := by
        by_cases hq : ∃ q, q < 8 ∧ t_m b n (t_e b n p) q
        · obtain ⟨q, q1, q2⟩ := hq
          rw [t_w_y q2 (by omega)]
          have : ∀ q, q < 8 → ¬ (0 : Int32) ≤ nI q - 8 := by decide
          exact this q q1
        · rw [t_w_n (fun q q1 q2 => hq ⟨q, by
            by_cases e8 : q = 8
            · subst e8; exact absurd q2 h8
            · by_cases e9 : q = 9
              · subst e9; exact absurd q2 h9
              · omega, q2⟩)]
          decide
      exact ⟨by decide, er I 1, o0.trans ((zc_f neg).trans ((bk_n (M_282 I w k 1 h0)).trans (e290_17 _ w k _ _))), er_15 I 1, (er_16 I 1).trans hk.2.1, er_fe I 1⟩
theorem i_i {q j : Nat} (hq : q < 100) (hj : j < 100) : Int32.toInt (nI q) = j ↔ q = j := by rw [nI_toInt (by omega)]; omega
/-- what stands behind the word q -/
def sW (q : Nat) (b : aR) (n : Nat) (r : aR) (p : Nat) : PR := match q with
  | 0 => sOrb b n r p
  | 1 => sSta b n r p
  | 2 => sOne 0 999 10 b n r p
  | 3 => sOne 1 9999 11 b n r p
  | 4 => sFre b n r p
  | 5 => sMem b n r p
  | 6 => sPol b n r p
  | _ => sRec b n r p
theorem M_291 (I : aI) (w : aW) (k : aQ) {r : aR} (hn : n ≤ 400) (hy : ∀ x, x < n → By (b x)) (hX : Mx b n I) {p q : Nat} (hp : p ≤ n) (hq : q < 8) (hk : Mk b n (t_e b n p) I) (h0 : I 31 0 15 = 0) (hr : I 24 0 = r) (hO : Okt 0 r) (h1 : q = 1 → ¬ nS r = 4) (h7 : q = 7 → ¬ nR r = 40) : MRes b n I w k (rn 291 (a_en 291 [.inr (.inr (some (31, 0))), .inl (nI q)] (MM I w k))) (sW q b n r p) := by
  have he := t_e_r b hp
  have o0 := e291_0 I w k (nI q)
  rcases (by omega : q = 0 ∨ q = 1 ∨ q = 2 ∨ q = 3 ∨ q = 4 ∨ q = 5 ∨ q = 6 ∨ q = 7) with rfl | rfl | rfl | rfl | rfl | rfl | rfl | rfl
  · have o1 := o0.trans (zc_t (by decide))
    exact (M_287 I w k hn hy hX hp hk h0 hr hO).wrap (fun J h => o1.trans ((bk_n h).trans (e291_48 J w k _ _)))
  · have o1 := o0.trans ((zc_f (by decide)).trans (zc_t (by decide)))
    exact (M_288 I w k hn hy hX hp hk h0 hr hO (h1 rfl)).wrap (fun J h => o1.trans ((bk_n h).trans (e291_55 J w k _ _)))
  · have o1 := o0.trans ((zc_f (by decide)).trans ((zc_f (by decide)).trans (zc_t (by decide))))
    refine rm_go hn hy hX he.2.1 hk h0 0 999 (by omega) (by omega) (Fm.refl I) (fun A hA h => ⟨a_setI A 24 0 10 (nI 0), o1.trans ((bk_v h).trans (e291_72 A w k _ _ _)), by rw [set_n (by omega)], by rw [set_n (by omega)], s24_fm A 10 _⟩) (fun v1 p1 J1 l1 a1 b1 g1 k1 r1 f1 x1 z1 => ?_)
    have hp5 : Rp (upd r 10 (nI v1)) := by
      obtain ⟨y1, y2, y3, y4, y5, y6⟩ := hO.1.2.2.2.2.2.1
      exact ⟨by rw [upd_n _ _ _ (by omega)]; exact y1, by rw [upd_n _ _ _ (by omega)]; exact y2, by rw [upd_n _ _ _ (by omega)]; exact y3, by rw [upd_n _ _ _ (by omega)]; exact y4, ⟨v1, b1, upd_s _ _ _⟩, by rw [upd_n _ _ _ (by omega)]; exact y6⟩
    exact ⟨l1, a_setI J1 24 0 10 (nI v1), o1.trans ((bk_v g1).trans (e291_72 J1 w k _ _ _)), by rw [gI_u, r1, hr], hO.par (by omega) (by omega) hp5, k1, f1.trans (s24_fm J1 10 _)⟩
  · have o1 := o0.trans ((zc_f (by decide)).trans ((zc_f (by decide)).trans ((zc_f (by decide)).trans (zc_t (by decide)))))
    refine rm_go hn hy hX he.2.1 hk h0 1 9999 (by omega) (by omega) (Fm.refl I) (fun A hA h => ⟨a_setI A 24 0 11 (nI 1), o1.trans ((bk_v h).trans (e291_90 A w k _ _ _)), by rw [set_n (by omega)], by rw [set_n (by omega)], s24_fm A 11 _⟩) (fun v1 p1 J1 l1 a1 b1 g1 k1 r1 f1 x1 z1 => ?_)
    have hp5 : Rp (upd r 11 (nI v1)) := by
      obtain ⟨y1, y2, y3, y4, y5, y6⟩ := hO.1.2.2.2.2.2.1
      exact ⟨by rw [upd_n _ _ _ (by omega)]; exact y1, by rw [upd_n _ _ _ (by omega)]; exact y2, by rw [upd_n _ _ _ (by omega)]; exact y3, by rw [upd_n _ _ _ (by omega)]; exact y4, by rw [upd_n _ _ _ (by omega)]; exact y5, ⟨v1, a1, b1, upd_s _ _ _⟩⟩
    exact ⟨l1, a_setI J1 24 0 11 (nI v1), o1.trans ((bk_v g1).trans (e291_90 J1 w k _ _ _)), by rw [gI_u, r1, hr], hO.par (by omega) (by omega) hp5, k1, f1.trans (s24_fm J1 11 _)⟩
  · have o1 := o0.trans ((zc_f (by decide)).trans ((zc_f (by decide)).trans ((zc_f (by decide)).trans ((zc_f (by decide)).trans (zc_t (by decide))))))
    refine rm_go hn hy hX he.2.1 hk h0 0 999 (by omega) (by omega) (Fm.refl I) (fun A hA h => ?_) (fun v1 p1 J1 l1 a1 b1 g1 k1 r1 f1 x1 z1 => ?_)
    · have hB : ¬ a_setI A 24 0 6 (nI 0) 31 0 15 = 0 := by rw [set_n (by omega)]; exact hA
      exact ⟨a_setI (a_setI A 24 0 6 (nI 0)) 24 0 7 0, o1.trans ((bk_v h).trans ((e291_108 A w k _ _).trans ((bk_v (M_286e _ w k hB 0 9)).trans (e291_122 _ w k _ _ _)))), by rw [set_n (by omega), set_n (by omega)], by rw [set_n (by omega), set_n (by omega)], (s24_fm A 6 _).trans (s24_fm _ 7 _)⟩
    · have o2 := o1.trans ((bk_v g1).trans (e291_108 J1 w k _ _))
      have xB := x1.fe (s24_fm J1 6 (nI v1)).fe
      have kB2 : Mk b n p1 (a_setI J1 24 0 6 (nI v1)) := k1
      refine rm_go hn hy xB l1 kB2 (by rw [set_n (by omega)]; exact z1) 0 9 (by omega) (by omega) (f1.trans (s24_fm J1 6 _)) (fun A hA h => ⟨a_setI A 24 0 7 (nI 0), o2.trans ((bk_v h).trans (e291_122 A w k _ _ _)), by rw [set_n (by omega)], by rw [set_n (by omega)], s24_fm A 7 _⟩) (fun v2 p2 J2 l2 a2 b2 g2 k2 r2 f2 x2 z2 => ?_)
      have hp5 := Rp_fre hO.1.2.2.2.2.2.1 b1 b2
      exact ⟨l2, a_setI J2 24 0 7 (nI v2), o2.trans ((bk_v g2).trans (e291_122 J2 w k _ _ _)), by rw [gI_u, r2, gI_u, r1, hr], (hO.par (by omega) (by omega) hp5.1).par (by omega) (by omega) hp5.2, k2, f2.trans (s24_fm J2 7 _)⟩
  · have m197 := M_197 I w k (by rw [hr]; exact hO.rq)
    rw [hr] at m197
    have o1 := o0.trans ((zc_f (by decide)).trans ((zc_f (by decide)).trans ((zc_f (by decide)).trans ((zc_f (by decide)).trans ((zc_f (by decide)).trans ((zc_t (by decide)).trans ((bk_v m197).trans (e291_142 I w k _ _ _))))))))
    have bad : ∀ c : Int32, ¬ c = 0 → ((¬ t_k b n (t_e b n p) = 2 ∧ c = 1) ∨ (t_k b n (t_e b n p) = 2 ∧ ¬ (24 ≤ t_v b n (t_e b n p) ∧ t_v b n (t_e b n p) ≤ 960) ∧ c = 2) ∨ (t_k b n (t_e b n p) = 2 ∧ (24 ≤ t_v b n (t_e b n p) ∧ t_v b n (t_e b n p) ≤ 960) ∧ (¬ if (1 : Int32) = 0 then nI (t_v b n (t_e b n p)) ≤ m_use r else m_use r ≤ nI (t_v b n (t_e b n p))) ∧ c = 3)) → MRes b n I w k (rn 291 (a_en 291 [.inr (.inr (some (31, 0))), .inl (nI 5)] (MM I w k))) (.inl (c, t_f b n (t_e b n p))) := by
      intro c hc hf
      exact ⟨hc, a_setI (er I c) 24 0 8 (nI 24), o1.trans ((bk_v (M_285f I w k (lo := 24) (hi := 960) he.2.1 hk h0 (by omega) (by omega) (m_use r) 1 hc hf)).trans (e291_146 _ w k _ _ _)), by rw [set_n (by omega)]; exact er_15 I c, by rw [set_n (by omega)]; exact (er_16 I c).trans hk.2.1, (er_fe I c).trans (s24_fm _ 8 _).fe⟩
    show MRes b n I w k _ (sMem b n r p)
    unfold sMem rdN
    by_cases h2 : t_k b n (t_e b n p) = 2
    · rw [if_pos h2]
      by_cases h3 : 24 ≤ t_v b n (t_e b n p) ∧ t_v b n (t_e b n p) ≤ 960
      · rw [if_pos h3]
        show MRes b n I w k _ (if m_use r ≤ nI (t_v b n (t_e b n p)) then _ else _)
        by_cases h5 : m_use r ≤ nI (t_v b n (t_e b n p))
        · rw [if_pos h5]
          obtain ⟨J1, j1, j2, j3⟩ := M_285 I w k hn hy hX he.2.1 hk h0 (lo := 24) (hi := 960) (by omega) h2 h3 (m_use r) 1 (by rw [if_neg (by decide)]; exact h5)
          have he2 := t_e_r b he.2.1
          have hp5 : Rp (upd r 8 (nI (t_v b n (t_e b n p)))) := by
            obtain ⟨y1, y2, y3, y4, y5, y6⟩ := hO.1.2.2.2.2.2.1
            exact ⟨by rw [upd_n _ _ _ (by omega)]; exact y1, by rw [upd_n _ _ _ (by omega)]; exact y2, ⟨_, h3.1, h3.2, upd_s _ _ _⟩, by rw [upd_n _ _ _ (by omega)]; exact y4, by rw [upd_n _ _ _ (by omega)]; exact y5, by rw [upd_n _ _ _ (by omega)]; exact y6⟩
          exact ⟨he2.2.1, _, o1.trans ((bk_v j1).trans (e291_146 J1 w k _ _ _)), by rw [gI_u, show J1 24 0 = I 24 0 from funext (fun j => j3 24 0 j (by omega)), hr], hO.par (by omega) (by omega) hp5, j2, j3.fm.trans (s24_fm J1 8 _)⟩
        · rw [if_neg h5]
          exact bad 3 (by decide) (Or.inr (Or.inr ⟨h2, h3, by rw [if_neg (by decide)]; exact h5, rfl⟩))
      · rw [if_neg h3]; exact bad 2 (by decide) (Or.inr (Or.inl ⟨h2, h3, rfl⟩))
    · rw [if_neg h2]; exact bad 1 (by decide) (Or.inl ⟨h2, rfl⟩)
  · have o1 := o0.trans ((zc_f (by decide)).trans ((zc_f (by decide)).trans ((zc_f (by decide)).trans ((zc_f (by decide)).trans ((zc_f (by decide)).trans ((zc_f (by decide)).trans (zc_t (by decide))))))))
    exact (M_290 I w k hn hy hX hp hk h0 hr hO).wrap (fun J h => o1.trans ((bk_n h).trans (e291_154 J w k _ _)))
  · have o1 := o0.trans ((zc_f (by decide)).trans ((zc_f (by decide)).trans ((zc_f (by decide)).trans ((zc_f (by decide)).trans ((zc_f (by decide)).trans ((zc_f (by decide)).trans (zc_f (by decide))))))))
    exact (M_289 I w k hn hy hX hp hk h0 hr hO (h7 rfl)).wrap (fun J h => o1.trans ((bk_n h).trans (e291_161 J w k _ _)))
/-- in an error the rest of a statement does nothing -/
theorem M_292t (I : aI) (w : aW) (k : aQ) (h : ¬ I 31 0 15 = 0) (d1 : Option aV) : rn 292 (73, [some (.inr (.inr (some (31, 0)))), d1], [], MM I w k) = some (.inl none, MM I w k) := by
  have t90 : ∀ d1, rn 292 (90, [some (.inr (.inr (some (31, 0)))), d1], [.inl 0], MM I w k) = some (.inl none, MM I w k) := fun d1 => (e292_90 I w k _ _).trans (zc_t rfl)
  refine (e292_73 I w k _).trans ?_
  by_cases h3 : I 31 0 13 = 3
  · exact (zc_t h3).trans ((bk_v (M_283e I w k h)).trans (t90 _))
  · exact (zc_f h3).trans ((bk_n (M_282e I w k 1 h)).trans ((e292_86 I w k _).trans ((bk_v (M_283e I w k h)).trans (t90 _))))
theorem M_292u (I : aI) (w : aW) (k : aQ) (h : ¬ I 31 0 15 = 0) (x : Int32) : rn 292 (61, [some (.inr (.inr (some (31, 0)))), some (.inl x)], [.inl 0], MM I w k) = some (.inl none, MM I w k) := by
  have t90 : ∀ d1, rn 292 (90, [some (.inr (.inr (some (31, 0)))), d1], [.inl 0], MM I w k) = some (.inl none, MM I w k) := fun d1 => (e292_90 I w k _ _).trans (zc_t rfl)
  refine (e292_61 I w k _ _).trans ?_
  refine (zc_t rfl).trans ?_
  by_cases h3 : I 31 0 13 = 3
  · exact (zc_t h3).trans ((bk_v (M_283e I w k h)).trans (t90 _))
  · exact (zc_f h3).trans ((bk_n (M_282e I w k 1 h)).trans ((e292_86 I w k _).trans ((bk_v (M_283e I w k h)).trans (t90 _))))
theorem sWrd_q {r : aR} {p q : Nat} (hq : q < 8) (h : t_m b n p q) : sWrd b n r p = sW q b n r p := by
  have ne : ∀ j, j < 10 → j ≠ q → ¬ t_m b n p j := fun j hj hjq z => hjq (t_m_u hj (by omega) z h)
  unfold sWrd
  rcases (by omega : q = 0 ∨ q = 1 ∨ q = 2 ∨ q = 3 ∨ q = 4 ∨ q = 5 ∨ q = 6 ∨ q = 7) with rfl | rfl | rfl | rfl | rfl | rfl | rfl | rfl
  · rw [if_pos h]; rfl
  · rw [if_neg (ne 0 (by omega) (by omega)), if_pos h]; rfl
  · rw [if_neg (ne 0 (by omega) (by omega)), if_neg (ne 1 (by omega) (by omega)), if_pos h]; rfl
  · rw [if_neg (ne 0 (by omega) (by omega)), if_neg (ne 1 (by omega) (by omega)), if_neg (ne 2 (by omega) (by omega)), if_pos h]; rfl
  · rw [if_neg (ne 0 (by omega) (by omega)), if_neg (ne 1 (by omega) (by omega)), if_neg (ne 2 (by omega) (by omega)), if_neg (ne 3 (by omega) (by omega)), if_pos h]; rfl
  · rw [if_neg (ne 0 (by omega) (by omega)), if_neg (ne 1 (by omega) (by omega)), if_neg (ne 2 (by omega) (by omega)), if_neg (ne 3 (by omega) (by omega)), if_neg (ne 4 (by omega) (by omega)), if_pos h]; rfl
  · rw [if_neg (ne 0 (by omega) (by omega)), if_neg (ne 1 (by omega) (by omega)), if_neg (ne 2 (by omega) (by omega)), if_neg (ne 3 (by omega) (by omega)), if_neg (ne 4 (by omega) (by omega)), if_neg (ne 5 (by omega) (by omega)), if_pos h]; rfl
  · rw [if_neg (ne 0 (by omega) (by omega)), if_neg (ne 1 (by omega) (by omega)), if_neg (ne 2 (by omega) (by omega)), if_neg (ne 3 (by omega) (by omega)), if_neg (ne 4 (by omega) (by omega)), if_neg (ne 5 (by omega) (by omega)), if_neg (ne 6 (by omega) (by omega)), if_pos h]; rfl
theorem M_292 (I : aI) (w : aW) (k : aQ) {r : aR} (hn : n ≤ 400) (hy : ∀ x, x < n → By (b x)) (hX : Mx b n I) {p : Nat} (hp : p ≤ n) (hk : Mk b n p I) (h0 : I 31 0 15 = 0) (hr : I 24 0 = r) (hO : Okt 0 r) : MRes b n I w k (rn 292 (a_en 292 [.inr (.inr (some (31, 0)))] (MM I w k))) (sStm b n r p) := by
  have he := t_e_r b hp
  have h4 := hO.rs.1
  have h40 := hO.rq
  have m := M_284 I w k hX.2.2 hX.1 hn hp hk
  have o0 := (e292_0 I w k).trans ((bk_v m).trans ((e292_4 I w k _ _).trans ((bk_v (M_173 I w k _ _ _)).trans (e292_12 I w k _ _))))
  unfold sStm
  by_cases hq : ∃ q, q < 8 ∧ t_m b n p q
  · obtain ⟨q, q1, q2⟩ := hq
    rw [t_w_y q2 (by omega), tft (show (0 : Int32) ≤ nI q ∧ nI q ≤ 7 from in_I (lo := 0) (hi := 7) (by omega) (by omega) (by decide))] at o0
    have o1 := o0.trans (zc_t (show ¬ (1 : Int32) = 0 by decide))
    rw [sWrd_q q1 q2]
    have full : (∃ c : Int32, c = 3 ∧ sW q b n r p = .inl (3, t_f b n p) ∧ rn 292 (a_en 292 [.inr (.inr (some (31, 0)))] (MM I w k)) = (rn 282 (a_en 282 [.inr (.inr (some (31, 0))), .inl 3] (MM I w k))).bind (fun o => a_bk 292 282 (54, [some (.inr (.inr (some (31, 0)))), some (.inl (nI q))], [], MM I w k) o (rn 292))) ∨ ((q = 1 → ¬ nS r = 4) ∧ (q = 7 → ¬ nR r = 40) ∧ rn 292 (a_en 292 [.inr (.inr (some (31, 0)))] (MM I w k)) = (rn 283 (a_en 283 [.inr (.inr (some (31, 0)))] (MM I w k))).bind (fun o => a_bk 292 283 (58, [some (.inr (.inr (some (31, 0)))), some (.inl (nI q))], [], MM I w k) o (rn 292))) := by
      rw [hr] at o1
      by_cases q1' : q = 1
      · subst q1'
        have o2 := o1.trans (zc_f (show ¬ ¬ nI 1 = 1 from fun z => z rfl))
        by_cases h5 : nS r = 4
        · refine Or.inl ⟨3, rfl, ?_, o2.trans (zc_t (by rw [h4.1, h5]; rfl))⟩
          show sSta b n r p = _
          unfold sSta; rw [if_pos h5]
        · refine Or.inr ⟨fun _ => h5, fun z => by omega, o2.trans ((zc_f (fun z => h5 ?_)).trans (zc_t (by decide)))⟩
          rw [h4.1] at z
          exact (nI_eq (b := 4) (by omega) (by omega)).mp z
      · have hz : ¬ nI q = 1 := fun z => q1' ((nI_eq (b := 1) (by omega) (by omega)).mp z)
        have o2 := o1.trans (zc_t hz)
        by_cases q7 : q = 7
        · subst q7
          have o3 := o2.trans (zc_f (show ¬ ¬ nI 7 = 7 from fun z => z rfl))
          by_cases h5 : nR r = 40
          · refine Or.inl ⟨3, rfl, ?_, o3.trans (zc_f (fun z => z (by rw [h40.1, h5]; rfl)))⟩
            show sRec b n r p = _
            unfold sRec; rw [if_pos h5]
          · have hz2 : ¬ r 4 = 40 := fun z => h5 (by rw [h40.1] at z; exact (nI_eq (b := 40) (by have := h40.2; omega) (by omega)).mp z)
            exact Or.inr ⟨fun z => by omega, fun _ => h5, o3.trans (zc_t hz2)⟩
        · have hz7 : ¬ nI q = 7 := fun z => q7 ((nI_eq (b := 7) (by omega) (by omega)).mp z)
          exact Or.inr ⟨fun z => absurd z q1', fun z => absurd z q7, o2.trans (zc_t hz7)⟩
    rcases full with ⟨c, -, f1, f2⟩ | ⟨f1, f2, f3⟩
    · rw [f1]
      have e15 : ¬ er I 3 31 0 15 = 0 := by rw [er_15]; decide
      exact ⟨by decide, er I 3, f2.trans ((bk_n (M_282 I w k 3 h0)).trans ((e292_57 _ w k _).trans ((bk_v (M_283e _ w k e15)).trans (M_292u _ w k e15 _)))), er_15 I 3, (er_16 I 3).trans hk.2.1, er_fe I 3⟩
    · obtain ⟨A, a1, a2, a3⟩ := M_281 I w k hn he.2.1 hy ⟨hX.1, hX.2.1, hk.1⟩
      have zA : A 31 0 15 = 0 := by rw [a3 _ _ _ (by omega)]; exact h0
      have rA : A 24 0 = r := by rw [show A 24 0 = I 24 0 from funext (fun j => a3 24 0 j (by omega))]; exact hr
      have xA := hX.fe a3.fm.fe
      have o2 := f3.trans ((bk_v (M_283 I w k h0)).trans ((e292_61 I w k _ _).trans ((zc_f (show ¬ (1 : Int32) = 0 by decide)).trans ((bk_n a1).trans (e292_68 A w k _)))))
      have h291 := M_291 A w k hn hy xA hp q1 a2 zA rA hO f1 f2
      cases hw : sW q b n r p with
      | inl cy =>
        rw [hw] at h291
        obtain ⟨c, y⟩ := cy
        obtain ⟨hc, J, j1, j2, j3, j4⟩ := h291
        have e15 : ¬ J 31 0 15 = 0 := by rw [j2]; exact hc
        exact ⟨hc, J, o2.trans ((bk_n j1).trans (M_292t J w k e15 _)), j2, j3, a3.fm.fe.trans j4⟩
      | inr rp =>
        rw [hw] at h291
        obtain ⟨r1, p1⟩ := rp
        obtain ⟨hp1, J, j1, j2, j3, j4, j5⟩ := h291
        have he1 := t_e_r b hp1
        have zJ : J 31 0 15 = 0 := by rw [j5 _ _ _ (by omega) (by omega)]; exact zA
        have xJ := xA.fe j5.fe
        have hk4 := t_k_r b n p1
        have o3 := o2.trans ((bk_n j1).trans (e292_73 J w k _))
        show MRes b n I w k _ (sSem b n (r1, p1))
        unfold sSem
        show MRes b n I w k _ (if t_k b n p1 = 3 then _ else _)
        by_cases h3 : t_k b n p1 = 3
        · rw [if_pos h3]
          obtain ⟨K, k1, k2, k3⟩ := M_281 J w k hn he1.2.1 hy ⟨xJ.1, xJ.2.1, j4.1⟩
          refine ⟨he1.2.1, K, o3.trans ((zc_t (by rw [j4.2.2.1, h3]; rfl)).trans ((bk_v (M_283 J w k zJ)).trans ((e292_90 J w k _ _).trans ((zc_f (show ¬ (1 : Int32) = 0 by decide)).trans ((bk_n k1).trans (e292_97 K w k _ _)))))), ?_, j3, k2, (a3.fm.trans j5).trans k3.fm⟩
          rw [show K 24 0 = J 24 0 from funext (fun j => k3 24 0 j (by omega))]; exact j2
        · rw [if_neg h3]
          have e15 : ¬ er J 1 31 0 15 = 0 := by rw [er_15]; decide
          exact ⟨by decide, er J 1, o3.trans ((zc_f (fun z => h3 (by rw [j4.2.2.1] at z; exact (nI_eq (b := 3) (by omega) (by omega)).mp z))).trans ((bk_n (M_282 J w k 1 zJ)).trans ((e292_86 _ w k _).trans ((bk_v (M_283e _ w k e15)).trans ((e292_90 _ w k _ _).trans (zc_t rfl)))))), er_15 J 1, (er_16 J 1).trans j4.2.1, (a3.fm.trans j5).fe.trans (er_fe J 1)⟩
  · have hno : ∀ q, q < 8 → ¬ t_m b n p q := fun q q1 q2 => hq ⟨q, q1, q2⟩
    have hs : sWrd b n r p = .inl (1, t_f b n p) := by
      unfold sWrd
      rw [if_neg (hno 0 (by omega)), if_neg (hno 1 (by omega)), if_neg (hno 2 (by omega)), if_neg (hno 3 (by omega)), if_neg (hno 4 (by omega)), if_neg (hno 5 (by omega)), if_neg (hno 6 (by omega)), if_neg (hno 7 (by omega))]
    rw [hs]
    have hx : ∃ x : Int32, t_w b n p = x ∧ (x = 8 ∨ x = 9 ∨ x = -1) := by
      by_cases h8 : t_m b n p 8
      · exact ⟨8, t_w_y h8 (by decide), Or.inl rfl⟩
      · by_cases h9 : t_m b n p 9
        · exact ⟨9, t_w_y h9 (by decide), Or.inr (Or.inl rfl)⟩
        · exact ⟨-1, t_w_n (fun q q1 q2 => hq ⟨q, by
            by_cases e8 : q = 8
            · subst e8; exact absurd q2 h8
            · by_cases e9 : q = 9
              · subst e9; exact absurd q2 h9
              · omega, q2⟩), Or.inr (Or.inr rfl)⟩
    obtain ⟨x, ex, hx⟩ := hx
    rw [ex] at o0
    have hn7 : ¬ ((0 : Int32) ≤ x ∧ x ≤ 7) := by rcases hx with rfl | rfl | rfl <;> decide
    have hn1 : ¬ x = 1 := by rcases hx with rfl | rfl | rfl <;> decide
    have hn2 : ¬ x = 7 := by rcases hx with rfl | rfl | rfl <;> decide
    have e15 : ¬ er I 1 31 0 15 = 0 := by rw [er_15]; decide
    rw [tff hn7] at o0
    exact ⟨by decide, er I 1, o0.trans ((zc_f (fun z => z rfl)).trans ((bk_n (M_282 I w k 1 h0)).trans ((e292_20 _ w k _).trans ((zc_t hn1).trans ((zc_t hn2).trans ((bk_v (M_283e _ w k e15)).trans (M_292u _ w k e15 _))))))), er_15 I 1, (er_16 I 1).trans hk.2.1, er_fe I 1⟩
/-- the rows of a load -/
def Fl (I J : aI) : Prop := ∀ s q j, ¬ ((s = 24 ∨ s = 25) ∧ q = 0) → ¬ (s = 31 ∧ q = 0 ∧ (10 ≤ j ∧ j ≤ 16)) → J s q j = I s q j
theorem M_293L (w : aW) (k : aQ) (hn : n ≤ 400) (hy : ∀ x, x < n → By (b x)) (d : Nat) : ∀ (I : aI) (r : aR) (p c : Nat), n < p + d → c ≤ p → p ≤ n → Mx b n I → Mk b n p I → I 31 0 15 = 0 → I 24 0 = r → Okt 0 r → (∀ r' c', sLd b n d r p c = .inr (r', c') → ∃ J, rn 293 (43, [some (.inr (.inr (some (31, 0)))), some (.inl (nI c))], [], MM I w k) = some (.inl (some (.inl (nI c'))), MM J w k) ∧ J 24 0 = r' ∧ Okt 0 r' ∧ J 31 0 10 = 0 ∧ J 31 0 15 = 0 ∧ J 31 0 16 = I 31 0 16 ∧ Fl I J) ∧ (∀ e y, sLd b n d r p c = .inl (e, y) → ∃ J, rn 293 (43, [some (.inr (.inr (some (31, 0)))), some (.inl (nI c))], [], MM I w k) = some (.inl (some (.inl (-1))), MM J w k) ∧ (∀ x, x < 6388 → J 24 0 x = I 25 0 x) ∧ J 31 0 10 = 0 ∧ J 31 0 15 = e ∧ J 31 0 16 = nI y ∧ Fl I J) := by
  induction d with
  | zero => intro I r p c h1 h2 h3; omega
  | succ d ih =>
    intro I r p c h1 h2 h3 hX hk h0 hr hO
    have hk4 := t_k_r b n p
    have o1 := (e293_43 I w k (nI c)).trans ((bk_v (M_283 I w k h0)).trans ((e293_47 I w k _ _).trans (zc_f (show ¬ (1 : Int32) = 0 by decide))))
    by_cases hz : t_k b n p = 0
    · have hs : sLd b n (d + 1) r p c = .inr (r, c) := by
        show (if t_k b n p = 0 then _ else _) = _
        rw [if_pos hz]
      rw [hs]
      refine ⟨fun r' c' h => ?_, fun e y h => by cases h⟩
      obtain ⟨rfl, rfl⟩ := Prod.mk.inj (Sum.inr.inj h)
      have z2 : a_setI I 31 0 10 0 31 0 15 = 0 := by rw [set_n (by omega)]; exact h0
      refine ⟨a_setI I 31 0 10 0, o1.trans ((zc_t (by rw [hk.2.2.1, hz]; rfl)).trans ((bk_v (M_283 _ w k z2)).trans ((e293_76 _ w k _ _).trans (zc_t (by decide))))), hr, hO, set_e, z2, by rw [set_n (by omega)], fun s q j g1 g2 => set_n (by omega)⟩
    · have hs : sLd b n (d + 1) r p c = bnd (sStm b n r p) fun x => sLd b n d x.1 x.2 (c + 1) := by
        show (if t_k b n p = 0 then _ else _) = _
        rw [if_neg hz]
      rw [hs]
      have o2 := o1.trans (zc_f (show ¬ I 31 0 13 = 0 by rw [hk.2.2.1]; exact nI_ne0 (by omega) (by omega)))
      have h292 := M_292 I w k hn hy hX h3 hk h0 hr hO
      cases hw : sStm b n r p with
      | inl ey =>
        rw [hw] at h292
        obtain ⟨e, y⟩ := ey
        obtain ⟨hc, J, j1, j2, j3, j4⟩ := h292
        refine ⟨fun r' c' h => (by cases h), fun e' y' h => ?_⟩
        obtain ⟨rfl, rfl⟩ := Prod.mk.inj (Sum.inl.inj h)
        have e15 : ¬ J 31 0 15 = 0 := by rw [j2]; exact hc
        have z2 : ¬ a_setI J 31 0 10 0 31 0 15 = 0 := by rw [set_n (by omega)]; exact e15
        have o3 := o2.trans ((bk_n j1).trans ((e293_61 J w k _).trans ((e293_43 J w k _).trans ((bk_v (M_283e J w k e15)).trans ((e293_47 J w k _ _).trans ((zc_t rfl).trans ((bk_v (M_283e _ w k z2)).trans ((e293_76 _ w k _ _).trans ((zc_f (fun z => z rfl)).trans ((bk_n (M_272p1 (a_setI J 31 0 10 0) w k (a := 0) (b := 0) (by omega) (by omega))).trans (e293_92 _ w k _ _)))))))))))
        refine ⟨_, o3, fun x hx => ?_, ?_, ?_, ?_, fun s q j g1 g2 => ?_⟩
        · rw [cI_row, fb_put_in (by omega) (by omega), Nat.sub_zero, Nat.zero_add, set_n (by omega)]
          exact j4 25 0 x (by omega) (by omega)
        · rw [cI_ne _ (by decide), set_e]
        · rw [cI_ne _ (by decide), set_n (by omega)]; exact j2
        · rw [cI_ne _ (by decide), set_n (by omega)]; exact j3
        · rw [gC, if_neg (by omega), set_n (by omega)]
          exact j4 s q j (by omega) (by omega)
      | inr rp =>
        rw [hw] at h292
        obtain ⟨r1, p1⟩ := rp
        obtain ⟨hp1, J, j1, j2, j3, j4, j5⟩ := h292
        have hst := (sStm_p h3 hw).1
        have o3 := o2.trans ((bk_n j1).trans (e293_61 J w k _))
        rw [nI_1] at o3
        have zJ : J 31 0 15 = 0 := by rw [j5 _ _ _ (by omega) (by omega)]; exact h0
        obtain ⟨i1, i2⟩ := ih J r1 p1 (c + 1) (by have hst : p < p1 := hst; omega) (by have hst : p < p1 := hst; omega) hp1 (hX.fe j5.fe) j4 zJ j2 j3
        have fl : ∀ K, Fl J K → Fl I K := fun K f s q j g1 g2 => (f s q j g1 g2).trans (j5 s q j (by omega) (by omega))
        refine ⟨fun r' c' h => ?_, fun e y h => ?_⟩
        · obtain ⟨K, k1, k2, k3, k4, k5, k6, k7⟩ := i1 r' c' h
          exact ⟨K, o3.trans k1, k2, k3, k4, k5, by rw [k6]; exact j5 _ _ _ (by omega) (by omega), fl K k7⟩
        · obtain ⟨K, k1, k2, k3, k4, k5, k6⟩ := i2 e y h
          exact ⟨K, o3.trans k1, fun x hx => (k2 x hx).trans (j5 _ _ _ (by omega) (by omega)), k3, k4, k5, fl K k6⟩
/-- the reference's load -/
theorem M_293 (I : aI) (w : aW) (k : aQ) (hn : n ≤ 400) (hy : ∀ x, x < n → By (b x)) (hX : Mx b n I) : (∀ r' c', sLd b n (n + 1) (m_bg (I 24 0)) 0 0 = .inr (r', c') → ∃ J, rn 293 (a_en 293 [.inr (.inr (some (31, 0)))] (MM I w k)) = some (.inl (some (.inl (nI c'))), MM J w k) ∧ J 24 0 = r' ∧ Okt 0 r' ∧ J 31 0 10 = 0 ∧ J 31 0 15 = 0 ∧ J 31 0 16 = -1 ∧ J 31 0 0 = 0 ∧ Fl (a_setI I 31 0 0 0) J) ∧ (∀ e y, sLd b n (n + 1) (m_bg (I 24 0)) 0 0 = .inl (e, y) → ∃ J, rn 293 (a_en 293 [.inr (.inr (some (31, 0)))] (MM I w k)) = some (.inl (some (.inl (-1))), MM J w k) ∧ (∀ x, x < 6388 → J 24 0 x = I 24 0 x) ∧ J 31 0 10 = 0 ∧ J 31 0 15 = e ∧ J 31 0 16 = nI y ∧ J 31 0 0 = 0 ∧ Fl (a_setI I 31 0 0 0) J) := by
  obtain ⟨I1, hI1⟩ : ∃ I1, I1 = kp (a_setI I 31 0 0 0) := ⟨_, rfl⟩
  have hc : rn 272 (a_en 272 [.inr (.inr (some (24, 0))), .inl (nI 0), .inr (.inr (some (25, 0))), .inl (nI 0)] (MM (a_setI I 31 0 0 0) w k)) = some (.inl none, MM I1 w k) := by
    refine (M_272p0 _ w k (a := 0) (b := 0) (by omega) (by omega)).trans ?_
    rw [hI1]
    unfold kp
    simp only [Nat.zero_add]
  have r1 : I1 24 0 = I 24 0 := by rw [hI1, kp_24]; rfl
  obtain ⟨I2, hI2⟩ : ∃ I2, I2 = pR I1 (m_bg (I1 24 0)) := ⟨_, rfl⟩
  obtain ⟨I3, hI3⟩ : ∃ I3, I3 = a_setI (a_setI (a_setI I2 31 0 11 0) 31 0 15 0) 31 0 16 (-1) := ⟨_, rfl⟩
  have f1 : ∀ s q j, ¬ ((s = 25) ∧ q = 0) → ¬ (s = 31 ∧ q = 0 ∧ j = 0) → I1 s q j = I s q j := fun s q j g1 g2 => by
    rw [hI1]; unfold kp; rw [gC, if_neg g1, set_n g2]
  have f2 : ∀ s q j, ¬ (s = 24 ∧ q = 0) → I2 s q j = I1 s q j := fun s q j g => by rw [hI2]; unfold pR; rw [gC, if_neg g]
  have f3 : ∀ s q j, ¬ (s = 31 ∧ q = 0 ∧ (j = 11 ∨ j = 15 ∨ j = 16)) → I3 s q j = I2 s q j := fun s q j g => by
    rw [hI3, set_n (by omega), set_n (by omega), set_n (by omega)]
  have f13 : ∀ s q j, ¬ ((s = 24 ∨ s = 25) ∧ q = 0) → ¬ (s = 31 ∧ q = 0 ∧ (j = 0 ∨ j = 11 ∨ j = 15 ∨ j = 16)) → I3 s q j = I s q j := fun s q j g1 g2 => by
    rw [f3 s q j (by omega), f2 s q j (by omega), f1 s q j (by omega) (by omega)]
  have xM : Mx b n I3 := by
    refine ⟨fun x hx => ?_, ?_, fun q hq => ⟨?_, fun j hj => ?_⟩, fun x hx => ?_⟩
    · rw [f13 28 0 x (by omega) (by omega)]; exact hX.1 x hx
    · rw [f13 31 0 10 (by omega) (by omega)]; exact hX.2.1
    · rw [f13 1 q 1 (by omega) (by omega)]; exact (hX.2.2.1 q hq).1
    · rw [f13 2 q j (by omega) (by omega)]; exact (hX.2.2.1 q hq).2 j hj
    · rw [f13 29 0 x (by omega) (by omega)]; exact hX.2.2.2 x hx
  obtain ⟨A, a1, a2, a3⟩ := M_281 I3 w k hn (Nat.zero_le n) hy ⟨xM.1, xM.2.1, by rw [hI3, set_n (by omega), set_n (by omega), set_e]; rfl⟩
  have o1 : rn 293 (a_en 293 [.inr (.inr (some (31, 0)))] (MM I w k)) = rn 293 (43, [some (.inr (.inr (some (31, 0)))), some (.inl (nI 0))], [], MM A w k) := by
    refine (e293_0 I w k).trans ?_
    refine (bk_n hc).trans ?_
    refine (e293_18 I1 w k _).trans ?_
    refine (bk_n (M_172 I1 w k)).trans ?_
    rw [← hI2]
    refine (e293_22 I2 w k _).trans ?_
    rw [← hI3]
    exact bk_n a1
  have rA : A 24 0 = m_bg (I 24 0) := by
    rw [show A 24 0 = I3 24 0 from funext (fun j => a3 24 0 j (by omega)), show I3 24 0 = I2 24 0 from funext (fun j => f3 24 0 j (by omega)), hI2, pR_row, r1]
  have zA : A 31 0 15 = 0 := by rw [a3 _ _ _ (by omega), hI3, set_n (by omega), set_e]
  have sA : A 31 0 16 = -1 := by rw [a3 _ _ _ (by omega), hI3, set_e]
  have tA : A 31 0 0 = 0 := by rw [a3 _ _ _ (by omega), f3 _ _ _ (by omega), f2 _ _ _ (by omega), hI1, kp_31, set_e]
  have fA : ∀ K, Fl A K → Fl (a_setI I 31 0 0 0) K := fun K f s q j g1 g2 => by
    rw [f s q j g1 g2]
    by_cases g : s = 31 ∧ q = 0 ∧ j = 0
    · obtain ⟨rfl, rfl, rfl⟩ := g
      rw [set_e]; exact tA
    · rw [a3 s q j (by omega), f13 s q j g1 (by omega), set_n g]
  obtain ⟨i1, i2⟩ := M_293L w k hn hy (n + 1) A (m_bg (I 24 0)) 0 0 (by omega) (by omega) (by omega) (xM.fe a3.fm.fe) a2 zA rA (bg_ok _)
  refine ⟨fun r' c' h => ?_, fun e y h => ?_⟩
  · obtain ⟨K, k1, k2, k3, k4, k5, k6, k7⟩ := i1 r' c' h
    exact ⟨K, o1.trans k1, k2, k3, k4, k5, k6.trans sA, (k7 31 0 0 (by omega) (by omega)).trans tA, fA K k7⟩
  · obtain ⟨K, k1, k2, k3, k4, k5, k6⟩ := i2 e y h
    refine ⟨K, o1.trans k1, fun x hx => ?_, k3, k4, k5, (k6 31 0 0 (by omega) (by omega)).trans tA, fA K k6⟩
    rw [k2 x hx, a3 _ _ _ (by omega), f3 _ _ _ (by omega), f2 _ _ _ (by omega), hI1, kp_25 _ hx]
    rfl
end
