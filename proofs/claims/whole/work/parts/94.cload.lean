/-! ===== the class loads a text ===== -/
theorem PRes.wrap {i n : Nat} {I : aI} {W : aW} {k : aQ} {o o' : Option aO} {x : PR} (h : PRes i n I W k o x) (hw : ∀ (v : Int32) (J : aI), a_bz v = true → o = some (.inl (some (.inl v)), MM J W k) → o' = some (.inl (some (.inl v)), MM J W k)) : PRes i n I W k o' x := by
  rcases x with ⟨c, y⟩ | ⟨r', p'⟩
  · obtain ⟨J, j1, j2⟩ := h
    exact ⟨J, hw 0 J rfl j1, j2⟩
  · obtain ⟨hp, J, j1, j2⟩ := h
    exact ⟨hp, J, hw 1 J rfl j1, j2⟩
theorem PRes.pre {i n : Nat} {I A : aI} {W : aW} {k : aQ} {o : Option aO} {x : PR} (h : PRes i n A W k o x) (f : Fc i I A) : PRes i n I W k o x := by
  rcases x with ⟨c, y⟩ | ⟨r', p'⟩
  · obtain ⟨J, j1, j2, j3, j4⟩ := h
    exact ⟨J, j1, j2, j3, f.fz.trans j4⟩
  · obtain ⟨hp, J, j1, j2, j3, j4, j5⟩ := h
    exact ⟨hp, J, j1, j2, j3, j4, f.trans j5⟩
theorem bnd_inr {α β : Type} {x : (Int32 × Nat) ⊕ α} {f : α → (Int32 × Nat) ⊕ β} {y : β} (h : bnd x f = .inr y) : ∃ a, x = .inr a ∧ f a = .inr y := by
  rcases x with e | a
  · cases h
  · exact ⟨a, rfl, h⟩
section
variable {b : aR} {n i : Nat}
theorem rdN_p {p lo hi : Nat} {x : Nat × Nat} (hp : p ≤ n) (h : rdN b n p lo hi = .inr x) : p ≤ x.2 ∧ x.2 ≤ n := by
  have h1 := t_f_r b hp
  have h2 := t_e_r b hp
  unfold rdN at h
  split at h
  · split at h
    · obtain rfl := Sum.inr.inj h
      exact ⟨by show p ≤ t_e b n p; omega, h2.2.1⟩
    · cases h
  · cases h
theorem sOrb_p {r : aR} {p : Nat} {y : aR × Nat} (hp : p ≤ n) (h : sOrb b n r p = .inr y) : p ≤ y.2 ∧ y.2 ≤ n := by
  have h1 := t_f_r b hp
  have h2 := t_e_r b hp
  obtain ⟨x0, e0, h⟩ := bnd_inr h
  have g0 := rdN_p h2.2.1 e0
  obtain ⟨x1, e1, h⟩ := bnd_inr h
  have g1 := rdN_p g0.2 e1
  obtain ⟨x2, e2, h⟩ := bnd_inr h
  have g2 := rdN_p g1.2 e2
  obtain rfl := Sum.inr.inj h
  exact ⟨by show p ≤ x2.2; omega, g2.2⟩
theorem sSta_p {r : aR} {p : Nat} {y : aR × Nat} (hp : p ≤ n) (h : sSta b n r p = .inr y) : p ≤ y.2 ∧ y.2 ≤ n := by
  have h1 := t_f_r b hp
  have h2 := t_e_r b hp
  unfold sSta at h
  split at h
  · cases h
  · obtain ⟨x0, e0, h⟩ := bnd_inr h
    have g0 := rdN_p h2.2.1 e0
    obtain ⟨x1, e1, h⟩ := bnd_inr h
    have g1 := rdN_p g0.2 e1
    obtain ⟨x2, e2, h⟩ := bnd_inr h
    have g2 := rdN_p g1.2 e2
    obtain ⟨x3, e3, h⟩ := bnd_inr h
    have g3 := rdN_p g2.2 e3
    obtain ⟨x4, e4, h⟩ := bnd_inr h
    have g4 := rdN_p g3.2 e4
    obtain ⟨x5, e5, h⟩ := bnd_inr h
    have g5 := rdN_p g4.2 e5
    obtain rfl := Sum.inr.inj h
    exact ⟨by show p ≤ x5.2; omega, g5.2⟩
theorem sOne_p {lo hi x : Nat} {r : aR} {p : Nat} {y : aR × Nat} (hp : p ≤ n) (h : sOne lo hi x b n r p = .inr y) : p ≤ y.2 ∧ y.2 ≤ n := by
  have h1 := t_f_r b hp
  have h2 := t_e_r b hp
  obtain ⟨x0, e0, h⟩ := bnd_inr h
  have g0 := rdN_p h2.2.1 e0
  obtain rfl := Sum.inr.inj h
  exact ⟨by show p ≤ x0.2; omega, g0.2⟩
theorem sFre_p {r : aR} {p : Nat} {y : aR × Nat} (hp : p ≤ n) (h : sFre b n r p = .inr y) : p ≤ y.2 ∧ y.2 ≤ n := by
  have h1 := t_f_r b hp
  have h2 := t_e_r b hp
  obtain ⟨x0, e0, h⟩ := bnd_inr h
  have g0 := rdN_p h2.2.1 e0
  obtain ⟨x1, e1, h⟩ := bnd_inr h
  have g1 := rdN_p g0.2 e1
  obtain rfl := Sum.inr.inj h
  exact ⟨by show p ≤ x1.2; omega, g1.2⟩
theorem sMem_p {r : aR} {p : Nat} {y : aR × Nat} (hp : p ≤ n) (h : sMem b n r p = .inr y) : p ≤ y.2 ∧ y.2 ≤ n := by
  have h1 := t_f_r b hp
  have h2 := t_e_r b hp
  obtain ⟨x0, e0, h⟩ := bnd_inr h
  have g0 := rdN_p h2.2.1 e0
  split at h
  · obtain rfl := Sum.inr.inj h
    exact ⟨by show p ≤ x0.2; omega, g0.2⟩
  · cases h
theorem sPol_p {r : aR} {p : Nat} {y : aR × Nat} (hp : p ≤ n) (h : sPol b n r p = .inr y) : p ≤ y.2 ∧ y.2 ≤ n := by
  have h1 := t_f_r b hp
  have h2 := t_e_r b hp
  have h3 := t_f_r b h2.2.1
  have h4 := t_e_r b h2.2.1
  unfold sPol at h
  split at h
  · obtain rfl := Sum.inr.inj h
    exact ⟨by show p ≤ t_e b n (t_e b n p); omega, h4.2.1⟩
  · split at h
    · obtain rfl := Sum.inr.inj h
      exact ⟨by show p ≤ t_e b n (t_e b n p); omega, h4.2.1⟩
    · cases h
theorem sRec_p {r : aR} {p : Nat} {y : aR × Nat} (hp : p ≤ n) (h : sRec b n r p = .inr y) : p ≤ y.2 ∧ y.2 ≤ n := by
  have h1 := t_f_r b hp
  have h2 := t_e_r b hp
  unfold sRec at h
  split at h
  · cases h
  · obtain ⟨x0, e0, h⟩ := bnd_inr h
    have g0 := rdN_p h2.2.1 e0
    split at h
    · obtain ⟨x1, e1, h⟩ := bnd_inr h
      have g1 := rdN_p g0.2 e1
      obtain rfl := Sum.inr.inj h
      exact ⟨by show p ≤ x1.2; omega, g1.2⟩
    · cases h
theorem sWrd_p {r : aR} {p : Nat} {y : aR × Nat} (hp : p ≤ n) (h : sWrd b n r p = .inr y) : p ≤ y.2 ∧ y.2 ≤ n := by
  unfold sWrd at h
  split at h
  · exact sOrb_p hp h
  split at h
  · exact sSta_p hp h
  split at h
  · exact sOne_p hp h
  split at h
  · exact sOne_p hp h
  split at h
  · exact sFre_p hp h
  split at h
  · exact sMem_p hp h
  split at h
  · exact sPol_p hp h
  split at h
  · exact sRec_p hp h
  · cases h
theorem sStm_p {r : aR} {p : Nat} {y : aR × Nat} (hp : p ≤ n) (h : sStm b n r p = .inr y) : p < y.2 ∧ y.2 ≤ n := by
  obtain ⟨x, hx, h⟩ := bnd_inr h
  have g := sWrd_p hp hx
  have h1 := t_f_r b g.2
  have h2 := t_e_r b g.2
  unfold sSem at h
  split at h
  · rename_i h3
    obtain rfl := Sum.inr.inj h
    have := h2.2.2 (by omega)
    exact ⟨by show p < t_e b n x.2; omega, h2.2.1⟩
  · cases h
def sLd (b : aR) (n : Nat) : Nat → aR → Nat → Nat → PR
  | 0, r, _, c => .inr (r, c)
  | d + 1, r, p, c => if t_k b n p = 0 then .inr (r, c) else bnd (sStm b n r p) fun x => sLd b n d x.1 x.2 (c + 1)
end

section
variable {b : aR} {n i : Nat}
theorem C_24 (I : aI) (w : aW) (k : aQ) {r : aR} (hn : n ≤ 400) (hX : Cx b n I) {p : Nat} (hp : p ≤ n) (hk : Ck b n p I) (hS : Sim 0 i I r) (hO : Okt 0 r) : PRes i n I w k (rn 24 (a_en 24 [.inr (.inr (some (21, 0))), .inr (.inr (some (20, i)))] (MM I w k))) (sWrd b n r p) := by
  have cq := fun q hq => C_35 I w k hX.2.2 (q := q) hq hX.1 hn hp hk
  have bz : ∀ (v : Int32) (J : aI), a_bz v = true → cond (a_bz v) (some (.inl (some (.inl v)), MM J w k) : Option aO) none = some (.inl (some (.inl v)), MM J w k) := fun v J h => by rw [h, cond_true]
  have t0 := (e24_0 I w k i).trans ((bk_v (cq 0 (by omega))).trans (e24_6 I w k _ _))
  unfold sWrd
  by_cases h0 : t_m b n p 0
  · rw [if_pos h0]
    have t0 := t0.trans (zc_f (show ¬ tf (t_m b n p 0) = 0 by rw [tft h0]; decide))
    exact (C_25 I w k hn hX hp hk hS hO).wrap (fun v J hv ho => t0.trans ((bk_v ho).trans ((e24_14 J w k _ _ _).trans (bz v J hv))))
  · rw [if_neg h0]
    have t1 := t0.trans ((zc_t (tff h0)).trans ((bk_v (cq 1 (by omega))).trans (e24_21 I w k _ _)))
    by_cases h1 : t_m b n p 1
    · rw [if_pos h1]
      have t1 := t1.trans (zc_f (show ¬ tf (t_m b n p 1) = 0 by rw [tft h1]; decide))
      exact (C_26 I w k hn hX hp hk hS hO).wrap (fun v J hv ho => t1.trans ((bk_v ho).trans ((e24_29 J w k _ _ _).trans (bz v J hv))))
    · rw [if_neg h1]
      have t2 := t1.trans ((zc_t (tff h1)).trans ((bk_v (cq 2 (by omega))).trans (e24_36 I w k _ _)))
      by_cases h2 : t_m b n p 2
      · rw [if_pos h2]
        have t2 := t2.trans (zc_f (show ¬ tf (t_m b n p 2) = 0 by rw [tft h2]; decide))
        exact (C_27 I w k hn hX hp hk hS hO).wrap (fun v J hv ho => t2.trans ((bk_v ho).trans ((e24_44 J w k _ _ _).trans (bz v J hv))))
      · rw [if_neg h2]
        have t3 := t2.trans ((zc_t (tff h2)).trans ((bk_v (cq 3 (by omega))).trans (e24_51 I w k _ _)))
        by_cases h3 : t_m b n p 3
        · rw [if_pos h3]
          have t3 := t3.trans (zc_f (show ¬ tf (t_m b n p 3) = 0 by rw [tft h3]; decide))
          exact (C_28 I w k hn hX hp hk hS hO).wrap (fun v J hv ho => t3.trans ((bk_v ho).trans ((e24_59 J w k _ _ _).trans (bz v J hv))))
        · rw [if_neg h3]
          have t4 := t3.trans ((zc_t (tff h3)).trans ((bk_v (cq 4 (by omega))).trans (e24_66 I w k _ _)))
          by_cases h4 : t_m b n p 4
          · rw [if_pos h4]
            have t4 := t4.trans (zc_f (show ¬ tf (t_m b n p 4) = 0 by rw [tft h4]; decide))
            exact (C_29 I w k hn hX hp hk hS hO).wrap (fun v J hv ho => t4.trans ((bk_v ho).trans ((e24_74 J w k _ _ _).trans (bz v J hv))))
          · rw [if_neg h4]
            have t5 := t4.trans ((zc_t (tff h4)).trans ((bk_v (cq 5 (by omega))).trans (e24_81 I w k _ _)))
            by_cases h5 : t_m b n p 5
            · rw [if_pos h5]
              have t5 := t5.trans (zc_f (show ¬ tf (t_m b n p 5) = 0 by rw [tft h5]; decide))
              exact (C_30 I w k hn hX hp hk hS hO).wrap (fun v J hv ho => t5.trans ((bk_v ho).trans ((e24_89 J w k _ _ _).trans (bz v J hv))))
            · rw [if_neg h5]
              have t6 := t5.trans ((zc_t (tff h5)).trans ((bk_v (cq 6 (by omega))).trans (e24_96 I w k _ _)))
              by_cases h6 : t_m b n p 6
              · rw [if_pos h6]
                have t6 := t6.trans (zc_f (show ¬ tf (t_m b n p 6) = 0 by rw [tft h6]; decide))
                exact (C_31 I w k hn hX hp hk hS hO).wrap (fun v J hv ho => t6.trans ((bk_v ho).trans ((e24_104 J w k _ _ _).trans (bz v J hv))))
              · rw [if_neg h6]
                have t7 := t6.trans ((zc_t (tff h6)).trans ((bk_v (cq 7 (by omega))).trans (e24_111 I w k _ _)))
                by_cases h7 : t_m b n p 7
                · rw [if_pos h7]
                  have t7 := t7.trans (zc_f (show ¬ tf (t_m b n p 7) = 0 by rw [tft h7]; decide))
                  exact (C_32 I w k hn hX hp hk hS hO).wrap (fun v J hv ho => t7.trans ((bk_v ho).trans ((e24_119 J w k _ _ _).trans (bz v J hv))))
                · rw [if_neg h7]
                  have t7 := t7.trans (zc_t (tff h7))
                  exact ⟨a_setI (a_setI I 21 0 2 1) 21 0 3 (I 21 0 5), t7.trans ((bk_v (C_22 I w k 1)).trans ((e24_127 _ w k _ _ _).trans (bz 0 _ rfl))), by rw [set_n (by omega), set_e], by rw [set_e]; exact hk.2.1, ref_z I 1⟩
theorem C_23 (I : aI) (w : aW) (k : aQ) {r : aR} (hn : n ≤ 400) (hX : Cx b n I) {p : Nat} (hp : p ≤ n) (h7 : I 21 0 6 = nI p) (hS : Sim 0 i I r) (hO : Okt 0 r) : PRes i n I w k (rn 23 (a_en 23 [.inr (.inr (some (21, 0)))] (MM I w k))) (sSem b n (r, p)) := by
  have he := t_e_r b hp
  obtain ⟨A, a1, a2, aq⟩ := C_36 I w k hn hp hX.1 hX.2.1 h7
  have hS1 : Sim 0 i A r := Sim_n hS (fun s q g1 g2 => funext (fun j => aq s q j (by omega)))
  have o1 := (e23_0 I w k).trans ((bk_n a1).trans (e23_4 A w k))
  rw [a2.1] at o1
  have hk4 := t_k_r b n p
  unfold sSem
  show PRes i n I w k _ (if t_k b n p = 3 then _ else _)
  by_cases h : t_k b n p = 3
  · rw [if_pos h]
    exact ⟨he.2.1, A, o1.trans (zc_t (by rw [h]; rfl)), hS1, hO, a2.2.2, Tq.fc aq i⟩
  · rw [if_neg h]
    exact ⟨a_setI (a_setI A 21 0 2 1) 21 0 3 (A 21 0 5), o1.trans ((zc_f (fun z => h ((nI_eq (b := 3) (by omega) (by omega)).mp z))).trans ((bk_v (C_22 A w k 1)).trans ((e23_17 _ w k _ _).trans (zc_t rfl)))), by rw [set_n (by omega), set_e], by rw [set_e]; exact a2.2.1, (Tq.fc aq i).fz.trans (ref_z A 1)⟩
/-- the whole text was read, or refused -/
def LRes (i : Nat) (I : aI) (W0 : aW) (k : aQ) (o : Option aO) (x : PR) : Prop := match x with
  | .inr (r', c) => c ≤ 400 ∧ ∃ J, o = some (.inl (some (.inl (nI c))), MM J W0 k) ∧ Sim 0 i J r' ∧ Okt 0 r' ∧ Fc i I J
  | .inl (e, y) => ∃ J, o = some (.inl (some (.inl (-1))), MM J W0 k) ∧ J 21 0 2 = e ∧ J 21 0 3 = nI y ∧ Fz i I J
theorem C_21L (w : aW) (k : aQ) (hn : n ≤ 400) (d : Nat) : ∀ (I0 I : aI) (r : aR) (p c : Nat), n < p + d → c ≤ p → p ≤ n → Cx b n I → I 21 0 6 = nI p → Sim 0 i I r → Okt 0 r → Fc i I0 I → LRes i I0 w k (rn 21 (17, [some (.inr (.inr (some (21, 0)))), some (.inr (.inr (some (20, i)))), some (.inl (nI c))], [], MM I w k)) (sLd b n d r p c) := by
  induction d with
  | zero => intro I0 I r p c h1 h2 h3; omega
  | succ d ih =>
    intro I0 I r p c h1 h2 h3 hX h7 hS hO hf
    obtain ⟨A, a1, a2, aq⟩ := C_36 I w k hn h3 hX.1 hX.2.1 h7
    have hS1 : Sim 0 i A r := Sim_n hS (fun s q g1 g2 => funext (fun j => aq s q j (by omega)))
    have xA : Cx b n A := hX.fz (Tq.fc aq i).fz
    have fA : Fc i I0 A := hf.trans (Tq.fc aq i)
    have hk4 := t_k_r b n p
    have o1 := (e21_17 I w k i (nI c)).trans ((zc_f (show ¬ (400 : Int32) < nI c from fun z => by
      have z := (fa_lt _ _).mp z
      rw [nI_toInt (by omega), show (400 : Int32).toInt = 400 from by decide] at z
      omega)).trans ((bk_n a1).trans (e21_28 A w k _ _)))
    rw [a2.1] at o1
    unfold sLd
    by_cases h0 : t_k b n p = 0
    · rw [if_pos h0]
      exact ⟨by omega, A, o1.trans (zc_f (fun z => z (by rw [h0]; rfl))), hS1, hO, fA⟩
    · rw [if_neg h0]
      have o2 := o1.trans (zc_t (show ¬ nI (t_k b n p) = 0 from nI_ne0 (by omega) (by omega)))
      have h24 := C_24 A w k hn xA h3 a2 hS1 hO
      unfold sStm
      cases hw : sWrd b n r p with
      | inl ey =>
        rw [hw] at h24
        obtain ⟨e, y⟩ := ey
        obtain ⟨J, j1, j2, j3, j4⟩ := h24
        exact ⟨J, o2.trans ((bk_v j1).trans ((e21_42 J w k _ _ _).trans (zc_t rfl))), j2, j3, fA.fz.trans j4⟩
      | inr rp =>
        rw [hw] at h24
        obtain ⟨r1, p1⟩ := rp
        obtain ⟨hp1, J, j1, j2, j3, j4, j5⟩ := h24
        have o3 := o2.trans ((bk_v j1).trans ((e21_42 J w k _ _ _).trans (zc_f (show ¬ (1 : Int32) = 0 by decide))))
        have h23 := C_23 J w k hn (xA.fz j5.fz) hp1 j4 j2 j3
        have hps := sWrd_p h3 hw
        show LRes i I0 w k _ (bnd (sSem b n (r1, p1)) _)
        cases hs : sSem b n (r1, p1) with
        | inl ey =>
          rw [hs] at h23
          obtain ⟨e, y⟩ := ey
          obtain ⟨K, k1, k2, k3, k4⟩ := h23
          exact ⟨K, o3.trans ((bk_v k1).trans ((e21_49 K w k _ _ _).trans (zc_f (fun z => z rfl)))), k2, k3, (fA.trans j5).fz.trans k4⟩
        | inr rp =>
          rw [hs] at h23
          obtain ⟨r2, p2⟩ := rp
          obtain ⟨hp2, K, k1, k2, k3, k4, k5⟩ := h23
          have hst : p < p2 := (sStm_p (y := (r2, p2)) h3 (by unfold sStm; rw [hw]; exact hs)).1
          have o4 := o3.trans ((bk_v k1).trans ((e21_49 K w k _ _ _).trans (zc_t (show ¬ (1 : Int32) = 0 by decide))))
          rw [nI_1] at o4
          rw [o4]
          exact ih I0 K r2 p2 (c + 1) (by omega) (by omega) hp2 ((xA.fz j5.fz).fz k5.fz) k4 k2 k3 ((fA.trans j5).trans k5)
end

