/-! ===== the class reads a statement ===== -/

/-- a part of the parser has read: the simulation i holds the row, and it stands at p'; or it has refused -/
def PRes (i n : Nat) (I : aI) (W : aW) (k : aQ) (o : Option aO) (x : PR) : Prop := match x with
  | .inr (r', p') => p' ≤ n ∧ ∃ J, o = some (.inl (some (.inl 1)), MM J W k) ∧ Sim 0 i J r' ∧ Okt 0 r' ∧ J 21 0 6 = nI p' ∧ Fc i I J
  | .inl (c, y) => ∃ J, o = some (.inl (some (.inl 0)), MM J W k) ∧ J 21 0 2 = c ∧ J 21 0 3 = nI y ∧ Fz i I J
theorem in_I {lo v hi : Nat} (h1 : lo ≤ v) (h2 : v ≤ hi) (h3 : hi < 2 ^ 31) : nI lo ≤ nI v ∧ nI v ≤ nI hi := ⟨nI_le h1 (by omega), nI_le h2 h3⟩
section
variable {b : aR} {n i : Nat}
theorem rd_go {I0 I : aI} {W : aW} {k : aQ} {o : Option aO} (hn : n ≤ 400) (hX : Cx b n I) {p : Nat} (hp : p ≤ n) (h7 : I 21 0 6 = nI p) (c lo hi : Nat) (hc : c < 6) (hlo : lo < 2 ^ 31) (hhi : hi < 99999) {f : Nat × Nat → PR} (hI : Fc i I0 I) (hF : ∀ J, rn 33 (a_en 33 [.inr (.inr (some (21, 0))), .inl (nI c), .inl (nI lo), .inl (nI hi)] (MM I W k)) = some (.inl (some (.inl 0)), MM J W k) → o = some (.inl (some (.inl 0)), MM J W k)) (hG : ∀ (v p' : Nat) (J : aI), p' ≤ n → lo ≤ v → v ≤ hi → rn 33 (a_en 33 [.inr (.inr (some (21, 0))), .inl (nI c), .inl (nI lo), .inl (nI hi)] (MM I W k)) = some (.inl (some (.inl 1)), MM J W k) → J 8 0 c = nI v → J 21 0 6 = nI p' → (∀ j, j ≠ c → J 8 0 j = I 8 0 j) → (∀ s q, s ≠ 8 → s ≠ 21 → J s q = I s q) → Fc i I0 J → Cx b n J → PRes i n I0 W k o (f (v, p'))) : PRes i n I0 W k o (bnd (rdN b n p lo hi) f) := by
  have h33 := C_33 I W k hn hX hp h7 hc hlo hhi
  cases hr : rdN b n p lo hi with
  | inl ex =>
    obtain ⟨e, x⟩ := ex
    obtain ⟨J, j1, j2, j3, j4⟩ := h33.2 e x hr
    refine ⟨J, hF J j1, j2, j3, hI.fz.trans (fun s q j g1 g2 g3 => j4 s q j (fun z => g2 z.1) g3)⟩
  | inr vp =>
    obtain ⟨v, p'⟩ := vp
    obtain ⟨j0, ja, jb, J, j1, j2, j3, j4⟩ := h33.1 v p' hr
    have fJ : Fc i I J := fun s q j g1 g2 g3 => j4 s q j (fun z => g2 z.1) g3
    refine hG v p' J j0 ja jb j1 j2 j3 (fun j hj => j4 8 0 j (by omega) (by omega)) (fun s q g1 g2 => funext (fun j => j4 s q j (by omega) (by omega))) (hI.trans fJ) (hX.fz fJ.fz)


/-- where the number stands that was read -/
theorem C_33s (I : aI) (w : aW) (k : aQ) (hn : n ≤ 400) (hX : Cx b n I) {p : Nat} (hp : p ≤ n) (h7 : I 21 0 6 = nI p) {c lo hi : Nat} (hc : c < 6) {J : aI} (hJ : rn 33 (a_en 33 [.inr (.inr (some (21, 0))), .inl (nI c), .inl (nI lo), .inl (nI hi)] (MM I w k)) = some (.inl (some (.inl 1)), MM J w k)) : J 21 0 5 = nI (t_f b n p) := by
  obtain ⟨A, a1, ⟨a5, a6, a7⟩, aq⟩ := C_36 I w k hn hp hX.1 hX.2.1 h7
  have hbA : ∀ x, x < n → A 7 0 x = b x := fun x hx => by rw [aq _ _ _ (by omega)]; exact hX.1 x hx
  have o1 := (e33_0 I w k (nI c) (nI lo) (nI hi)).trans ((bk_n a1).trans (e33_4 A w k _ _ _))
  rw [a5] at o1
  have hk4 := t_k_r b n p
  by_cases h2 : t_k b n p = 2
  · have hz : ¬ ¬ ((0 : Int32) ≤ nI c ∧ nI c ≤ 6 - 1) := fun z => z ⟨nI_le (a := 0) (by omega) (by omega), nI_le (b := 5) (by omega) (by omega)⟩
    have o2 := o1.trans ((zc_f (fun z => z (by rw [h2]; rfl))).trans ((bk_v (C_159 A w k _ _ _)).trans ((e33_24 A w k _ _ _ _).trans ((zc_t (tff hz)).trans ((bk_v (C_34 A w k hn hp hbA h2 a6 a7)).trans (e33_42 A w k _ _ _ _ _))))))
    rw [z_in hc (by decide), cond_true, cond_true, nI_clamp (by omega)] at o2
    have o3 := o2.trans ((bk_v (C_159 _ w k _ _ _)).trans (e33_54 _ w k _ _ _ _))
    have o4 : _ = _ := hJ.symm.trans o3
    by_cases h3 : tf (¬ (nI lo ≤ a_setI A 8 0 c (nI (t_v b n p)) 8 0 c ∧ a_setI A 8 0 c (nI (t_v b n p)) 8 0 c ≤ nI hi)) = 0
    · have o5 := o4.trans (zc_t h3)
      have e := congrArg (fun o : Option aO => match o with | some (_, M) => M.1 21 0 5 | none => 0) o5
      have e : J 21 0 5 = a_setI A 8 0 c (nI (t_v b n p)) 21 0 5 := e
      rw [e, set_n (by omega)]; exact a6
    · have o5 := o4.trans ((zc_f h3).trans ((bk_v (C_22 _ w k 2)).trans ((e33_62 _ w k _ _ _ _ _).trans (zc_t rfl))))
      have e := congrArg (fun o : Option aO => match o with | some (.inl (some (.inl v)), _) => v | _ => 5) o5
      exact absurd (show (1 : Int32) = 0 from e) (by decide)
  · have hz : ¬ nI (t_k b n p) = 2 := fun z => h2 ((nI_eq (b := 2) (by omega) (by omega)).mp z)
    have o2 := o1.trans ((zc_t hz).trans ((bk_v (C_22 _ w k 1)).trans (e33_32 _ w k _ _ _ _ _)))
    rw [show a_bz 0 = true from rfl, cond_true] at o2
    have e := congrArg (fun o : Option aO => match o with | some (.inl (some (.inl v)), _) => v | _ => 5) (hJ.symm.trans o2)
    exact absurd (show (1 : Int32) = 0 from e) (by decide)


theorem C_25 (I : aI) (w : aW) (k : aQ) {r : aR} (hn : n ≤ 400) (hX : Cx b n I) {p : Nat} (hp : p ≤ n) (hk : Ck b n p I) (hS : Sim 0 i I r) (hO : Okt 0 r) : PRes i n I w k (rn 25 (a_en 25 [.inr (.inr (some (21, 0))), .inr (.inr (some (20, i)))] (MM I w k))) (sOrb b n r p) := by
  have he := t_e_r b hp
  refine rd_go hn hX he.2.1 hk.2.2 0 60 200 (by omega) (by omega) (by omega) (Fc.refl i I) (fun J h => (e25_0 I w k _).trans ((bk_v h).trans ((e25_10 J w k _ _ _).trans (zc_t rfl)))) (fun v1 p1 J1 l1 a1 b1 h1 c1 d1 m1 n1 f1 x1 => ?_)
  have o1 := (e25_0 I w k i).trans ((bk_v h1).trans ((e25_10 J1 w k _ _ _).trans (zc_f (show ¬ (1 : Int32) = 0 by decide))))
  refine rd_go hn x1 l1 d1 1 0 359 (by omega) (by omega) (by omega) f1 (fun J h => o1.trans ((bk_v h).trans ((e25_22 J w k _ _ _).trans (zc_t rfl)))) (fun v2 p2 J2 l2 a2 b2 h2 c2 d2 m2 n2 f2 x2 => ?_)
  have o2 := o1.trans ((bk_v h2).trans ((e25_22 J2 w k _ _ _).trans (zc_f (show ¬ (1 : Int32) = 0 by decide))))
  refine rd_go hn x2 l2 d2 2 0 359 (by omega) (by omega) (by omega) f2 (fun J h => o2.trans ((bk_v h).trans ((e25_34 J w k _ _ _).trans (zc_t rfl)))) (fun v3 p3 J3 l3 a3 b3 h3 c3 d3 m3 n3 f3 x3 => ?_)
  have o3 := o2.trans ((bk_v h3).trans ((e25_34 J3 w k _ _ _).trans (zc_f (show ¬ (1 : Int32) = 0 by decide))))
  have E0 : J3 8 0 0 = nI v1 := by rw [m3 0 (by omega), m2 0 (by omega)]; exact c1
  have E1 : J3 8 0 1 = nI v2 := by rw [m3 1 (by omega)]; exact c2
  rw [E0, E1, c3] at o3
  have hS3 : Sim 0 i J3 r := Sim_n (Sim_n (Sim_n hS n1) n2) n3
  refine ⟨l3, a_setI (a_setI (a_setI J3 9 i 0 (nI v1)) 9 i 1 (nI v2)) 9 i 2 (nI v3), o3.trans ((bk_n (e74_0 J3 w k _ _ _ _)).trans ((e25_72 _ w k _ _ _).trans ?_)), Sim_orb hS3 _ _ _, hO.orb ⟨in_I a1 b1 (by decide), in_I a2 b2 (by decide), in_I a3 b3 (by decide)⟩, ?_, f3.trans ?_⟩
  · rw [show a_bz 1 = true from rfl, cond_true]
  · rw [set_n (by omega), set_n (by omega), set_n (by omega)]; exact d3
  · have o9 : own i 9 i := rfl
    exact (((Fr.set o9 J3 0 _).trans (Fr.set o9 _ 1 _)).trans (Fr.set o9 _ 2 _)).fc
theorem C_75 (I : aI) (w : aW) (k : aQ) {r : aR} (hS : Sim 0 i I r) (hR : Rs r) : rn 75 (a_en 75 [.inr (.inr (some (9, i)))] (MM I w k)) = some (.inl (some (.inl (tf (nS r = 4)))), MM I w k) := by
  have h3 : I 9 i 3 = nI (nS r) := hS.1.1.2.2.2.trans hR.1.1
  have h4 := hR.1.2
  refine (e75_0 I w k _).trans ?_
  rw [h3]
  by_cases h : nS r = 4
  · rw [tft h]
    refine zc_f (fun z => ?_)
    have z := (fa_lt _ _).mp z
    rw [nI_toInt (by omega), show (4 : Int32).toInt = 4 from by decide] at z
    omega
  · rw [tff h]
    exact zc_t (show nI (nS r) < nI 4 from (fa_lt _ _).mpr (by rw [nI_toInt (by omega), nI_toInt (by omega)]; omega))
theorem C_42 (I : aI) (w : aW) (k : aQ) {r : aR} (hS : Sim 0 i I r) (hQ : Rq r) : rn 42 (a_en 42 [.inr (.inr (some (20, i)))] (MM I w k)) = some (.inl (some (.inl (tf (nR r = 40)))), MM I w k) := by
  have h3 : I 20 i 3 = nI (nR r) := hS.1.2.2.1.1.trans hQ.1
  have h4 := hQ.2
  refine (e42_0 I w k _).trans ?_
  rw [h3]
  by_cases h : nR r = 40
  · rw [tft h]
    refine zc_f (fun z => ?_)
    have z := (fa_lt _ _).mp z
    rw [nI_toInt (by omega), show (40 : Int32).toInt = 40 from by decide] at z
    omega
  · rw [tff h]
    exact zc_t (show nI (nR r) < nI 40 from (fa_lt _ _).mpr (by rw [nI_toInt (by omega), nI_toInt (by omega)]; omega))
theorem ref_z (I : aI) (c : Int32) : Fz i I (a_setI (a_setI I 21 0 2 c) 21 0 3 (I 21 0 5)) := fun s q j g1 g2 g3 => by
  rw [set_n (by omega), set_n (by omega)]
theorem C_26 (I : aI) (w : aW) (k : aQ) {r : aR} (hn : n ≤ 400) (hX : Cx b n I) {p : Nat} (hp : p ≤ n) (hk : Ck b n p I) (hS : Sim 0 i I r) (hO : Okt 0 r) : PRes i n I w k (rn 26 (a_en 26 [.inr (.inr (some (21, 0))), .inr (.inr (some (20, i)))] (MM I w k))) (sSta b n r p) := by
  have he := t_e_r b hp
  have h4 := hO.rs.1.2
  have c75 := C_75 I w k hS hO.rs
  unfold sSta
  by_cases h : nS r = 4
  · rw [if_pos h]
    rw [tft h] at c75
    refine ⟨a_setI (a_setI I 21 0 2 3) 21 0 3 (I 21 0 5), (e26_0 I w k _).trans ((bk_v c75).trans ((e26_7 I w k _ _ _).trans ((zc_f (by decide)).trans ((bk_v (C_22 I w k 3)).trans ((e26_15 _ w k _ _ _ _).trans ?_))))), by rw [set_n (by omega), set_e], by rw [set_e]; exact hk.2.1, ref_z I 3⟩
    rw [show a_bz 0 = true from rfl, cond_true]
  · rw [if_neg h]
    rw [tff h] at c75
    have o0 := (e26_0 I w k i).trans ((bk_v c75).trans ((e26_7 I w k _ _ _).trans (zc_t rfl)))
    refine rd_go hn hX he.2.1 hk.2.2 0 0 359 (by omega) (by omega) (by omega) (Fc.refl i I) (fun J h => o0.trans ((bk_v h).trans ((e26_25 J w k _ _ _).trans (zc_t rfl)))) (fun v0 p0 J0 l0 a0 b0 h0 c0 d0 m0 n0 f0 x0 => ?_)
    have o1 := o0.trans ((bk_v h0).trans ((e26_25 J0 w k _ _ _).trans (zc_f (show ¬ (1 : Int32) = 0 by decide))))
    refine rd_go hn x0 l0 d0 1 0 90 (by omega) (by omega) (by omega) f0 (fun J h => o1.trans ((bk_v h).trans ((e26_36 J w k _ _ _).trans (zc_t rfl)))) (fun v1 p1 J1 l1 a1 b1 h1 c1 d1 m1 n1 f1 x1 => ?_)
    have o2 := o1.trans ((bk_v h1).trans ((e26_36 J1 w k _ _ _).trans (zc_f (show ¬ (1 : Int32) = 0 by decide))))
    refine rd_go hn x1 l1 d1 2 1 30 (by omega) (by omega) (by omega) f1 (fun J h => o2.trans ((bk_v h).trans ((e26_47 J w k _ _ _).trans (zc_t rfl)))) (fun v2 p2 J2 l2 a2 b2 h2 c2 d2 m2 n2 f2 x2 => ?_)
    have o3 := o2.trans ((bk_v h2).trans ((e26_47 J2 w k _ _ _).trans (zc_f (show ¬ (1 : Int32) = 0 by decide))))
    refine rd_go hn x2 l2 d2 3 0 59 (by omega) (by omega) (by omega) f2 (fun J h => o3.trans ((bk_v h).trans ((e26_58 J w k _ _ _).trans (zc_t rfl)))) (fun v3 p3 J3 l3 a3 b3 h3 c3 d3 m3 n3 f3 x3 => ?_)
    have o4 := o3.trans ((bk_v h3).trans ((e26_58 J3 w k _ _ _).trans (zc_f (show ¬ (1 : Int32) = 0 by decide))))
    refine rd_go hn x3 l3 d3 4 1 20 (by omega) (by omega) (by omega) f3 (fun J h => o4.trans ((bk_v h).trans ((e26_69 J w k _ _ _).trans (zc_t rfl)))) (fun v4 p4 J4 l4 a4 b4 h4 c4 d4 m4 n4 f4 x4 => ?_)
    have o5 := o4.trans ((bk_v h4).trans ((e26_69 J4 w k _ _ _).trans (zc_f (show ¬ (1 : Int32) = 0 by decide))))
    refine rd_go hn x4 l4 d4 5 0 99 (by omega) (by omega) (by omega) f4 (fun J h => o5.trans ((bk_v h).trans ((e26_80 J w k _ _ _).trans (zc_t rfl)))) (fun v5 p5 J5 l5 a5 b5 h5 c5 d5 m5 n5 f5 x5 => ?_)
    have o6 := o5.trans ((bk_v h5).trans ((e26_80 J5 w k _ _ _).trans (zc_f (show ¬ (1 : Int32) = 0 by decide))))
    have E0 : J5 8 0 0 = nI v0 := by rw [m5 0 (by omega), m4 0 (by omega), m3 0 (by omega), m2 0 (by omega), m1 0 (by omega)]; exact c0
    have E1 : J5 8 0 1 = nI v1 := by rw [m5 1 (by omega), m4 1 (by omega), m3 1 (by omega), m2 1 (by omega)]; exact c1
    have E2 : J5 8 0 2 = nI v2 := by rw [m5 2 (by omega), m4 2 (by omega), m3 2 (by omega)]; exact c2
    have E3 : J5 8 0 3 = nI v3 := by rw [m5 3 (by omega), m4 3 (by omega)]; exact c3
    have E4 : J5 8 0 4 = nI v4 := by rw [m5 4 (by omega)]; exact c4
    rw [E0, E1, E2, E3, E4, c5] at o6
    have hS5 : Sim 0 i J5 r := Sim_n (Sim_n (Sim_n (Sim_n (Sim_n (Sim_n hS n0) n1) n2) n3) n4) n5
    obtain ⟨K, k1, k2, k3⟩ := C_76 J5 w k rfl hS5 hO.rs (by omega) hO.rq.2 hO.1.2.2.2.2.2.2.2 (nI v0) (nI v1) (nI v2) (D := v3) (by omega) (nI v4) (nI v5)
    refine ⟨l5, K, o6.trans ((bk_v k1).trans ((e26_136 K w k _ _ _ _).trans ?_)), k2, hO.ast (by omega) ⟨in_I a0 b0 (by decide), in_I a1 b1 (by decide), in_I a2 b2 (by decide), in_I a3 b3 (by decide), in_I a4 b4 (by decide), in_I a5 b5 (by decide)⟩, ?_, f5.trans k3.fc⟩
    · rw [show a_bz 1 = true from rfl, cond_true]
    · rw [k3 21 0 (nown (by omega))]; exact d5
theorem C_27 (I : aI) (w : aW) (k : aQ) {r : aR} (hn : n ≤ 400) (hX : Cx b n I) {p : Nat} (hp : p ≤ n) (hk : Ck b n p I) (hS : Sim 0 i I r) (hO : Okt 0 r) : PRes i n I w k (rn 27 (a_en 27 [.inr (.inr (some (21, 0))), .inr (.inr (some (20, i)))] (MM I w k))) (sOne 0 999 10 b n r p) := by
  have he := t_e_r b hp
  refine rd_go hn hX he.2.1 hk.2.2 0 0 999 (by omega) (by omega) (by omega) (Fc.refl i I) (fun J h => (e27_0 I w k i).trans ((bk_v h).trans ((e27_9 J w k _ _ _).trans ((zc_t rfl).trans (by rw [show a_bz 0 = true from rfl, cond_true]))))) (fun v1 p1 J1 l1 a1 b1 h1 c1 d1 m1 n1 f1 x1 => ?_)
  have hp5 : Rp (upd r 10 (nI v1)) := by
    obtain ⟨y1, y2, y3, y4, y5, y6⟩ := hO.1.2.2.2.2.2.1
    exact ⟨by rw [upd_n _ _ _ (by omega)]; exact y1, by rw [upd_n _ _ _ (by omega)]; exact y2, by rw [upd_n _ _ _ (by omega)]; exact y3, by rw [upd_n _ _ _ (by omega)]; exact y4, ⟨v1, b1, upd_s _ _ _⟩, by rw [upd_n _ _ _ (by omega)]; exact y6⟩
  refine ⟨l1, a_setI J1 10 i 0 (nI v1), (e27_0 I w k i).trans ((bk_v h1).trans ((e27_9 J1 w k _ _ _).trans ((zc_f (by decide)).trans (by rw [show a_bz 1 = true from rfl, cond_true, c1])))), Sim_ru0 (Sim_n hS n1) _, hO.par (by omega) (by omega) hp5, by rw [set_n (by omega)]; exact d1, f1.trans (Fr.set (show own i 10 i from rfl) J1 0 _).fc⟩
theorem C_28 (I : aI) (w : aW) (k : aQ) {r : aR} (hn : n ≤ 400) (hX : Cx b n I) {p : Nat} (hp : p ≤ n) (hk : Ck b n p I) (hS : Sim 0 i I r) (hO : Okt 0 r) : PRes i n I w k (rn 28 (a_en 28 [.inr (.inr (some (21, 0))), .inr (.inr (some (20, i)))] (MM I w k))) (sOne 1 9999 11 b n r p) := by
  have he := t_e_r b hp
  refine rd_go hn hX he.2.1 hk.2.2 0 1 9999 (by omega) (by omega) (by omega) (Fc.refl i I) (fun J h => (e28_0 I w k i).trans ((bk_v h).trans ((e28_9 J w k _ _ _).trans ((zc_t rfl).trans (by rw [show a_bz 0 = true from rfl, cond_true]))))) (fun v1 p1 J1 l1 a1 b1 h1 c1 d1 m1 n1 f1 x1 => ?_)
  have hp5 : Rp (upd r 11 (nI v1)) := by
    obtain ⟨y1, y2, y3, y4, y5, y6⟩ := hO.1.2.2.2.2.2.1
    exact ⟨by rw [upd_n _ _ _ (by omega)]; exact y1, by rw [upd_n _ _ _ (by omega)]; exact y2, by rw [upd_n _ _ _ (by omega)]; exact y3, by rw [upd_n _ _ _ (by omega)]; exact y4, by rw [upd_n _ _ _ (by omega)]; exact y5, ⟨v1, a1, b1, upd_s _ _ _⟩⟩
  refine ⟨l1, a_setI J1 10 i 1 (nI v1), (e28_0 I w k i).trans ((bk_v h1).trans ((e28_9 J1 w k _ _ _).trans ((zc_f (by decide)).trans (by rw [show a_bz 1 = true from rfl, cond_true, c1])))), Sim_ru1 (Sim_n hS n1) _, hO.par (by omega) (by omega) hp5, by rw [set_n (by omega)]; exact d1, f1.trans (Fr.set (show own i 10 i from rfl) J1 1 _).fc⟩
theorem Rp_fre {r : aR} (h : Rp r) {x y : Nat} (hx : x ≤ 999) (hy : y ≤ 9) : Rp (upd r 6 (nI x)) ∧ Rp (upd (upd r 6 (nI x)) 7 (nI y)) := by
  obtain ⟨y1, y2, y3, y4, y5, y6⟩ := h
  refine ⟨⟨⟨x, hx, upd_s _ _ _⟩, by rw [upd_n _ _ _ (by omega)]; exact y2, by rw [upd_n _ _ _ (by omega)]; exact y3, by rw [upd_n _ _ _ (by omega)]; exact y4, by rw [upd_n _ _ _ (by omega)]; exact y5, by rw [upd_n _ _ _ (by omega)]; exact y6⟩, ⟨⟨x, hx, ?_⟩, ⟨y, hy, upd_s _ _ _⟩, ?_, ?_, ?_, ?_⟩⟩
  · rw [upd_n _ _ _ (by omega), upd_s]
  · rw [upd_n _ _ _ (by omega), upd_n _ _ _ (by omega)]; exact y3
  · rw [upd_n _ _ _ (by omega), upd_n _ _ _ (by omega)]; exact y4
  · rw [upd_n _ _ _ (by omega), upd_n _ _ _ (by omega)]; exact y5
  · rw [upd_n _ _ _ (by omega), upd_n _ _ _ (by omega)]; exact y6
theorem C_29 (I : aI) (w : aW) (k : aQ) {r : aR} (hn : n ≤ 400) (hX : Cx b n I) {p : Nat} (hp : p ≤ n) (hk : Ck b n p I) (hS : Sim 0 i I r) (hO : Okt 0 r) : PRes i n I w k (rn 29 (a_en 29 [.inr (.inr (some (21, 0))), .inr (.inr (some (20, i)))] (MM I w k))) (sFre b n r p) := by
  have he := t_e_r b hp
  refine rd_go hn hX he.2.1 hk.2.2 0 0 999 (by omega) (by omega) (by omega) (Fc.refl i I) (fun J h => (e29_0 I w k i).trans ((bk_v h).trans ((e29_9 J w k _ _ _).trans (zc_t rfl)))) (fun v1 p1 J1 l1 a1 b1 h1 c1 d1 m1 n1 f1 x1 => ?_)
  have o1 := (e29_0 I w k i).trans ((bk_v h1).trans ((e29_9 J1 w k _ _ _).trans (zc_f (show ¬ (1 : Int32) = 0 by decide))))
  refine rd_go hn x1 l1 d1 1 0 9 (by omega) (by omega) (by omega) f1 (fun J h => o1.trans ((bk_v h).trans ((e29_20 J w k _ _ _).trans (zc_t rfl)))) (fun v2 p2 J2 l2 a2 b2 h2 c2 d2 m2 n2 f2 x2 => ?_)
  have o2 := o1.trans ((bk_v h2).trans ((e29_20 J2 w k _ _ _).trans (zc_f (show ¬ (1 : Int32) = 0 by decide))))
  rw [m2 0 (by omega), c1, c2] at o2
  have hp5 := Rp_fre hO.1.2.2.2.2.2.1 b1 b2
  refine ⟨l2, _, o2, Sim_ru3 (Sim_ru2 (Sim_n (Sim_n hS n1) n2) _) _, (hO.par (by omega) (by omega) hp5.1).par (by omega) (by omega) hp5.2, by rw [set_n (by omega), set_n (by omega)]; exact d2, f2.trans ((Fr.set (show own i 10 i from rfl) J2 2 _).trans (Fr.set (show own i 10 i from rfl) _ 3 _)).fc⟩
theorem C_30 (I : aI) (w : aW) (k : aQ) {r : aR} (hn : n ≤ 400) (hX : Cx b n I) {p : Nat} (hp : p ≤ n) (hk : Ck b n p I) (hS : Sim 0 i I r) (hO : Okt 0 r) : PRes i n I w k (rn 30 (a_en 30 [.inr (.inr (some (21, 0))), .inr (.inr (some (20, i)))] (MM I w k))) (sMem b n r p) := by
  have he := t_e_r b hp
  have h33 := C_33 I w k hn hX he.2.1 hk.2.2 (c := 0) (lo := 24) (hi := 960) (by omega) (by omega) (by omega)
  unfold sMem
  cases hr : rdN b n (t_e b n p) 24 960 with
  | inl ex =>
    obtain ⟨e, x⟩ := ex
    obtain ⟨J, j1, j2, j3, j4⟩ := h33.2 e x hr
    exact ⟨J, (e30_0 I w k i).trans ((bk_v j1).trans ((e30_10 J w k _ _).trans (zc_f (fun z => z rfl)))), j2, j3, fun s q j g1 g2 g3 => j4 s q j (fun z => g2 z.1) g3⟩
  | inr vp =>
    obtain ⟨v, p'⟩ := vp
    obtain ⟨j0, ja, jb, J, j1, j2, j3, j4⟩ := h33.1 v p' hr
    have fJ : Fc i I J := fun s q j g1 g2 g3 => j4 s q j (fun z => g2 z.1) g3
    have hS1 : Sim 0 i J r := Sim_n hS (fun s q g1 g2 => funext (fun j => j4 s q j (by omega) (by omega)))
    have o1 := (e30_0 I w k i).trans ((bk_v j1).trans ((e30_10 J w k _ _).trans ((zc_t (show ¬ (1 : Int32) = 0 by decide)).trans ((bk_v (C_45 J w k hS1 hO.rq)).trans (e30_19 J w k _ _)))))
    rw [j2] at o1
    show PRes i n I w k _ (if m_use r ≤ nI v then _ else _)
    by_cases h : m_use r ≤ nI v
    · rw [if_pos h]
      have hp5 : Rp (upd r 8 (nI v)) := by
        obtain ⟨y1, y2, y3, y4, y5, y6⟩ := hO.1.2.2.2.2.2.1
        exact ⟨by rw [upd_n _ _ _ (by omega)]; exact y1, by rw [upd_n _ _ _ (by omega)]; exact y2, ⟨v, ja, jb, upd_s _ _ _⟩, by rw [upd_n _ _ _ (by omega)]; exact y4, by rw [upd_n _ _ _ (by omega)]; exact y5, by rw [upd_n _ _ _ (by omega)]; exact y6⟩
      exact ⟨j0, _, o1.trans (zc_t h), Sim_ru4 hS1 _, hO.par (by omega) (by omega) hp5, by rw [set_n (by omega)]; exact j3, fJ.trans (Fr.set (show own i 10 i from rfl) J 4 _).fc⟩
    · rw [if_neg h]
      obtain ⟨A, a1, ⟨a5, a6, a7⟩, aq⟩ := C_36 I w k hn he.2.1 hX.1 hX.2.1 hk.2.2
      refine ⟨a_setI (a_setI J 21 0 2 3) 21 0 3 (J 21 0 5), o1.trans ((zc_f h).trans ((bk_v (C_22 J w k 3)).trans ((e30_33 _ w k _ _ _).trans (by rw [show a_bz 0 = true from rfl, cond_true])))), by rw [set_n (by omega), set_e], ?_, fJ.fz.trans (ref_z J 3)⟩
      rw [set_e]
      exact C_33s I w k hn hX he.2.1 hk.2.2 (by omega) j1
theorem C_31 (I : aI) (w : aW) (k : aQ) {r : aR} (hn : n ≤ 400) (hX : Cx b n I) {p : Nat} (hp : p ≤ n) (hk : Ck b n p I) (hS : Sim 0 i I r) (hO : Okt 0 r) : PRes i n I w k (rn 31 (a_en 31 [.inr (.inr (some (21, 0))), .inr (.inr (some (20, i)))] (MM I w k))) (sPol b n r p) := by
  have he := t_e_r b hp
  have he2 := t_e_r b he.2.1
  obtain ⟨A, a1, a2, aq⟩ := C_36 I w k hn he.2.1 hX.1 hX.2.1 hk.2.2
  have xA : Cx b n A := hX.fz (Tq.fc aq i).fz
  have hS1 : Sim 0 i A r := Sim_n hS (fun s q g1 g2 => funext (fun j => aq s q j (by omega)))
  have c8 := C_35 A w k xA.2.2 (q := 8) (by omega) xA.1 hn he.2.1 a2
  have c9 := C_35 A w k xA.2.2 (q := 9) (by omega) xA.1 hn he.2.1 a2
  have o1 := (e31_0 I w k i).trans ((bk_n a1).trans ((e31_4 A w k i).trans ((bk_v c8).trans (e31_10 A w k _ _))))
  have hpp : ∀ v, v ≤ 1 → Rp (upd r 9 (nI v)) := fun v hv => by
    obtain ⟨y1, y2, y3, y4, y5, y6⟩ := hO.1.2.2.2.2.2.1
    exact ⟨by rw [upd_n _ _ _ (by omega)]; exact y1, by rw [upd_n _ _ _ (by omega)]; exact y2, by rw [upd_n _ _ _ (by omega)]; exact y3, ⟨v, hv, upd_s _ _ _⟩, by rw [upd_n _ _ _ (by omega)]; exact y5, by rw [upd_n _ _ _ (by omega)]; exact y6⟩
  unfold sPol
  by_cases h8 : t_m b n (t_e b n p) 8
  · rw [if_pos h8]
    refine ⟨he2.2.1, _, o1.trans (zc_f (by rw [tft h8]; decide)), Sim_ru5 hS1 0, hO.par (by omega) (by omega) (hpp 0 (by omega)), by rw [set_n (by omega)]; exact a2.2.2, (Tq.fc aq i).trans (Fr.set (show own i 10 i from rfl) A 5 _).fc⟩
  · rw [if_neg h8]
    have o2 := o1.trans ((zc_t (tff h8)).trans ((bk_v c9).trans (e31_29 A w k _ _)))
    by_cases h9 : t_m b n (t_e b n p) 9
    · rw [if_pos h9]
      refine ⟨he2.2.1, _, o2.trans (zc_f (by rw [tft h9]; decide)), Sim_ru5 hS1 1, hO.par (by omega) (by omega) (hpp 1 (by omega)), by rw [set_n (by omega)]; exact a2.2.2, (Tq.fc aq i).trans (Fr.set (show own i 10 i from rfl) A 5 _).fc⟩
    · rw [if_neg h9]
      refine ⟨a_setI (a_setI A 21 0 2 1) 21 0 3 (A 21 0 5), o2.trans ((zc_t (tff h9)).trans ((bk_v (C_22 A w k 1)).trans ((e31_47 _ w k _ _ _).trans (by rw [show a_bz 0 = true from rfl, cond_true])))), by rw [set_n (by omega), set_e], by rw [set_e]; exact a2.2.1, (Tq.fc aq i).fz.trans (ref_z A 1)⟩
theorem C_43 (I : aI) (w : aW) (k : aQ) {r : aR} (hS : Sim 0 i I r) (hQ : Rq r) (z : Int32) : rn 43 (a_en 43 [.inr (.inr (some (20, i))), .inl z] (MM I w k)) = some (.inl (some (.inl (tf (m_use r + z ≤ r 8)))), MM I w k) := by
  refine (e43_0 I w k _ _).trans ?_
  refine (bk_v (C_45 I w k hS hQ)).trans ?_
  refine (e43_4 I w k _ _ _).trans ?_
  rw [hS.1.2.1.2.2.2.2.1]
  by_cases h : m_use r + z ≤ r 8
  · rw [tft h]; exact zc_f (Int32.not_lt.mpr h)
  · rw [tff h]; exact zc_t (Int32.not_le.mp h)
theorem C_32 (I : aI) (w : aW) (k : aQ) {r : aR} (hn : n ≤ 400) (hX : Cx b n I) {p : Nat} (hp : p ≤ n) (hk : Ck b n p I) (hS : Sim 0 i I r) (hO : Okt 0 r) : PRes i n I w k (rn 32 (a_en 32 [.inr (.inr (some (21, 0))), .inr (.inr (some (20, i)))] (MM I w k))) (sRec b n r p) := by
  have he := t_e_r b hp
  have h40 := hO.rq.2
  have c42 := C_42 I w k hS hO.rq
  unfold sRec
  by_cases h : nR r = 40
  · rw [if_pos h]
    rw [tft h] at c42
    refine ⟨a_setI (a_setI I 21 0 2 3) 21 0 3 (I 21 0 5), (e32_0 I w k i).trans ((bk_v c42).trans ((e32_4 I w k _ _ _).trans ((zc_f (by decide)).trans ((bk_v (C_22 I w k 3)).trans ((e32_12 _ w k _ _ _ _).trans ?_))))), by rw [set_n (by omega), set_e], by rw [set_e]; exact hk.2.1, ref_z I 3⟩
    rw [show a_bz 0 = true from rfl, cond_true]
  · rw [if_neg h]
    rw [tff h] at c42
    have o0 := (e32_0 I w k i).trans ((bk_v c42).trans ((e32_4 I w k _ _ _).trans (zc_t rfl)))
    refine rd_go hn hX he.2.1 hk.2.2 0 1 24 (by omega) (by omega) (by omega) (Fc.refl i I) (fun J h => o0.trans ((bk_v h).trans ((e32_21 J w k _ _ _).trans (zc_f (fun z => z rfl))))) (fun v1 p1 J1 l1 a1 b1 h1 c1 d1 m1 n1 f1 x1 => ?_)
    have hS1 : Sim 0 i J1 r := Sim_n hS n1
    have o1 := o0.trans ((bk_v h1).trans ((e32_21 J1 w k _ _ _).trans (zc_t (show ¬ (1 : Int32) = 0 by decide))))
    rw [c1] at o1
    have o2 := o1.trans ((bk_v (C_43 J1 w k hS1 hO.rq (nI v1))).trans (e32_36 J1 w k _ _ _))
    show PRes i n I w k _ (if m_use r + nI v1 ≤ r 8 then _ else _)
    by_cases h5 : m_use r + nI v1 ≤ r 8
    · rw [if_pos h5]
      have o3 := o2.trans (zc_t (show ¬ tf (m_use r + nI v1 ≤ r 8) = 0 by rw [tft h5]; decide))
      refine rd_go hn x1 l1 d1 1 0 9 (by omega) (by omega) (by omega) f1 (fun J h => o3.trans ((bk_v h).trans ((e32_53 J w k _ _ _).trans ((zc_t rfl).trans (by rw [show a_bz 0 = true from rfl, cond_true]))))) (fun v2 p2 J2 l2 a2 b2 h2 c2 d2 m2 n2 f2 x2 => ?_)
      have o4 := o3.trans ((bk_v h2).trans ((e32_53 J2 w k _ _ _).trans (zc_f (show ¬ (1 : Int32) = 0 by decide))))
      rw [m2 0 (by omega), c1, c2] at o4
      obtain ⟨K, k1, k2, k3⟩ := C_44 J2 w k (Sim_n hS1 n2) hO.rq hO.rs.1.2 (by omega) (nI v1) (nI v2)
      refine ⟨l2, K, o4.trans ((bk_v k1).trans ((e32_74 K w k _ _ _ _).trans (by rw [show a_bz 1 = true from rfl, cond_true]))), k2, hO.arc (by omega) (by omega) (in_I a1 b1 (by decide)) (in_I a2 b2 (by decide)), ?_, f2.trans k3.fc⟩
      rw [k3 21 0 (nown (by omega))]; exact d2
    · rw [if_neg h5]
      refine ⟨a_setI (a_setI J1 21 0 2 3) 21 0 3 (J1 21 0 5), o2.trans ((zc_f (fun z => z (tff h5))).trans ((bk_v (C_22 J1 w k 3)).trans ((e32_44 _ w k _ _ _ _).trans (by rw [show a_bz 0 = true from rfl, cond_true])))), by rw [set_n (by omega), set_e], ?_, f1.fz.trans (ref_z J1 3)⟩
      rw [set_e]
      exact C_33s I w k hn hX he.2.1 hk.2.2 (by omega) h1
end

