/-! ===== text, load, saved states ===== -/
section
variable {xs : Nat → Int32} {N n : Nat} {I : aI} {w : aW} {k : aQ}
/-- places of the text -/
def txp (s q j : Nat) : Prop := s = 7 ∨ s = 28 ∨ (s = 21 ∧ q = 0 ∧ j < 4) ∨ (s = 31 ∧ q = 0 ∧ (j = 10 ∨ j = 15 ∨ j = 16))
theorem Gd.all {n' : Nat} {I' : aI} {k' : aQ} (h : Gd xs N n I w k) {T : Nat} (hT : T ≤ 20000) (hO : Okt T (I' 24 0)) (hS : Sim 0 0 I' (I' 24 0)) (hX' : TxO I') (f : ∀ s q j, ¬ own 0 s q → ¬ (s = 24 ∧ q = 0) → ¬ txp s q j → ¬ scr w s q j → I' s q j = I s q j) (hc : k'.2.1 = k.2.1) (hr : RmO n' w k') : Gd xs N n' I' w k' := by
  obtain ⟨-, -, h8, -, hW, ⟨s0, s1⟩, hN, hC, hX, hk, -⟩ := h
  have F : ∀ s q j, (s = 0 ∨ s = 1 ∨ s = 2 ∨ s = 26 ∨ s = 27 ∨ s = 29 ∨ (s = 31 ∧ j = 8)) → I' s q j = I s q j := fun s q j hs => f s q j (nown (by omega)) (by omega) (by unfold txp; omega) (nscr (by omega) (by omega) (by omega) (fun i _ => nown (by omega)))
  have sF : ∀ j, j < 2 → ∀ i, sv w j = some i → ∀ s q, own i s q → I' s q = I s q := fun j hj i hi s q ho => by
    have hn := (hN.2.1 j hj i hi).1
    have ht := own_t ho
    funext x
    refine f s q x (fun z => hn (own_u ho z)) (by omega) (by unfold txp; omega) (nscr (by omega) (by omega) (by omega) (fun i2 h2 z => ?_))
    have := own_u ho z
    subst this
    exact hN.2.2.1 i h2 j hj hi
  exact ⟨⟨T, hT, hO⟩, hS, by rw [F _ _ _ (by omega)]; exact h8, hX', ⟨fun q hq => ⟨by rw [F _ _ _ (by omega)]; exact (hW.1 q hq).1, fun j hj => by rw [F _ _ _ (by omega)]; exact (hW.1 q hq).2 j hj⟩, fun x hx => by rw [F _ _ _ (by omega)]; exact hW.2 x hx⟩, ⟨s0.keep (by omega) hN (fun x => F _ _ _ (by omega)) (F _ _ _ (by omega)) (sF 0 (by omega)), s1.keep (by omega) hN (fun x => F _ _ _ (by omega)) (F _ _ _ (by omega)) (sF 1 (by omega))⟩, hN, by rw [hc]; exact hC, fun x => by rw [F _ _ _ (by omega)]; exact hX x, by rw [hc]; exact hk, hr⟩
/-- only the text has changed -/
theorem Gd.txt {n' : Nat} {I' : aI} {k' : aQ} (h : Gd xs N n I w k) (hX' : TxO I') (f : ∀ s q j, ¬ txp s q j → ¬ scr w s q j → I' s q j = I s q j) (hc : k'.2.1 = k.2.1) (hr : RmO n' w k') : Gd xs N n' I' w k' := by
  obtain ⟨T, hT, hO⟩ := h.1
  have e24 : I' 24 0 = I 24 0 := funext (fun j => f 24 0 j (by unfold txp; omega) (nscr (by omega) (by omega) (by omega) (fun i _ => nown (by omega))))
  refine h.all hT (by rw [e24]; exact hO) ?_ hX' (fun s q j _ _ g1 g2 => f s q j g1 g2) hc hr
  rw [e24]
  refine Sim_own h.2.1 hO.rs.1.2 hO.rq.2 (fun s q ho => ?_)
  funext x
  have ht := own_t ho
  exact f s q x (by unfold txp; omega) (nscr (by omega) (by omega) (by omega) (fun i hi z => (h.2.2.2.2.2.2.1.1 i hi).1 (own_u z ho)))
theorem K_58 (G : Gd xs N n I w k) : KD xs N n I w k 155 294 := by
  obtain ⟨l, l1, l2, l3, l4, l5, l6⟩ := G.2.2.2.1
  exact kd_r G (v := I 31 0 15) ((e155_0 I w k).trans (by rw [l5])) (e294_0 I w k)
theorem K_59 (G : Gd xs N n I w k) : KD xs N n I w k 156 295 := by
  obtain ⟨l, l1, l2, l3, l4, l5, l6⟩ := G.2.2.2.1
  exact kd_r G (v := I 31 0 16) ((e156_0 I w k).trans (by rw [l6])) (e295_0 I w k)
theorem K_56 (G : Gd xs N n I w k) (a : Int32) : KH xs N n I w k 351 277 [.inl a] := by
  obtain ⟨l, l1, l2, l3, l4, l5, l6⟩ := G.2.2.2.1
  have o := e153_0 I w k a
  rw [l2] at o
  by_cases h : 0 ≤ a ∧ a ≤ nI l
  · obtain ⟨m, -, m1, rfl⟩ := z_nI (a := 0) (b := l) h (by omega) (by decide)
    have o := o.trans ((bk_n (C_160 I w k h)).trans (e153_12 I w k _))
    obtain ⟨J, hJ⟩ : ∃ J, J = a_setI I 21 0 1 (nI m) := ⟨_, rfl⟩
    rw [← hJ] at o
    have e10 : J 31 0 10 = nI l := by rw [hJ, set_n (by omega)]; exact l3
    have mm : ∀ k, rn 277 (a_en 277 [.inr (.inr (some (31, 0))), .inl (nI m)] (MM J w k)) = some (.inl (some (.inl (nI m))), MM (a_setI (a_setI J 31 0 0 0) 31 0 10 (nI m)) w k) := fun k => by
      refine (e277_0 J w k _).trans ?_
      rw [e10]
      refine (bk_v (M_173 J w k _ _ _)).trans ((e277_10 J w k _ _).trans ?_)
      exact zc_f (show ¬ tf (0 ≤ nI m ∧ nI m ≤ nI l) = 0 by rw [tft h]; decide)
    refine ⟨0, _, J, w, _, _, Hv_351 _ o, by rw [hJ]; rfl, rfl, mm _, by rw [set_n (by omega), set_e], fun _ => rfl, G.txt ⟨m, by omega, ?_, set_e, fun x hx => ?_, ?_, ?_⟩ (fun s q j g1 g2 => ?_) rfl G.rm⟩
    · rw [set_n (by omega), set_n (by omega), hJ, set_e]
    · rw [set_n (by omega), set_n (by omega), set_n (by omega), set_n (by omega), hJ, set_n (by omega), set_n (by omega)]; exact l4 x (by omega)
    · rw [set_n (by omega), set_n (by omega), set_n (by omega), set_n (by omega), hJ, set_n (by omega), set_n (by omega)]; exact l5
    · rw [set_n (by omega), set_n (by omega), set_n (by omega), set_n (by omega), hJ, set_n (by omega), set_n (by omega)]; exact l6
    · rw [set_n (fun z => g1 (by unfold txp; omega)), set_n (fun z => g2 (Or.inl ⟨z.1, z.2.1, Or.inl z.2.2⟩)), hJ, set_n (fun z => g1 (by unfold txp; omega))]
  · have mm : ∀ k, rn 277 (a_en 277 [.inr (.inr (some (31, 0))), .inl a] (MM I w k)) = some (.inl (some (.inl 0)), MM (a_setI I 31 0 0 1) w k) := fun k => by
      refine (e277_0 I w k _).trans ?_
      rw [l3]
      refine (bk_v (M_173 I w k _ _ _)).trans ((e277_10 I w k _ _).trans ?_)
      exact zc_t (tff h)
    exact kh_x (by decide) G (Hx_351_0 _ (o.trans (bk_x (C_160f I w k h) (by decide +kernel) (by decide +kernel)))) (mm _)
/-- a byte of four -/
def bx (x c : Int32) : Int32 := Int8.toInt32 (Int32.toInt8 (Int8.toInt32 (Int32.toInt8 (x >>> (c &&& 31)))))
theorem bx_by (x c : Int32) : By (bx x c) := By.of _
theorem C_20s (J : aI) (w : aW) (k : aQ) {l : Nat} (hl : J 21 0 1 = nI l) (h4 : l < 400) (x c : Int32) (hc : ¬ c < 0) : rn 20 (3, [some (.inr (.inr (some (21, 0)))), some (.inl x), some (.inl c)], [], MM J w k) = rn 20 (3, [some (.inr (.inr (some (21, 0)))), some (.inl x), some (.inl (c + (-8)))], [], MM (a_setI (a_setI J 7 0 l (bx x c)) 21 0 1 (nI (l + 1))) w k) := by
  refine (e20_3 J w k _ _).trans ?_
  rw [hl]
  refine (zc_f hc).trans ?_
  refine (zc_f (show ¬ (400 : Int32) ≤ nI l from nI_ge (b := 400) (by omega) (by omega))).trans ?_
  rw [z_in h4 (by decide), nI_clamp (by omega), cond_true, nI_1]
  rfl
theorem M_276s (J : aI) (w : aW) (k : aQ) {l : Nat} (hl : J 31 0 10 = nI l) (h4 : l < 400) (x c : Int32) (hc : ¬ c < 0) : rn 276 (33, [some (.inr (.inr (some (31, 0)))), some (.inl x), some (.inl c)], [], MM J w k) = rn 276 (33, [some (.inr (.inr (some (31, 0)))), some (.inl x), some (.inl (c + (-8)))], [], MM (a_setI (a_setI J 28 0 l (bx x c)) 31 0 10 (nI (l + 1))) w k) := by
  refine (e276_33 J w k _ _).trans ?_
  rw [hl]
  refine (zc_f hc).trans ?_
  rw [z_in h4 (by decide), nI_clamp (by omega), cond_true, nI_1]
  rfl
theorem C_20 (J : aI) (w : aW) (k : aQ) {l : Nat} (hl : J 21 0 1 = nI l) (h4 : l ≤ 396) (x : Int32) : ∃ J', rn 20 (a_en 20 [.inr (.inr (some (21, 0))), .inl x] (MM J w k)) = some (.inl none, MM J' w k) ∧ J' 21 0 1 = nI (l + 4) ∧ (J' 7 0 l = bx x 24 ∧ J' 7 0 (l + 1) = bx x 16 ∧ J' 7 0 (l + 2) = bx x 8 ∧ J' 7 0 (l + 3) = bx x 0) ∧ ∀ s q j, ¬ (s = 7 ∧ q = 0 ∧ l ≤ j) → ¬ (s = 21 ∧ q = 0 ∧ j = 1) → J' s q j = J s q j := by
  refine ⟨_, (e20_0 J w k _).trans ((C_20s J w k hl (by omega) x 24 (by decide)).trans ((C_20s _ w k (l := l + 1) set_e (by omega) x 16 (by decide)).trans ((C_20s _ w k (l := l + 1 + 1) set_e (by omega) x 8 (by decide)).trans ((C_20s _ w k (l := l + 1 + 1 + 1) set_e (by omega) x 0 (by decide)).trans ((e20_3 _ w k _ _).trans (zc_t (by decide))))))), set_e, ⟨?_, ?_, ?_, ?_⟩, fun s q j g1 g2 => ?_⟩
  · rw [set_n (by omega), set_n (by omega), set_n (by omega), set_n (by omega), set_n (by omega), set_n (by omega), set_n (by omega), set_e]
  · rw [set_n (by omega), set_n (by omega), set_n (by omega), set_n (by omega), set_n (by omega), set_e]
  · rw [set_n (by omega), set_n (by omega), set_n (by omega), show l + 2 = l + 1 + 1 from rfl, set_e]
  · rw [set_n (by omega), show l + 3 = l + 1 + 1 + 1 from rfl, set_e]
  · rw [set_n (by omega), set_n (by omega), set_n (by omega), set_n (by omega), set_n (by omega), set_n (by omega), set_n (by omega), set_n (by omega)]
theorem M_276 (J : aI) (w : aW) (k : aQ) {l : Nat} (hl : J 31 0 10 = nI l) (h4 : l ≤ 396) (x : Int32) : ∃ J', rn 276 (a_en 276 [.inr (.inr (some (31, 0))), .inl x] (MM J w k)) = some (.inl (some (.inl (nI (l + 4)))), MM J' w k) ∧ J' 31 0 0 = 0 ∧ J' 31 0 10 = nI (l + 4) ∧ (J' 28 0 l = bx x 24 ∧ J' 28 0 (l + 1) = bx x 16 ∧ J' 28 0 (l + 2) = bx x 8 ∧ J' 28 0 (l + 3) = bx x 0) ∧ ∀ s q j, ¬ (s = 28 ∧ q = 0 ∧ l ≤ j) → ¬ (s = 31 ∧ q = 0 ∧ (j = 0 ∨ j = 10)) → J' s q j = J s q j := by
  have start : rn 276 (a_en 276 [.inr (.inr (some (31, 0))), .inl x] (MM J w k)) = rn 276 (33, [some (.inr (.inr (some (31, 0)))), some (.inl x), some (.inl 24)], [], MM (a_setI J 31 0 0 0) w k) := by
    refine (e276_0 J w k _).trans ?_
    rw [hl, show nI l + 4 = nI (l + 4) from nI_add l 4]
    exact zc_f (show ¬ (400 : Int32) < nI (l + 4) from fun z => by
      have z := (fa_lt _ _).mp z
      rw [nI_toInt (by omega), show (400 : Int32).toInt = 400 from by decide] at z
      omega)
  refine ⟨_, start.trans ((M_276s (a_setI J 31 0 0 0) w k (l := l) (by rw [set_n (by omega)]; exact hl) (by omega) x 24 (by decide)).trans ((M_276s _ w k (l := l + 1) set_e (by omega) x 16 (by decide)).trans ((M_276s _ w k (l := l + 1 + 1) set_e (by omega) x 8 (by decide)).trans ((M_276s _ w k (l := l + 1 + 1 + 1) set_e (by omega) x 0 (by decide)).trans ((e276_33 _ w k _ _).trans ((zc_t (by decide)).trans (by rw [set_e]))))))), ?_, set_e, ⟨?_, ?_, ?_, ?_⟩, fun s q j g1 g2 => ?_⟩
  · rw [set_n (by omega), set_n (by omega), set_n (by omega), set_n (by omega), set_n (by omega), set_n (by omega), set_n (by omega), set_n (by omega), set_e]
  · rw [set_n (by omega), set_n (by omega), set_n (by omega), set_n (by omega), set_n (by omega), set_n (by omega), set_n (by omega), set_e]
  · rw [set_n (by omega), set_n (by omega), set_n (by omega), set_n (by omega), set_n (by omega), set_e]
  · rw [set_n (by omega), set_n (by omega), set_n (by omega), show l + 2 = l + 1 + 1 from rfl, set_e]
  · rw [set_n (by omega), show l + 3 = l + 1 + 1 + 1 from rfl, set_e]
  · rw [set_n (by omega), set_n (by omega), set_n (by omega), set_n (by omega), set_n (by omega), set_n (by omega), set_n (by omega), set_n (by omega), set_n (by omega)]
theorem K_55 (G : Gd xs N n I w k) (a : Int32) : KH xs N n I w k 350 276 [.inl a] := by
  obtain ⟨l, l1, l2, l3, l4, l5, l6⟩ := G.2.2.2.1
  have c19 := e19_0 I w k
  rw [l2] at c19
  by_cases h : l ≤ 396
  · have c19 := c19.trans (zc_f (show ¬ (396 : Int32) < nI l from fun z => by
      have z := (fa_lt _ _).mp z
      rw [nI_toInt (by omega), show (396 : Int32).toInt = 396 from by decide] at z
      omega))
    obtain ⟨J, j1, j2, ⟨v0, v1, v2, v3⟩, j3⟩ := C_20 I w k l2 h a
    have o := (e152_0 I w k a).trans ((bk_v c19).trans ((e152_7 I w k _ _).trans ((zc_t (by decide)).trans ((bk_n j1).trans (e152_29 J w k _)))))
    rw [j2] at o
    obtain ⟨K, k1, k2, k3, ⟨u0, u1, u2, u3⟩, k4⟩ := M_276 J w (a_setL k.1 32 0 0 (nI (l + 4)).toInt64, k.2) (l := l) (by rw [j3 _ _ _ (by omega) (by omega)]; exact l3) h a
    refine ⟨0, _, J, w, _, K, Hv_350 _ o, funext (fun q => funext (fun j => j3 0 q j (by omega) (by omega))), rfl, k1, k2, fun _ => rfl, G.txt ⟨l + 4, by omega, ?_, k3, fun x hx => ?_, ?_, ?_⟩ (fun s q j g1 g2 => ?_) rfl G.rm⟩
    · rw [k4 _ _ _ (by omega) (by omega)]; exact j2
    · rw [k4 7 0 x (by omega) (by omega)]
      by_cases hx2 : x < l
      · rw [k4 28 0 x (by omega) (by omega), j3 7 0 x (by omega) (by omega), j3 28 0 x (by omega) (by omega)]; exact l4 x hx2
      · rcases (by omega : x = l ∨ x = l + 1 ∨ x = l + 2 ∨ x = l + 3) with rfl | rfl | rfl | rfl
        · rw [v0, u0]; exact ⟨rfl, bx_by _ _⟩
        · rw [v1, u1]; exact ⟨rfl, bx_by _ _⟩
        · rw [v2, u2]; exact ⟨rfl, bx_by _ _⟩
        · rw [v3, u3]; exact ⟨rfl, bx_by _ _⟩
    · rw [k4 _ _ _ (by omega) (by omega), k4 _ _ _ (by omega) (by omega), j3 _ _ _ (by omega) (by omega), j3 _ _ _ (by omega) (by omega)]; exact l5
    · rw [k4 _ _ _ (by omega) (by omega), k4 _ _ _ (by omega) (by omega), j3 _ _ _ (by omega) (by omega), j3 _ _ _ (by omega) (by omega)]; exact l6
    · rw [k4 s q j (fun z => g1 (by unfold txp; omega)) (fun z => by
        rcases z.2.2 with y | y
        · exact g2 (Or.inl ⟨z.1, z.2.1, Or.inl y⟩)
        · exact g1 (by unfold txp; omega)), j3 s q j (fun z => g1 (by unfold txp; omega)) (fun z => g1 (by unfold txp; omega))]
  · have c19 := c19.trans (zc_t (show (396 : Int32) < nI l from (fa_lt _ _).mpr (by rw [nI_toInt (by omega), show (396 : Int32).toInt = 396 from by decide]; omega)))
    have o := (e152_0 I w k a).trans ((bk_v c19).trans ((e152_7 I w k _ _).trans (zc_f (fun z => z rfl))))
    have mm : ∀ k, rn 276 (a_en 276 [.inr (.inr (some (31, 0))), .inl a] (MM I w k)) = some (.inl (some (.inl 0)), MM (a_setI I 31 0 0 1) w k) := fun k => by
      refine (e276_0 I w k _).trans ?_
      rw [l3, show nI l + 4 = nI (l + 4) from nI_add l 4]
      exact zc_t (show (400 : Int32) < nI (l + 4) from (fa_lt _ _).mpr (by rw [nI_toInt (by omega), show (400 : Int32).toInt = 400 from by decide]; omega))
    exact kh_x (by decide) G (Hx_350_1 _ o) (mm _)
end
