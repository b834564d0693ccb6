/-! ===== save and restore ===== -/
section
variable {xs : Nat → Int32} {N n : Nat} {I : aI} {w : aW} {k : aQ}
theorem sl_un {x : Int32} (h : 0 ≤ x ∧ x ≤ 1) : ∃ j, j < 2 ∧ x = nI j := by
  obtain ⟨m, -, m2, m3⟩ := z_nI (a := 0) (b := 1) h (by decide) (by decide)
  exact ⟨m, by omega, m3⟩
theorem M_296 (I : aI) (w : aW) (k : aQ) {j : Nat} (hj : j < 2) : ∃ J, rn 296 (a_en 296 [.inr (.inr (some (31, 0))), .inl (nI j)] (MM I w k)) = some (.inl none, MM J w k) ∧ J 31 0 0 = 0 ∧ (∀ x, x < 6388 → J 26 0 (6388 * j + x) = I 24 0 x) ∧ (∀ x, ¬ (6388 * j ≤ x ∧ x < 6388 * j + 6388) → J 26 0 x = I 26 0 x) ∧ J 27 0 j = 1 ∧ ∀ s q x, ¬ (s = 26 ∧ q = 0) → ¬ (s = 27 ∧ q = 0 ∧ x = j) → ¬ (s = 31 ∧ q = 0 ∧ x = 0) → J s q x = I s q x := by
  have h := sl_in hj
  obtain ⟨A, hA⟩ : ∃ A, A = a_cpI (a_setI I 31 0 0 0) 26 0 (fb_put (a_setI I 31 0 0 0 26 0) (fun k => a_setI I 31 0 0 0 24 0 (0 + k)) (6388 * j) 6388) := ⟨_, rfl⟩
  refine ⟨a_setI A 27 0 j 1, ?_, ?_, fun x hx => ?_, fun x hx => ?_, set_e, fun s q x g1 g2 g3 => ?_⟩
  · refine (e296_0 I w k _).trans ((bk_v (M_173 I w k _ _ _)).trans ((e296_7 I w k _ _).trans ?_))
    refine (zc_f (show ¬ tf (0 ≤ nI j ∧ nI j ≤ 1) = 0 by rw [tft h]; decide)).trans ?_
    rw [show (6388 : Int32) * nI j = nI (6388 * j) from z_mul 6388 j]
    refine (bk_n (M_272p2 (a_setI I 31 0 0 0) w k (a := 0) (b := 6388 * j) (by omega) (by omega))).trans ?_
    rw [← hA]
    refine (e296_43 A w k _).trans ?_
    rw [z_in hj (by decide), nI_clamp (by omega), show a_bz 1 = true from rfl, Bool.true_and, cond_true]
  · rw [set_n (by omega), hA, cI_ne _ (by decide), set_e]
  · rw [set_n (by omega), hA, cI_row, fb_put_in (by omega) (by omega), Nat.zero_add, set_n (by omega), show 6388 * j + x - 6388 * j = x by omega]
  · rw [set_n (by omega), hA, cI_row, fb_put_out (by omega), set_n (by omega)]
  · rw [set_n (by omega), hA, gC, if_neg g1, set_n (by omega)]
theorem M_296f (I : aI) (w : aW) (k : aQ) {x : Int32} (h : ¬ (0 ≤ x ∧ x ≤ 1)) : rn 296 (a_en 296 [.inr (.inr (some (31, 0))), .inl x] (MM I w k)) = some (.inl none, MM (a_setI I 31 0 0 1) w k) := (e296_0 I w k _).trans ((bk_v (M_173 I w k _ _ _)).trans ((e296_7 I w k _ _).trans (zc_t (tff h))))
theorem M_297 (I : aI) (w : aW) (k : aQ) {j : Nat} (hj : j < 2) (hs : ¬ I 27 0 j = 0) : ∃ J, rn 297 (a_en 297 [.inr (.inr (some (31, 0))), .inl (nI j)] (MM I w k)) = some (.inl none, MM J w k) ∧ J 31 0 0 = 0 ∧ (∀ x, x < 6388 → J 24 0 x = sr I j x) ∧ ∀ s q x, ¬ (s = 24 ∧ q = 0) → ¬ (s = 31 ∧ q = 0 ∧ x = 0) → J s q x = I s q x := by
  have h := sl_in hj
  obtain ⟨A, hA⟩ : ∃ A, A = a_cpI (a_setI I 31 0 0 0) 24 0 (fb_put (a_setI I 31 0 0 0 24 0) (fun k => a_setI I 31 0 0 0 26 0 (6388 * j + k)) 0 6388) := ⟨_, rfl⟩
  refine ⟨A, ?_, ?_, fun x hx => ?_, fun s q x g1 g3 => ?_⟩
  · refine (e297_0 I w k _).trans ((bk_v (M_173 I w k _ _ _)).trans ((e297_7 I w k _ _).trans ?_))
    refine (zc_t (show ¬ tf (0 ≤ nI j ∧ nI j ≤ 1) = 0 by rw [tft h]; decide)).trans ?_
    rw [z_in hj (by decide), nI_clamp (by omega), cond_true]
    refine (zc_f hs).trans ?_
    rw [show (6388 : Int32) * nI j = nI (6388 * j) from z_mul 6388 j]
    refine (bk_n (M_272p3 (a_setI I 31 0 0 0) w k (a := 6388 * j) (b := 0) (by omega) (by omega))).trans ?_
    rw [← hA]
    exact e297_56 A w k _ _
  · rw [hA, cI_ne _ (by decide), set_e]
  · rw [hA, cI_row, fb_put_in (by omega) (by omega), Nat.sub_zero, set_n (by omega)]; rfl
  · rw [hA, gC, if_neg g1, set_n (by omega)]
theorem M_297f (I : aI) (w : aW) (k : aQ) {x : Int32} (h : ¬ (0 ≤ x ∧ x ≤ 1)) : rn 297 (a_en 297 [.inr (.inr (some (31, 0))), .inl x] (MM I w k)) = some (.inl none, MM (a_setI I 31 0 0 1) w k) := (e297_0 I w k _).trans ((bk_v (M_173 I w k _ _ _)).trans ((e297_7 I w k _ _).trans (zc_f (fun z => z (tff h)))))
theorem M_297g (I : aI) (w : aW) (k : aQ) {j : Nat} (hj : j < 2) (hs : I 27 0 j = 0) : rn 297 (a_en 297 [.inr (.inr (some (31, 0))), .inl (nI j)] (MM I w k)) = some (.inl none, MM (a_setI I 31 0 0 2) w k) := by
  have h := sl_in hj
  refine (e297_0 I w k _).trans ((bk_v (M_173 I w k _ _ _)).trans ((e297_7 I w k _ _).trans ?_))
  refine (zc_t (show ¬ tf (0 ≤ nI j ∧ nI j ≤ 1) = 0 by rw [tft h]; decide)).trans ?_
  rw [z_in hj (by decide), nI_clamp (by omega), cond_true]
  exact zc_t hs
theorem K_61 (G : Gd xs N n I w k) (a : Int32) : KV xs N n I w k 353 297 [.inl a] := by
  by_cases h : 0 ≤ a ∧ a ≤ 1
  · obtain ⟨j, hj, rfl⟩ := sl_un h
    have hsv : SvO I w j := by
      rcases (by omega : j = 0 ∨ j = 1) with rfl | rfl
      · exact G.2.2.2.2.2.1.1
      · exact G.2.2.2.2.2.1.2
    have hN := G.2.2.2.2.2.2.1
    cases hs : sv w j with
    | none =>
      unfold SvO at hsv
      rw [hs] at hsv
      exact kv_x G (Hx_353_1 _ (C_158n I w k hj hs)) (M_297g I w _ hj hsv)
    | some i =>
      unfold SvO at hsv
      rw [hs] at hsv
      obtain ⟨h27, T, hT, hO, hS⟩ := hsv
      obtain ⟨J, j1, j2, j3⟩ := C_158s I w k hj hs (hN.2.1 j hj i hs).1 hS hO.rs hO.rq (hO.rc (by omega))
      have e27 : ¬ J 27 0 j = 0 := by rw [j3 27 0 (nown (by omega))]; exact h27
      have esr : sr J j = sr I j := by
        funext x
        show J 26 0 _ = I 26 0 _
        rw [j3 26 0 (nown (by omega))]
      obtain ⟨K, k1, k2, k3, k4⟩ := M_297 J w k hj e27
      rw [esr] at k3
      refine ⟨0, J, w, k, K, Hv_353 _ j1, funext (fun q => j3 0 q (nown (by omega))), rfl, k1, k2, G.row hT (hO.r k3) ?_ (fun s q x g1 g2 g3 => ?_) rfl G.rm⟩
      · refine Sim_r (Sim_own j2 hO.rs.1.2 hO.rq.2 (fun s q ho => ?_)) hO.rs.1.2 hO.rq.2 k3
        funext x
        have ht := own_t ho
        exact k4 s q x (by omega) (by omega)
      · rw [k4 s q x g2 (fun z => g3 (Or.inl ⟨z.1, z.2.1, Or.inl z.2.2⟩))]
        exact congrFun (j3 s q g1) x
  · exact kv_x G (Hx_353_0 _ (C_158f I w k h)) (M_297f I w _ h)
theorem K_60 (G : Gd xs N n I w k) (a : Int32) : KV xs N n I w k 352 296 [.inl a] := by
  obtain ⟨T, hT, hO, hR, hQ, hC, hU, hD, hM⟩ := G.f
  by_cases h : 0 ≤ a ∧ a ≤ 1
  · obtain ⟨j, hj, rfl⟩ := sl_un h
    have hN := G.2.2.2.2.2.2.1
    cases hs : sv w j with
    | some i =>
      obtain ⟨J, j1, j2, j3⟩ := C_157s I w k hj hs (hN.2.1 j hj i hs).1 G.2.1 hR hQ hC
      have e24 : J 24 0 = I 24 0 := j3 24 0 (nown (by omega))
      obtain ⟨K, k1, k2, k3, k4, k5, k6⟩ := M_296 J w k hj
      -- as if the slot had been laid with the present row
      have hi := hN.2.1 j hj i hs
      refine ⟨0, J, w, k, K, Hv_352 _ j1, funext (fun q => j3 0 q (nown (by omega))), rfl, k1, k2, ?_⟩
      obtain ⟨⟨U, hU', hOu⟩, hS0, h8, ⟨l, l1, l2, l3, l4, l5, l6⟩, hW, ⟨s0, s1⟩, -, hC', hX, hk, hr⟩ := G
      have F : ∀ s q x, (s = 0 ∨ s = 1 ∨ s = 2 ∨ s = 7 ∨ s = 28 ∨ s = 29 ∨ s = 21 ∨ (s = 31 ∧ x ≠ 0)) → K s q x = I s q x := fun s q x hs => by rw [k6 s q x (by omega) (by omega) (by omega), j3 s q (nown (by omega))]
      have eK : K 24 0 = I 24 0 := by rw [← e24]; exact funext (fun x => k6 24 0 x (by omega) (by omega) (by omega))
      have so : ∀ i2, i2 ≠ i → ∀ s q, own i2 s q → K s q = I s q := fun i2 hne s q ho => by
        have ht := own_t ho
        rw [show K s q = J s q from funext (fun x => k6 s q x (by omega) (by omega) (by omega)), j3 s q (fun z => hne (own_u ho z))]
      have soi : ∀ s q, own i s q → K s q = J s q := fun s q ho => by
        have ht := own_t ho
        exact funext (fun x => k6 s q x (by omega) (by omega) (by omega))
      rw [e24] at k3
      have me : SvO K w j := by
        unfold SvO
        rw [hs]
        exact ⟨by rw [k5]; decide, T, hT, hO.r k3, Sim_r (Sim_own j2 hR.1.2 hQ.2 soi) hR.1.2 hQ.2 k3⟩
      have ot : ∀ j2, j2 < 2 → j2 ≠ j → SvO I w j2 → SvO K w j2 := fun j2' hj2 hne hv => by
        unfold SvO at hv ⊢
        cases hs2 : sv w j2' with
        | none => rw [hs2] at hv; rw [k6 27 0 j2' (by omega) (by omega) (by omega), j3 27 0 (nown (by omega))]; exact hv
        | some i2 =>
          rw [hs2] at hv
          obtain ⟨v1, V, v2, v3, v4⟩ := hv
          have hne2 : i2 ≠ i := fun z => by
            subst z
            rcases (by omega : (j = 0 ∧ j2' = 1) ∨ (j = 1 ∧ j2' = 0)) with ⟨rfl, rfl⟩ | ⟨rfl, rfl⟩
            · exact hN.2.2.2 i2 hs hs2
            · exact hN.2.2.2 i2 hs2 hs
          have e : ∀ x, x < 6388 → sr K j2' x = sr I j2' x := fun x hx => by
            show K 26 0 _ = I 26 0 _
            rw [k4 _ (by omega), j3 26 0 (nown (by omega))]
          exact ⟨by rw [k6 27 0 j2' (by omega) (by omega) (by omega), j3 27 0 (nown (by omega))]; exact v1, V, v2, v3.r e, Sim_r (Sim_own v4 v3.rs.1.2 v3.rq.2 (so i2 hne2)) v3.rs.1.2 v3.rq.2 e⟩
      refine ⟨⟨T, hT, by rw [eK]; exact hO⟩, by rw [eK]; exact Sim_own hS0 hR.1.2 hQ.2 (so 0 (fun z => hi.1 z.symm)), by rw [F _ _ _ (by omega)]; exact h8, ⟨l, l1, by rw [F _ _ _ (by omega)]; exact l2, by rw [F _ _ _ (by omega)]; exact l3, fun x hx => by rw [F 7 0 x (by omega), F 28 0 x (by omega)]; exact l4 x hx, by rw [F _ _ _ (by omega), F _ _ _ (by omega)]; exact l5, by rw [F _ _ _ (by omega), F _ _ _ (by omega)]; exact l6⟩, ⟨fun q hq => ⟨by rw [F _ _ _ (by omega)]; exact (hW.1 q hq).1, fun x hx => by rw [F _ _ _ (by omega)]; exact (hW.1 q hq).2 x hx⟩, fun x hx => by rw [F _ _ _ (by omega)]; exact hW.2 x hx⟩, ?_, hN, hC', fun x => by rw [F _ _ _ (by omega)]; exact hX x, hk, ⟨by have := hr.1; omega, by have := hr.2; omega⟩⟩
      rcases (by omega : j = 0 ∨ j = 1) with rfl | rfl
      · exact ⟨me, ot 1 (by omega) (by omega) s1⟩
      · exact ⟨ot 0 (by omega) (by omega) s0, me⟩
    | none =>
      obtain ⟨J, k1, j1, j2, j3, j4, j5, j6, j7, j8⟩ := C_157n I w k hj hs G.2.2.2.2.2.2.2.1 (by omega) G.2.1 hR hQ hC
      have e24 : J 24 0 = I 24 0 := j3 24 0 (nown (by omega)) (by omega) (by omega) (by omega)
      obtain ⟨K, c1, c2, c3, c4, c5, c6⟩ := M_296 J (svs w j (1 + cnt w)) k1 hj
      have sv1 : sv (svs w j (1 + cnt w)) j = some (1 + cnt w) := by
        rcases (by omega : j = 0 ∨ j = 1) with rfl | rfl <;> rfl
      have sv2 : ∀ j2, j2 < 2 → j2 ≠ j → sv (svs w j (1 + cnt w)) j2 = sv w j2 := fun j2 h2 hne => by
        rcases (by omega : (j = 0 ∧ j2 = 1) ∨ (j = 1 ∧ j2 = 0)) with ⟨rfl, rfl⟩ | ⟨rfl, rfl⟩ <;> rfl
      have sp : (svs w j (1 + cnt w)).1 = w.1 := by
        rcases (by omega : j = 0 ∨ j = 1) with rfl | rfl <;> rfl
      have hc : cnt (svs w j (1 + cnt w)) = cnt w + 1 := by
        rcases (by omega : j = 0 ∨ j = 1) with rfl | rfl
        · have hs : w.2.1 = none := hs
          show (if w.1 = none then 0 else 1) + (if (some (1 + cnt w) : Option Nat) = none then 0 else 1) + (if w.2.2.1 = none then 0 else 1) = _
          unfold cnt
          rw [hs, if_neg (show ¬ (some _ : Option Nat) = none from fun z => by cases z), if_pos rfl]; omega
        · have hs : w.2.2.1 = none := hs
          show (if w.1 = none then 0 else 1) + (if w.2.1 = none then 0 else 1) + (if (some (1 + cnt w) : Option Nat) = none then 0 else 1) = _
          unfold cnt
          rw [hs, if_neg (show ¬ (some _ : Option Nat) = none from fun z => by cases z), if_pos rfl]
      refine ⟨0, J, svs w j (1 + cnt w), k1, K, Hv_352 _ j1, funext (fun q => j3 0 q (nown (by omega)) (by omega) (by omega) (by omega)), j5 0 (by omega), c1, c2, ?_⟩
      obtain ⟨⟨U, hU', hOu⟩, hS0, h8, ⟨l, l1, l2, l3, l4, l5, l6⟩, hW, ⟨s0, s1⟩, -, hC', hX, hk, hr⟩ := G
      have F : ∀ s q x, (s = 0 ∨ s = 1 ∨ s = 2 ∨ s = 7 ∨ s = 28 ∨ s = 29 ∨ s = 21 ∨ (s = 31 ∧ x ≠ 0)) → K s q x = I s q x := fun s q x hs => by rw [c6 s q x (by omega) (by omega) (by omega), j3 s q (nown (by omega)) (by omega) (by omega) (by omega)]
      have eK : K 24 0 = I 24 0 := by rw [← e24]; exact funext (fun x => c6 24 0 x (by omega) (by omega) (by omega))
      have so : ∀ i2, i2 ≠ 1 + cnt w → ∀ s q, own i2 s q → K s q = I s q := fun i2 hne s q ho => by
        have ht := own_t ho
        rw [show K s q = J s q from funext (fun x => c6 s q x (by omega) (by omega) (by omega)), j3 s q (fun z => hne (own_u ho z)) (by omega) (by omega) (by omega)]
      have soi : ∀ s q, own (1 + cnt w) s q → K s q = J s q := fun s q ho => by
        have ht := own_t ho
        exact funext (fun x => c6 s q x (by omega) (by omega) (by omega))
      rw [e24] at c3
      have me : SvO K (svs w j (1 + cnt w)) j := by
        unfold SvO
        rw [sv1]
        exact ⟨by rw [c5]; decide, T, hT, hO.r c3, Sim_r (Sim_own j2 hR.1.2 hQ.2 soi) hR.1.2 hQ.2 c3⟩
      have ot : ∀ j2, j2 < 2 → j2 ≠ j → SvO I w j2 → SvO K (svs w j (1 + cnt w)) j2 := fun j2' hj2 hne hv => by
        unfold SvO at hv ⊢
        rw [sv2 j2' hj2 hne]
        cases hs2 : sv w j2' with
        | none => rw [hs2] at hv; rw [c6 27 0 j2' (by omega) (by omega) (by omega), j3 27 0 (nown (by omega)) (by omega) (by omega) (by omega)]; exact hv
        | some i2 =>
          rw [hs2] at hv
          obtain ⟨v1, V, v2, v3, v4⟩ := hv
          have hne2 : i2 ≠ 1 + cnt w := by have := (hN.2.1 j2' hj2 i2 hs2).2; omega
          have e : ∀ x, x < 6388 → sr K j2' x = sr I j2' x := fun x hx => by
            show K 26 0 _ = I 26 0 _
            rw [c4 _ (by omega), j3 26 0 (nown (by omega)) (by omega) (by omega) (by omega)]
          exact ⟨by rw [c6 27 0 j2' (by omega) (by omega) (by omega), j3 27 0 (nown (by omega)) (by omega) (by omega) (by omega)]; exact v1, V, v2, v3.r e, Sim_r (Sim_own v4 v3.rs.1.2 v3.rq.2 (so i2 hne2)) v3.rs.1.2 v3.rq.2 e⟩
      have nw : WnO (svs w j (1 + cnt w)) := by
        have old : ∀ j2, j2 < 2 → ∀ i2, sv (svs w j (1 + cnt w)) j2 = some i2 → (j2 = j ∧ i2 = 1 + cnt w) ∨ (j2 ≠ j ∧ sv w j2 = some i2) := fun j2 h2 i2 he => by
          by_cases hjj : j2 = j
          · subst hjj
            rw [sv1] at he
            exact Or.inl ⟨rfl, (Option.some.inj he).symm⟩
          · rw [sv2 j2 h2 hjj] at he
            exact Or.inr ⟨hjj, he⟩
        refine ⟨fun i2 he => ?_, fun j2 h2 i2 he => ?_, fun i2 he j2 h2 z => ?_, fun i2 he z => ?_⟩
        · rw [sp] at he
          have := hN.1 i2 he
          rw [hc]; omega
        · rw [hc]
          rcases old j2 h2 i2 he with ⟨-, y⟩ | ⟨-, y⟩
          · omega
          · have := hN.2.1 j2 h2 i2 y; omega
        · rw [sp] at he
          rcases old j2 h2 i2 z with ⟨-, y⟩ | ⟨-, y⟩
          · have := (hN.1 i2 he).2; omega
          · exact hN.2.2.1 i2 he j2 h2 y
        · rcases old 0 (by omega) i2 he with ⟨a1, y⟩ | ⟨a1, y⟩
          · rcases old 1 (by omega) i2 z with ⟨a2, y2⟩ | ⟨a2, y2⟩
            · omega
            · have := (hN.2.1 1 (by omega) i2 y2).2; omega
          · rcases old 1 (by omega) i2 z with ⟨a2, y2⟩ | ⟨a2, y2⟩
            · have := (hN.2.1 0 (by omega) i2 y).2; omega
            · exact hN.2.2.2 i2 y y2
      refine ⟨⟨T, hT, by rw [eK]; exact hO⟩, by rw [eK]; exact Sim_own hS0 hR.1.2 hQ.2 (so 0 (by omega)), by rw [F _ _ _ (by omega)]; exact h8, ⟨l, l1, by rw [F _ _ _ (by omega)]; exact l2, by rw [F _ _ _ (by omega)]; exact l3, fun x hx => by rw [F 7 0 x (by omega), F 28 0 x (by omega)]; exact l4 x hx, by rw [F _ _ _ (by omega), F _ _ _ (by omega)]; exact l5, by rw [F _ _ _ (by omega), F _ _ _ (by omega)]; exact l6⟩, ⟨fun q hq => ⟨by rw [F _ _ _ (by omega)]; exact (hW.1 q hq).1, fun x hx => by rw [F _ _ _ (by omega)]; exact (hW.1 q hq).2 x hx⟩, fun x hx => by rw [F _ _ _ (by omega)]; exact hW.2 x hx⟩, ?_, nw, by rw [hc, show 1 + (cnt w + 1) = 1 + cnt w + 1 by omega]; exact j4, fun x => by rw [F _ _ _ (by omega)]; exact hX x, (j5 0 (by omega)).trans hk, ?_⟩
      · rcases (by omega : j = 0 ∨ j = 1) with rfl | rfl
        · exact ⟨me, ot 1 (by omega) (by omega) s1⟩
        · exact ⟨ot 0 (by omega) (by omega) s0, me⟩
      · unfold RmO at hr ⊢
        rw [j7, j8, hc]; omega
  · exact kv_x G (Hx_352_0 _ (C_157f I w k h)) (M_296f I w _ h)
end
