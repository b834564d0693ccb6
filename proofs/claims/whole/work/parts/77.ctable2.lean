/-! ===== the class's table of passes: the runs ===== -/
section
variable {a8 : Int32} {i : Nat} {r : aR}
theorem C_88 (I : aI) (w : aW) (k : aQ) (hS : Sim a8 i I r) (hR : Rs r) {s o e : Nat} (hs : s < nS r) (ho : o < 1000) (he : e < 4) : rn 88 (a_en 88 [.inr (.inr (some (9, i))), .inl (nI s), .inl (nI o), .inl (nI e)] (MM I w k)) = some (.inl (some (.inl (m_te r (nI e) (some (s, o))))), MM I w k) := by
  have h4 := hR.1.2
  refine (e88_0 I w k _ _ _ _).trans ?_
  rw [z_in (by omega) (by decide), nI_clamp (by omega), cond_true]
  refine (bk_v (C_80 I w k hS hs _)).trans ?_
  refine (e88_11 I w k _ _ _ _ _ _).trans ?_
  rw [z_in (by omega) (by decide), nI_clamp (by omega), cond_true, show m_te r (nI e) (some (s, o)) = (if nI e = 0 then nI s else if nI e = 1 then m_begin r s (nI o) else if nI e = 2 then m_begin r s (nI o) + m_lasts r s (nI o) else nI o) from rfl]
  rcases (show e = 0 ∨ e = 1 ∨ e = 2 ∨ e = 3 by omega) with rfl | rfl | rfl | rfl
  · exact (zc_t (by decide +kernel)).trans (by rw [if_pos (by decide +kernel)])
  · exact (zc_f (by decide +kernel)).trans ((zc_t (by decide +kernel)).trans (by rw [if_neg (by decide +kernel), if_pos (by decide +kernel)]))
  · refine (zc_f (by decide +kernel)).trans ((zc_f (by decide +kernel)).trans ((zc_t (by decide +kernel)).trans ?_))
    rw [if_neg (by decide +kernel), if_neg (by decide +kernel), if_pos (by decide +kernel)]
    refine (bk_v (C_81 I w k hS hR hs (by omega))).trans ?_
    exact e88_58 I w k _ _ _ _ _ _ _
  · refine (zc_f (by decide +kernel)).trans ((zc_f (by decide +kernel)).trans ((zc_f (by decide +kernel)).trans ?_))
    rw [if_neg (by decide +kernel), if_neg (by decide +kernel), if_neg (by decide +kernel)]
theorem nI_dec (n : Nat) : nI (n + 1) + (-1) = nI n := by
  rw [← nI_1, Int32.add_assoc, show (1 : Int32) + -1 = 0 by decide, Int32.add_zero]
theorem C_86R (I : aI) (w : aW) (k : aQ) (hS : Sim a8 i I r) (hR : Rs r) {π : Nat → Nat} (hπ : Rk2 r π) (hI : ∀ a, a < nS r → I 17 i a = nI (π a)) {f e : Nat} (hf : f ≤ 99999) (he : e < 4) (d2 : Option aV) (d : Nat) : ∀ (o n L : Nat) (t x : Int32) (d6 d7 : Option aV), o + d = 1000 → n < 100 → Th r t x L → Wk r π f o 0 L → rn 86 (10, [some (.inr (.inr (some (9, i)))), some (.inl (nI f)), d2, some (.inl (nI e)), some (.inl (nI n)), some (.inl (nI o)), d6, d7], [], MM I w k) = some (.inl (some (.inl (m_te r (nI e) (m_tb r n t x)))), MM I w k) := by
  have h4 := hR.1.2
  have h3 : I 9 i 3 = nI (nS r) := hS.1.1.2.2.2.trans hR.1.1
  induction d with
  | zero =>
    intro o n L t x d6 d7 ho hn hL hW
    refine (e86_10 I w k _ _ _ _ _ _ _ _).trans ?_
    refine (zc_f (nI_pos (by omega))).trans ((zc_t (show (1000 : Int32) ≤ nI o from nI_le (a := 1000) (by omega) (by omega))).trans ?_)
    rw [tb_none (hW.done hR hπ hL (by omega))]
    rfl
  | succ d ih =>
    intro o n L t x d6 d7 ho hn hL hW
    refine (e86_10 I w k _ _ _ _ _ _ _ _).trans ?_
    refine (zc_f (nI_pos (by omega))).trans ((zc_f (show ¬ (1000 : Int32) ≤ nI o from nI_ge (b := 1000) (by omega) (by omega))).trans ?_)
    have inner : ∀ (c a n L : Nat) (t x : Int32) (d7 : Option aV), a + c = nS r → n < 100 → Th r t x L → Wk r π f o a L → rn 86 (26, [some (.inr (.inr (some (9, i)))), some (.inl (nI f)), d2, some (.inl (nI e)), some (.inl (nI n)), some (.inl (nI o)), some (.inl (nI a)), d7], [], MM I w k) = some (.inl (some (.inl (m_te r (nI e) (m_tb r n t x)))), MM I w k) := by
      intro c
      induction c with
      | zero =>
        intro a n L t x d7 ha hn hL hW
        refine (e86_26 I w k _ _ _ _ _ _ _ _).trans ?_
        rw [h3]
        refine (zc_t (nI_le (by omega) (by omega))).trans ?_
        rw [nI_1]
        rw [show a = nS r by omega] at hW ⊢
        exact ih (o + 1) n L t x _ _ (by omega) hn hL hW.row
      | succ c ihc =>
        intro a n L t x d7 ha hn hL hW
        have ha' : a < nS r := by omega
        have hp := hπ.1 a ha'
        obtain ⟨b1, b2⟩ := beg_n hR hp (show o < 1000 by omega)
        refine (e86_26 I w k _ _ _ _ _ _ _ _).trans ?_
        rw [h3]
        refine (zc_f (nI_ge (by omega) (by omega))).trans ?_
        rw [z_in (by omega) (by decide), nI_clamp (show a < 2 ^ 31 by omega), cond_true, hI a ha', z_in (by omega) (by decide), nI_clamp (show π a < 2 ^ 31 by omega), cond_true]
        refine (bk_v (C_87 I w k hS hR hp (by omega) (nI f))).trans ?_
        refine (e86_58 I w k _ _ _ _ _ _ _ _ _).trans ?_
        have eq : (¬ m_begin r (π a) (nI o) < nI f ∧ ¬ m_lasts r (π a) (nI o) ≤ 0) ↔ (Ps r (π a) o ∧ 4 * f ≤ kK r (π a) o) := by
          rw [b1, fa_lt, nI_toInt (by omega), nI_toInt (by omega)]
          unfold Ps kK
          constructor
          · rintro ⟨y1, y2⟩; exact ⟨y2, by omega⟩
          · rintro ⟨y1, y2⟩; exact ⟨by omega, y1⟩
        rw [nI_1]
        by_cases hc : Ps r (π a) o ∧ 4 * f ≤ kK r (π a) o
        · refine (zc_t (by rw [tf, if_pos (eq.mpr hc)]; decide)).trans ?_
          have hx := hW.hit hR hπ hL ha' (by omega) hc.1 hc.2
          cases n with
          | zero =>
            refine (zc_f (fun z => z rfl)).trans ?_
            refine (bk_v (C_88 I w k hS hR hp (by omega) he)).trans ?_
            refine (e86_78 I w k _ _ _ _ _ _ _ _ _).trans ?_
            rw [show m_tb r 0 t x = m_nx r t x from rfl, hx]
          | succ n =>
            have hz : ¬ nI (n + 1) = 0 := fun z => absurd ((nI_eq (b := 0) (by omega) (by omega)).mp z) (by omega)
            refine (zc_t hz).trans ?_
            rw [nI_dec, tb_some hx]
            show _ = some (Sum.inl (some (Sum.inl (m_te r (nI e) (m_tb r n (m_begin r (π a) (nI o)) (nI (π a)))))), MM I w k)
            rw [b1]
            exact ihc (a + 1) n (kK r (π a) o + 1) _ _ _ (by omega) (by omega) (Th_1 hR (by omega) (by omega)) (Wk.after hR hπ ha' hc.2)
        · refine (zc_f (fun z => z (by rw [tf, if_neg (fun y => hc (eq.mp y))]))).trans ?_
          exact ihc (a + 1) n L t x _ (by omega) hn hL (hW.miss hc)
    exact inner (nS r) 0 n L t x d7 (by omega) hn hL hW
theorem C_86 (I : aI) (w : aW) (k : aQ) (hS : Sim a8 i I r) (hR : Rs r) {f l e : Nat} (hf : f ≤ 99999) (hl : l < 100) (he : e < 4) : rn 86 (a_en 86 [.inr (.inr (some (9, i))), .inl (nI f), .inl (nI l), .inl (nI e)] (MM I w k)) = some (.inl (some (.inl (m_te r (nI e) (m_tb r l (nI f) (-1))))), MM I w k) := by
  obtain ⟨π, π1, π2⟩ := hS.2.2.2.1
  have hπ : Rk2 r π := ⟨fun a ha => (π1 a ha).1, π2⟩
  obtain ⟨p, p1, p2, p3, p4⟩ := per_n hR
  have hW := Wk.start hR hπ f
  rw [p4] at hW
  refine (e86_0 I w k _ _ _ _).trans ?_
  refine (bk_v (C_79 I w k hS hR _)).trans ?_
  refine (e86_8 I w k _ _ _ _ _ _ _ _ _).trans ?_
  rw [if_neg (nI_pos (by omega)), p3, z_div (by omega) (by omega)]
  by_cases h : f / p ≤ 1000
  · exact C_86R I w k hS hR hπ (fun a ha => (π1 a ha).2) hf he _ (1000 - f / p) (f / p) l (4 * f) (nI f) (-1) _ _ (by omega) hl (Th_0 hR (by omega)) hW
  · refine (e86_10 I w k _ _ _ _ _ _ _ _).trans ?_
    have hq : f / p ≤ f := Nat.div_le_self f p
    refine (zc_f (nI_pos (by omega))).trans ((zc_t (show (1000 : Int32) ≤ nI (f / p) from nI_le (a := 1000) (by omega) (by omega))).trans ?_)
    rw [tb_none (hW.done hR hπ (Th_0 hR (by omega)) (by omega))]
    rfl
end
