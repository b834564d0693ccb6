/-! ===== the reference reads a statement ===== -/
def er (I : aI) (c : Int32) : aI := a_setI (a_setI I 31 0 15 c) 31 0 16 (I 31 0 12)
/-- the row and the token may have changed -/
def Fm (I J : aI) : Prop := ∀ s q j, ¬ (s = 24 ∧ q = 0) → ¬ (s = 31 ∧ q = 0 ∧ (j = 11 ∨ j = 12 ∨ j = 13 ∨ j = 14)) → J s q j = I s q j
/-- and the error -/
def Fe (I J : aI) : Prop := ∀ s q j, ¬ (s = 24 ∧ q = 0) → ¬ (s = 31 ∧ q = 0 ∧ (j = 11 ∨ j = 12 ∨ j = 13 ∨ j = 14 ∨ j = 15 ∨ j = 16)) → J s q j = I s q j
theorem Fm.refl (I : aI) : Fm I I := fun _ _ _ _ _ => rfl
theorem Fm.trans {I J K : aI} (h : Fm I J) (h2 : Fm J K) : Fm I K := fun s q j a b => (h2 s q j a b).trans (h s q j a b)
theorem Fm.fe {I J : aI} (h : Fm I J) : Fe I J := fun s q j a b => h s q j a (fun z => b ⟨z.1, z.2.1, by omega⟩)
theorem Fe.trans {I J K : aI} (h : Fe I J) (h2 : Fe J K) : Fe I K := fun s q j a b => (h2 s q j a b).trans (h s q j a b)
theorem Mq.fm {I J : aI} (h : Mq I J) : Fm I J := fun s q j _ b => h s q j b
theorem er_fe (I : aI) (c : Int32) : Fe I (er I c) := fun s q j a b => by unfold er; rw [set_n (by omega), set_n (by omega)]
theorem pR_fm (I : aI) (r : aR) : Fm I (pR I r) := fun s q j a _ => by unfold pR; rw [gC, if_neg a]
theorem s24_fm (I : aI) (j : Nat) (v : Int32) : Fm I (a_setI I 24 0 j v) := fun s q j' a _ => by rw [set_n (by omega)]
theorem er_15 (I : aI) (c : Int32) : er I c 31 0 15 = c := by unfold er; rw [set_n (by omega), set_e]
theorem er_16 (I : aI) (c : Int32) : er I c 31 0 16 = I 31 0 12 := by unfold er; rw [set_e]
/-- what the reference reads -/
def Mx (b : aR) (n : Nat) (I : aI) : Prop := (∀ x, x < n → I 28 0 x = b x) ∧ I 31 0 10 = nI n ∧ Wd I
theorem Mx.fe {b : aR} {n : Nat} {I J : aI} (h : Mx b n I) (f : Fe I J) : Mx b n J := by
  refine ⟨fun x hx => ?_, ?_, fun q hq => ⟨?_, fun j hj => ?_⟩, fun x hx => ?_⟩
  · rw [f 28 0 x (by omega) (by omega)]; exact h.1 x hx
  · rw [f 31 0 10 (by omega) (by omega)]; exact h.2.1
  · rw [f 1 q 1 (by omega) (by omega)]; exact (h.2.2.1 q hq).1
  · rw [f 2 q j (by omega) (by omega)]; exact (h.2.2.1 q hq).2 j hj
  · rw [f 29 0 x (by omega) (by omega)]; exact h.2.2.2 x hx
theorem M_282 (I : aI) (w : aW) (k : aQ) (c : Int32) (h : I 31 0 15 = 0) : rn 282 (a_en 282 [.inr (.inr (some (31, 0))), .inl c] (MM I w k)) = some (.inl none, MM (er I c) w k) := by
  refine (e282_0 I w k _).trans ?_
  exact zc_f (fun z => z h)
theorem M_282e (I : aI) (w : aW) (k : aQ) (c : Int32) (h : ¬ I 31 0 15 = 0) : rn 282 (a_en 282 [.inr (.inr (some (31, 0))), .inl c] (MM I w k)) = some (.inl none, MM I w k) := by
  refine (e282_0 I w k _).trans ?_
  exact zc_t h
theorem M_283 (I : aI) (w : aW) (k : aQ) (h : I 31 0 15 = 0) : rn 283 (a_en 283 [.inr (.inr (some (31, 0)))] (MM I w k)) = some (.inl (some (.inl 1)), MM I w k) := (e283_0 I w k).trans (zc_f (fun z => z h))
theorem M_283e (I : aI) (w : aW) (k : aQ) (h : ¬ I 31 0 15 = 0) : rn 283 (a_en 283 [.inr (.inr (some (31, 0)))] (MM I w k)) = some (.inl (some (.inl 0)), MM I w k) := (e283_0 I w k).trans (zc_t h)
section
variable {b : aR} {n : Nat}
theorem M_285e (I : aI) (w : aW) (k : aQ) (h : ¬ I 31 0 15 = 0) (lo hi x : Int32) (y : Int32) : rn 285 (a_en 285 [.inr (.inr (some (31, 0))), .inl lo, .inl hi, .inl x, .inl y] (MM I w k)) = some (.inl (some (.inl lo)), MM I w k) := by
  refine (e285_0 I w k _ _ _ _).trans ?_
  by_cases h2 : I 31 0 13 = 2
  · refine (zc_t h2).trans ?_
    refine (bk_v (M_173 I w k _ _ _)).trans ?_
    refine (e285_25 I w k _ _ _ _ _ _).trans ?_
    have A : ∀ d2 d5, (rn 283 (a_en 283 [.inr (.inr (some (31, 0)))] (MM I w k))).bind (fun o => a_bk 285 283 (66, [some (.inr (.inr (some (31, 0)))), some (.inl lo), d2, some (.inl x), some (.inl y), d5], [], MM I w k) o (rn 285)) = some (.inl (some (.inl lo)), MM I w k) := fun d2 d5 => (bk_v (M_283e I w k h)).trans ((e285_69 I w k _ _ _ _ _ _).trans (zc_f (fun z => z rfl)))
    have B : ∀ d2 d5, (rn 282 (a_en 282 [.inr (.inr (some (31, 0))), .inl 3] (MM I w k))).bind (fun o => a_bk 285 282 (62, [some (.inr (.inr (some (31, 0)))), some (.inl lo), d2, some (.inl x), some (.inl y), d5], [], MM I w k) o (rn 285)) = some (.inl (some (.inl lo)), MM I w k) := fun d2 d5 => (bk_n (M_282e I w k 3 h)).trans ((e285_65 I w k _ _ _ _ _).trans ((bk_v (M_283e I w k h)).trans ((e285_69 I w k _ _ _ _ _ _).trans (zc_f (fun z => z rfl)))))
    have D : ∀ d2 d5, (rn 282 (a_en 282 [.inr (.inr (some (31, 0))), .inl 2] (MM I w k))).bind (fun o => a_bk 285 282 (30, [some (.inr (.inr (some (31, 0)))), some (.inl lo), d2, some (.inl x), some (.inl y), d5], [], MM I w k) o (rn 285)) = some (.inl (some (.inl lo)), MM I w k) := fun d2 d5 => (bk_n (M_282e I w k 2 h)).trans ((e285_33 I w k _ _ _ _ _).trans ((bk_v (M_283e I w k h)).trans ((e285_69 I w k _ _ _ _ _ _).trans (zc_f (fun z => z rfl)))))
    simp only [z_c, A, B, D]
    repeat' split
    all_goals rfl
  · refine (zc_f h2).trans ?_
    refine (bk_n (M_282e I w k 1 h)).trans ?_
    refine (e285_13 I w k _ _ _ _ _).trans ?_
    exact (bk_v (M_283e I w k h)).trans ((e285_69 I w k _ _ _ _ _ _).trans (zc_f (fun z => z rfl)))
theorem t_mv {p : Nat} (hp : p ≤ n) (h2 : t_k b n p = 2) : ((t_v b n p = t_ml b (t_e b n p - t_f b n p) (t_f b n p) 0 ∧ t_v b n p < 100000) ∨ (100000 ≤ t_v b n p ∧ 100000 ≤ t_ml b (t_e b n p - t_f b n p) (t_f b n p) 0)) ∧ t_ml b (t_e b n p - t_f b n p) (t_f b n p) 0 ≤ 1000009 := by
  have he := t_e_r b hp
  refine ⟨vm_l b _ _ 0 0 (Or.inl ⟨rfl, by omega⟩), ml_r b _ _ _ (by omega) (fun x g1 g2 => by rw [t_in b (Or.inr h2) g1 (by omega)]; exact h2)⟩
/-- a number is read: all goes well -/
theorem M_285 (I : aI) (w : aW) (k : aQ) (hn : n ≤ 400) (hy : ∀ x, x < n → By (b x)) (hX : Mx b n I) {p : Nat} (hp : p ≤ n) (hk : Mk b n p I) (h0 : I 31 0 15 = 0) {lo hi : Nat} (hhi : hi < 99999) (h2 : t_k b n p = 2) (h3 : lo ≤ t_v b n p ∧ t_v b n p ≤ hi) (x y : Int32) (hf : if y = 0 then nI (t_v b n p) ≤ x else x ≤ nI (t_v b n p)) : ∃ J, rn 285 (a_en 285 [.inr (.inr (some (31, 0))), .inl (nI lo), .inl (nI hi), .inl x, .inl y] (MM I w k)) = some (.inl (some (.inl (nI (t_v b n p)))), MM J w k) ∧ Mk b n (t_e b n p) J ∧ Mq I J := by
  have he := t_e_r b hp
  obtain ⟨mv, ml⟩ := t_mv hp h2
  have e14 : I 31 0 14 = nI (t_v b n p) := by
    rw [hk.2.2.2 h2]
    rcases mv with ⟨z, -⟩ | ⟨z, -⟩
    · rw [z]
    · omega
  obtain ⟨J, j1, j2, j3⟩ := M_281 I w k hn he.2.1 hy ⟨hX.1, hX.2.1, hk.1⟩
  refine ⟨J, ?_, j2, j3⟩
  refine (e285_0 I w k _ _ _ _).trans ?_
  refine (zc_t (by rw [hk.2.2.1, h2]; rfl)).trans ?_
  rw [e14]
  refine (bk_v (M_173 I w k _ _ _)).trans ?_
  refine (e285_25 I w k _ _ _ _ _ _).trans ?_
  have hin : nI lo ≤ nI (t_v b n p) ∧ nI (t_v b n p) ≤ nI hi := ⟨nI_le h3.1 (by omega), nI_le h3.2 (by omega)⟩
  refine (zc_t (show ¬ tf (nI lo ≤ nI (t_v b n p) ∧ nI (t_v b n p) ≤ nI hi) = 0 by rw [tft hin]; decide)).trans ?_
  rw [e14]
  have A : ∀ d2 d5, (rn 283 (a_en 283 [.inr (.inr (some (31, 0)))] (MM I w k))).bind (fun o => a_bk 285 283 (66, [some (.inr (.inr (some (31, 0)))), some (.inl (nI lo)), d2, some (.inl x), some (.inl y), d5], [], MM I w k) o (rn 285)) = some (.inl (some (.inl (nI (t_v b n p)))), MM J w k) := fun d2 d5 => by
    refine (bk_v (M_283 I w k h0)).trans ?_
    refine (e285_69 I w k _ _ _ _ _ _).trans ?_
    refine (zc_t (by decide)).trans ?_
    refine (bk_n j1).trans ?_
    rw [e14]
    exact e285_84 J w k _ _ _ _ _ _
  by_cases hy0 : y = 0
  · rw [if_pos hy0] at hf
    exact (zc_t hy0).trans ((zc_t hf).trans (A _ _))
  · rw [if_neg hy0] at hf
    exact (zc_f hy0).trans ((zc_t hf).trans (A _ _))
theorem M_285f (I : aI) (w : aW) (k : aQ) {p : Nat} (hp : p ≤ n) (hk : Mk b n p I) (h0 : I 31 0 15 = 0) {lo hi : Nat} (hlo : lo < 2 ^ 31) (hhi : hi < 99999) (x y : Int32) {c : Int32} (hc : ¬ c = 0) (hf : (¬ t_k b n p = 2 ∧ c = 1) ∨ (t_k b n p = 2 ∧ ¬ (lo ≤ t_v b n p ∧ t_v b n p ≤ hi) ∧ c = 2) ∨ (t_k b n p = 2 ∧ (lo ≤ t_v b n p ∧ t_v b n p ≤ hi) ∧ (¬ if y = 0 then nI (t_v b n p) ≤ x else x ≤ nI (t_v b n p)) ∧ c = 3)) : rn 285 (a_en 285 [.inr (.inr (some (31, 0))), .inl (nI lo), .inl (nI hi), .inl x, .inl y] (MM I w k)) = some (.inl (some (.inl (nI lo))), MM (er I c) w k) := by
  have hk4 := t_k_r b n p
  have e15 : ¬ er I c 31 0 15 = 0 := by rw [er_15]; exact hc
  have tl : ∀ d2 d3 d4 d5, (rn 283 (a_en 283 [.inr (.inr (some (31, 0)))] (MM (er I c) w k))).bind (fun o => a_bk 285 283 (66, [some (.inr (.inr (some (31, 0)))), some (.inl (nI lo)), d2, d3, d4, d5], [], MM (er I c) w k) o (rn 285)) = some (.inl (some (.inl (nI lo))), MM (er I c) w k) := fun d2 d3 d4 d5 => (bk_v (M_283e _ w k e15)).trans ((e285_69 _ w k _ _ _ _ _ _).trans (zc_f (fun z => z rfl)))
  refine (e285_0 I w k _ _ _ _).trans ?_
  rcases hf with ⟨h2, rfl⟩ | ⟨h2, h3, rfl⟩ | ⟨h2, h3, h4, rfl⟩
  · refine (zc_f (show ¬ I 31 0 13 = 2 from fun z => h2 ?_)).trans ?_
    · rw [hk.2.2.1] at z
      exact (nI_eq (b := 2) (by omega) (by omega)).mp z
    · refine (bk_n (M_282 I w k 1 h0)).trans ?_
      refine (e285_13 _ w k _ _ _ _ _).trans ?_
      exact tl _ _ _ _
  · obtain ⟨mv, ml⟩ := t_mv hp h2
    refine (zc_t (by rw [hk.2.2.1, h2]; rfl)).trans ?_
    rw [hk.2.2.2 h2]
    refine (bk_v (M_173 I w k _ _ _)).trans ?_
    refine (e285_25 I w k _ _ _ _ _ _).trans ?_
    have hin : ¬ (nI lo ≤ nI (t_ml b (t_e b n p - t_f b n p) (t_f b n p) 0) ∧ nI (t_ml b (t_e b n p - t_f b n p) (t_f b n p) 0) ≤ nI hi) := by
      rw [fa_le, fa_le, nI_toInt hlo, nI_toInt (by omega), nI_toInt (by omega)]
      omega
    refine (zc_f (fun z => z (tff hin))).trans ?_
    refine (bk_n (M_282 I w k 2 h0)).trans ?_
    refine (e285_33 _ w k _ _ _ _ _).trans ?_
    exact tl _ _ _ _
  · obtain ⟨mv, ml⟩ := t_mv hp h2
    have e14 : I 31 0 14 = nI (t_v b n p) := by
      rw [hk.2.2.2 h2]
      rcases mv with ⟨z, -⟩ | ⟨z, -⟩
      · rw [z]
      · omega
    refine (zc_t (by rw [hk.2.2.1, h2]; rfl)).trans ?_
    rw [e14]
    refine (bk_v (M_173 I w k _ _ _)).trans ?_
    refine (e285_25 I w k _ _ _ _ _ _).trans ?_
    have hin : nI lo ≤ nI (t_v b n p) ∧ nI (t_v b n p) ≤ nI hi := ⟨nI_le h3.1 (by omega), nI_le h3.2 (by omega)⟩
    refine (zc_t (show ¬ tf (nI lo ≤ nI (t_v b n p) ∧ nI (t_v b n p) ≤ nI hi) = 0 by rw [tft hin]; decide)).trans ?_
    rw [e14]
    have B : ∀ d2 d5, (rn 282 (a_en 282 [.inr (.inr (some (31, 0))), .inl 3] (MM I w k))).bind (fun o => a_bk 285 282 (62, [some (.inr (.inr (some (31, 0)))), some (.inl (nI lo)), d2, some (.inl x), some (.inl y), d5], [], MM I w k) o (rn 285)) = some (.inl (some (.inl (nI lo))), MM (er I 3) w k) := fun d2 d5 => (bk_n (M_282 I w k 3 h0)).trans ((e285_65 _ w k _ _ _ _ _).trans (tl _ _ _ _))
    by_cases hy0 : y = 0
    · rw [if_pos hy0] at h4
      exact (zc_t hy0).trans ((zc_f h4).trans (B _ _))
    · rw [if_neg hy0] at h4
      exact (zc_f hy0).trans ((zc_f h4).trans (B _ _))
theorem M_286e (I : aI) (w : aW) (k : aQ) (h : ¬ I 31 0 15 = 0) (lo hi : Int32) : rn 286 (a_en 286 [.inr (.inr (some (31, 0))), .inl lo, .inl hi] (MM I w k)) = some (.inl (some (.inl lo)), MM I w k) := (e286_0 I w k _ _).trans ((bk_v (M_285e I w k h _ _ _ _)).trans (e286_8 I w k _ _ _ _))
/-- the statement was read by the reference, or refused -/
def MRes (b : aR) (n : Nat) (I : aI) (w : aW) (k : aQ) (o : Option aO) (x : PR) : Prop := match x with
  | .inr (r', p') => p' ≤ n ∧ ∃ J, o = some (.inl none, MM J w k) ∧ J 24 0 = r' ∧ Okt 0 r' ∧ Mk b n p' J ∧ Fm I J
  | .inl (c, y) => ¬ c = 0 ∧ ∃ J, o = some (.inl none, MM J w k) ∧ J 31 0 15 = c ∧ J 31 0 16 = nI y ∧ Fe I J
theorem rm_go {I0 I : aI} {w : aW} {k : aQ} {o : Option aO} (hn : n ≤ 400) (hy : ∀ x, x < n → By (b x)) (hX : Mx b n I) {p : Nat} (hp : p ≤ n) (hk : Mk b n p I) (h0 : I 31 0 15 = 0) (lo hi : Nat) (hlo : lo < 2 ^ 31) (hhi : hi < 99999) {f : Nat × Nat → PR} (hI : Fm I0 I) (hF : ∀ A, ¬ A 31 0 15 = 0 → rn 286 (a_en 286 [.inr (.inr (some (31, 0))), .inl (nI lo), .inl (nI hi)] (MM I w k)) = some (.inl (some (.inl (nI lo))), MM A w k) → ∃ J, o = some (.inl none, MM J w k) ∧ J 31 0 15 = A 31 0 15 ∧ J 31 0 16 = A 31 0 16 ∧ Fm A J) (hG : ∀ (v p' : Nat) (J : aI), p' ≤ n → lo ≤ v → v ≤ hi → rn 286 (a_en 286 [.inr (.inr (some (31, 0))), .inl (nI lo), .inl (nI hi)] (MM I w k)) = some (.inl (some (.inl (nI v))), MM J w k) → Mk b n p' J → J 24 = I 24 → Fm I0 J → Mx b n J → J 31 0 15 = 0 → MRes b n I0 w k o (f (v, p'))) : MRes b n I0 w k o (bnd (rdN b n p lo hi) f) := by
  have he := t_e_r b hp
  have bad : ∀ c : Int32, ¬ c = 0 → ((¬ t_k b n p = 2 ∧ c = 1) ∨ (t_k b n p = 2 ∧ ¬ (lo ≤ t_v b n p ∧ t_v b n p ≤ hi) ∧ c = 2) ∨ (t_k b n p = 2 ∧ (lo ≤ t_v b n p ∧ t_v b n p ≤ hi) ∧ (¬ if (0 : Int32) = 0 then nI (t_v b n p) ≤ nI hi else nI hi ≤ nI (t_v b n p)) ∧ c = 3)) → MRes b n I0 w k o (.inl (c, t_f b n p)) := by
    intro c hc hf
    have h := (e286_0 I w k (nI lo) (nI hi)).trans ((bk_v (M_285f I w k hp hk h0 hlo hhi (nI hi) 0 hc hf)).trans (e286_8 _ w k _ _ _ _))
    obtain ⟨J, j1, j2, j3, j4⟩ := hF (er I c) (by rw [er_15]; exact hc) h
    refine ⟨hc, J, j1, by rw [j2, er_15], by rw [j3, er_16]; exact hk.2.1, (hI.fe.trans (er_fe I c)).trans j4.fe⟩
  unfold rdN
  by_cases h2 : t_k b n p = 2
  · rw [if_pos h2]
    by_cases h3 : lo ≤ t_v b n p ∧ t_v b n p ≤ hi
    · rw [if_pos h3]
      obtain ⟨J, j1, j2, j3⟩ := M_285 I w k hn hy hX hp hk h0 hhi h2 h3 (nI hi) 0 (by rw [if_pos rfl]; exact nI_le h3.2 (by omega))
      have h := (e286_0 I w k (nI lo) (nI hi)).trans ((bk_v j1).trans (e286_8 _ w k _ _ _ _))
      exact hG _ _ J he.2.1 h3.1 h3.2 h j2 (funext (fun q => funext (fun j => j3 24 q j (by omega)))) (hI.trans j3.fm) (hX.fe j3.fm.fe) (by rw [j3 _ _ _ (by omega)]; exact h0)
    · rw [if_neg h3]; exact bad 2 (by decide) (Or.inr (Or.inl ⟨h2, h3, rfl⟩))
  · rw [if_neg h2]; exact bad 1 (by decide) (Or.inl ⟨h2, rfl⟩)
theorem M_287 (I : aI) (w : aW) (k : aQ) {r : aR} (hn : n ≤ 400) (hy : ∀ x, x < n → By (b x)) (hX : Mx b n I) {p : Nat} (hp : p ≤ n) (hk : Mk b n (t_e b n p) I) (h0 : I 31 0 15 = 0) (hr : I 24 0 = r) (hO : Okt 0 r) : MRes b n I w k (rn 287 (a_en 287 [.inr (.inr (some (31, 0)))] (MM I w k))) (sOrb b n r p) := by
  have he := t_e_r b hp
  have t3 : ∀ (A : aI) (x1 x2 y : Int32) (d3 : Option aV), ∃ J, rn 287 (27, [some (.inr (.inr (some (31, 0)))), some (.inl x1), some (.inl x2), d3], [.inl y], MM A w k) = some (.inl none, MM J w k) ∧ J 31 = A 31 ∧ Fm A J ∧ J 24 0 = upd (upd (upd (A 24 0) 0 x1) 1 x2) 2 y := fun A x1 x2 y d3 => ⟨pR A (upd (upd (upd (A 24 0) 0 x1) 1 x2) 2 y), (e287_27 A w k _ _ _ _).trans ((bk_n (M_186 A w k _ _ _)).trans (e287_35 _ w k _ _ _ _)), rfl, pR_fm A _, rfl⟩
  refine rm_go hn hy hX he.2.1 hk h0 60 200 (by omega) (by omega) (Fm.refl I) (fun A hA h => ?_) (fun v1 p1 J1 l1 a1 b1 h1 k1 r1 f1 x1 z1 => ?_)
  · obtain ⟨J, j1, j2, j3, -⟩ := t3 A (nI 60) 0 0 none
    exact ⟨J, (e287_0 I w k).trans ((bk_v h).trans ((e287_9 A w k _ _ _ _).trans ((bk_v (M_286e A w k hA 0 359)).trans ((e287_18 A w k _ _ _ _).trans ((bk_v (M_286e A w k hA 0 359)).trans j1))))), by rw [j2], by rw [j2], j3⟩
  have o1 := (e287_0 I w k).trans ((bk_v h1).trans (e287_9 J1 w k _ _ _ _))
  refine rm_go hn hy x1 l1 k1 z1 0 359 (by omega) (by omega) f1 (fun A hA h => ?_) (fun v2 p2 J2 l2 a2 b2 h2 k2 r2 f2 x2 z2 => ?_)
  · obtain ⟨J, j1, j2, j3, -⟩ := t3 A (nI v1) (nI 0) 0 none
    exact ⟨J, o1.trans ((bk_v h).trans ((e287_18 A w k _ _ _ _).trans ((bk_v (M_286e A w k hA 0 359)).trans j1))), by rw [j2], by rw [j2], j3⟩
  have o2 := o1.trans ((bk_v h2).trans (e287_18 J2 w k _ _ _ _))
  refine rm_go hn hy x2 l2 k2 z2 0 359 (by omega) (by omega) f2 (fun A hA h => ?_) (fun v3 p3 J3 l3 a3 b3 h3 k3 r3 f3 x3 z3 => ?_)
  · obtain ⟨J, j1, j2, j3, -⟩ := t3 A (nI v1) (nI v2) (nI 0) none
    exact ⟨J, o2.trans ((bk_v h).trans j1), by rw [j2], by rw [j2], j3⟩
  obtain ⟨J, j1, j2, j3, j4⟩ := t3 J3 (nI v1) (nI v2) (nI v3) none
  refine ⟨l3, J, o2.trans ((bk_v h3).trans j1), ?_, hO.orb ⟨in_I a1 b1 (by decide), in_I a2 b2 (by decide), in_I a3 b3 (by decide)⟩, ?_, f3.trans j3⟩
  · rw [j4, r3, r2, r1, hr]
  · unfold Mk; rw [j2]; exact k3
theorem M_288 (I : aI) (w : aW) (k : aQ) {r : aR} (hn : n ≤ 400) (hy : ∀ x, x < n → By (b x)) (hX : Mx b n I) {p : Nat} (hp : p ≤ n) (hk : Mk b n (t_e b n p) I) (h0 : I 31 0 15 = 0) (hr : I 24 0 = r) (hO : Okt 0 r) (hS : ¬ nS r = 4) : MRes b n I w k (rn 288 (a_en 288 [.inr (.inr (some (31, 0)))] (MM I w k))) (sSta b n r p) := by
  have he := t_e_r b hp
  have h4 := hO.rs.1.2
  unfold sSta
  rw [if_neg hS]
  have t6 : ∀ (A : aI), ¬ A 31 0 15 = 0 → ∀ (x1 x2 x3 x4 x5 y : Int32) (d6 d7 : Option aV), rn 288 (50, [some (.inr (.inr (some (31, 0)))), some (.inl x1), some (.inl x2), some (.inl x3), some (.inl x4), some (.inl x5), d6, d7], [.inl y], MM A w k) = some (.inl none, MM A w k) := fun A hA x1 x2 x3 x4 x5 y d6 d7 => (e288_50 A w k _ _ _ _ _ _ _ _).trans ((bk_v (M_283e A w k hA)).trans ((e288_56 A w k _ _ _ _ _ _ _ _).trans (zc_t rfl)))
  have t5 : ∀ (A : aI), ¬ A 31 0 15 = 0 → ∀ (x1 x2 x3 x4 y : Int32) (d5 d6 d7 : Option aV), rn 288 (41, [some (.inr (.inr (some (31, 0)))), some (.inl x1), some (.inl x2), some (.inl x3), some (.inl x4), d5, d6, d7], [.inl y], MM A w k) = some (.inl none, MM A w k) := fun A hA x1 x2 x3 x4 y d5 d6 d7 => (e288_41 A w k _ _ _ _ _ _ _ _).trans ((bk_v (M_286e A w k hA 0 99)).trans (t6 A hA _ _ _ _ _ _ _ _))
  have t4 : ∀ (A : aI), ¬ A 31 0 15 = 0 → ∀ (x1 x2 x3 y : Int32) (d4 d5 d6 d7 : Option aV), rn 288 (32, [some (.inr (.inr (some (31, 0)))), some (.inl x1), some (.inl x2), some (.inl x3), d4, d5, d6, d7], [.inl y], MM A w k) = some (.inl none, MM A w k) := fun A hA x1 x2 x3 y d4 d5 d6 d7 => (e288_32 A w k _ _ _ _ _ _ _ _).trans ((bk_v (M_286e A w k hA 1 20)).trans (t5 A hA _ _ _ _ _ _ _ _))
  have t3 : ∀ (A : aI), ¬ A 31 0 15 = 0 → ∀ (x1 x2 y : Int32) (d3 d4 d5 d6 d7 : Option aV), rn 288 (24, [some (.inr (.inr (some (31, 0)))), some (.inl x1), some (.inl x2), d3, d4, d5, d6, d7], [.inl y], MM A w k) = some (.inl none, MM A w k) := fun A hA x1 x2 y d3 d4 d5 d6 d7 => (e288_24 A w k _ _ _ _ _ _ _ _).trans ((bk_v (M_286e A w k hA 0 59)).trans (t4 A hA _ _ _ _ _ _ _ _))
  have t2 : ∀ (A : aI), ¬ A 31 0 15 = 0 → ∀ (x1 y : Int32) (d2 d3 d4 d5 d6 d7 : Option aV), rn 288 (16, [some (.inr (.inr (some (31, 0)))), some (.inl x1), d2, d3, d4, d5, d6, d7], [.inl y], MM A w k) = some (.inl none, MM A w k) := fun A hA x1 y d2 d3 d4 d5 d6 d7 => (e288_16 A w k _ _ _ _ _ _ _ _).trans ((bk_v (M_286e A w k hA 1 30)).trans (t3 A hA _ _ _ _ _ _ _ _))
  have t1 : ∀ (A : aI), ¬ A 31 0 15 = 0 → ∀ (y : Int32) (d1 d2 d3 d4 d5 d6 d7 : Option aV), rn 288 (8, [some (.inr (.inr (some (31, 0)))), d1, d2, d3, d4, d5, d6, d7], [.inl y], MM A w k) = some (.inl none, MM A w k) := fun A hA y d1 d2 d3 d4 d5 d6 d7 => (e288_8 A w k _ _ _ _ _ _ _ _).trans ((bk_v (M_286e A w k hA 0 90)).trans (t2 A hA _ _ _ _ _ _ _ _))
  refine rm_go hn hy hX he.2.1 hk h0 0 359 (by omega) (by omega) (Fm.refl I) (fun A hA h => ⟨A, (e288_0 I w k).trans ((bk_v h).trans (t1 A hA _ _ _ _ _ _ _ _)), rfl, rfl, Fm.refl A⟩) (fun v0 p0 J0 l0 a0 b0 h0 k0 r0 f0 x0 z0 => ?_)
  have o0 := (e288_0 I w k).trans ((bk_v h0).trans (e288_8 J0 w k _ _ _ _ _ _ _ _))
  refine rm_go hn hy x0 l0 k0 z0 0 90 (by omega) (by omega) f0 (fun A hA h => ⟨A, o0.trans ((bk_v h).trans (t2 A hA _ _ _ _ _ _ _ _)), rfl, rfl, Fm.refl A⟩) (fun v1 p1 J1 l1 a1 b1 h1 k1 r1 f1 x1 z1 => ?_)
  have o1 := o0.trans ((bk_v h1).trans (e288_16 J1 w k _ _ _ _ _ _ _ _))
  refine rm_go hn hy x1 l1 k1 z1 1 30 (by omega) (by omega) f1 (fun A hA h => ⟨A, o1.trans ((bk_v h).trans (t3 A hA _ _ _ _ _ _ _ _)), rfl, rfl, Fm.refl A⟩) (fun v2 p2 J2 l2 a2 b2 h2 k2 r2 f2 x2 z2 => ?_)
  have o2 := o1.trans ((bk_v h2).trans (e288_24 J2 w k _ _ _ _ _ _ _ _))
  refine rm_go hn hy x2 l2 k2 z2 0 59 (by omega) (by omega) f2 (fun A hA h => ⟨A, o2.trans ((bk_v h).trans (t4 A hA _ _ _ _ _ _ _ _)), rfl, rfl, Fm.refl A⟩) (fun v3 p3 J3 l3 a3 b3 h3 k3 r3 f3 x3 z3 => ?_)
  have o3 := o2.trans ((bk_v h3).trans (e288_32 J3 w k _ _ _ _ _ _ _ _))
  refine rm_go hn hy x3 l3 k3 z3 1 20 (by omega) (by omega) f3 (fun A hA h => ⟨A, o3.trans ((bk_v h).trans (t5 A hA _ _ _ _ _ _ _ _)), rfl, rfl, Fm.refl A⟩) (fun v4 p4 J4 l4 a4 b4 h4 k4 r4 f4 x4 z4 => ?_)
  have o4 := o3.trans ((bk_v h4).trans (e288_41 J4 w k _ _ _ _ _ _ _ _))
  refine rm_go hn hy x4 l4 k4 z4 0 99 (by omega) (by omega) f4 (fun A hA h => ⟨A, o4.trans ((bk_v h).trans (t6 A hA _ _ _ _ _ _ _ _)), rfl, rfl, Fm.refl A⟩) (fun v5 p5 J5 l5 a5 b5 h5 k5 r5 f5 x5 z5 => ?_)
  have o5 := o4.trans ((bk_v h5).trans ((e288_50 J5 w k _ _ _ _ _ _ _ _).trans ((bk_v (M_283 J5 w k z5)).trans ((e288_56 J5 w k _ _ _ _ _ _ _ _).trans (zc_f (show ¬ (1 : Int32) = 0 by decide))))))
  have e24 : J5 24 0 = r := by rw [r5, r4, r3, r2, r1, r0, hr]
  have m := M_188 J5 w k (nI v0) (nI v1) (nI v2) (nI v3) (nI v4) (nI v5) (by rw [e24]; exact hO.rs.1.1) (by rw [e24]; omega)
  rw [e24] at m
  refine ⟨l5, _, o5.trans ((bk_v m).trans (e288_72 _ w k _ _ _ _ _ _ _ _ _)), rfl, hO.ast (by omega) ⟨in_I a0 b0 (by decide), in_I a1 b1 (by decide), in_I a2 b2 (by decide), in_I a3 b3 (by decide), in_I a4 b4 (by decide), in_I a5 b5 (by decide)⟩, k5, f5.trans (pR_fm J5 _)⟩
/-- the memory in use -/
theorem iu_r {r : aR} (ho : oRR (nR r) r) : ∀ (d j a : Nat), j + d = nR r → ∃ u, u ≤ a + 24 * d ∧ m_iu r d j (nI a) = nI u := by
  intro d
  induction d with
  | zero => intro j a _; exact ⟨a, by omega, rfl⟩
  | succ d ih =>
    intro j a hj
    obtain ⟨⟨z, z1, z2, -⟩, -⟩ := ho j (by omega)
    unfold m_iu
    rw [z2, Int32.add_zero, nI_add]
    split
    · obtain ⟨u, u1, u2⟩ := ih (j + 1) (a + z) (by omega)
      exact ⟨u, by omega, u2⟩
    · obtain ⟨u, u1, u2⟩ := ih (j + 1) a (by omega)
      exact ⟨u, by omega, u2⟩
theorem Okt.use {T : Nat} {r : aR} (h : Okt T r) : ∃ u, u ≤ 960 ∧ m_use r = nI u := by
  obtain ⟨u, u1, u2⟩ := iu_r h.2.1 (nR r) 0 0 (by omega)
  have := h.rq.2
  exact ⟨u, by omega, u2⟩
theorem M_289 (I : aI) (w : aW) (k : aQ) {r : aR} (hn : n ≤ 400) (hy : ∀ x, x < n → By (b x)) (hX : Mx b n I) {p : Nat} (hp : p ≤ n) (hk : Mk b n (t_e b n p) I) (h0 : I 31 0 15 = 0) (hr : I 24 0 = r) (hO : Okt 0 r) (hS : ¬ nR r = 40) : MRes b n I w k (rn 289 (a_en 289 [.inr (.inr (some (31, 0)))] (MM I w k))) (sRec b n r p) := by
  have he := t_e_r b hp
  have h40 := hO.rq.2
  unfold sRec
  rw [if_neg hS]
  obtain ⟨u, u1, u2⟩ := hO.use
  obtain ⟨m, m1, m2, m3⟩ := hO.1.2.2.2.2.2.1.2.2.1
  have m197 := M_197 I w k (by rw [hr]; exact hO.rq)
  rw [hr] at m197
  have o0 := (e289_0 I w k).trans ((bk_v m197).trans (e289_15 I w k _ _ _ _ _))
  rw [hr] at o0
  have t2 : ∀ (A : aI), ¬ A 31 0 15 = 0 → ∀ (x1 y : Int32) (d2 d3 : Option aV), rn 289 (28, [some (.inr (.inr (some (31, 0)))), some (.inl x1), d2, d3], [.inl y], MM A w k) = some (.inl none, MM A w k) := fun A hA x1 y d2 d3 => (e289_28 A w k _ _ _ _).trans ((bk_v (M_283e A w k hA)).trans ((e289_33 A w k _ _ _ _).trans (zc_t rfl)))
  have t1 : ∀ (A : aI), ¬ A 31 0 15 = 0 → ∀ (y : Int32) (d1 d2 d3 : Option aV), rn 289 (20, [some (.inr (.inr (some (31, 0)))), d1, d2, d3], [.inl y], MM A w k) = some (.inl none, MM A w k) := fun A hA y d1 d2 d3 => (e289_20 A w k _ _ _ _).trans ((bk_v (M_286e A w k hA 0 9)).trans (t2 A hA _ _ _ _))
  have bad : ∀ c : Int32, ¬ c = 0 → ((¬ t_k b n (t_e b n p) = 2 ∧ c = 1) ∨ (t_k b n (t_e b n p) = 2 ∧ ¬ (1 ≤ t_v b n (t_e b n p) ∧ t_v b n (t_e b n p) ≤ 24) ∧ c = 2) ∨ (t_k b n (t_e b n p) = 2 ∧ (1 ≤ t_v b n (t_e b n p) ∧ t_v b n (t_e b n p) ≤ 24) ∧ (¬ if (0 : Int32) = 0 then nI (t_v b n (t_e b n p)) ≤ r 8 - m_use r else r 8 - m_use r ≤ nI (t_v b n (t_e b n p))) ∧ c = 3)) → MRes b n I w k (rn 289 (a_en 289 [.inr (.inr (some (31, 0)))] (MM I w k))) (.inl (c, t_f b n (t_e b n p))) := by
    intro c hc hf
    have e15 : ¬ er I c 31 0 15 = 0 := by rw [er_15]; exact hc
    refine ⟨hc, er I c, o0.trans ((bk_v (M_285f I w k (lo := 1) (hi := 24) he.2.1 hk h0 (by omega) (by omega) (r 8 - m_use r) 0 hc hf)).trans (t1 _ e15 _ _ _ _)), er_15 I c, (er_16 I c).trans hk.2.1, er_fe I c⟩
  have efit : ∀ v, v ≤ 24 → ((nI v ≤ r 8 - m_use r) ↔ (m_use r + nI v ≤ r 8)) := fun v hv => by
    rw [u2, m3, nI_add, fa_le, fa_le, nI_toInt (show v < 2 ^ 31 by omega), nI_toInt (show u + v < 2 ^ 31 by omega), nI_toInt (show m < 2 ^ 31 by omega)]
    have e : (nI m - nI u).toInt = (m : Int) - u := by
      rw [Int32.toInt_sub, nI_toInt (by omega), nI_toInt (by omega), Int.bmod_eq_of_le (by omega) (by omega)]
    rw [e]; omega
  unfold rdN
  by_cases h2 : t_k b n (t_e b n p) = 2
  · rw [if_pos h2]
    by_cases h3 : 1 ≤ t_v b n (t_e b n p) ∧ t_v b n (t_e b n p) ≤ 24
    · rw [if_pos h3]
      show MRes b n I w k _ (if m_use r + nI (t_v b n (t_e b n p)) ≤ r 8 then _ else _)
      by_cases h5 : m_use r + nI (t_v b n (t_e b n p)) ≤ r 8
      · rw [if_pos h5]
        obtain ⟨J1, j1, j2, j3⟩ := M_285 I w k hn hy hX he.2.1 hk h0 (lo := 1) (hi := 24) (by omega) h2 h3 (r 8 - m_use r) 0 (by rw [if_pos rfl]; exact (efit _ h3.2).mpr h5)
        have he2 := t_e_r b he.2.1
        have z1 : J1 31 0 15 = 0 := by rw [j3 _ _ _ (by omega)]; exact h0
        have e24 : J1 24 0 = r := by rw [show J1 24 0 = I 24 0 from funext (fun j => j3 24 0 j (by omega))]; exact hr
        have o1 := o0.trans ((bk_v j1).trans (e289_20 J1 w k _ _ _ _))
        refine rm_go hn hy (hX.fe j3.fm.fe) he2.2.1 j2 z1 0 9 (by omega) (by omega) j3.fm (fun A hA h => ⟨A, o1.trans ((bk_v h).trans (t2 A hA _ _ _ _)), rfl, rfl, Fm.refl A⟩) (fun v2 p2 J2 l2 a2 b2 h2' k2 r2 f2 x2 z2 => ?_)
        have o2 := o1.trans ((bk_v h2').trans ((e289_28 J2 w k _ _ _ _).trans ((bk_v (M_283 J2 w k z2)).trans ((e289_33 J2 w k _ _ _ _).trans (zc_f (show ¬ (1 : Int32) = 0 by decide))))))
        have e24b : J2 24 0 = r := by rw [r2]; exact e24
        have m := M_218 J2 w k (by rw [e24b]; exact hO.rq) (by rw [e24b]; omega) (nI (t_v b n (t_e b n p))) (nI v2)
        rw [e24b] at m
        exact ⟨l2, _, o2.trans ((bk_v m).trans (e289_42 _ w k _ _ _ _ _)), rfl, hO.arc (by omega) (by omega) (in_I h3.1 h3.2 (by decide)) (in_I a2 b2 (by decide)), k2, f2.trans (pR_fm J2 _)⟩
      · rw [if_neg h5]
        exact bad 3 (by decide) (Or.inr (Or.inr ⟨h2, h3, by rw [if_pos rfl]; exact fun z => h5 ((efit _ h3.2).mp z), rfl⟩))
    · rw [if_neg h3]; exact bad 2 (by decide) (Or.inr (Or.inl ⟨h2, h3, rfl⟩))
  · rw [if_neg h2]; exact bad 1 (by decide) (Or.inl ⟨h2, rfl⟩)
end
