/-! ===== the spare simulation; saved states ===== -/
theorem N_new (I : aI) (w : aW) (k : aQ) {n : Nat} (hc : Cn k.2.1 n) (r : aR) : ∃ (I' : aI) (k' : aQ), rn 39 (a_en 39 [.inr (.inr (some (20, n)))] (a_mk (MM I w k) 20 10)) = some (.inl none, MM I' w k') ∧ Sim 0 n I' (m_bg r) ∧ Fn n I I' ∧ Cn k'.2.1 (n + 1) ∧ (∀ s, (s < 4 ∨ 20 < s ∨ s = 7 ∨ s = 8) → k'.2.1 s = k.2.1 s) ∧ Lk2 k.1 k'.1 ∧ k'.2.2.1 = k.2.2.1 + 276 ∧ k'.2.2.2 = k.2.2.2 + 6766 := N_39 (w := w) (B := wr w) (fun _ _ => rfl) I k hc r
theorem wr_sp (w : aW) (n : Nat) : a_setR (wr w) 30 0 4 (some (20, n)) = wr (some n, w.2) := by
  funext s q k
  rw [gR]
  by_cases h : s = 30 ∧ k = 4 ∧ q = 0
  · obtain ⟨rfl, rfl, rfl⟩ := h
    rw [if_pos ⟨rfl, rfl, rfl⟩]; rfl
  · rw [if_neg h]
    unfold wr
    split
    all_goals try rfl
    split
    all_goals try rfl
    split
    all_goals try rfl
    exact absurd ⟨rfl, rfl, rfl⟩ h
theorem wr_s0 (w : aW) (n : Nat) : a_setR (wr w) 22 0 0 (some (20, n)) = wr (w.1, some n, w.2.2) := by
  funext s q k
  rw [gR]
  by_cases h : s = 22 ∧ k = 0 ∧ q = 0
  · obtain ⟨rfl, rfl, rfl⟩ := h
    rw [if_pos ⟨rfl, rfl, rfl⟩]; rfl
  · rw [if_neg h]
    unfold wr
    split
    all_goals try rfl
    split
    all_goals try rfl
    split
    all_goals try rfl
    exact absurd ⟨rfl, rfl, rfl⟩ h
theorem wr_s1 (w : aW) (n : Nat) : a_setR (wr w) 22 0 1 (some (20, n)) = wr (w.1, w.2.1, some n, w.2.2.2) := by
  funext s q k
  rw [gR]
  by_cases h : s = 22 ∧ k = 1 ∧ q = 0
  · obtain ⟨rfl, rfl, rfl⟩ := h
    rw [if_pos ⟨rfl, rfl, rfl⟩]; rfl
  · rw [if_neg h]
    unfold wr
    split
    all_goals try rfl
    split
    all_goals try rfl
    split
    all_goals try rfl
    exact absurd ⟨rfl, rfl, rfl⟩ h
theorem Spr_s (I : aI) (w : aW) (k : aQ) {i : Nat} (hw : w.1 = some i) : Spr I w k I w k i := by
  have hv : wr w 30 0 4 = some (20, i) := by
    show w.1.map (fun i => (20, i)) = _
    rw [hw]; rfl
  exact y_t (y_aln 1 rfl rfl rfl) <| y_t (y_gr 4 (some (20, i)) rfl (by decide +kernel) hv rfl) <| y_t (y_inn 18 rfl rfl) <| y_t (y_aln 19 rfl rfl rfl) <| y_t (y_gr 22 (some (20, i)) rfl (by decide +kernel) hv rfl) <| y_rao rfl rfl
theorem Spr_n (I : aI) (w : aW) (k : aQ) {n : Nat} (hw : w.1 = none) (hc : Cn k.2.1 n) (r : aR) : ∃ (I' : aI) (k' : aQ), Spr I w k I' (some n, w.2) k' n ∧ Sim 0 n I' (m_bg r) ∧ Fn n I I' ∧ Cn k'.2.1 (n + 1) ∧ (∀ s, (s < 4 ∨ 20 < s ∨ s = 7 ∨ s = 8) → k'.2.1 s = k.2.1 s) ∧ Lk2 k.1 k'.1 ∧ k'.2.2.1 = k.2.2.1 + 276 ∧ k'.2.2.2 = k.2.2.2 + 6766 := by
  obtain ⟨I', k', i1, i2, i3, i4, i5⟩ := N_new I w k hc r
  have h20 : k.2.1 20 = n := hc.1 20 (by omega)
  refine ⟨I', k', ?_, i2, i3, i4, i5⟩
  have hv : wr w 30 0 4 = none := by
    show w.1.map (fun i => (20, i)) = _
    rw [hw]; rfl
  refine y_t (y_aln 1 rfl rfl rfl) <| y_t (y_gr 4 none rfl (by decide +kernel) hv rfl) <| y_t (y_inz 7 rfl rfl rfl) <| y_t (y_aln 8 rfl rfl rfl) <| y_t (n_new 11 (s := 20) rfl (by decide +kernel) rfl) <| y_t (n_dupr 12 rfl rfl) ?_
  show rn 165 (12, _, .inr (.inr (some (20, k.2.1 20))) :: .inr (.inr (some (20, k.2.1 20))) :: _, a_mk (MM I w k) 20 10) = _
  rw [h20]
  refine y_t (n_xp [.inr (.inr (some (20, n)))] [.inr (.inr (some (20, n))), .inr (.inr (some (30, 0)))] rfl (g := 39) (kd := 2) (n := 1) (by decide +kernel) rfl rfl rfl rfl rfl (n_k2 (by decide +kernel))) ?_
  refine (bk_n i1).trans ?_
  refine y_t (n_pr 18 (s := 30) (q := 0) (j := 4) rfl (by decide +kernel) (by decide +kernel) rfl) ?_
  show rn 165 (18, _, _, (I', a_setR (wr w) 30 0 4 (some (20, n)), k'.1, k'.2.1, k'.2.2.1, k'.2.2.2)) = _
  rw [wr_sp]
  show rn 165 (18, _, _, MM I' (some n, w.2) k') = _
  exact y_t (y_aln 19 rfl rfl rfl) <| y_t (y_gr 22 (some (20, n)) (j := 4) rfl (by decide +kernel) rfl rfl) <| y_rao rfl rfl
/-- the saved simulation of a slot -/
def sv (w : aW) (j : Nat) : Option Nat := if j = 0 then w.2.1 else w.2.2.1
def svs (w : aW) (j n : Nat) : aW := if j = 0 then (w.1, some n, w.2.2) else (w.1, w.2.1, some n, w.2.2.2)
theorem wr_sv (w : aW) {j : Nat} (hj : j < 2) : wr w 22 0 j = (sv w j).map (fun i => (20, i)) := by
  rcases (by omega : j = 0 ∨ j = 1) with rfl | rfl <;> rfl
theorem wr_svs (w : aW) {j n : Nat} (hj : j < 2) : a_setR (wr w) 22 0 j (some (20, n)) = wr (svs w j n) := by
  rcases (by omega : j = 0 ∨ j = 1) with rfl | rfl
  · exact wr_s0 w n
  · exact wr_s1 w n
section
variable {r : aR}
theorem C_157r (I : aI) (w : aW) (k : aQ) (x : Int32) : rn 157 (a_en 157 [.inr (.inr (some (30, 0))), .inl x] (MM I w k)) = (rn 160 (a_en 160 [.inl x, .inl 0, .inl 1] (MM I w k))).bind (fun o => a_bk 157 160 (3, [some (.inr (.inr (some (30, 0)))), some (.inl x), none], [], MM I w k) o (rn 157)) :=
  y_t (y_iln 1 rfl rfl rfl) <| y_t (y_ic 2 0 rfl rfl rfl) <| y_t (y_ic 3 1 rfl rfl rfl) <| y_xs [.inl x, .inl 0, .inl 1] [] rfl (g := 160) (kd := 1) (n := 3) (by decide +kernel) rfl rfl rfl rfl rfl rfl
theorem C_158r (I : aI) (w : aW) (k : aQ) (x : Int32) : rn 158 (a_en 158 [.inr (.inr (some (30, 0))), .inl x] (MM I w k)) = (rn 160 (a_en 160 [.inl x, .inl 0, .inl 1] (MM I w k))).bind (fun o => a_bk 158 160 (3, [some (.inr (.inr (some (30, 0)))), some (.inl x), none], [], MM I w k) o (rn 158)) :=
  y_t (y_iln 1 rfl rfl rfl) <| y_t (y_ic 2 0 rfl rfl rfl) <| y_t (y_ic 3 1 rfl rfl rfl) <| y_xs [.inl x, .inl 0, .inl 1] [] rfl (g := 160) (kd := 1) (n := 3) (by decide +kernel) rfl rfl rfl rfl rfl rfl
theorem C_157f (I : aI) (w : aW) (k : aQ) {x : Int32} (h : ¬ (0 ≤ x ∧ x ≤ 1)) : rn 157 (a_en 157 [.inr (.inr (some (30, 0))), .inl x] (MM I w k)) = some (.inr 0, MM I w (kx k)) := (C_157r I w k x).trans (bk_x (C_160f I w k h) (by decide +kernel) (by decide +kernel))
theorem C_158f (I : aI) (w : aW) (k : aQ) {x : Int32} (h : ¬ (0 ≤ x ∧ x ≤ 1)) : rn 158 (a_en 158 [.inr (.inr (some (30, 0))), .inl x] (MM I w k)) = some (.inr 0, MM I w (kx k)) := (C_158r I w k x).trans (bk_x (C_160f I w k h) (by decide +kernel) (by decide +kernel))
theorem sl_in {j : Nat} (hj : j < 2) : (0 : Int32) ≤ nI j ∧ nI j ≤ 1 := in_I (lo := 0) (hi := 1) (by omega) (by omega) (by decide)
theorem C_157s (I : aI) (w : aW) (k : aQ) {i j : Nat} (hj : j < 2) (hw : sv w j = some i) (hi : i ≠ 0) (hS : Sim 0 0 I r) (hR : Rs r) (hQ : Rq r) (hC : Rc r) : ∃ J, rn 157 (a_en 157 [.inr (.inr (some (30, 0))), .inl (nI j)] (MM I w k)) = some (.inl none, MM J w k) ∧ Sim 0 i J r ∧ Fr i I J := by
  obtain ⟨J, j1, j2, j3⟩ := C_41 I w k (i := i) (l := 0) (fun z => hi z.symm) hS hR hQ hC
  refine ⟨J, ?_, j2, j3⟩
  have hv : wr w 22 0 (nI j).toNatClampNeg = some (20, i) := by rw [nI_clamp (by omega), wr_sv w hj, hw]; rfl
  refine (C_157r I w k _).trans ((bk_n (C_160 I w k (sl_in hj))).trans ?_)
  refine y_t (y_aln 7 rfl rfl rfl) <| y_t (y_gr 10 (some (22, 0)) (j := 2) rfl (by decide +kernel) rfl rfl) <| y_t (y_iln 11 rfl rfl rfl) <| y_t (y_aat 12 2 (some (20, i)) rfl rfl rfl (z_in hj (by decide)) hv rfl) <| y_t (y_asn 13 [some (.inr (.inr (some (30, 0)))), some (.inl (nI j)), some (.inr (.inr (some (20, i))))] rfl rfl rfl rfl) <| y_t (y_aln 14 rfl rfl rfl) <| y_t (y_inn 32 rfl rfl) <| y_t (y_aln 33 rfl rfl rfl) <| y_t (y_aln 34 rfl rfl rfl) <| y_t (y_gr 37 (some (20, 0)) (j := 0) rfl (by decide +kernel) rfl rfl) <| y_t (y_xv [.inr (.inr (some (20, i))), .inr (.inr (some (20, 0)))] [] rfl (g := 41) (kd := 0) (n := 2) (by decide +kernel) rfl rfl rfl rfl rfl (y_rk fR_41_20)) ?_
  refine (bk_n j1).trans ?_
  exact y_rv rfl (by decide +kernel)
theorem C_157n (I : aI) (w : aW) (k : aQ) {n j : Nat} (hj : j < 2) (hw : sv w j = none) (hc : Cn k.2.1 n) (hn : n ≠ 0) (hS : Sim 0 0 I r) (hR : Rs r) (hQ : Rq r) (hC : Rc r) : ∃ (J : aI) (k' : aQ), rn 157 (a_en 157 [.inr (.inr (some (30, 0))), .inl (nI j)] (MM I w k)) = some (.inl none, MM J (svs w j n) k') ∧ Sim 0 n J r ∧ Fn n I J ∧ Cn k'.2.1 (n + 1) ∧ (∀ s, (s < 4 ∨ 20 < s ∨ s = 7 ∨ s = 8) → k'.2.1 s = k.2.1 s) ∧ Lk2 k.1 k'.1 ∧ k'.2.2.1 = k.2.2.1 + 276 ∧ k'.2.2.2 = k.2.2.2 + 6766 := by
  obtain ⟨A, k', a1, a2, a3, a4, a5⟩ := N_new I w k hc r
  have h20 : k.2.1 20 = n := hc.1 20 (by omega)
  have hS0 : Sim 0 0 A r := by
    obtain ⟨g1, g2, g3, g4, g5, g6⟩ := hS
    have f : ∀ s q, ¬ own n s q → s ≠ 11 → s ≠ 12 → s ≠ 16 → A s q = I s q := a3
    have h4 := hR.1.2
    have h40 := hQ.2
    refine ⟨?_, ?_, ?_, ?_, ?_, ?_⟩
    · unfold kLow at g1 ⊢; rw [f 9 0 (fun z => hn (show 0 = n from z).symm) (by omega) (by omega) (by omega), f 10 0 (fun z => hn (show 0 = n from z).symm) (by omega) (by omega) (by omega), f 20 0 (fun z => hn (show 0 = n from z).symm) (by omega) (by omega) (by omega)]; exact g1
    · unfold kFig at g2 ⊢; rw [f 13 0 (fun z => hn (show 0 = n from z).symm) (by omega) (by omega) (by omega)]; exact g2
    · intro s hs
      rw [f 18 _ (fun z => by have z : (4 * 0 + s) / 4 = n := z; omega) (by omega) (by omega) (by omega), f 19 _ (fun z => by have z : (4 * 0 + s) / 4 = n := z; omega) (by omega) (by omega) (by omega)]; exact g3 s hs
    · unfold kPha at g4 ⊢; rw [f 17 0 (fun z => hn (show 0 = n from z).symm) (by omega) (by omega) (by omega)]; exact g4
    · intro q hq
      rw [f 14 _ (fun z => by have z : (40 * 0 + q) / 40 = n := z; omega) (by omega) (by omega) (by omega), f 6 _ (fun z => by have z : (40 * 0 + q) / 40 = n := z; omega) (by omega) (by omega) (by omega)]; exact g5 q hq
    · intro c c1 c2
      have hm := Nat.mod_lt c (by decide : 0 < 60)
      rw [f 15 _ (fun z => by have z : (60 * 0 + c % 60) / 60 = n := z; omega) (by omega) (by omega) (by omega), f 4 _ (fun z => by have z : (60 * 0 + c % 60) / 60 = n := z; omega) (by omega) (by omega) (by omega), f 5 _ (fun z => by have z : (60 * 0 + c % 60) / 60 = n := z; omega) (by omega) (by omega) (by omega)]; exact g6 c c1 c2
  obtain ⟨J, j1, j2, j3⟩ := C_41 A (svs w j n) k' (i := n) (l := 0) (fun z => hn z.symm) hS0 hR hQ hC
  refine ⟨J, k', ?_, j2, a3.trans j3.fn, a4, a5⟩
  have hv : wr w 22 0 (nI j).toNatClampNeg = none := by rw [nI_clamp (by omega), wr_sv w hj, hw]; rfl
  refine (C_157r I w k _).trans ((bk_n (C_160 I w k (sl_in hj))).trans ?_)
  refine y_t (y_aln 7 rfl rfl rfl) <| y_t (y_gr 10 (some (22, 0)) (j := 2) rfl (by decide +kernel) rfl rfl) <| y_t (y_iln 11 rfl rfl rfl) <| y_t (y_aat 12 2 none rfl rfl rfl (z_in hj (by decide)) hv rfl) <| y_t (y_asn 13 [some (.inr (.inr (some (30, 0)))), some (.inl (nI j)), some (.inr (.inr none))] rfl rfl rfl rfl) <| y_t (y_aln 14 rfl rfl rfl) <| y_t (y_inz 17 rfl rfl rfl) <| y_t (n_new 20 (s := 20) rfl (by decide +kernel) rfl) <| y_t (n_dupr 21 rfl rfl) ?_
  show rn 157 (21, _, .inr (.inr (some (20, k.2.1 20))) :: .inr (.inr (some (20, k.2.1 20))) :: _, a_mk (MM I w k) 20 10) = _
  rw [h20]
  refine y_t (n_xp [.inr (.inr (some (20, n)))] [.inr (.inr (some (20, n)))] rfl (g := 39) (kd := 2) (n := 1) (by decide +kernel) rfl rfl rfl rfl rfl (n_k2 (by decide +kernel))) ?_
  refine (bk_n a1).trans ?_
  refine y_t (y_asn 25 [some (.inr (.inr (some (30, 0)))), some (.inl (nI j)), some (.inr (.inr (some (20, n))))] rfl rfl rfl rfl) <| y_t (y_aln 26 rfl rfl rfl) <| y_t (y_gr 29 (some (22, 0)) (j := 2) rfl (by decide +kernel) rfl rfl) <| y_t (y_iln 30 rfl rfl rfl) <| y_t (y_aln 31 rfl rfl rfl) <| y_t (n_aas 32 j (n := (22, 0)) (x := (20, n)) rfl rfl (show a_inb (nI j) 2 = true from z_in hj (by decide)) (nI_clamp (by omega)) rfl) ?_
  show rn 157 (32, _, _, (A, a_setR (wr w) 22 0 j (some (20, n)), k'.1, k'.2.1, k'.2.2.1, k'.2.2.2)) = _
  rw [wr_svs w hj]
  show rn 157 (32, _, _, MM A (svs w j n) k') = _
  refine y_t (y_aln 33 rfl rfl rfl) <| y_t (y_aln 34 rfl rfl rfl) <| y_t (y_gr 37 (some (20, 0)) (j := 0) rfl (by decide +kernel) rfl rfl) <| y_t (y_xv [.inr (.inr (some (20, n))), .inr (.inr (some (20, 0)))] [] rfl (g := 41) (kd := 0) (n := 2) (by decide +kernel) rfl rfl rfl rfl rfl (y_rk fR_41_20)) ?_
  refine (bk_n j1).trans ?_
  exact y_rv rfl (by decide +kernel)
theorem C_158s (I : aI) (w : aW) (k : aQ) {i j : Nat} (hj : j < 2) (hw : sv w j = some i) (hi : i ≠ 0) (hS : Sim 0 i I r) (hR : Rs r) (hQ : Rq r) (hC : Rc r) : ∃ J, rn 158 (a_en 158 [.inr (.inr (some (30, 0))), .inl (nI j)] (MM I w k)) = some (.inl none, MM J w k) ∧ Sim 0 0 J r ∧ Fr 0 I J := by
  obtain ⟨J, j1, j2, j3⟩ := C_41 I w k (i := 0) (l := i) hi hS hR hQ hC
  refine ⟨J, ?_, j2, j3⟩
  have hv : wr w 22 0 (nI j).toNatClampNeg = some (20, i) := by rw [nI_clamp (by omega), wr_sv w hj, hw]; rfl
  refine (C_158r I w k _).trans ((bk_n (C_160 I w k (sl_in hj))).trans ?_)
  refine y_t (y_aln 7 rfl rfl rfl) <| y_t (y_gr 10 (some (22, 0)) (j := 2) rfl (by decide +kernel) rfl rfl) <| y_t (y_iln 11 rfl rfl rfl) <| y_t (y_aat 12 2 (some (20, i)) rfl rfl rfl (z_in hj (by decide)) hv rfl) <| y_t (y_asn 13 [some (.inr (.inr (some (30, 0)))), some (.inl (nI j)), some (.inr (.inr (some (20, i))))] rfl rfl rfl rfl) <| y_t (y_aln 14 rfl rfl rfl) <| y_t (y_inn 28 rfl rfl) <| y_t (y_aln 29 rfl rfl rfl) <| y_t (y_gr 32 (some (20, 0)) (j := 0) rfl (by decide +kernel) rfl rfl) <| y_t (y_aln 33 rfl rfl rfl) <| y_t (y_xv [.inr (.inr (some (20, 0))), .inr (.inr (some (20, i)))] [] rfl (g := 41) (kd := 0) (n := 2) (by decide +kernel) rfl rfl rfl rfl rfl (y_rk fR_41_20)) ?_
  refine (bk_n j1).trans ?_
  exact y_rv rfl (by decide +kernel)
theorem C_158n (I : aI) (w : aW) (k : aQ) {j : Nat} (hj : j < 2) (hw : sv w j = none) : rn 158 (a_en 158 [.inr (.inr (some (30, 0))), .inl (nI j)] (MM I w k)) = some (.inr 1, MM I w (kx k)) := by
  have hv : wr w 22 0 (nI j).toNatClampNeg = none := by rw [nI_clamp (by omega), wr_sv w hj, hw]; rfl
  refine (C_158r I w k _).trans ((bk_n (C_160 I w k (sl_in hj))).trans ?_)
  exact y_t (y_aln 7 rfl rfl rfl) <| y_t (y_gr 10 (some (22, 0)) (j := 2) rfl (by decide +kernel) rfl rfl) <| y_t (y_iln 11 rfl rfl rfl) <| y_t (y_aat 12 2 none rfl rfl rfl (z_in hj (by decide)) hv rfl) <| y_t (y_asn 13 [some (.inr (.inr (some (30, 0)))), some (.inl (nI j)), some (.inr (.inr none))] rfl rfl rfl rfl) <| y_t (y_aln 14 rfl rfl rfl) <| y_t (y_inz 17 rfl rfl rfl) <| y_nt rfl (by decide +kernel) (by decide +kernel) (by decide +kernel)
end
