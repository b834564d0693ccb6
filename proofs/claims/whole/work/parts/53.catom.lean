/-! ===== the class: one cell and one place of the row change together ===== -/
section
variable {a8 : Int32} {i : Nat} {I I' : aI} {r r' : aR}
/-- a record changes -/
theorem Sim_rec (hS : Sim a8 i I r) (hn : nR r ≤ 40) (h4 : nS r ≤ 4) {q : Nat} (hq : q < nR r) (hI : ∀ s Q, ¬ ((s = 14 ∨ s = 6) ∧ Q = 40 * i + q) → I' s Q = I s Q) (hr : ∀ x, (∀ j, j < 8 → x ≠ 68 + 8 * q + j) → (∀ f, f < 24 → x ≠ 388 + 24 * q + f) → r' x = r x) (hk : kRe1 (I' 14 (40 * i + q)) (I' 6 (40 * i + q)) r' q) : Sim a8 i I' r' := by
  obtain ⟨h1, h2, h3, hp, h5, h6⟩ := hS
  have eS := nS_c (hr 3 (fun j hj => by omega) (fun j hj => by omega))
  have eR := nR_c (hr 4 (fun j hj => by omega) (fun j hj => by omega))
  have eC := nC_c (hr 12 (fun j hj => by omega) (fun j hj => by omega))
  have b1 := kLow_r h1 (r' := r') (fun x hx => hr x (fun j hj => by omega) (fun j hj => by omega))
  have b2 := kFig_r h2 (r' := r') (fun x hx hy => hr x (fun j hj => by omega) (fun j hj => by omega))
  have b3 := kSta_r h3 (r' := r') eS (fun s j hs hj => hr _ (fun j hj => by omega) (fun j hj => by omega))
  have b4 := kPha_r hp (r' := r') eS (fun s hs => hr _ (fun j hj => by omega) (fun j hj => by omega))
  have b6 := kCon_r h6 (r' := r') eC (fun p j hp hj => hr _ (fun j hj => by omega) (fun j hj => by omega))
  refine ⟨?_, ?_, ?_, ?_, ?_, ?_⟩
  · unfold kLow at b1 ⊢; rw [hI 9 i (by omega), hI 10 i (by omega), hI 20 i (by omega)]; exact b1
  · unfold kFig at b2 ⊢; rw [hI 13 i (by omega)]; exact b2
  · intro s hs; rw [hI 18 _ (by omega), hI 19 _ (by omega)]; exact b3 s hs
  · unfold kPha at b4 ⊢; rw [hI 17 i (by omega)]; exact b4
  · intro p hp
    by_cases e : p = q
    · subst e; exact hk
    · rw [hI 14 _ (by omega), hI 6 _ (by omega)]
      rw [eR] at hp
      exact kRe1_r (h5 p hp) (fun j hj => hr _ (fun j hj => by omega) (fun j hj => by omega)) (fun x hx => hr _ (fun j hj => by omega) (fun j hj => by omega))
  · intro c c1 c2; rw [hI 15 _ (by omega), hI 4 _ (by omega), hI 5 _ (by omega)]; exact b6 c c1 c2
theorem Sim_fig (hS : Sim a8 i I r) {j : Nat} (hj : j < 8) (v : Int32) : Sim a8 i (a_setI I 13 i j v) (upd r (16 + j) v) := by
  obtain ⟨h1, h2, h3, hp, h5, h6⟩ := hS
  have e : ∀ x, x ≠ 16 + j → upd r (16 + j) v x = r x := fun x hx => upd_n _ _ _ hx
  have eS := nS_c (e 3 (by omega))
  have eR := nR_c (e 4 (by omega))
  have eC := nC_c (e 12 (by omega))
  refine ⟨kLow_r h1 (fun x hx => e x (by omega)), fun x hx => ?_, kSta_r h3 eS (fun s j hs hj => e _ (by omega)), kPha_r hp eS (fun s hs => e _ (by omega)), kRec_r h5 eR (fun q j hq hj => e _ (by omega)) (fun q x hq hx => e _ (by omega)), kCon_r h6 eC (fun p j hp hj => e _ (by omega))⟩
  rw [gI_u]
  by_cases hx2 : x = j
  · subst hx2; rw [upd_s, upd_s]
  · rw [upd_n _ _ _ hx2, e _ (by omega)]; exact h2 x hx
theorem Sim_sfg (hS : Sim a8 i I r) (h4 : nS r ≤ 4) {s j : Nat} (hs : s < nS r) (hj : j < 5) (v : Int32) : Sim a8 i (a_setI I 19 (4 * i + s) j v) (upd r (24 + 11 * s + 6 + j) v) := by
  obtain ⟨h1, h2, h3, hp, h5, h6⟩ := hS
  have e : ∀ x, x ≠ 24 + 11 * s + 6 + j → upd r (24 + 11 * s + 6 + j) v x = r x := fun x hx => upd_n _ _ _ hx
  have eS := nS_c (e 3 (by omega))
  have eR := nR_c (e 4 (by omega))
  have eC := nC_c (e 12 (by omega))
  refine ⟨kLow_r h1 (fun x hx => e x (by omega)), kFig_r h2 (fun x hx hy => e x (by omega)), fun p hp => ?_, kPha_r hp eS (fun s hs => e _ (by omega)), kRec_r h5 eR (fun q j hq hj => e _ (by omega)) (fun q x hq hx => e _ (by omega)), kCon_r h6 eC (fun p j hp hj => e _ (by omega))⟩
  rw [eS] at hp
  by_cases hx : p = s
  · subst hx
    obtain ⟨k1, k2, k3, k4⟩ := h3 p hp
    rw [gI_u]
    refine ⟨fun y hy => ?_, fun z => ?_, k3, fun y hy => ?_⟩
    · rw [e _ (by omega)]; exact k1 y hy
    · rw [e _ (by omega)]; exact k2 z
    · by_cases hy2 : y = j
      · subst hy2; rw [upd_s, upd_s]
      · rw [upd_n _ _ _ hy2, e _ (by omega)]; exact k4 y hy
  · rw [gI_q _ _ _ _ _ (by omega)]
    exact kSt1_r (h3 p hp) (fun y hy => e _ (by omega))
/-- two kept contacts stand at two places -/
theorem kept_ne {n c d : Nat} (h1 : c < n) (h2 : n ≤ c + 60) (h3 : d < n) (h4 : n ≤ d + 60) (h : c ≠ d) : c % 60 ≠ d % 60 := by omega
theorem Sim_cf (hS : Sim a8 i I r) (h4 : nS r ≤ 4) (hn : nR r ≤ 40) {c j : Nat} (c1 : c < nC r) (c2 : nC r ≤ c + 60) (hj : j < 4) (v : Int32) : Sim a8 i (a_setI I 15 (60 * i + c % 60) (1 + j) v) (upd r (1348 + 84 * (c % 60) + j) v) := by
  obtain ⟨h1, h2, h3, hp, h5, h6⟩ := hS
  have e : ∀ x, x ≠ 1348 + 84 * (c % 60) + j → upd r (1348 + 84 * (c % 60) + j) v x = r x := fun x hx => upd_n _ _ _ hx
  have eS := nS_c (e 3 (by omega))
  have eR := nR_c (e 4 (by omega))
  have eC := nC_c (e 12 (by omega))
  refine ⟨kLow_r h1 (fun x hx => e x (by omega)), kFig_r h2 (fun x hx hy => e x (by omega)), kSta_r h3 eS (fun s j hs hj => e _ (by omega)), kPha_r hp eS (fun s hs => e _ (by omega)), kRec_r h5 eR (fun q j hq hj => e _ (by omega)) (fun q x hq hx => e _ (by omega)), fun d d1 d2 => ?_⟩
  rw [eC] at d1 d2
  by_cases hx : d = c
  · subst hx
    obtain ⟨k0, ⟨k1, k2, k3, k4⟩, k5⟩ := h6 d d1 d2
    rw [gI_u]
    have fin : ∀ y, y < 4 → I 15 (60 * i + d % 60) (1 + y) = r (1348 + 84 * (d % 60) + y) → upd (I 15 (60 * i + d % 60)) (1 + j) v (1 + y) = upd r (1348 + 84 * (d % 60) + j) v (1348 + 84 * (d % 60) + y) := by
      intro y hy hz
      by_cases hyj : y = j
      · subst hyj; rw [upd_s, upd_s]
      · rw [upd_n _ _ _ (by omega), e _ (by omega)]; exact hz
    refine ⟨by rw [upd_n _ _ _ (by omega)]; exact k0, ⟨fin 0 (by omega) k1, fin 1 (by omega) k2, fin 2 (by omega) k3, fin 3 (by omega) k4⟩, fun q hq => ?_⟩
    rw [e _ (by omega), e _ (by omega)]
    exact k5 q hq
  · have := kept_ne d1 d2 c1 c2 hx
    rw [gI_q _ _ _ _ _ (by omega)]
    exact kCo1_r (h6 d d1 d2) (fun y hy => e _ (by omega))
theorem Sim_snt (hS : Sim a8 i I r) (h4 : nS r ≤ 4) (hn : nR r ≤ 40) {c q : Nat} (c1 : c < nC r) (c2 : nC r ≤ c + 60) (hq : q < 40) (v : Int32) : Sim a8 i (a_setI I 4 (60 * i + c % 60) q v) (upd r (1348 + 84 * (c % 60) + 4 + q) v) := by
  obtain ⟨h1, h2, h3, hp, h5, h6⟩ := hS
  have e : ∀ x, x ≠ 1348 + 84 * (c % 60) + 4 + q → upd r (1348 + 84 * (c % 60) + 4 + q) v x = r x := fun x hx => upd_n _ _ _ hx
  have eS := nS_c (e 3 (by omega))
  have eR := nR_c (e 4 (by omega))
  have eC := nC_c (e 12 (by omega))
  refine ⟨kLow_r h1 (fun x hx => e x (by omega)), kFig_r h2 (fun x hx hy => e x (by omega)), kSta_r h3 eS (fun s j hs hj => e _ (by omega)), kPha_r hp eS (fun s hs => e _ (by omega)), kRec_r h5 eR (fun q j hq hj => e _ (by omega)) (fun q x hq hx => e _ (by omega)), fun d d1 d2 => ?_⟩
  rw [eC] at d1 d2
  by_cases hx : d = c
  · subst hx
    obtain ⟨k0, ⟨k1, k2, k3, k4⟩, k5⟩ := h6 d d1 d2
    rw [gI_u]
    refine ⟨k0, ⟨by rw [e _ (by omega)]; exact k1, by rw [e _ (by omega)]; exact k2, by rw [e _ (by omega)]; exact k3, by rw [e _ (by omega)]; exact k4⟩, fun y hy => ⟨?_, ?_⟩⟩
    · by_cases hyj : y = q
      · subst hyj; rw [upd_s, upd_s]
      · rw [upd_n _ _ _ hyj, e _ (by omega)]; exact (k5 y hy).1
    · rw [e _ (by omega)]; exact (k5 y hy).2
  · have := kept_ne d1 d2 c1 c2 hx
    rw [gI_q _ _ _ _ _ (by omega)]
    exact kCo1_r (h6 d d1 d2) (fun y hy => e _ (by omega))
theorem Sim_got (hS : Sim a8 i I r) (h4 : nS r ≤ 4) (hn : nR r ≤ 40) {c q : Nat} (c1 : c < nC r) (c2 : nC r ≤ c + 60) (hq : q < 40) (v : Int32) : Sim a8 i (a_setI I 5 (60 * i + c % 60) q v) (upd r (1348 + 84 * (c % 60) + 44 + q) v) := by
  obtain ⟨h1, h2, h3, hp, h5, h6⟩ := hS
  have e : ∀ x, x ≠ 1348 + 84 * (c % 60) + 44 + q → upd r (1348 + 84 * (c % 60) + 44 + q) v x = r x := fun x hx => upd_n _ _ _ hx
  have eS := nS_c (e 3 (by omega))
  have eR := nR_c (e 4 (by omega))
  have eC := nC_c (e 12 (by omega))
  refine ⟨kLow_r h1 (fun x hx => e x (by omega)), kFig_r h2 (fun x hx hy => e x (by omega)), kSta_r h3 eS (fun s j hs hj => e _ (by omega)), kPha_r hp eS (fun s hs => e _ (by omega)), kRec_r h5 eR (fun q j hq hj => e _ (by omega)) (fun q x hq hx => e _ (by omega)), fun d d1 d2 => ?_⟩
  rw [eC] at d1 d2
  by_cases hx : d = c
  · subst hx
    obtain ⟨k0, ⟨k1, k2, k3, k4⟩, k5⟩ := h6 d d1 d2
    rw [gI_u]
    refine ⟨k0, ⟨by rw [e _ (by omega)]; exact k1, by rw [e _ (by omega)]; exact k2, by rw [e _ (by omega)]; exact k3, by rw [e _ (by omega)]; exact k4⟩, fun y hy => ⟨?_, ?_⟩⟩
    · rw [e _ (by omega)]; exact (k5 y hy).1
    · by_cases hyj : y = q
      · subst hyj; rw [upd_s, upd_s]
      · rw [upd_n _ _ _ hyj, e _ (by omega)]; exact (k5 y hy).2
  · have := kept_ne d1 d2 c1 c2 hx
    rw [gI_q _ _ _ _ _ (by omega)]
    exact kCo1_r (h6 d d1 d2) (fun y hy => e _ (by omega))
/-- the scalars of a simulation: handovers, time, random state -/
theorem Sim_han (hS : Sim a8 i I r) (v : Int32) : Sim a8 i (a_setI I 20 i 7 v) (upd r 15 v) := by
  obtain ⟨⟨a, b, ⟨c0, c1, c2, c3⟩, d, d2⟩, h2, h3, hp, h5, h6⟩ := hS
  have e : ∀ x, x ≠ 15 → upd r 15 v x = r x := fun x hx => upd_n _ _ _ hx
  have eS := nS_c (e 3 (by omega))
  have eR := nR_c (e 4 (by omega))
  have eC := nC_c (e 12 (by omega))
  refine ⟨⟨?_, ?_, ?_, ?_, ?_⟩, kFig_r h2 (fun x hx hy => e x (by omega)), kSta_r h3 eS (fun s j hs hj => e _ (by omega)), kPha_r hp eS (fun s hs => e _ (by omega)), kRec_r h5 eR (fun q j hq hj => e _ (by omega)) (fun q x hq hx => e _ (by omega)), kCon_r h6 eC (fun p j hp hj => e _ (by omega))⟩
  · rw [e 0 (by omega), e 1 (by omega), e 2 (by omega), e 3 (by omega)]; exact a
  · rw [e 10 (by omega), e 11 (by omega), e 6 (by omega), e 7 (by omega), e 8 (by omega), e 9 (by omega)]; exact b
  · rw [gI_u]; exact ⟨by rw [upd_n _ _ _ (by omega), e 4 (by omega)]; exact c0, by rw [upd_n _ _ _ (by omega), e 12 (by omega)]; exact c1, by rw [upd_s, upd_s], by rw [upd_n _ _ _ (by omega), e 5 (by omega)]; exact c3⟩
  · rw [gI_u, upd_n _ _ _ (by omega), e 14 (by omega)]; exact d
  · rw [gI_u, upd_n _ _ _ (by omega)]; exact d2
theorem Sim_now (hS : Sim a8 i I r) (v : Int32) : Sim a8 i (a_setI I 20 i 8 v) (upd r 5 v) := by
  obtain ⟨⟨a, b, ⟨c0, c1, c2, c3⟩, d, d2⟩, h2, h3, hp, h5, h6⟩ := hS
  have e : ∀ x, x ≠ 5 → upd r 5 v x = r x := fun x hx => upd_n _ _ _ hx
  have eS := nS_c (e 3 (by omega))
  have eR := nR_c (e 4 (by omega))
  have eC := nC_c (e 12 (by omega))
  refine ⟨⟨?_, ?_, ?_, ?_, ?_⟩, kFig_r h2 (fun x hx hy => e x (by omega)), kSta_r h3 eS (fun s j hs hj => e _ (by omega)), kPha_r hp eS (fun s hs => e _ (by omega)), kRec_r h5 eR (fun q j hq hj => e _ (by omega)) (fun q x hq hx => e _ (by omega)), kCon_r h6 eC (fun p j hp hj => e _ (by omega))⟩
  · rw [e 0 (by omega), e 1 (by omega), e 2 (by omega), e 3 (by omega)]; exact a
  · rw [e 10 (by omega), e 11 (by omega), e 6 (by omega), e 7 (by omega), e 8 (by omega), e 9 (by omega)]; exact b
  · rw [gI_u]; exact ⟨by rw [upd_n _ _ _ (by omega), e 4 (by omega)]; exact c0, by rw [upd_n _ _ _ (by omega), e 12 (by omega)]; exact c1, by rw [upd_n _ _ _ (by omega), e 15 (by omega)]; exact c2, by rw [upd_s, upd_s]⟩
  · rw [gI_u, upd_n _ _ _ (by omega), e 14 (by omega)]; exact d
  · rw [gI_u, upd_n _ _ _ (by omega)]; exact d2
/-- the random state; in a trial the row's stays -/
theorem Sim_rnd (hS : Sim a8 i I r) {v : Int32} (hv : 0 ≤ v) : Sim a8 i (a_setI I 20 i 9 v) (if a8 = 0 then upd r 14 v else r) := by
  have e : ∀ x, x ≠ 14 → (if a8 = 0 then upd r 14 v else r) x = r x := fun x hx => by
    split
    · exact upd_n _ _ _ hx
    · rfl
  have e14 : a8 = 0 → (if a8 = 0 then upd r 14 v else r) 14 = v := fun z => by rw [if_pos z, upd_s]
  generalize (if a8 = 0 then upd r 14 v else r) = r' at e e14
  obtain ⟨⟨a, b, ⟨c0, c1, c2, c3⟩, d, d2⟩, h2, h3, hp, h5, h6⟩ := hS
  have eS := nS_c (e 3 (by omega))
  have eR := nR_c (e 4 (by omega))
  have eC := nC_c (e 12 (by omega))
  refine ⟨⟨?_, ?_, ?_, ?_, ?_⟩, kFig_r h2 (fun x hx hy => e x (by omega)), kSta_r h3 eS (fun s j hs hj => e _ (by omega)), kPha_r hp eS (fun s hs => e _ (by omega)), kRec_r h5 eR (fun q j hq hj => e _ (by omega)) (fun q x hq hx => e _ (by omega)), kCon_r h6 eC (fun p j hp hj => e _ (by omega))⟩
  · rw [e 0 (by omega), e 1 (by omega), e 2 (by omega), e 3 (by omega)]; exact a
  · rw [e 10 (by omega), e 11 (by omega), e 6 (by omega), e 7 (by omega), e 8 (by omega), e 9 (by omega)]; exact b
  · rw [gI_u, upd_n _ _ _ (by omega), upd_n _ _ _ (by omega), upd_n _ _ _ (by omega), upd_n _ _ _ (by omega), e 4 (by omega), e 12 (by omega), e 15 (by omega), e 5 (by omega)]; exact ⟨c0, c1, c2, c3⟩
  · intro z; rw [gI_u, upd_s, e14 z]
  · rw [gI_u, upd_s]; exact hv
end
