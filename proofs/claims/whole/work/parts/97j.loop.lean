/-! ===== the law's loop ===== -/
section
variable {xs : Nat → Int32} {N n : Nat} {I : aI} {w : aW} {k : aQ}
theorem n7 {N : Nat} (h : 7 ≤ N) : Int32.ofNat N - 7 = nI (N - 7) := by
  have e : nI N = nI (N - 7) + nI 7 := by rw [nI_add, Nat.sub_add_cancel h]
  show nI N - nI 7 = _
  rw [e, Int32.add_sub_cancel]
theorem Gd.n1 (G : Gd xs N n I w k) : Gd xs N (n + 1) I w k := G.keep (fun _ _ _ _ => rfl) rfl G.rm
theorem Ib_of {a : Nat} (h : a + 7 ≤ N) (hN : N ≤ 3584) : Ib (nI a) N := by
  have z : ∀ j : Nat, j ≤ 6 → a_inb (nI a + nI j) N = true := fun j hj => by
    rw [nI_add]; exact z_in (by omega) (by omega)
  exact ⟨z 1 (by omega), z 2 (by omega), z 3 (by omega), z 4 (by omega), z 5 (by omega), z 6 (by omega)⟩
theorem Ls (G : Gd xs N n I w k) {a : Nat} (h : a + 7 ≤ N) (hN : N ≤ 3584) (d5 d6 : Option aV) : Nx xs N n (nI a) (rn 354 (23, lo (nI a) d5 d6, [], MM I w k)) := by
  have hk : k.2.1 0 = N := G.2.2.2.2.2.2.2.2.2.1
  have b : Ib (nI a) (k.2.1 0) := by rw [hk]; exact Ib_of h hN
  have b0 : a_inb (nI a) (k.2.1 0) = true := by rw [hk]; exact z_in (by omega) (by omega)
  have hz : ¬ (Int32.ofNat (k.2.1 0) - 7 < nI a) := by
    rw [hk, n7 (by omega)]; exact nI_nlt (by omega) (by omega)
  have t0 := (e354_23 I w k (nI a) d5 d6).trans ((zc_f hz).trans (zi b0))
  by_cases h0 : Int32.toInt ((I 0 0 (Int32.toNatClampNeg (nI a))) &&& 63) = 0
  · obtain ⟨I2, w2, k2, e5, e6, q, g⟩ := Lc_0 G (nI a) b d5 d6
    exact ⟨I2, w2, k2, e5, e6, t0.trans ((zc_t h0).trans q), g⟩
  have t1 := t0.trans (zc_f h0)
  clear t0
  by_cases h1 : Int32.toInt ((I 0 0 (Int32.toNatClampNeg (nI a))) &&& 63) = 1
  · obtain ⟨I2, w2, k2, e5, e6, q, g⟩ := Lc_1 G (nI a) b d5 d6
    exact ⟨I2, w2, k2, e5, e6, t1.trans ((zc_t h1).trans q), g⟩
  have t2 := t1.trans (zc_f h1)
  clear t1
  by_cases h2 : Int32.toInt ((I 0 0 (Int32.toNatClampNeg (nI a))) &&& 63) = 2
  · obtain ⟨I2, w2, k2, e5, e6, q, g⟩ := Lc_2 G (nI a) b d5 d6
    exact ⟨I2, w2, k2, e5, e6, t2.trans ((zc_t h2).trans q), g⟩
  have t3 := t2.trans (zc_f h2)
  clear t2
  by_cases h3 : Int32.toInt ((I 0 0 (Int32.toNatClampNeg (nI a))) &&& 63) = 3
  · obtain ⟨I2, w2, k2, e5, e6, q, g⟩ := Lc_3 G (nI a) b d5 d6
    exact ⟨I2, w2, k2, e5, e6, t3.trans ((zc_t h3).trans q), g⟩
  have t4 := t3.trans (zc_f h3)
  clear t3
  by_cases h4 : Int32.toInt ((I 0 0 (Int32.toNatClampNeg (nI a))) &&& 63) = 4
  · obtain ⟨I2, w2, k2, e5, e6, q, g⟩ := Lc_4 G (nI a) b d5 d6
    exact ⟨I2, w2, k2, e5, e6, t4.trans ((zc_t h4).trans q), g⟩
  have t5 := t4.trans (zc_f h4)
  clear t4
  by_cases h5 : Int32.toInt ((I 0 0 (Int32.toNatClampNeg (nI a))) &&& 63) = 5
  · obtain ⟨I2, w2, k2, e5, e6, q, g⟩ := Lc_5 G (nI a) b d5 d6
    exact ⟨I2, w2, k2, e5, e6, t5.trans ((zc_t h5).trans q), g⟩
  have t6 := t5.trans (zc_f h5)
  clear t5
  by_cases h6 : Int32.toInt ((I 0 0 (Int32.toNatClampNeg (nI a))) &&& 63) = 6
  · obtain ⟨I2, w2, k2, e5, e6, q, g⟩ := Lc_6 G (nI a) b d5 d6
    exact ⟨I2, w2, k2, e5, e6, t6.trans ((zc_t h6).trans q), g⟩
  have t7 := t6.trans (zc_f h6)
  clear t6
  by_cases h7 : Int32.toInt ((I 0 0 (Int32.toNatClampNeg (nI a))) &&& 63) = 7
  · obtain ⟨I2, w2, k2, e5, e6, q, g⟩ := Lc_7 G (nI a) b d5 d6
    exact ⟨I2, w2, k2, e5, e6, t7.trans ((zc_t h7).trans q), g⟩
  have t8 := t7.trans (zc_f h7)
  clear t7
  by_cases h8 : Int32.toInt ((I 0 0 (Int32.toNatClampNeg (nI a))) &&& 63) = 8
  · obtain ⟨I2, w2, k2, e5, e6, q, g⟩ := Lc_8 G (nI a) b d5 d6
    exact ⟨I2, w2, k2, e5, e6, t8.trans ((zc_t h8).trans q), g⟩
  have t9 := t8.trans (zc_f h8)
  clear t8
  by_cases h9 : Int32.toInt ((I 0 0 (Int32.toNatClampNeg (nI a))) &&& 63) = 9
  · obtain ⟨I2, w2, k2, e5, e6, q, g⟩ := Lc_9 G (nI a) b d5 d6
    exact ⟨I2, w2, k2, e5, e6, t9.trans ((zc_t h9).trans q), g⟩
  have t10 := t9.trans (zc_f h9)
  clear t9
  by_cases h10 : Int32.toInt ((I 0 0 (Int32.toNatClampNeg (nI a))) &&& 63) = 10
  · obtain ⟨I2, w2, k2, e5, e6, q, g⟩ := Lc_10 G (nI a) b d5 d6
    exact ⟨I2, w2, k2, e5, e6, t10.trans ((zc_t h10).trans q), g⟩
  have t11 := t10.trans (zc_f h10)
  clear t10
  by_cases h11 : Int32.toInt ((I 0 0 (Int32.toNatClampNeg (nI a))) &&& 63) = 11
  · obtain ⟨I2, w2, k2, e5, e6, q, g⟩ := Lc_11 G (nI a) b d5 d6
    exact ⟨I2, w2, k2, e5, e6, t11.trans ((zc_t h11).trans q), g⟩
  have t12 := t11.trans (zc_f h11)
  clear t11
  by_cases h12 : Int32.toInt ((I 0 0 (Int32.toNatClampNeg (nI a))) &&& 63) = 12
  · obtain ⟨I2, w2, k2, e5, e6, q, g⟩ := Lc_12 G (nI a) b d5 d6
    exact ⟨I2, w2, k2, e5, e6, t12.trans ((zc_t h12).trans q), g⟩
  have t13 := t12.trans (zc_f h12)
  clear t12
  by_cases h13 : Int32.toInt ((I 0 0 (Int32.toNatClampNeg (nI a))) &&& 63) = 13
  · obtain ⟨I2, w2, k2, e5, e6, q, g⟩ := Lc_13 G (nI a) b d5 d6
    exact ⟨I2, w2, k2, e5, e6, t13.trans ((zc_t h13).trans q), g⟩
  have t14 := t13.trans (zc_f h13)
  clear t13
  by_cases h14 : Int32.toInt ((I 0 0 (Int32.toNatClampNeg (nI a))) &&& 63) = 14
  · obtain ⟨I2, w2, k2, e5, e6, q, g⟩ := Lc_14 G (nI a) b d5 d6
    exact ⟨I2, w2, k2, e5, e6, t14.trans ((zc_t h14).trans q), g⟩
  have t15 := t14.trans (zc_f h14)
  clear t14
  by_cases h15 : Int32.toInt ((I 0 0 (Int32.toNatClampNeg (nI a))) &&& 63) = 15
  · obtain ⟨I2, w2, k2, e5, e6, q, g⟩ := Lc_15 G (nI a) b d5 d6
    exact ⟨I2, w2, k2, e5, e6, t15.trans ((zc_t h15).trans q), g⟩
  have t16 := t15.trans (zc_f h15)
  clear t15
  by_cases h16 : Int32.toInt ((I 0 0 (Int32.toNatClampNeg (nI a))) &&& 63) = 16
  · obtain ⟨I2, w2, k2, e5, e6, q, g⟩ := Lc_16 G (nI a) b d5 d6
    exact ⟨I2, w2, k2, e5, e6, t16.trans ((zc_t h16).trans q), g⟩
  have t17 := t16.trans (zc_f h16)
  clear t16
  by_cases h17 : Int32.toInt ((I 0 0 (Int32.toNatClampNeg (nI a))) &&& 63) = 17
  · obtain ⟨I2, w2, k2, e5, e6, q, g⟩ := Lc_17 G (nI a) b d5 d6
    exact ⟨I2, w2, k2, e5, e6, t17.trans ((zc_t h17).trans q), g⟩
  have t18 := t17.trans (zc_f h17)
  clear t17
  by_cases h18 : Int32.toInt ((I 0 0 (Int32.toNatClampNeg (nI a))) &&& 63) = 18
  · obtain ⟨I2, w2, k2, e5, e6, q, g⟩ := Lc_18 G (nI a) b d5 d6
    exact ⟨I2, w2, k2, e5, e6, t18.trans ((zc_t h18).trans q), g⟩
  have t19 := t18.trans (zc_f h18)
  clear t18
  by_cases h19 : Int32.toInt ((I 0 0 (Int32.toNatClampNeg (nI a))) &&& 63) = 19
  · obtain ⟨I2, w2, k2, e5, e6, q, g⟩ := Lc_19 G (nI a) b d5 d6
    exact ⟨I2, w2, k2, e5, e6, t19.trans ((zc_t h19).trans q), g⟩
  have t20 := t19.trans (zc_f h19)
  clear t19
  by_cases h20 : Int32.toInt ((I 0 0 (Int32.toNatClampNeg (nI a))) &&& 63) = 20
  · obtain ⟨I2, w2, k2, e5, e6, q, g⟩ := Lc_20 G (nI a) b d5 d6
    exact ⟨I2, w2, k2, e5, e6, t20.trans ((zc_t h20).trans q), g⟩
  have t21 := t20.trans (zc_f h20)
  clear t20
  by_cases h21 : Int32.toInt ((I 0 0 (Int32.toNatClampNeg (nI a))) &&& 63) = 21
  · obtain ⟨I2, w2, k2, e5, e6, q, g⟩ := Lc_21 G (nI a) b d5 d6
    exact ⟨I2, w2, k2, e5, e6, t21.trans ((zc_t h21).trans q), g⟩
  have t22 := t21.trans (zc_f h21)
  clear t21
  by_cases h22 : Int32.toInt ((I 0 0 (Int32.toNatClampNeg (nI a))) &&& 63) = 22
  · obtain ⟨I2, w2, k2, e5, e6, q, g⟩ := Lc_22 G (nI a) b d5 d6
    exact ⟨I2, w2, k2, e5, e6, t22.trans ((zc_t h22).trans q), g⟩
  have t23 := t22.trans (zc_f h22)
  clear t22
  by_cases h23 : Int32.toInt ((I 0 0 (Int32.toNatClampNeg (nI a))) &&& 63) = 23
  · obtain ⟨I2, w2, k2, e5, e6, q, g⟩ := Lc_23 G (nI a) b d5 d6
    exact ⟨I2, w2, k2, e5, e6, t23.trans ((zc_t h23).trans q), g⟩
  have t24 := t23.trans (zc_f h23)
  clear t23
  by_cases h24 : Int32.toInt ((I 0 0 (Int32.toNatClampNeg (nI a))) &&& 63) = 24
  · obtain ⟨I2, w2, k2, e5, e6, q, g⟩ := Lc_24 G (nI a) b d5 d6
    exact ⟨I2, w2, k2, e5, e6, t24.trans ((zc_t h24).trans q), g⟩
  have t25 := t24.trans (zc_f h24)
  clear t24
  by_cases h25 : Int32.toInt ((I 0 0 (Int32.toNatClampNeg (nI a))) &&& 63) = 25
  · obtain ⟨I2, w2, k2, e5, e6, q, g⟩ := Lc_25 G (nI a) b d5 d6
    exact ⟨I2, w2, k2, e5, e6, t25.trans ((zc_t h25).trans q), g⟩
  have t26 := t25.trans (zc_f h25)
  clear t25
  by_cases h26 : Int32.toInt ((I 0 0 (Int32.toNatClampNeg (nI a))) &&& 63) = 26
  · obtain ⟨I2, w2, k2, e5, e6, q, g⟩ := Lc_26 G (nI a) b d5 d6
    exact ⟨I2, w2, k2, e5, e6, t26.trans ((zc_t h26).trans q), g⟩
  have t27 := t26.trans (zc_f h26)
  clear t26
  by_cases h27 : Int32.toInt ((I 0 0 (Int32.toNatClampNeg (nI a))) &&& 63) = 27
  · obtain ⟨I2, w2, k2, e5, e6, q, g⟩ := Lc_27 G (nI a) b d5 d6
    exact ⟨I2, w2, k2, e5, e6, t27.trans ((zc_t h27).trans q), g⟩
  have t28 := t27.trans (zc_f h27)
  clear t27
  by_cases h28 : Int32.toInt ((I 0 0 (Int32.toNatClampNeg (nI a))) &&& 63) = 28
  · obtain ⟨I2, w2, k2, e5, e6, q, g⟩ := Lc_28 G (nI a) b d5 d6
    exact ⟨I2, w2, k2, e5, e6, t28.trans ((zc_t h28).trans q), g⟩
  have t29 := t28.trans (zc_f h28)
  clear t28
  by_cases h29 : Int32.toInt ((I 0 0 (Int32.toNatClampNeg (nI a))) &&& 63) = 29
  · obtain ⟨I2, w2, k2, e5, e6, q, g⟩ := Lc_29 G (nI a) b d5 d6
    exact ⟨I2, w2, k2, e5, e6, t29.trans ((zc_t h29).trans q), g⟩
  have t30 := t29.trans (zc_f h29)
  clear t29
  by_cases h30 : Int32.toInt ((I 0 0 (Int32.toNatClampNeg (nI a))) &&& 63) = 30
  · obtain ⟨I2, w2, k2, e5, e6, q, g⟩ := Lc_30 G (nI a) b d5 d6
    exact ⟨I2, w2, k2, e5, e6, t30.trans ((zc_t h30).trans q), g⟩
  have t31 := t30.trans (zc_f h30)
  clear t30
  by_cases h31 : Int32.toInt ((I 0 0 (Int32.toNatClampNeg (nI a))) &&& 63) = 31
  · obtain ⟨I2, w2, k2, e5, e6, q, g⟩ := Lc_31 G (nI a) b d5 d6
    exact ⟨I2, w2, k2, e5, e6, t31.trans ((zc_t h31).trans q), g⟩
  have t32 := t31.trans (zc_f h31)
  clear t31
  by_cases h32 : Int32.toInt ((I 0 0 (Int32.toNatClampNeg (nI a))) &&& 63) = 32
  · obtain ⟨I2, w2, k2, e5, e6, q, g⟩ := Lc_32 G (nI a) b d5 d6
    exact ⟨I2, w2, k2, e5, e6, t32.trans ((zc_t h32).trans q), g⟩
  have t33 := t32.trans (zc_f h32)
  clear t32
  by_cases h33 : Int32.toInt ((I 0 0 (Int32.toNatClampNeg (nI a))) &&& 63) = 33
  · obtain ⟨I2, w2, k2, e5, e6, q, g⟩ := Lc_33 G (nI a) b d5 d6
    exact ⟨I2, w2, k2, e5, e6, t33.trans ((zc_t h33).trans q), g⟩
  have t34 := t33.trans (zc_f h33)
  clear t33
  by_cases h34 : Int32.toInt ((I 0 0 (Int32.toNatClampNeg (nI a))) &&& 63) = 34
  · obtain ⟨I2, w2, k2, e5, e6, q, g⟩ := Lc_34 G (nI a) b d5 d6
    exact ⟨I2, w2, k2, e5, e6, t34.trans ((zc_t h34).trans q), g⟩
  have t35 := t34.trans (zc_f h34)
  clear t34
  by_cases h35 : Int32.toInt ((I 0 0 (Int32.toNatClampNeg (nI a))) &&& 63) = 35
  · obtain ⟨I2, w2, k2, e5, e6, q, g⟩ := Lc_35 G (nI a) b d5 d6
    exact ⟨I2, w2, k2, e5, e6, t35.trans ((zc_t h35).trans q), g⟩
  have t36 := t35.trans (zc_f h35)
  clear t35
  by_cases h36 : Int32.toInt ((I 0 0 (Int32.toNatClampNeg (nI a))) &&& 63) = 36
  · obtain ⟨I2, w2, k2, e5, e6, q, g⟩ := Lc_36 G (nI a) b d5 d6
    exact ⟨I2, w2, k2, e5, e6, t36.trans ((zc_t h36).trans q), g⟩
  have t37 := t36.trans (zc_f h36)
  clear t36
  by_cases h37 : Int32.toInt ((I 0 0 (Int32.toNatClampNeg (nI a))) &&& 63) = 37
  · obtain ⟨I2, w2, k2, e5, e6, q, g⟩ := Lc_37 G (nI a) b d5 d6
    exact ⟨I2, w2, k2, e5, e6, t37.trans ((zc_t h37).trans q), g⟩
  have t38 := t37.trans (zc_f h37)
  clear t37
  by_cases h38 : Int32.toInt ((I 0 0 (Int32.toNatClampNeg (nI a))) &&& 63) = 38
  · obtain ⟨I2, w2, k2, e5, e6, q, g⟩ := Lc_38 G (nI a) b d5 d6
    exact ⟨I2, w2, k2, e5, e6, t38.trans ((zc_t h38).trans q), g⟩
  have t39 := t38.trans (zc_f h38)
  clear t38
  by_cases h39 : Int32.toInt ((I 0 0 (Int32.toNatClampNeg (nI a))) &&& 63) = 39
  · obtain ⟨I2, w2, k2, e5, e6, q, g⟩ := Lc_39 G (nI a) b d5 d6
    exact ⟨I2, w2, k2, e5, e6, t39.trans ((zc_t h39).trans q), g⟩
  have t40 := t39.trans (zc_f h39)
  clear t39
  by_cases h40 : Int32.toInt ((I 0 0 (Int32.toNatClampNeg (nI a))) &&& 63) = 40
  · obtain ⟨I2, w2, k2, e5, e6, q, g⟩ := Lc_40 G (nI a) b d5 d6
    exact ⟨I2, w2, k2, e5, e6, t40.trans ((zc_t h40).trans q), g⟩
  have t41 := t40.trans (zc_f h40)
  clear t40
  by_cases h41 : Int32.toInt ((I 0 0 (Int32.toNatClampNeg (nI a))) &&& 63) = 41
  · obtain ⟨I2, w2, k2, e5, e6, q, g⟩ := Lc_41 G (nI a) b d5 d6
    exact ⟨I2, w2, k2, e5, e6, t41.trans ((zc_t h41).trans q), g⟩
  have t42 := t41.trans (zc_f h41)
  clear t41
  by_cases h42 : Int32.toInt ((I 0 0 (Int32.toNatClampNeg (nI a))) &&& 63) = 42
  · obtain ⟨I2, w2, k2, e5, e6, q, g⟩ := Lc_42 G (nI a) b d5 d6
    exact ⟨I2, w2, k2, e5, e6, t42.trans ((zc_t h42).trans q), g⟩
  have t43 := t42.trans (zc_f h42)
  clear t42
  by_cases h43 : Int32.toInt ((I 0 0 (Int32.toNatClampNeg (nI a))) &&& 63) = 43
  · obtain ⟨I2, w2, k2, e5, e6, q, g⟩ := Lc_43 G (nI a) b d5 d6
    exact ⟨I2, w2, k2, e5, e6, t43.trans ((zc_t h43).trans q), g⟩
  have t44 := t43.trans (zc_f h43)
  clear t43
  by_cases h44 : Int32.toInt ((I 0 0 (Int32.toNatClampNeg (nI a))) &&& 63) = 44
  · obtain ⟨I2, w2, k2, e5, e6, q, g⟩ := Lc_44 G (nI a) b d5 d6
    exact ⟨I2, w2, k2, e5, e6, t44.trans ((zc_t h44).trans q), g⟩
  have t45 := t44.trans (zc_f h44)
  clear t44
  by_cases h45 : Int32.toInt ((I 0 0 (Int32.toNatClampNeg (nI a))) &&& 63) = 45
  · obtain ⟨I2, w2, k2, e5, e6, q, g⟩ := Lc_45 G (nI a) b d5 d6
    exact ⟨I2, w2, k2, e5, e6, t45.trans ((zc_t h45).trans q), g⟩
  have t46 := t45.trans (zc_f h45)
  clear t45
  by_cases h46 : Int32.toInt ((I 0 0 (Int32.toNatClampNeg (nI a))) &&& 63) = 46
  · obtain ⟨I2, w2, k2, e5, e6, q, g⟩ := Lc_46 G (nI a) b d5 d6
    exact ⟨I2, w2, k2, e5, e6, t46.trans ((zc_t h46).trans q), g⟩
  have t47 := t46.trans (zc_f h46)
  clear t46
  by_cases h47 : Int32.toInt ((I 0 0 (Int32.toNatClampNeg (nI a))) &&& 63) = 47
  · obtain ⟨I2, w2, k2, e5, e6, q, g⟩ := Lc_47 G (nI a) b d5 d6
    exact ⟨I2, w2, k2, e5, e6, t47.trans ((zc_t h47).trans q), g⟩
  have t48 := t47.trans (zc_f h47)
  clear t47
  by_cases h48 : Int32.toInt ((I 0 0 (Int32.toNatClampNeg (nI a))) &&& 63) = 48
  · obtain ⟨I2, w2, k2, e5, e6, q, g⟩ := Lc_48 G (nI a) b d5 d6
    exact ⟨I2, w2, k2, e5, e6, t48.trans ((zc_t h48).trans q), g⟩
  have t49 := t48.trans (zc_f h48)
  clear t48
  by_cases h49 : Int32.toInt ((I 0 0 (Int32.toNatClampNeg (nI a))) &&& 63) = 49
  · obtain ⟨I2, w2, k2, e5, e6, q, g⟩ := Lc_49 G (nI a) b d5 d6
    exact ⟨I2, w2, k2, e5, e6, t49.trans ((zc_t h49).trans q), g⟩
  have t50 := t49.trans (zc_f h49)
  clear t49
  by_cases h50 : Int32.toInt ((I 0 0 (Int32.toNatClampNeg (nI a))) &&& 63) = 50
  · obtain ⟨I2, w2, k2, e5, e6, q, g⟩ := Lc_50 G (nI a) b d5 d6
    exact ⟨I2, w2, k2, e5, e6, t50.trans ((zc_t h50).trans q), g⟩
  have t51 := t50.trans (zc_f h50)
  clear t50
  by_cases h51 : Int32.toInt ((I 0 0 (Int32.toNatClampNeg (nI a))) &&& 63) = 51
  · obtain ⟨I2, w2, k2, e5, e6, q, g⟩ := Lc_51 G (nI a) b d5 d6
    exact ⟨I2, w2, k2, e5, e6, t51.trans ((zc_t h51).trans q), g⟩
  have t52 := t51.trans (zc_f h51)
  clear t51
  by_cases h52 : Int32.toInt ((I 0 0 (Int32.toNatClampNeg (nI a))) &&& 63) = 52
  · obtain ⟨I2, w2, k2, e5, e6, q, g⟩ := Lc_52 G (nI a) b d5 d6
    exact ⟨I2, w2, k2, e5, e6, t52.trans ((zc_t h52).trans q), g⟩
  have t53 := t52.trans (zc_f h52)
  clear t52
  by_cases h53 : Int32.toInt ((I 0 0 (Int32.toNatClampNeg (nI a))) &&& 63) = 53
  · obtain ⟨I2, w2, k2, e5, e6, q, g⟩ := Lc_53 G (nI a) b d5 d6
    exact ⟨I2, w2, k2, e5, e6, t53.trans ((zc_t h53).trans q), g⟩
  have t54 := t53.trans (zc_f h53)
  clear t53
  by_cases h54 : Int32.toInt ((I 0 0 (Int32.toNatClampNeg (nI a))) &&& 63) = 54
  · obtain ⟨I2, w2, k2, e5, e6, q, g⟩ := Lc_54 G (nI a) b d5 d6
    exact ⟨I2, w2, k2, e5, e6, t54.trans ((zc_t h54).trans q), g⟩
  have t55 := t54.trans (zc_f h54)
  clear t54
  by_cases h55 : Int32.toInt ((I 0 0 (Int32.toNatClampNeg (nI a))) &&& 63) = 55
  · obtain ⟨I2, w2, k2, e5, e6, q, g⟩ := Lc_55 G (nI a) b d5 d6
    exact ⟨I2, w2, k2, e5, e6, t55.trans ((zc_t h55).trans q), g⟩
  have t56 := t55.trans (zc_f h55)
  clear t55
  by_cases h56 : Int32.toInt ((I 0 0 (Int32.toNatClampNeg (nI a))) &&& 63) = 56
  · obtain ⟨I2, w2, k2, e5, e6, q, g⟩ := Lc_56 G (nI a) b d5 d6
    exact ⟨I2, w2, k2, e5, e6, t56.trans ((zc_t h56).trans q), g⟩
  have t57 := t56.trans (zc_f h56)
  clear t56
  by_cases h57 : Int32.toInt ((I 0 0 (Int32.toNatClampNeg (nI a))) &&& 63) = 57
  · obtain ⟨I2, w2, k2, e5, e6, q, g⟩ := Lc_57 G (nI a) b d5 d6
    exact ⟨I2, w2, k2, e5, e6, t57.trans ((zc_t h57).trans q), g⟩
  have t58 := t57.trans (zc_f h57)
  clear t57
  by_cases h58 : Int32.toInt ((I 0 0 (Int32.toNatClampNeg (nI a))) &&& 63) = 58
  · obtain ⟨I2, w2, k2, e5, e6, q, g⟩ := Lc_58 G (nI a) b d5 d6
    exact ⟨I2, w2, k2, e5, e6, t58.trans ((zc_t h58).trans q), g⟩
  have t59 := t58.trans (zc_f h58)
  clear t58
  by_cases h59 : Int32.toInt ((I 0 0 (Int32.toNatClampNeg (nI a))) &&& 63) = 59
  · obtain ⟨I2, w2, k2, e5, e6, q, g⟩ := Lc_59 G (nI a) b d5 d6
    exact ⟨I2, w2, k2, e5, e6, t59.trans ((zc_t h59).trans q), g⟩
  have t60 := t59.trans (zc_f h59)
  clear t59
  by_cases h60 : Int32.toInt ((I 0 0 (Int32.toNatClampNeg (nI a))) &&& 63) = 60
  · obtain ⟨I2, w2, k2, e5, e6, q, g⟩ := Lc_60 G (nI a) b d5 d6
    exact ⟨I2, w2, k2, e5, e6, t60.trans ((zc_t h60).trans q), g⟩
  have t61 := t60.trans (zc_f h60)
  clear t60
  by_cases h61 : Int32.toInt ((I 0 0 (Int32.toNatClampNeg (nI a))) &&& 63) = 61
  · obtain ⟨I2, w2, k2, e5, e6, q, g⟩ := Lc_61 G (nI a) b d5 d6
    exact ⟨I2, w2, k2, e5, e6, t61.trans ((zc_t h61).trans q), g⟩
  have t62 := t61.trans (zc_f h61)
  clear t61
  exact ⟨I, w, k, d5, d6, t62, G.n1⟩
theorem cnt_le (w : aW) : cnt w ≤ 3 := by
  unfold cnt
  split <;> split <;> split <;> omega
theorem Lp (hN : N ≤ 3584) : ∀ (m n a : Nat) (I : aI) (w : aW) (k : aQ) (d5 d6 : Option aV), Gd xs N n I w k → a = 7 * n → a ≤ N → N < a + 7 * m + 7 → ∃ M' : aM, rn 354 (23, lo (nI a) d5 d6, [], MM I w k) = some (.inl (some (.inl 1)), M') ∧ M'.2.2.2.2.1 ≤ 1630 ∧ M'.2.2.2.2.2 ≤ 56640 := by
  intro m
  induction m with
  | zero =>
    intro n a I w k d5 d6 G ha hl hm
    have hk : k.2.1 0 = N := G.2.2.2.2.2.2.2.2.2.1
    have hz : Int32.ofNat (k.2.1 0) - 7 < nI a := by
      rw [hk]
      by_cases h7 : 7 ≤ N
      · rw [n7 h7]; exact nI_lt (by omega) (by omega)
      · have e : a = 0 := by omega
        subst e
        have : N = 0 ∨ N = 1 ∨ N = 2 ∨ N = 3 ∨ N = 4 ∨ N = 5 ∨ N = 6 := by omega
        rcases this with e | e | e | e | e | e | e <;> (rw [e]; decide +kernel)
    have hc := cnt_le w
    obtain ⟨r1, r2⟩ := G.2.2.2.2.2.2.2.2.2.2
    exact ⟨MM I w k, (e354_23 I w k (nI a) d5 d6).trans (zc_t hz), by show k.2.2.1 ≤ _; omega, by show k.2.2.2 ≤ _; omega⟩
  | succ m ih =>
    intro n a I w k d5 d6 G ha hl hm
    by_cases h : a + 7 ≤ N
    · obtain ⟨I2, w2, k2, e5, e6, q, g⟩ := Ls G h hN d5 d6
      obtain ⟨M', p1, p2⟩ := ih (n + 1) (a + 7) I2 w2 k2 e5 e6 g (by omega) h (by omega)
      have e : nI a + 7 = nI (a + 7) := nI_add a 7
      rw [e] at q
      exact ⟨M', q.trans p1, p2⟩
    · exact ih n a I w k d5 d6 G ha hl (by omega)
end
/-- the law's run answers 1, within the room -/
theorem whole_run (L : Nat) (xs : Nat → Int32) (z : Option aN) (hL : L ≤ 3584) : ∃ M' : aM, rn 354 (a_s0 L xs z) = some (.inl (some (.inl 1)), M') ∧ M'.2.2.2.2.1 ≤ room_1.cells ∧ M'.2.2.2.2.2 ≤ room_1.slots := by
  obtain ⟨I, k, e, hS, e24, ⟨t1, t2, t3⟩, h31, h16, h27, hW, hX, hC, hk, r1, r2⟩ := law_st L xs z
  have G : Gd xs L 0 I (none, none, none, none, z) k := by
    refine ⟨⟨0, by omega, by rw [e24]; exact bg_ok _⟩, by rw [e24]; exact hS, h31 8 (by decide), ⟨0, by omega, t1, h31 10 (by decide), fun x hx => absurd hx (by omega), t2.trans (h31 15 (by decide)).symm, t3.trans h16.symm⟩, hW, ⟨h27 0, h27 1⟩, ?_, hC, hX, hk, ?_⟩
    · refine ⟨fun i hi => (nomatch hi), fun j hj i hi => ?_, fun i hi => (nomatch hi), fun i hi => (nomatch hi)⟩
      have : sv (none, none, none, none, z) j = none := by unfold sv; split <;> rfl
      rw [this] at hi; nomatch hi
    · exact ⟨by rw [r1]; exact Nat.le_add_right _ _, by rw [r2]; exact Nat.le_add_right _ _⟩
  obtain ⟨M', p1, p2, p3⟩ := Lp hL L 0 0 I (none, none, none, none, z) k none none G rfl (by omega) (by omega)
  exact ⟨M', e.trans p1, Nat.le_trans p2 (by decide +kernel), Nat.le_trans p3 (by decide +kernel)⟩
