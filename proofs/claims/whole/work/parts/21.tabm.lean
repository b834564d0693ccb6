/-! ===== what the tables say of the methods (by wip/whole/gen21.py) ===== -/
theorem a_m1 {i : Nat} {w : Cond} (h : tables_1_1[i]? = some w) (hg : a_gw w = true) : w ∈ lw_gd := List.mem_filter.mpr ⟨List.mem_append_right _ (List.mem_append_left _ (List.mem_of_getElem? h)), hg⟩
theorem a_m2 {i : Nat} {w : Cond} (h : tables_1_2[i]? = some w) (hg : a_gw w = true) : w ∈ lw_gd := List.mem_filter.mpr ⟨List.mem_append_right _ (List.mem_append_right _ (List.mem_append_left _ (List.mem_of_getElem? h))), hg⟩
theorem a_m3 {i : Nat} {w : Cond} (h : tables_1_3[i]? = some w) (hg : a_gw w = true) : w ∈ lw_gd := List.mem_filter.mpr ⟨List.mem_append_right _ (List.mem_append_right _ (List.mem_append_right _ (List.mem_append_left _ (List.mem_of_getElem? h)))), hg⟩
theorem a_m4 {i : Nat} {w : Cond} (h : tables_1_4[i]? = some w) (hg : a_gw w = true) : w ∈ lw_gd := List.mem_filter.mpr ⟨List.mem_append_right _ (List.mem_append_right _ (List.mem_append_right _ (List.mem_append_right _ (List.mem_append_left _ (List.mem_of_getElem? h))))), hg⟩
theorem a_m5 {i : Nat} {w : Cond} (h : tables_1_5[i]? = some w) (hg : a_gw w = true) : w ∈ lw_gd := List.mem_filter.mpr ⟨List.mem_append_right _ (List.mem_append_right _ (List.mem_append_right _ (List.mem_append_right _ (List.mem_append_right _ (List.mem_append_left _ (List.mem_of_getElem? h)))))), hg⟩
theorem a_m6 {i : Nat} {w : Cond} (h : tables_1_6[i]? = some w) (hg : a_gw w = true) : w ∈ lw_gd := List.mem_filter.mpr ⟨List.mem_append_right _ (List.mem_append_right _ (List.mem_append_right _ (List.mem_append_right _ (List.mem_append_right _ (List.mem_append_right _ (List.mem_append_left _ (List.mem_of_getElem? h))))))), hg⟩
theorem a_m7 {i : Nat} {w : Cond} (h : tables_1_7[i]? = some w) (hg : a_gw w = true) : w ∈ lw_gd := List.mem_filter.mpr ⟨List.mem_append_right _ (List.mem_append_right _ (List.mem_append_right _ (List.mem_append_right _ (List.mem_append_right _ (List.mem_append_right _ (List.mem_append_right _ (List.mem_append_left _ (List.mem_of_getElem? h)))))))), hg⟩
theorem a_m8 {i : Nat} {w : Cond} (h : tables_1_8[i]? = some w) (hg : a_gw w = true) : w ∈ lw_gd := List.mem_filter.mpr ⟨List.mem_append_right _ (List.mem_append_right _ (List.mem_append_right _ (List.mem_append_right _ (List.mem_append_right _ (List.mem_append_right _ (List.mem_append_right _ (List.mem_append_right _ ((List.mem_of_getElem? h))))))))), hg⟩
theorem a_s1 {i : Nat} {q : MethodName × Nat} (h : lw_privs_1[i]? = some q) (hg : a_gw (Cond.selects q.1.cls q.1 q.1) = true) : Cond.selects q.1.cls q.1 q.1 ∈ lw_gd := List.mem_filter.mpr ⟨List.mem_append_left _ (List.mem_map.mpr ⟨q, List.mem_append_left _ (List.mem_of_getElem? h), rfl⟩), hg⟩
theorem a_s2 {i : Nat} {q : MethodName × Nat} (h : lw_privs_2[i]? = some q) (hg : a_gw (Cond.selects q.1.cls q.1 q.1) = true) : Cond.selects q.1.cls q.1 q.1 ∈ lw_gd := List.mem_filter.mpr ⟨List.mem_append_left _ (List.mem_map.mpr ⟨q, List.mem_append_right _ (List.mem_append_left _ (List.mem_of_getElem? h)), rfl⟩), hg⟩
theorem a_s3 {i : Nat} {q : MethodName × Nat} (h : lw_privs_3[i]? = some q) (hg : a_gw (Cond.selects q.1.cls q.1 q.1) = true) : Cond.selects q.1.cls q.1 q.1 ∈ lw_gd := List.mem_filter.mpr ⟨List.mem_append_left _ (List.mem_map.mpr ⟨q, List.mem_append_right _ (List.mem_append_right _ (List.mem_append_left _ (List.mem_of_getElem? h))), rfl⟩), hg⟩
theorem a_s4 {i : Nat} {q : MethodName × Nat} (h : lw_privs_4[i]? = some q) (hg : a_gw (Cond.selects q.1.cls q.1 q.1) = true) : Cond.selects q.1.cls q.1 q.1 ∈ lw_gd := List.mem_filter.mpr ⟨List.mem_append_left _ (List.mem_map.mpr ⟨q, List.mem_append_right _ (List.mem_append_right _ (List.mem_append_right _ (List.mem_append_left _ (List.mem_of_getElem? h)))), rfl⟩), hg⟩
theorem a_s5 {i : Nat} {q : MethodName × Nat} (h : lw_privs_5[i]? = some q) (hg : a_gw (Cond.selects q.1.cls q.1 q.1) = true) : Cond.selects q.1.cls q.1 q.1 ∈ lw_gd := List.mem_filter.mpr ⟨List.mem_append_left _ (List.mem_map.mpr ⟨q, List.mem_append_right _ (List.mem_append_right _ (List.mem_append_right _ (List.mem_append_right _ (List.mem_append_left _ (List.mem_of_getElem? h))))), rfl⟩), hg⟩
theorem a_s6 {i : Nat} {q : MethodName × Nat} (h : lw_privs_6[i]? = some q) (hg : a_gw (Cond.selects q.1.cls q.1 q.1) = true) : Cond.selects q.1.cls q.1 q.1 ∈ lw_gd := List.mem_filter.mpr ⟨List.mem_append_left _ (List.mem_map.mpr ⟨q, List.mem_append_right _ (List.mem_append_right _ (List.mem_append_right _ (List.mem_append_right _ (List.mem_append_right _ ((List.mem_of_getElem? h)))))), rfl⟩), hg⟩
theorem mk_0 : a_mk0 0 := ⟨by decide, by decide +kernel, ⟨by decide +kernel, by decide +kernel⟩, a_m1 (i := 7) rfl rfl, rfl⟩
theorem mc_0 : Cond.code (a_y 0) (a_c 0) (a_ml 0) (a_rt 0) ∈ lw_gd := a_m1 (i := 213) rfl rfl
theorem mh_0 : a_hh 0 = [] := rfl
theorem mi_0 : Cond.instanceMethod (a_y 0) ∈ lw_gd := a_m1 (i := 212) rfl rfl
theorem mp_0 : 1 ≤ a_na 0 ∧ (parseMethodDescriptor (a_y 0).desc).map (fun d => d.parameters.length) = some (a_na 0 - 1) := by decide +kernel
theorem mk_1 : a_mk0 1 := ⟨by decide, by decide +kernel, ⟨by decide +kernel, by decide +kernel⟩, a_m1 (i := 7) rfl rfl, rfl⟩
theorem mc_1 : Cond.code (a_y 1) (a_c 1) (a_ml 1) (a_rt 1) ∈ lw_gd := a_m5 (i := 176) rfl rfl
theorem mh_1 : a_hh 1 = [] := rfl
theorem mi_1 : Cond.instanceMethod (a_y 1) ∈ lw_gd := a_m5 (i := 174) rfl rfl
theorem mp_1 : 1 ≤ a_na 1 ∧ (parseMethodDescriptor (a_y 1).desc).map (fun d => d.parameters.length) = some (a_na 1 - 1) := by decide +kernel
theorem ms_1 : Cond.selects (a_Rn (a_own 1)) (a_y 1) (a_y 1) ∈ lw_gd := a_m5 (i := 175) rfl rfl
theorem mk_2 : a_mk0 2 := ⟨by decide, by decide +kernel, ⟨by decide +kernel, by decide +kernel⟩, a_m1 (i := 7) rfl rfl, rfl⟩
theorem mc_2 : Cond.code (a_y 2) (a_c 2) (a_ml 2) (a_rt 2) ∈ lw_gd := a_m3 (i := 196) rfl rfl
theorem mh_2 : a_hh 2 = [] := rfl
theorem mi_2 : Cond.instanceMethod (a_y 2) ∈ lw_gd := a_m3 (i := 194) rfl rfl
theorem mp_2 : 1 ≤ a_na 2 ∧ (parseMethodDescriptor (a_y 2).desc).map (fun d => d.parameters.length) = some (a_na 2 - 1) := by decide +kernel
theorem ms_2 : Cond.selects (a_Rn (a_own 2)) (a_y 2) (a_y 2) ∈ lw_gd := a_m3 (i := 195) rfl rfl
theorem mk_3 : a_mk0 3 := ⟨by decide, by decide +kernel, ⟨by decide +kernel, by decide +kernel⟩, a_m1 (i := 7) rfl rfl, rfl⟩
theorem mc_3 : Cond.code (a_y 3) (a_c 3) (a_ml 3) (a_rt 3) ∈ lw_gd := a_m6 (i := 38) rfl rfl
theorem mh_3 : a_hh 3 = [] := rfl
theorem mi_3 : Cond.instanceMethod (a_y 3) ∈ lw_gd := a_m6 (i := 36) rfl rfl
theorem mp_3 : 1 ≤ a_na 3 ∧ (parseMethodDescriptor (a_y 3).desc).map (fun d => d.parameters.length) = some (a_na 3 - 1) := by decide +kernel
theorem ms_3 : Cond.selects (a_Rn (a_own 3)) (a_y 3) (a_y 3) ∈ lw_gd := a_m6 (i := 37) rfl rfl
theorem mk_4 : a_mk0 4 := ⟨by decide, by decide +kernel, ⟨by decide +kernel, by decide +kernel⟩, a_m1 (i := 7) rfl rfl, rfl⟩
theorem mc_4 : Cond.code (a_y 4) (a_c 4) (a_ml 4) (a_rt 4) ∈ lw_gd := a_m6 (i := 49) rfl rfl
theorem mh_4 : a_hh 4 = [] := rfl
theorem mi_4 : Cond.instanceMethod (a_y 4) ∈ lw_gd := a_m6 (i := 47) rfl rfl
theorem mp_4 : 1 ≤ a_na 4 ∧ (parseMethodDescriptor (a_y 4).desc).map (fun d => d.parameters.length) = some (a_na 4 - 1) := by decide +kernel
theorem ms_4 : Cond.selects (a_Rn (a_own 4)) (a_y 4) (a_y 4) ∈ lw_gd := a_m6 (i := 48) rfl rfl
theorem mk_5 : a_mk0 5 := ⟨by decide, by decide +kernel, ⟨by decide +kernel, by decide +kernel⟩, a_m1 (i := 7) rfl rfl, rfl⟩
theorem mc_5 : Cond.code (a_y 5) (a_c 5) (a_ml 5) (a_rt 5) ∈ lw_gd := a_m5 (i := 190) rfl rfl
theorem mh_5 : a_hh 5 = [] := rfl
theorem mi_5 : Cond.instanceMethod (a_y 5) ∈ lw_gd := a_m5 (i := 188) rfl rfl
theorem mp_5 : 1 ≤ a_na 5 ∧ (parseMethodDescriptor (a_y 5).desc).map (fun d => d.parameters.length) = some (a_na 5 - 1) := by decide +kernel
theorem ms_5 : Cond.selects (a_Rn (a_own 5)) (a_y 5) (a_y 5) ∈ lw_gd := a_m5 (i := 189) rfl rfl
theorem mk_6 : a_mk0 6 := ⟨by decide, by decide +kernel, ⟨by decide +kernel, by decide +kernel⟩, a_m1 (i := 6) rfl rfl, rfl⟩
theorem mc_6 : Cond.code (a_y 6) (a_c 6) (a_ml 6) (a_rt 6) ∈ lw_gd := a_m1 (i := 160) rfl rfl
theorem mh_6 : a_hh 6 = [] := rfl
theorem mi_6 : Cond.instanceMethod (a_y 6) ∈ lw_gd := a_m1 (i := 159) rfl rfl
theorem mp_6 : 1 ≤ a_na 6 ∧ (parseMethodDescriptor (a_y 6).desc).map (fun d => d.parameters.length) = some (a_na 6 - 1) := by decide +kernel
theorem mk_7 : a_mk0 7 := ⟨by decide, by decide +kernel, ⟨by decide +kernel, by decide +kernel⟩, a_m1 (i := 6) rfl rfl, rfl⟩
theorem mc_7 : Cond.code (a_y 7) (a_c 7) (a_ml 7) (a_rt 7) ∈ lw_gd := a_m3 (i := 158) rfl rfl
theorem mh_7 : a_hh 7 = [] := rfl
theorem mi_7 : Cond.instanceMethod (a_y 7) ∈ lw_gd := a_m3 (i := 156) rfl rfl
theorem mp_7 : 1 ≤ a_na 7 ∧ (parseMethodDescriptor (a_y 7).desc).map (fun d => d.parameters.length) = some (a_na 7 - 1) := by decide +kernel
theorem ms_7 : Cond.selects (a_Rn (a_own 7)) (a_y 7) (a_y 7) ∈ lw_gd := a_m3 (i := 157) rfl rfl
theorem mk_8 : a_mk0 8 := ⟨by decide, by decide +kernel, ⟨by decide +kernel, by decide +kernel⟩, a_m1 (i := 6) rfl rfl, rfl⟩
theorem mc_8 : Cond.code (a_y 8) (a_c 8) (a_ml 8) (a_rt 8) ∈ lw_gd := a_m3 (i := 191) rfl rfl
theorem mh_8 : a_hh 8 = [] := rfl
theorem mi_8 : Cond.instanceMethod (a_y 8) ∈ lw_gd := a_m3 (i := 189) rfl rfl
theorem mp_8 : 1 ≤ a_na 8 ∧ (parseMethodDescriptor (a_y 8).desc).map (fun d => d.parameters.length) = some (a_na 8 - 1) := by decide +kernel
theorem ms_8 : Cond.selects (a_Rn (a_own 8)) (a_y 8) (a_y 8) ∈ lw_gd := a_m3 (i := 190) rfl rfl
theorem mk_9 : a_mk0 9 := ⟨by decide, by decide +kernel, ⟨by decide +kernel, by decide +kernel⟩, a_m1 (i := 6) rfl rfl, rfl⟩
theorem mc_9 : Cond.code (a_y 9) (a_c 9) (a_ml 9) (a_rt 9) ∈ lw_gd := a_m3 (i := 162) rfl rfl
theorem mh_9 : a_hh 9 = [] := rfl
theorem mi_9 : Cond.instanceMethod (a_y 9) ∈ lw_gd := a_m3 (i := 160) rfl rfl
theorem mp_9 : 1 ≤ a_na 9 ∧ (parseMethodDescriptor (a_y 9).desc).map (fun d => d.parameters.length) = some (a_na 9 - 1) := by decide +kernel
theorem ms_9 : Cond.selects (a_Rn (a_own 9)) (a_y 9) (a_y 9) ∈ lw_gd := a_m3 (i := 161) rfl rfl
theorem mk_10 : a_mk0 10 := ⟨by decide, by decide +kernel, ⟨by decide +kernel, by decide +kernel⟩, a_m1 (i := 6) rfl rfl, rfl⟩
theorem mc_10 : Cond.code (a_y 10) (a_c 10) (a_ml 10) (a_rt 10) ∈ lw_gd := a_m2 (i := 187) rfl rfl
theorem mh_10 : a_hh 10 = [] := rfl
theorem mi_10 : Cond.instanceMethod (a_y 10) ∈ lw_gd := a_m2 (i := 185) rfl rfl
theorem mp_10 : 1 ≤ a_na 10 ∧ (parseMethodDescriptor (a_y 10).desc).map (fun d => d.parameters.length) = some (a_na 10 - 1) := by decide +kernel
theorem ms_10 : Cond.selects (a_Rn (a_own 10)) (a_y 10) (a_y 10) ∈ lw_gd := a_m2 (i := 186) rfl rfl
theorem mk_11 : a_mk0 11 := ⟨by decide, by decide +kernel, ⟨by decide +kernel, by decide +kernel⟩, a_m1 (i := 6) rfl rfl, rfl⟩
theorem mc_11 : Cond.code (a_y 11) (a_c 11) (a_ml 11) (a_rt 11) ∈ lw_gd := a_m5 (i := 102) rfl rfl
theorem mh_11 : a_hh 11 = [] := rfl
theorem mi_11 : Cond.instanceMethod (a_y 11) ∈ lw_gd := a_m5 (i := 100) rfl rfl
theorem mp_11 : 1 ≤ a_na 11 ∧ (parseMethodDescriptor (a_y 11).desc).map (fun d => d.parameters.length) = some (a_na 11 - 1) := by decide +kernel
theorem ms_11 : Cond.selects (a_Rn (a_own 11)) (a_y 11) (a_y 11) ∈ lw_gd := a_m5 (i := 101) rfl rfl
theorem mk_12 : a_mk0 12 := ⟨by decide, by decide +kernel, ⟨by decide +kernel, by decide +kernel⟩, a_m1 (i := 6) rfl rfl, rfl⟩
theorem mc_12 : Cond.code (a_y 12) (a_c 12) (a_ml 12) (a_rt 12) ∈ lw_gd := a_m5 (i := 217) rfl rfl
theorem mh_12 : a_hh 12 = [] := rfl
theorem mi_12 : Cond.instanceMethod (a_y 12) ∈ lw_gd := a_m5 (i := 215) rfl rfl
theorem mp_12 : 1 ≤ a_na 12 ∧ (parseMethodDescriptor (a_y 12).desc).map (fun d => d.parameters.length) = some (a_na 12 - 1) := by decide +kernel
theorem ms_12 : Cond.selects (a_Rn (a_own 12)) (a_y 12) (a_y 12) ∈ lw_gd := a_m5 (i := 216) rfl rfl
theorem mk_13 : a_mk0 13 := ⟨by decide, by decide +kernel, ⟨by decide +kernel, by decide +kernel⟩, a_m1 (i := 6) rfl rfl, rfl⟩
theorem mc_13 : Cond.code (a_y 13) (a_c 13) (a_ml 13) (a_rt 13) ∈ lw_gd := a_m5 (i := 198) rfl rfl
theorem mh_13 : a_hh 13 = [] := rfl
theorem mi_13 : Cond.instanceMethod (a_y 13) ∈ lw_gd := a_m5 (i := 196) rfl rfl
theorem mp_13 : 1 ≤ a_na 13 ∧ (parseMethodDescriptor (a_y 13).desc).map (fun d => d.parameters.length) = some (a_na 13 - 1) := by decide +kernel
theorem ms_13 : Cond.selects (a_Rn (a_own 13)) (a_y 13) (a_y 13) ∈ lw_gd := a_m5 (i := 197) rfl rfl
theorem mk_14 : a_mk0 14 := ⟨by decide, by decide +kernel, ⟨by decide +kernel, by decide +kernel⟩, a_m1 (i := 6) rfl rfl, rfl⟩
theorem mc_14 : Cond.code (a_y 14) (a_c 14) (a_ml 14) (a_rt 14) ∈ lw_gd := a_m5 (i := 172) rfl rfl
theorem mh_14 : a_hh 14 = [] := rfl
theorem mi_14 : Cond.instanceMethod (a_y 14) ∈ lw_gd := a_m5 (i := 170) rfl rfl
theorem mp_14 : 1 ≤ a_na 14 ∧ (parseMethodDescriptor (a_y 14).desc).map (fun d => d.parameters.length) = some (a_na 14 - 1) := by decide +kernel
theorem ms_14 : Cond.selects (a_Rn (a_own 14)) (a_y 14) (a_y 14) ∈ lw_gd := a_m5 (i := 171) rfl rfl
theorem mk_15 : a_mk0 15 := ⟨by decide, by decide +kernel, ⟨by decide +kernel, by decide +kernel⟩, a_m1 (i := 5) rfl rfl, rfl⟩
theorem mc_15 : Cond.code (a_y 15) (a_c 15) (a_ml 15) (a_rt 15) ∈ lw_gd := a_m1 (i := 114) rfl rfl
theorem mh_15 : a_hh 15 = [] := rfl
theorem mi_15 : Cond.instanceMethod (a_y 15) ∈ lw_gd := a_m1 (i := 113) rfl rfl
theorem mp_15 : 1 ≤ a_na 15 ∧ (parseMethodDescriptor (a_y 15).desc).map (fun d => d.parameters.length) = some (a_na 15 - 1) := by decide +kernel
theorem mk_16 : a_mk0 16 := ⟨by decide, by decide +kernel, ⟨by decide +kernel, by decide +kernel⟩, a_m1 (i := 5) rfl rfl, rfl⟩
theorem mc_16 : Cond.code (a_y 16) (a_c 16) (a_ml 16) (a_rt 16) ∈ lw_gd := a_m2 (i := 18) rfl rfl
theorem mh_16 : a_hh 16 = [] := rfl
theorem mi_16 : Cond.instanceMethod (a_y 16) ∈ lw_gd := a_m2 (i := 16) rfl rfl
theorem mp_16 : 1 ≤ a_na 16 ∧ (parseMethodDescriptor (a_y 16).desc).map (fun d => d.parameters.length) = some (a_na 16 - 1) := by decide +kernel
theorem ms_16 : Cond.selects (a_Rn (a_own 16)) (a_y 16) (a_y 16) ∈ lw_gd := a_m2 (i := 17) rfl rfl
theorem mk_17 : a_mk0 17 := ⟨by decide, by decide +kernel, ⟨by decide +kernel, by decide +kernel⟩, a_m1 (i := 5) rfl rfl, rfl⟩
theorem mc_17 : Cond.code (a_y 17) (a_c 17) (a_ml 17) (a_rt 17) ∈ lw_gd := a_m3 (i := 187) rfl rfl
theorem mh_17 : a_hh 17 = [] := rfl
theorem mi_17 : Cond.instanceMethod (a_y 17) ∈ lw_gd := a_m3 (i := 185) rfl rfl
theorem mp_17 : 1 ≤ a_na 17 ∧ (parseMethodDescriptor (a_y 17).desc).map (fun d => d.parameters.length) = some (a_na 17 - 1) := by decide +kernel
theorem ms_17 : Cond.selects (a_Rn (a_own 17)) (a_y 17) (a_y 17) ∈ lw_gd := a_m3 (i := 186) rfl rfl
theorem mk_18 : a_mk0 18 := ⟨by decide, by decide +kernel, ⟨by decide +kernel, by decide +kernel⟩, a_m1 (i := 9) rfl rfl, rfl⟩
theorem mc_18 : Cond.code (a_y 18) (a_c 18) (a_ml 18) (a_rt 18) ∈ lw_gd := a_m2 (i := 68) rfl rfl
theorem mh_18 : a_hh 18 = [] := rfl
theorem mi_18 : Cond.instanceMethod (a_y 18) ∈ lw_gd := a_m2 (i := 67) rfl rfl
theorem mp_18 : 1 ≤ a_na 18 ∧ (parseMethodDescriptor (a_y 18).desc).map (fun d => d.parameters.length) = some (a_na 18 - 1) := by decide +kernel
theorem mk_19 : a_mk0 19 := ⟨by decide, by decide +kernel, ⟨by decide +kernel, by decide +kernel⟩, a_m1 (i := 9) rfl rfl, rfl⟩
theorem mc_19 : Cond.code (a_y 19) (a_c 19) (a_ml 19) (a_rt 19) ∈ lw_gd := a_m6 (i := 113) rfl rfl
theorem mh_19 : a_hh 19 = [] := rfl
theorem mi_19 : Cond.instanceMethod (a_y 19) ∈ lw_gd := a_m6 (i := 111) rfl rfl
theorem mp_19 : 1 ≤ a_na 19 ∧ (parseMethodDescriptor (a_y 19).desc).map (fun d => d.parameters.length) = some (a_na 19 - 1) := by decide +kernel
theorem ms_19 : Cond.selects (a_Rn (a_own 19)) (a_y 19) (a_y 19) ∈ lw_gd := a_m6 (i := 112) rfl rfl
theorem mk_20 : a_mk0 20 := ⟨by decide, by decide +kernel, ⟨by decide +kernel, by decide +kernel⟩, a_m1 (i := 9) rfl rfl, rfl⟩
theorem mc_20 : Cond.code (a_y 20) (a_c 20) (a_ml 20) (a_rt 20) ∈ lw_gd := a_m6 (i := 118) rfl rfl
theorem mh_20 : a_hh 20 = [] := rfl
theorem mi_20 : Cond.instanceMethod (a_y 20) ∈ lw_gd := a_m6 (i := 116) rfl rfl
theorem mp_20 : 1 ≤ a_na 20 ∧ (parseMethodDescriptor (a_y 20).desc).map (fun d => d.parameters.length) = some (a_na 20 - 1) := by decide +kernel
theorem ms_20 : Cond.selects (a_Rn (a_own 20)) (a_y 20) (a_y 20) ∈ lw_gd := a_m6 (i := 117) rfl rfl
theorem mk_21 : a_mk0 21 := ⟨by decide, by decide +kernel, ⟨by decide +kernel, by decide +kernel⟩, a_m1 (i := 9) rfl rfl, rfl⟩
theorem mc_21 : Cond.code (a_y 21) (a_c 21) (a_ml 21) (a_rt 21) ∈ lw_gd := a_m2 (i := 237) rfl rfl
theorem mh_21 : a_hh 21 = [] := rfl
theorem mi_21 : Cond.instanceMethod (a_y 21) ∈ lw_gd := a_m2 (i := 235) rfl rfl
theorem mp_21 : 1 ≤ a_na 21 ∧ (parseMethodDescriptor (a_y 21).desc).map (fun d => d.parameters.length) = some (a_na 21 - 1) := by decide +kernel
theorem ms_21 : Cond.selects (a_Rn (a_own 21)) (a_y 21) (a_y 21) ∈ lw_gd := a_m2 (i := 236) rfl rfl
theorem mk_22 : a_mk0 22 := ⟨by decide, by decide +kernel, ⟨by decide +kernel, by decide +kernel⟩, a_m1 (i := 9) rfl rfl, rfl⟩
theorem mc_22 : Cond.code (a_y 22) (a_c 22) (a_ml 22) (a_rt 22) ∈ lw_gd := a_m3 (i := 79) rfl rfl
theorem mh_22 : a_hh 22 = [] := rfl
theorem mi_22 : Cond.instanceMethod (a_y 22) ∈ lw_gd := a_m3 (i := 78) rfl rfl
theorem mp_22 : 1 ≤ a_na 22 ∧ (parseMethodDescriptor (a_y 22).desc).map (fun d => d.parameters.length) = some (a_na 22 - 1) := by decide +kernel
theorem ms_22 : Cond.selects (a_Rn (a_own 22)) (a_y 22) (a_y 22) ∈ lw_gd := a_s1 (i := 6) (q := (a_y 22, _)) rfl rfl
theorem mk_23 : a_mk0 23 := ⟨by decide, by decide +kernel, ⟨by decide +kernel, by decide +kernel⟩, a_m1 (i := 9) rfl rfl, rfl⟩
theorem mc_23 : Cond.code (a_y 23) (a_c 23) (a_ml 23) (a_rt 23) ∈ lw_gd := a_m3 (i := 167) rfl rfl
theorem mh_23 : a_hh 23 = [] := rfl
theorem mi_23 : Cond.instanceMethod (a_y 23) ∈ lw_gd := a_m3 (i := 166) rfl rfl
theorem mp_23 : 1 ≤ a_na 23 ∧ (parseMethodDescriptor (a_y 23).desc).map (fun d => d.parameters.length) = some (a_na 23 - 1) := by decide +kernel
theorem ms_23 : Cond.selects (a_Rn (a_own 23)) (a_y 23) (a_y 23) ∈ lw_gd := a_s2 (i := 0) (q := (a_y 23, _)) rfl rfl
theorem mk_24 : a_mk0 24 := ⟨by decide, by decide +kernel, ⟨by decide +kernel, by decide +kernel⟩, a_m1 (i := 9) rfl rfl, rfl⟩
theorem mc_24 : Cond.code (a_y 24) (a_c 24) (a_ml 24) (a_rt 24) ∈ lw_gd := a_m3 (i := 11) rfl rfl
theorem mh_24 : a_hh 24 = [] := rfl
theorem mi_24 : Cond.instanceMethod (a_y 24) ∈ lw_gd := a_m3 (i := 10) rfl rfl
theorem mp_24 : 1 ≤ a_na 24 ∧ (parseMethodDescriptor (a_y 24).desc).map (fun d => d.parameters.length) = some (a_na 24 - 1) := by decide +kernel
theorem ms_24 : Cond.selects (a_Rn (a_own 24)) (a_y 24) (a_y 24) ∈ lw_gd := a_s1 (i := 2) (q := (a_y 24, _)) rfl rfl
theorem mk_25 : a_mk0 25 := ⟨by decide, by decide +kernel, ⟨by decide +kernel, by decide +kernel⟩, a_m1 (i := 9) rfl rfl, rfl⟩
theorem mc_25 : Cond.code (a_y 25) (a_c 25) (a_ml 25) (a_rt 25) ∈ lw_gd := a_m3 (i := 68) rfl rfl
theorem mh_25 : a_hh 25 = [] := rfl
theorem mi_25 : Cond.instanceMethod (a_y 25) ∈ lw_gd := a_m3 (i := 67) rfl rfl
theorem mp_25 : 1 ≤ a_na 25 ∧ (parseMethodDescriptor (a_y 25).desc).map (fun d => d.parameters.length) = some (a_na 25 - 1) := by decide +kernel
theorem ms_25 : Cond.selects (a_Rn (a_own 25)) (a_y 25) (a_y 25) ∈ lw_gd := a_s1 (i := 4) (q := (a_y 25, _)) rfl rfl
theorem mk_26 : a_mk0 26 := ⟨by decide, by decide +kernel, ⟨by decide +kernel, by decide +kernel⟩, a_m1 (i := 9) rfl rfl, rfl⟩
theorem mc_26 : Cond.code (a_y 26) (a_c 26) (a_ml 26) (a_rt 26) ∈ lw_gd := a_m3 (i := 93) rfl rfl
theorem mh_26 : a_hh 26 = [] := rfl
theorem mi_26 : Cond.instanceMethod (a_y 26) ∈ lw_gd := a_m3 (i := 92) rfl rfl
theorem mp_26 : 1 ≤ a_na 26 ∧ (parseMethodDescriptor (a_y 26).desc).map (fun d => d.parameters.length) = some (a_na 26 - 1) := by decide +kernel
theorem ms_26 : Cond.selects (a_Rn (a_own 26)) (a_y 26) (a_y 26) ∈ lw_gd := a_s1 (i := 8) (q := (a_y 26, _)) rfl rfl
theorem mk_27 : a_mk0 27 := ⟨by decide, by decide +kernel, ⟨by decide +kernel, by decide +kernel⟩, a_m1 (i := 9) rfl rfl, rfl⟩
theorem mc_27 : Cond.code (a_y 27) (a_c 27) (a_ml 27) (a_rt 27) ∈ lw_gd := a_m3 (i := 112) rfl rfl
theorem mh_27 : a_hh 27 = [] := rfl
theorem mi_27 : Cond.instanceMethod (a_y 27) ∈ lw_gd := a_m3 (i := 111) rfl rfl
theorem mp_27 : 1 ≤ a_na 27 ∧ (parseMethodDescriptor (a_y 27).desc).map (fun d => d.parameters.length) = some (a_na 27 - 1) := by decide +kernel
theorem ms_27 : Cond.selects (a_Rn (a_own 27)) (a_y 27) (a_y 27) ∈ lw_gd := a_s1 (i := 10) (q := (a_y 27, _)) rfl rfl
theorem mk_28 : a_mk0 28 := ⟨by decide, by decide +kernel, ⟨by decide +kernel, by decide +kernel⟩, a_m1 (i := 9) rfl rfl, rfl⟩
theorem mc_28 : Cond.code (a_y 28) (a_c 28) (a_ml 28) (a_rt 28) ∈ lw_gd := a_m3 (i := 117) rfl rfl
theorem mh_28 : a_hh 28 = [] := rfl
theorem mi_28 : Cond.instanceMethod (a_y 28) ∈ lw_gd := a_m3 (i := 116) rfl rfl
theorem mp_28 : 1 ≤ a_na 28 ∧ (parseMethodDescriptor (a_y 28).desc).map (fun d => d.parameters.length) = some (a_na 28 - 1) := by decide +kernel
theorem ms_28 : Cond.selects (a_Rn (a_own 28)) (a_y 28) (a_y 28) ∈ lw_gd := a_s1 (i := 11) (q := (a_y 28, _)) rfl rfl
theorem mk_29 : a_mk0 29 := ⟨by decide, by decide +kernel, ⟨by decide +kernel, by decide +kernel⟩, a_m1 (i := 9) rfl rfl, rfl⟩
theorem mc_29 : Cond.code (a_y 29) (a_c 29) (a_ml 29) (a_rt 29) ∈ lw_gd := a_m3 (i := 122) rfl rfl
theorem mh_29 : a_hh 29 = [] := rfl
theorem mi_29 : Cond.instanceMethod (a_y 29) ∈ lw_gd := a_m3 (i := 121) rfl rfl
theorem mp_29 : 1 ≤ a_na 29 ∧ (parseMethodDescriptor (a_y 29).desc).map (fun d => d.parameters.length) = some (a_na 29 - 1) := by decide +kernel
theorem ms_29 : Cond.selects (a_Rn (a_own 29)) (a_y 29) (a_y 29) ∈ lw_gd := a_s1 (i := 12) (q := (a_y 29, _)) rfl rfl
theorem mk_30 : a_mk0 30 := ⟨by decide, by decide +kernel, ⟨by decide +kernel, by decide +kernel⟩, a_m1 (i := 9) rfl rfl, rfl⟩
theorem mc_30 : Cond.code (a_y 30) (a_c 30) (a_ml 30) (a_rt 30) ∈ lw_gd := a_m3 (i := 127) rfl rfl
theorem mh_30 : a_hh 30 = [] := rfl
theorem mi_30 : Cond.instanceMethod (a_y 30) ∈ lw_gd := a_m3 (i := 126) rfl rfl
theorem mp_30 : 1 ≤ a_na 30 ∧ (parseMethodDescriptor (a_y 30).desc).map (fun d => d.parameters.length) = some (a_na 30 - 1) := by decide +kernel
theorem ms_30 : Cond.selects (a_Rn (a_own 30)) (a_y 30) (a_y 30) ∈ lw_gd := a_s1 (i := 13) (q := (a_y 30, _)) rfl rfl
theorem mk_31 : a_mk0 31 := ⟨by decide, by decide +kernel, ⟨by decide +kernel, by decide +kernel⟩, a_m1 (i := 9) rfl rfl, rfl⟩
theorem mc_31 : Cond.code (a_y 31) (a_c 31) (a_ml 31) (a_rt 31) ∈ lw_gd := a_m3 (i := 133) rfl rfl
theorem mh_31 : a_hh 31 = [] := rfl
theorem mi_31 : Cond.instanceMethod (a_y 31) ∈ lw_gd := a_m3 (i := 132) rfl rfl
theorem mp_31 : 1 ≤ a_na 31 ∧ (parseMethodDescriptor (a_y 31).desc).map (fun d => d.parameters.length) = some (a_na 31 - 1) := by decide +kernel
theorem ms_31 : Cond.selects (a_Rn (a_own 31)) (a_y 31) (a_y 31) ∈ lw_gd := a_s1 (i := 14) (q := (a_y 31, _)) rfl rfl
theorem mk_32 : a_mk0 32 := ⟨by decide, by decide +kernel, ⟨by decide +kernel, by decide +kernel⟩, a_m1 (i := 9) rfl rfl, rfl⟩
theorem mc_32 : Cond.code (a_y 32) (a_c 32) (a_ml 32) (a_rt 32) ∈ lw_gd := a_m3 (i := 140) rfl rfl
theorem mh_32 : a_hh 32 = [] := rfl
theorem mi_32 : Cond.instanceMethod (a_y 32) ∈ lw_gd := a_m3 (i := 139) rfl rfl
theorem mp_32 : 1 ≤ a_na 32 ∧ (parseMethodDescriptor (a_y 32).desc).map (fun d => d.parameters.length) = some (a_na 32 - 1) := by decide +kernel
theorem ms_32 : Cond.selects (a_Rn (a_own 32)) (a_y 32) (a_y 32) ∈ lw_gd := a_s1 (i := 15) (q := (a_y 32, _)) rfl rfl
theorem mk_33 : a_mk0 33 := ⟨by decide, by decide +kernel, ⟨by decide +kernel, by decide +kernel⟩, a_m1 (i := 9) rfl rfl, rfl⟩
theorem mc_33 : Cond.code (a_y 33) (a_c 33) (a_ml 33) (a_rt 33) ∈ lw_gd := a_m3 (i := 72) rfl rfl
theorem mh_33 : a_hh 33 = [] := rfl
theorem mi_33 : Cond.instanceMethod (a_y 33) ∈ lw_gd := a_m3 (i := 71) rfl rfl
theorem mp_33 : 1 ≤ a_na 33 ∧ (parseMethodDescriptor (a_y 33).desc).map (fun d => d.parameters.length) = some (a_na 33 - 1) := by decide +kernel
theorem ms_33 : Cond.selects (a_Rn (a_own 33)) (a_y 33) (a_y 33) ∈ lw_gd := a_s1 (i := 5) (q := (a_y 33, _)) rfl rfl
theorem mk_34 : a_mk0 34 := ⟨by decide, by decide +kernel, ⟨by decide +kernel, by decide +kernel⟩, a_m1 (i := 9) rfl rfl, rfl⟩
theorem mc_34 : Cond.code (a_y 34) (a_c 34) (a_ml 34) (a_rt 34) ∈ lw_gd := a_m3 (i := 83) rfl rfl
theorem mh_34 : a_hh 34 = [] := rfl
theorem mi_34 : Cond.instanceMethod (a_y 34) ∈ lw_gd := a_m3 (i := 82) rfl rfl
theorem mp_34 : 1 ≤ a_na 34 ∧ (parseMethodDescriptor (a_y 34).desc).map (fun d => d.parameters.length) = some (a_na 34 - 1) := by decide +kernel
theorem ms_34 : Cond.selects (a_Rn (a_own 34)) (a_y 34) (a_y 34) ∈ lw_gd := a_s1 (i := 7) (q := (a_y 34, _)) rfl rfl
theorem mk_35 : a_mk0 35 := ⟨by decide, by decide +kernel, ⟨by decide +kernel, by decide +kernel⟩, a_m1 (i := 9) rfl rfl, rfl⟩
theorem mc_35 : Cond.code (a_y 35) (a_c 35) (a_ml 35) (a_rt 35) ∈ lw_gd := a_m3 (i := 16) rfl rfl
theorem mh_35 : a_hh 35 = [] := rfl
theorem mi_35 : Cond.instanceMethod (a_y 35) ∈ lw_gd := a_m3 (i := 15) rfl rfl
theorem mp_35 : 1 ≤ a_na 35 ∧ (parseMethodDescriptor (a_y 35).desc).map (fun d => d.parameters.length) = some (a_na 35 - 1) := by decide +kernel
theorem ms_35 : Cond.selects (a_Rn (a_own 35)) (a_y 35) (a_y 35) ∈ lw_gd := a_s1 (i := 3) (q := (a_y 35, _)) rfl rfl
theorem mk_36 : a_mk0 36 := ⟨by decide, by decide +kernel, ⟨by decide +kernel, by decide +kernel⟩, a_m1 (i := 9) rfl rfl, rfl⟩
theorem mc_36 : Cond.code (a_y 36) (a_c 36) (a_ml 36) (a_rt 36) ∈ lw_gd := a_m3 (i := 1) rfl rfl
theorem mh_36 : a_hh 36 = [] := rfl
theorem mi_36 : Cond.instanceMethod (a_y 36) ∈ lw_gd := a_m3 (i := 0) rfl rfl
theorem mp_36 : 1 ≤ a_na 36 ∧ (parseMethodDescriptor (a_y 36).desc).map (fun d => d.parameters.length) = some (a_na 36 - 1) := by decide +kernel
theorem ms_36 : Cond.selects (a_Rn (a_own 36)) (a_y 36) (a_y 36) ∈ lw_gd := a_s1 (i := 1) (q := (a_y 36, _)) rfl rfl
theorem mk_37 : a_mk0 37 := ⟨by decide, by decide +kernel, ⟨by decide +kernel, by decide +kernel⟩, a_m1 (i := 9) rfl rfl, rfl⟩
theorem mc_37 : Cond.code (a_y 37) (a_c 37) (a_ml 37) (a_rt 37) ∈ lw_gd := a_m3 (i := 4) rfl rfl
theorem mh_37 : a_hh 37 = [] := rfl
theorem mi_37 : Cond.static (a_y 37) ∈ lw_gd := a_m3 (i := 3) rfl rfl
theorem mp_37 : (parseMethodDescriptor (a_y 37).desc).map (fun d => d.parameters.length) = some (a_na 37) := by decide +kernel
theorem mk_38 : a_mk0 38 := ⟨by decide, by decide +kernel, ⟨by decide +kernel, by decide +kernel⟩, a_m1 (i := 9) rfl rfl, rfl⟩
theorem mc_38 : Cond.code (a_y 38) (a_c 38) (a_ml 38) (a_rt 38) ∈ lw_gd := a_m3 (i := 7) rfl rfl
theorem mh_38 : a_hh 38 = [] := rfl
theorem mi_38 : Cond.static (a_y 38) ∈ lw_gd := a_m3 (i := 6) rfl rfl
theorem mp_38 : (parseMethodDescriptor (a_y 38).desc).map (fun d => d.parameters.length) = some (a_na 38) := by decide +kernel
theorem mk_39 : a_mk0 39 := ⟨by decide, by decide +kernel, ⟨by decide +kernel, by decide +kernel⟩, a_m1 (i := 2) rfl rfl, rfl⟩
theorem mc_39 : Cond.code (a_y 39) (a_c 39) (a_ml 39) (a_rt 39) ∈ lw_gd := a_m1 (i := 36) rfl rfl
theorem mh_39 : a_hh 39 = [] := rfl
theorem mi_39 : Cond.instanceMethod (a_y 39) ∈ lw_gd := a_m1 (i := 35) rfl rfl
theorem mp_39 : 1 ≤ a_na 39 ∧ (parseMethodDescriptor (a_y 39).desc).map (fun d => d.parameters.length) = some (a_na 39 - 1) := by decide +kernel
theorem mk_40 : a_mk0 40 := ⟨by decide, by decide +kernel, ⟨by decide +kernel, by decide +kernel⟩, a_m1 (i := 2) rfl rfl, rfl⟩
theorem mc_40 : Cond.code (a_y 40) (a_c 40) (a_ml 40) (a_rt 40) ∈ lw_gd := a_m2 (i := 10) rfl rfl
theorem mh_40 : a_hh 40 = [] := rfl
theorem mi_40 : Cond.instanceMethod (a_y 40) ∈ lw_gd := a_m2 (i := 8) rfl rfl
theorem mp_40 : 1 ≤ a_na 40 ∧ (parseMethodDescriptor (a_y 40).desc).map (fun d => d.parameters.length) = some (a_na 40 - 1) := by decide +kernel
theorem ms_40 : Cond.selects (a_Rn (a_own 40)) (a_y 40) (a_y 40) ∈ lw_gd := a_m2 (i := 9) rfl rfl
theorem mk_41 : a_mk0 41 := ⟨by decide, by decide +kernel, ⟨by decide +kernel, by decide +kernel⟩, a_m1 (i := 2) rfl rfl, rfl⟩
theorem mc_41 : Cond.code (a_y 41) (a_c 41) (a_ml 41) (a_rt 41) ∈ lw_gd := a_m3 (i := 171) rfl rfl
theorem mh_41 : a_hh 41 = [] := rfl
theorem mi_41 : Cond.instanceMethod (a_y 41) ∈ lw_gd := a_m3 (i := 169) rfl rfl
theorem mp_41 : 1 ≤ a_na 41 ∧ (parseMethodDescriptor (a_y 41).desc).map (fun d => d.parameters.length) = some (a_na 41 - 1) := by decide +kernel
theorem ms_41 : Cond.selects (a_Rn (a_own 41)) (a_y 41) (a_y 41) ∈ lw_gd := a_m3 (i := 170) rfl rfl
theorem mk_42 : a_mk0 42 := ⟨by decide, by decide +kernel, ⟨by decide +kernel, by decide +kernel⟩, a_m1 (i := 2) rfl rfl, rfl⟩
theorem mc_42 : Cond.code (a_y 42) (a_c 42) (a_ml 42) (a_rt 42) ∈ lw_gd := a_m3 (i := 144) rfl rfl
theorem mh_42 : a_hh 42 = [] := rfl
theorem mi_42 : Cond.instanceMethod (a_y 42) ∈ lw_gd := a_m3 (i := 142) rfl rfl
theorem mp_42 : 1 ≤ a_na 42 ∧ (parseMethodDescriptor (a_y 42).desc).map (fun d => d.parameters.length) = some (a_na 42 - 1) := by decide +kernel
theorem ms_42 : Cond.selects (a_Rn (a_own 42)) (a_y 42) (a_y 42) ∈ lw_gd := a_m3 (i := 143) rfl rfl
theorem mk_43 : a_mk0 43 := ⟨by decide, by decide +kernel, ⟨by decide +kernel, by decide +kernel⟩, a_m1 (i := 2) rfl rfl, rfl⟩
theorem mc_43 : Cond.code (a_y 43) (a_c 43) (a_ml 43) (a_rt 43) ∈ lw_gd := a_m3 (i := 148) rfl rfl
theorem mh_43 : a_hh 43 = [] := rfl
theorem mi_43 : Cond.instanceMethod (a_y 43) ∈ lw_gd := a_m3 (i := 146) rfl rfl
theorem mp_43 : 1 ≤ a_na 43 ∧ (parseMethodDescriptor (a_y 43).desc).map (fun d => d.parameters.length) = some (a_na 43 - 1) := by decide +kernel
theorem ms_43 : Cond.selects (a_Rn (a_own 43)) (a_y 43) (a_y 43) ∈ lw_gd := a_m3 (i := 147) rfl rfl
theorem mk_44 : a_mk0 44 := ⟨by decide, by decide +kernel, ⟨by decide +kernel, by decide +kernel⟩, a_m1 (i := 2) rfl rfl, rfl⟩
theorem mc_44 : Cond.code (a_y 44) (a_c 44) (a_ml 44) (a_rt 44) ∈ lw_gd := a_m3 (i := 153) rfl rfl
theorem mh_44 : a_hh 44 = [] := rfl
theorem mi_44 : Cond.instanceMethod (a_y 44) ∈ lw_gd := a_m3 (i := 151) rfl rfl
theorem mp_44 : 1 ≤ a_na 44 ∧ (parseMethodDescriptor (a_y 44).desc).map (fun d => d.parameters.length) = some (a_na 44 - 1) := by decide +kernel
theorem ms_44 : Cond.selects (a_Rn (a_own 44)) (a_y 44) (a_y 44) ∈ lw_gd := a_m3 (i := 152) rfl rfl
theorem mk_45 : a_mk0 45 := ⟨by decide, by decide +kernel, ⟨by decide +kernel, by decide +kernel⟩, a_m1 (i := 2) rfl rfl, rfl⟩
theorem mc_45 : Cond.code (a_y 45) (a_c 45) (a_ml 45) (a_rt 45) ∈ lw_gd := a_m2 (i := 151) rfl rfl
theorem mh_45 : a_hh 45 = [] := rfl
theorem mi_45 : Cond.instanceMethod (a_y 45) ∈ lw_gd := a_m2 (i := 149) rfl rfl
theorem mp_45 : 1 ≤ a_na 45 ∧ (parseMethodDescriptor (a_y 45).desc).map (fun d => d.parameters.length) = some (a_na 45 - 1) := by decide +kernel
theorem ms_45 : Cond.selects (a_Rn (a_own 45)) (a_y 45) (a_y 45) ∈ lw_gd := a_m2 (i := 150) rfl rfl
theorem mk_46 : a_mk0 46 := ⟨by decide, by decide +kernel, ⟨by decide +kernel, by decide +kernel⟩, a_m1 (i := 2) rfl rfl, rfl⟩
theorem mc_46 : Cond.code (a_y 46) (a_c 46) (a_ml 46) (a_rt 46) ∈ lw_gd := a_m5 (i := 142) rfl rfl
theorem mh_46 : a_hh 46 = [] := rfl
theorem mi_46 : Cond.instanceMethod (a_y 46) ∈ lw_gd := a_m5 (i := 140) rfl rfl
theorem mp_46 : 1 ≤ a_na 46 ∧ (parseMethodDescriptor (a_y 46).desc).map (fun d => d.parameters.length) = some (a_na 46 - 1) := by decide +kernel
theorem ms_46 : Cond.selects (a_Rn (a_own 46)) (a_y 46) (a_y 46) ∈ lw_gd := a_m5 (i := 141) rfl rfl
theorem mk_47 : a_mk0 47 := ⟨by decide, by decide +kernel, ⟨by decide +kernel, by decide +kernel⟩, a_m1 (i := 2) rfl rfl, rfl⟩
theorem mc_47 : Cond.code (a_y 47) (a_c 47) (a_ml 47) (a_rt 47) ∈ lw_gd := a_m2 (i := 143) rfl rfl
theorem mh_47 : a_hh 47 = [] := rfl
theorem mi_47 : Cond.instanceMethod (a_y 47) ∈ lw_gd := a_m2 (i := 141) rfl rfl
theorem mp_47 : 1 ≤ a_na 47 ∧ (parseMethodDescriptor (a_y 47).desc).map (fun d => d.parameters.length) = some (a_na 47 - 1) := by decide +kernel
theorem ms_47 : Cond.selects (a_Rn (a_own 47)) (a_y 47) (a_y 47) ∈ lw_gd := a_m2 (i := 142) rfl rfl
theorem mk_48 : a_mk0 48 := ⟨by decide, by decide +kernel, ⟨by decide +kernel, by decide +kernel⟩, a_m1 (i := 2) rfl rfl, rfl⟩
theorem mc_48 : Cond.code (a_y 48) (a_c 48) (a_ml 48) (a_rt 48) ∈ lw_gd := a_m2 (i := 135) rfl rfl
theorem mh_48 : a_hh 48 = [] := rfl
theorem mi_48 : Cond.instanceMethod (a_y 48) ∈ lw_gd := a_m2 (i := 133) rfl rfl
theorem mp_48 : 1 ≤ a_na 48 ∧ (parseMethodDescriptor (a_y 48).desc).map (fun d => d.parameters.length) = some (a_na 48 - 1) := by decide +kernel
theorem ms_48 : Cond.selects (a_Rn (a_own 48)) (a_y 48) (a_y 48) ∈ lw_gd := a_m2 (i := 134) rfl rfl
theorem mk_49 : a_mk0 49 := ⟨by decide, by decide +kernel, ⟨by decide +kernel, by decide +kernel⟩, a_m1 (i := 2) rfl rfl, rfl⟩
theorem mc_49 : Cond.code (a_y 49) (a_c 49) (a_ml 49) (a_rt 49) ∈ lw_gd := a_m2 (i := 131) rfl rfl
theorem mh_49 : a_hh 49 = [] := rfl
theorem mi_49 : Cond.instanceMethod (a_y 49) ∈ lw_gd := a_m2 (i := 129) rfl rfl
theorem mp_49 : 1 ≤ a_na 49 ∧ (parseMethodDescriptor (a_y 49).desc).map (fun d => d.parameters.length) = some (a_na 49 - 1) := by decide +kernel
theorem ms_49 : Cond.selects (a_Rn (a_own 49)) (a_y 49) (a_y 49) ∈ lw_gd := a_m2 (i := 130) rfl rfl
theorem mk_50 : a_mk0 50 := ⟨by decide, by decide +kernel, ⟨by decide +kernel, by decide +kernel⟩, a_m1 (i := 2) rfl rfl, rfl⟩
theorem mc_50 : Cond.code (a_y 50) (a_c 50) (a_ml 50) (a_rt 50) ∈ lw_gd := a_m2 (i := 183) rfl rfl
theorem mh_50 : a_hh 50 = [] := rfl
theorem mi_50 : Cond.instanceMethod (a_y 50) ∈ lw_gd := a_m2 (i := 181) rfl rfl
theorem mp_50 : 1 ≤ a_na 50 ∧ (parseMethodDescriptor (a_y 50).desc).map (fun d => d.parameters.length) = some (a_na 50 - 1) := by decide +kernel
theorem ms_50 : Cond.selects (a_Rn (a_own 50)) (a_y 50) (a_y 50) ∈ lw_gd := a_m2 (i := 182) rfl rfl
theorem mk_51 : a_mk0 51 := ⟨by decide, by decide +kernel, ⟨by decide +kernel, by decide +kernel⟩, a_m1 (i := 2) rfl rfl, rfl⟩
theorem mc_51 : Cond.code (a_y 51) (a_c 51) (a_ml 51) (a_rt 51) ∈ lw_gd := a_m2 (i := 224) rfl rfl
theorem mh_51 : a_hh 51 = [] := rfl
theorem mi_51 : Cond.instanceMethod (a_y 51) ∈ lw_gd := a_m2 (i := 222) rfl rfl
theorem mp_51 : 1 ≤ a_na 51 ∧ (parseMethodDescriptor (a_y 51).desc).map (fun d => d.parameters.length) = some (a_na 51 - 1) := by decide +kernel
theorem ms_51 : Cond.selects (a_Rn (a_own 51)) (a_y 51) (a_y 51) ∈ lw_gd := a_m2 (i := 223) rfl rfl
theorem mk_52 : a_mk0 52 := ⟨by decide, by decide +kernel, ⟨by decide +kernel, by decide +kernel⟩, a_m1 (i := 2) rfl rfl, rfl⟩
theorem mc_52 : Cond.code (a_y 52) (a_c 52) (a_ml 52) (a_rt 52) ∈ lw_gd := a_m2 (i := 213) rfl rfl
theorem mh_52 : a_hh 52 = [] := rfl
theorem mi_52 : Cond.instanceMethod (a_y 52) ∈ lw_gd := a_m2 (i := 211) rfl rfl
theorem mp_52 : 1 ≤ a_na 52 ∧ (parseMethodDescriptor (a_y 52).desc).map (fun d => d.parameters.length) = some (a_na 52 - 1) := by decide +kernel
theorem ms_52 : Cond.selects (a_Rn (a_own 52)) (a_y 52) (a_y 52) ∈ lw_gd := a_m2 (i := 212) rfl rfl
theorem mk_53 : a_mk0 53 := ⟨by decide, by decide +kernel, ⟨by decide +kernel, by decide +kernel⟩, a_m1 (i := 2) rfl rfl, rfl⟩
theorem mc_53 : Cond.code (a_y 53) (a_c 53) (a_ml 53) (a_rt 53) ∈ lw_gd := a_m2 (i := 216) rfl rfl
theorem mh_53 : a_hh 53 = [] := rfl
theorem mi_53 : Cond.static (a_y 53) ∈ lw_gd := a_m2 (i := 215) rfl rfl
theorem mp_53 : (parseMethodDescriptor (a_y 53).desc).map (fun d => d.parameters.length) = some (a_na 53) := by decide +kernel
theorem mk_54 : a_mk0 54 := ⟨by decide, by decide +kernel, ⟨by decide +kernel, by decide +kernel⟩, a_m1 (i := 2) rfl rfl, rfl⟩
theorem mc_54 : Cond.code (a_y 54) (a_c 54) (a_ml 54) (a_rt 54) ∈ lw_gd := a_m6 (i := 4) rfl rfl
theorem mh_54 : a_hh 54 = [] := rfl
theorem mi_54 : Cond.instanceMethod (a_y 54) ∈ lw_gd := a_m6 (i := 2) rfl rfl
theorem mp_54 : 1 ≤ a_na 54 ∧ (parseMethodDescriptor (a_y 54).desc).map (fun d => d.parameters.length) = some (a_na 54 - 1) := by decide +kernel
theorem ms_54 : Cond.selects (a_Rn (a_own 54)) (a_y 54) (a_y 54) ∈ lw_gd := a_m6 (i := 3) rfl rfl
theorem mk_55 : a_mk0 55 := ⟨by decide, by decide +kernel, ⟨by decide +kernel, by decide +kernel⟩, a_m1 (i := 2) rfl rfl, rfl⟩
theorem mc_55 : Cond.code (a_y 55) (a_c 55) (a_ml 55) (a_rt 55) ∈ lw_gd := a_m2 (i := 171) rfl rfl
theorem mh_55 : a_hh 55 = [] := rfl
theorem mi_55 : Cond.instanceMethod (a_y 55) ∈ lw_gd := a_m2 (i := 169) rfl rfl
theorem mp_55 : 1 ≤ a_na 55 ∧ (parseMethodDescriptor (a_y 55).desc).map (fun d => d.parameters.length) = some (a_na 55 - 1) := by decide +kernel
theorem ms_55 : Cond.selects (a_Rn (a_own 55)) (a_y 55) (a_y 55) ∈ lw_gd := a_m2 (i := 170) rfl rfl
theorem mk_56 : a_mk0 56 := ⟨by decide, by decide +kernel, ⟨by decide +kernel, by decide +kernel⟩, a_m1 (i := 2) rfl rfl, rfl⟩
theorem mc_56 : Cond.code (a_y 56) (a_c 56) (a_ml 56) (a_rt 56) ∈ lw_gd := a_m5 (i := 185) rfl rfl
theorem mh_56 : a_hh 56 = [] := rfl
theorem mi_56 : Cond.instanceMethod (a_y 56) ∈ lw_gd := a_m5 (i := 183) rfl rfl
theorem mp_56 : 1 ≤ a_na 56 ∧ (parseMethodDescriptor (a_y 56).desc).map (fun d => d.parameters.length) = some (a_na 56 - 1) := by decide +kernel
theorem ms_56 : Cond.selects (a_Rn (a_own 56)) (a_y 56) (a_y 56) ∈ lw_gd := a_m5 (i := 184) rfl rfl
theorem mk_57 : a_mk0 57 := ⟨by decide, by decide +kernel, ⟨by decide +kernel, by decide +kernel⟩, a_m1 (i := 2) rfl rfl, rfl⟩
theorem mc_57 : Cond.code (a_y 57) (a_c 57) (a_ml 57) (a_rt 57) ∈ lw_gd := a_m2 (i := 167) rfl rfl
theorem mh_57 : a_hh 57 = [] := rfl
theorem mi_57 : Cond.instanceMethod (a_y 57) ∈ lw_gd := a_m2 (i := 165) rfl rfl
theorem mp_57 : 1 ≤ a_na 57 ∧ (parseMethodDescriptor (a_y 57).desc).map (fun d => d.parameters.length) = some (a_na 57 - 1) := by decide +kernel
theorem ms_57 : Cond.selects (a_Rn (a_own 57)) (a_y 57) (a_y 57) ∈ lw_gd := a_m2 (i := 166) rfl rfl
theorem mk_58 : a_mk0 58 := ⟨by decide, by decide +kernel, ⟨by decide +kernel, by decide +kernel⟩, a_m1 (i := 2) rfl rfl, rfl⟩
theorem mc_58 : Cond.code (a_y 58) (a_c 58) (a_ml 58) (a_rt 58) ∈ lw_gd := a_m6 (i := 62) rfl rfl
theorem mh_58 : a_hh 58 = [] := rfl
theorem mi_58 : Cond.instanceMethod (a_y 58) ∈ lw_gd := a_m6 (i := 60) rfl rfl
theorem mp_58 : 1 ≤ a_na 58 ∧ (parseMethodDescriptor (a_y 58).desc).map (fun d => d.parameters.length) = some (a_na 58 - 1) := by decide +kernel
theorem ms_58 : Cond.selects (a_Rn (a_own 58)) (a_y 58) (a_y 58) ∈ lw_gd := a_m6 (i := 61) rfl rfl
theorem mk_59 : a_mk0 59 := ⟨by decide, by decide +kernel, ⟨by decide +kernel, by decide +kernel⟩, a_m1 (i := 2) rfl rfl, rfl⟩
theorem mc_59 : Cond.code (a_y 59) (a_c 59) (a_ml 59) (a_rt 59) ∈ lw_gd := a_m4 (i := 224) rfl rfl
theorem mh_59 : a_hh 59 = [] := rfl
theorem mi_59 : Cond.instanceMethod (a_y 59) ∈ lw_gd := a_m4 (i := 222) rfl rfl
theorem mp_59 : 1 ≤ a_na 59 ∧ (parseMethodDescriptor (a_y 59).desc).map (fun d => d.parameters.length) = some (a_na 59 - 1) := by decide +kernel
theorem ms_59 : Cond.selects (a_Rn (a_own 59)) (a_y 59) (a_y 59) ∈ lw_gd := a_m4 (i := 223) rfl rfl
theorem mk_60 : a_mk0 60 := ⟨by decide, by decide +kernel, ⟨by decide +kernel, by decide +kernel⟩, a_m1 (i := 2) rfl rfl, rfl⟩
theorem mc_60 : Cond.code (a_y 60) (a_c 60) (a_ml 60) (a_rt 60) ∈ lw_gd := a_m4 (i := 233) rfl rfl
theorem mh_60 : a_hh 60 = [] := rfl
theorem mi_60 : Cond.instanceMethod (a_y 60) ∈ lw_gd := a_m4 (i := 232) rfl rfl
theorem mp_60 : 1 ≤ a_na 60 ∧ (parseMethodDescriptor (a_y 60).desc).map (fun d => d.parameters.length) = some (a_na 60 - 1) := by decide +kernel
theorem ms_60 : Cond.selects (a_Rn (a_own 60)) (a_y 60) (a_y 60) ∈ lw_gd := a_s2 (i := 6) (q := (a_y 60, _)) rfl rfl
theorem mk_61 : a_mk0 61 := ⟨by decide, by decide +kernel, ⟨by decide +kernel, by decide +kernel⟩, a_m1 (i := 2) rfl rfl, rfl⟩
theorem mc_61 : Cond.code (a_y 61) (a_c 61) (a_ml 61) (a_rt 61) ∈ lw_gd := a_m5 (i := 160) rfl rfl
theorem mh_61 : a_hh 61 = [] := rfl
theorem mi_61 : Cond.instanceMethod (a_y 61) ∈ lw_gd := a_m5 (i := 158) rfl rfl
theorem mp_61 : 1 ≤ a_na 61 ∧ (parseMethodDescriptor (a_y 61).desc).map (fun d => d.parameters.length) = some (a_na 61 - 1) := by decide +kernel
theorem ms_61 : Cond.selects (a_Rn (a_own 61)) (a_y 61) (a_y 61) ∈ lw_gd := a_m5 (i := 159) rfl rfl
theorem mk_62 : a_mk0 62 := ⟨by decide, by decide +kernel, ⟨by decide +kernel, by decide +kernel⟩, a_m1 (i := 2) rfl rfl, rfl⟩
theorem mc_62 : Cond.code (a_y 62) (a_c 62) (a_ml 62) (a_rt 62) ∈ lw_gd := a_m5 (i := 164) rfl rfl
theorem mh_62 : a_hh 62 = [] := rfl
theorem mi_62 : Cond.instanceMethod (a_y 62) ∈ lw_gd := a_m5 (i := 163) rfl rfl
theorem mp_62 : 1 ≤ a_na 62 ∧ (parseMethodDescriptor (a_y 62).desc).map (fun d => d.parameters.length) = some (a_na 62 - 1) := by decide +kernel
theorem ms_62 : Cond.selects (a_Rn (a_own 62)) (a_y 62) (a_y 62) ∈ lw_gd := a_s2 (i := 8) (q := (a_y 62, _)) rfl rfl
theorem mk_63 : a_mk0 63 := ⟨by decide, by decide +kernel, ⟨by decide +kernel, by decide +kernel⟩, a_m1 (i := 2) rfl rfl, rfl⟩
theorem mc_63 : Cond.code (a_y 63) (a_c 63) (a_ml 63) (a_rt 63) ∈ lw_gd := a_m5 (i := 181) rfl rfl
theorem mh_63 : a_hh 63 = [] := rfl
theorem mi_63 : Cond.instanceMethod (a_y 63) ∈ lw_gd := a_m5 (i := 180) rfl rfl
theorem mp_63 : 1 ≤ a_na 63 ∧ (parseMethodDescriptor (a_y 63).desc).map (fun d => d.parameters.length) = some (a_na 63 - 1) := by decide +kernel
theorem ms_63 : Cond.selects (a_Rn (a_own 63)) (a_y 63) (a_y 63) ∈ lw_gd := a_s2 (i := 10) (q := (a_y 63, _)) rfl rfl
theorem mk_64 : a_mk0 64 := ⟨by decide, by decide +kernel, ⟨by decide +kernel, by decide +kernel⟩, a_m1 (i := 2) rfl rfl, rfl⟩
theorem mc_64 : Cond.code (a_y 64) (a_c 64) (a_ml 64) (a_rt 64) ∈ lw_gd := a_m5 (i := 194) rfl rfl
theorem mh_64 : a_hh 64 = [] := rfl
theorem mi_64 : Cond.instanceMethod (a_y 64) ∈ lw_gd := a_m5 (i := 193) rfl rfl
theorem mp_64 : 1 ≤ a_na 64 ∧ (parseMethodDescriptor (a_y 64).desc).map (fun d => d.parameters.length) = some (a_na 64 - 1) := by decide +kernel
theorem ms_64 : Cond.selects (a_Rn (a_own 64)) (a_y 64) (a_y 64) ∈ lw_gd := a_s2 (i := 11) (q := (a_y 64, _)) rfl rfl
theorem mk_65 : a_mk0 65 := ⟨by decide, by decide +kernel, ⟨by decide +kernel, by decide +kernel⟩, a_m1 (i := 2) rfl rfl, rfl⟩
theorem mc_65 : Cond.code (a_y 65) (a_c 65) (a_ml 65) (a_rt 65) ∈ lw_gd := a_m5 (i := 203) rfl rfl
theorem mh_65 : a_hh 65 = [] := rfl
theorem mi_65 : Cond.instanceMethod (a_y 65) ∈ lw_gd := a_m5 (i := 202) rfl rfl
theorem mp_65 : 1 ≤ a_na 65 ∧ (parseMethodDescriptor (a_y 65).desc).map (fun d => d.parameters.length) = some (a_na 65 - 1) := by decide +kernel
theorem ms_65 : Cond.selects (a_Rn (a_own 65)) (a_y 65) (a_y 65) ∈ lw_gd := a_s2 (i := 12) (q := (a_y 65, _)) rfl rfl
theorem mk_66 : a_mk0 66 := ⟨by decide, by decide +kernel, ⟨by decide +kernel, by decide +kernel⟩, a_m1 (i := 2) rfl rfl, rfl⟩
theorem mc_66 : Cond.code (a_y 66) (a_c 66) (a_ml 66) (a_rt 66) ∈ lw_gd := a_m5 (i := 168) rfl rfl
theorem mh_66 : a_hh 66 = [] := rfl
theorem mi_66 : Cond.instanceMethod (a_y 66) ∈ lw_gd := a_m5 (i := 167) rfl rfl
theorem mp_66 : 1 ≤ a_na 66 ∧ (parseMethodDescriptor (a_y 66).desc).map (fun d => d.parameters.length) = some (a_na 66 - 1) := by decide +kernel
theorem ms_66 : Cond.selects (a_Rn (a_own 66)) (a_y 66) (a_y 66) ∈ lw_gd := a_s2 (i := 9) (q := (a_y 66, _)) rfl rfl
theorem mk_67 : a_mk0 67 := ⟨by decide, by decide +kernel, ⟨by decide +kernel, by decide +kernel⟩, a_m1 (i := 2) rfl rfl, rfl⟩
theorem mc_67 : Cond.code (a_y 67) (a_c 67) (a_ml 67) (a_rt 67) ∈ lw_gd := a_m5 (i := 207) rfl rfl
theorem mh_67 : a_hh 67 = [] := rfl
theorem mi_67 : Cond.instanceMethod (a_y 67) ∈ lw_gd := a_m5 (i := 206) rfl rfl
theorem mp_67 : 1 ≤ a_na 67 ∧ (parseMethodDescriptor (a_y 67).desc).map (fun d => d.parameters.length) = some (a_na 67 - 1) := by decide +kernel
theorem ms_67 : Cond.selects (a_Rn (a_own 67)) (a_y 67) (a_y 67) ∈ lw_gd := a_s2 (i := 13) (q := (a_y 67, _)) rfl rfl
theorem mk_68 : a_mk0 68 := ⟨by decide, by decide +kernel, ⟨by decide +kernel, by decide +kernel⟩, a_m1 (i := 2) rfl rfl, rfl⟩
theorem mc_68 : Cond.code (a_y 68) (a_c 68) (a_ml 68) (a_rt 68) ∈ lw_gd := a_m5 (i := 212) rfl rfl
theorem mh_68 : a_hh 68 = [] := rfl
theorem mi_68 : Cond.instanceMethod (a_y 68) ∈ lw_gd := a_m5 (i := 211) rfl rfl
theorem mp_68 : 1 ≤ a_na 68 ∧ (parseMethodDescriptor (a_y 68).desc).map (fun d => d.parameters.length) = some (a_na 68 - 1) := by decide +kernel
theorem ms_68 : Cond.selects (a_Rn (a_own 68)) (a_y 68) (a_y 68) ∈ lw_gd := a_s2 (i := 14) (q := (a_y 68, _)) rfl rfl
theorem mk_69 : a_mk0 69 := ⟨by decide, by decide +kernel, ⟨by decide +kernel, by decide +kernel⟩, a_m1 (i := 2) rfl rfl, rfl⟩
theorem mc_69 : Cond.code (a_y 69) (a_c 69) (a_ml 69) (a_rt 69) ∈ lw_gd := a_m5 (i := 229) rfl rfl
theorem mh_69 : a_hh 69 = [] := rfl
theorem mi_69 : Cond.instanceMethod (a_y 69) ∈ lw_gd := a_m5 (i := 228) rfl rfl
theorem mp_69 : 1 ≤ a_na 69 ∧ (parseMethodDescriptor (a_y 69).desc).map (fun d => d.parameters.length) = some (a_na 69 - 1) := by decide +kernel
theorem ms_69 : Cond.selects (a_Rn (a_own 69)) (a_y 69) (a_y 69) ∈ lw_gd := a_s3 (i := 0) (q := (a_y 69, _)) rfl rfl
theorem mk_70 : a_mk0 70 := ⟨by decide, by decide +kernel, ⟨by decide +kernel, by decide +kernel⟩, a_m1 (i := 2) rfl rfl, rfl⟩
theorem mc_70 : Cond.code (a_y 70) (a_c 70) (a_ml 70) (a_rt 70) ∈ lw_gd := a_m5 (i := 221) rfl rfl
theorem mh_70 : a_hh 70 = [] := rfl
theorem mi_70 : Cond.instanceMethod (a_y 70) ∈ lw_gd := a_m5 (i := 220) rfl rfl
theorem mp_70 : 1 ≤ a_na 70 ∧ (parseMethodDescriptor (a_y 70).desc).map (fun d => d.parameters.length) = some (a_na 70 - 1) := by decide +kernel
theorem ms_70 : Cond.selects (a_Rn (a_own 70)) (a_y 70) (a_y 70) ∈ lw_gd := a_s2 (i := 15) (q := (a_y 70, _)) rfl rfl
theorem mk_71 : a_mk0 71 := ⟨by decide, by decide +kernel, ⟨by decide +kernel, by decide +kernel⟩, a_m1 (i := 3) rfl rfl, rfl⟩
theorem mc_71 : Cond.code (a_y 71) (a_c 71) (a_ml 71) (a_rt 71) ∈ lw_gd := a_m1 (i := 42) rfl rfl
theorem mh_71 : a_hh 71 = [] := rfl
theorem mi_71 : Cond.instanceMethod (a_y 71) ∈ lw_gd := a_m1 (i := 41) rfl rfl
theorem mp_71 : 1 ≤ a_na 71 ∧ (parseMethodDescriptor (a_y 71).desc).map (fun d => d.parameters.length) = some (a_na 71 - 1) := by decide +kernel
theorem mk_72 : a_mk0 72 := ⟨by decide, by decide +kernel, ⟨by decide +kernel, by decide +kernel⟩, a_m1 (i := 3) rfl rfl, rfl⟩
theorem mc_72 : Cond.code (a_y 72) (a_c 72) (a_ml 72) (a_rt 72) ∈ lw_gd := a_m2 (i := 14) rfl rfl
theorem mh_72 : a_hh 72 = [] := rfl
theorem mi_72 : Cond.instanceMethod (a_y 72) ∈ lw_gd := a_m2 (i := 12) rfl rfl
theorem mp_72 : 1 ≤ a_na 72 ∧ (parseMethodDescriptor (a_y 72).desc).map (fun d => d.parameters.length) = some (a_na 72 - 1) := by decide +kernel
theorem ms_72 : Cond.selects (a_Rn (a_own 72)) (a_y 72) (a_y 72) ∈ lw_gd := a_m2 (i := 13) rfl rfl
theorem mk_73 : a_mk0 73 := ⟨by decide, by decide +kernel, ⟨by decide +kernel, by decide +kernel⟩, a_m1 (i := 3) rfl rfl, rfl⟩
theorem mc_73 : Cond.code (a_y 73) (a_c 73) (a_ml 73) (a_rt 73) ∈ lw_gd := a_m3 (i := 175) rfl rfl
theorem mh_73 : a_hh 73 = [] := rfl
theorem mi_73 : Cond.instanceMethod (a_y 73) ∈ lw_gd := a_m3 (i := 173) rfl rfl
theorem mp_73 : 1 ≤ a_na 73 ∧ (parseMethodDescriptor (a_y 73).desc).map (fun d => d.parameters.length) = some (a_na 73 - 1) := by decide +kernel
theorem ms_73 : Cond.selects (a_Rn (a_own 73)) (a_y 73) (a_y 73) ∈ lw_gd := a_m3 (i := 174) rfl rfl
theorem mk_74 : a_mk0 74 := ⟨by decide, by decide +kernel, ⟨by decide +kernel, by decide +kernel⟩, a_m1 (i := 3) rfl rfl, rfl⟩
theorem mc_74 : Cond.code (a_y 74) (a_c 74) (a_ml 74) (a_rt 74) ∈ lw_gd := a_m3 (i := 88) rfl rfl
theorem mh_74 : a_hh 74 = [] := rfl
theorem mi_74 : Cond.instanceMethod (a_y 74) ∈ lw_gd := a_m3 (i := 86) rfl rfl
theorem mp_74 : 1 ≤ a_na 74 ∧ (parseMethodDescriptor (a_y 74).desc).map (fun d => d.parameters.length) = some (a_na 74 - 1) := by decide +kernel
theorem ms_74 : Cond.selects (a_Rn (a_own 74)) (a_y 74) (a_y 74) ∈ lw_gd := a_m3 (i := 87) rfl rfl
theorem mk_75 : a_mk0 75 := ⟨by decide, by decide +kernel, ⟨by decide +kernel, by decide +kernel⟩, a_m1 (i := 3) rfl rfl, rfl⟩
theorem mc_75 : Cond.code (a_y 75) (a_c 75) (a_ml 75) (a_rt 75) ∈ lw_gd := a_m3 (i := 97) rfl rfl
theorem mh_75 : a_hh 75 = [] := rfl
theorem mi_75 : Cond.instanceMethod (a_y 75) ∈ lw_gd := a_m3 (i := 95) rfl rfl
theorem mp_75 : 1 ≤ a_na 75 ∧ (parseMethodDescriptor (a_y 75).desc).map (fun d => d.parameters.length) = some (a_na 75 - 1) := by decide +kernel
theorem ms_75 : Cond.selects (a_Rn (a_own 75)) (a_y 75) (a_y 75) ∈ lw_gd := a_m3 (i := 96) rfl rfl
theorem mk_76 : a_mk0 76 := ⟨by decide, by decide +kernel, ⟨by decide +kernel, by decide +kernel⟩, a_m1 (i := 3) rfl rfl, rfl⟩
theorem mc_76 : Cond.code (a_y 76) (a_c 76) (a_ml 76) (a_rt 76) ∈ lw_gd := a_m3 (i := 101) rfl rfl
theorem mh_76 : a_hh 76 = [] := rfl
theorem mi_76 : Cond.instanceMethod (a_y 76) ∈ lw_gd := a_m3 (i := 99) rfl rfl
theorem mp_76 : 1 ≤ a_na 76 ∧ (parseMethodDescriptor (a_y 76).desc).map (fun d => d.parameters.length) = some (a_na 76 - 1) := by decide +kernel
theorem ms_76 : Cond.selects (a_Rn (a_own 76)) (a_y 76) (a_y 76) ∈ lw_gd := a_m3 (i := 100) rfl rfl
theorem mk_77 : a_mk0 77 := ⟨by decide, by decide +kernel, ⟨by decide +kernel, by decide +kernel⟩, a_m1 (i := 3) rfl rfl, rfl⟩
theorem mc_77 : Cond.code (a_y 77) (a_c 77) (a_ml 77) (a_rt 77) ∈ lw_gd := a_m3 (i := 107) rfl rfl
theorem mh_77 : a_hh 77 = [] := rfl
theorem mi_77 : Cond.instanceMethod (a_y 77) ∈ lw_gd := a_m3 (i := 106) rfl rfl
theorem mp_77 : 1 ≤ a_na 77 ∧ (parseMethodDescriptor (a_y 77).desc).map (fun d => d.parameters.length) = some (a_na 77 - 1) := by decide +kernel
theorem ms_77 : Cond.selects (a_Rn (a_own 77)) (a_y 77) (a_y 77) ∈ lw_gd := a_s1 (i := 9) (q := (a_y 77, _)) rfl rfl
theorem mk_78 : a_mk0 78 := ⟨by decide, by decide +kernel, ⟨by decide +kernel, by decide +kernel⟩, a_m1 (i := 3) rfl rfl, rfl⟩
theorem mc_78 : Cond.code (a_y 78) (a_c 78) (a_ml 78) (a_rt 78) ∈ lw_gd := a_m6 (i := 91) rfl rfl
theorem mh_78 : a_hh 78 = [] := rfl
theorem mi_78 : Cond.instanceMethod (a_y 78) ∈ lw_gd := a_m6 (i := 89) rfl rfl
theorem mp_78 : 1 ≤ a_na 78 ∧ (parseMethodDescriptor (a_y 78).desc).map (fun d => d.parameters.length) = some (a_na 78 - 1) := by decide +kernel
theorem ms_78 : Cond.selects (a_Rn (a_own 78)) (a_y 78) (a_y 78) ∈ lw_gd := a_m6 (i := 90) rfl rfl
theorem mk_79 : a_mk0 79 := ⟨by decide, by decide +kernel, ⟨by decide +kernel, by decide +kernel⟩, a_m1 (i := 3) rfl rfl, rfl⟩
theorem mc_79 : Cond.code (a_y 79) (a_c 79) (a_ml 79) (a_rt 79) ∈ lw_gd := a_m4 (i := 192) rfl rfl
theorem mh_79 : a_hh 79 = [] := rfl
theorem mi_79 : Cond.instanceMethod (a_y 79) ∈ lw_gd := a_m4 (i := 191) rfl rfl
theorem mp_79 : 1 ≤ a_na 79 ∧ (parseMethodDescriptor (a_y 79).desc).map (fun d => d.parameters.length) = some (a_na 79 - 1) := by decide +kernel
theorem ms_79 : Cond.selects (a_Rn (a_own 79)) (a_y 79) (a_y 79) ∈ lw_gd := a_s2 (i := 3) (q := (a_y 79, _)) rfl rfl
theorem mk_80 : a_mk0 80 := ⟨by decide, by decide +kernel, ⟨by decide +kernel, by decide +kernel⟩, a_m1 (i := 3) rfl rfl, rfl⟩
theorem mc_80 : Cond.code (a_y 80) (a_c 80) (a_ml 80) (a_rt 80) ∈ lw_gd := a_m4 (i := 165) rfl rfl
theorem mh_80 : a_hh 80 = [] := rfl
theorem mi_80 : Cond.instanceMethod (a_y 80) ∈ lw_gd := a_m4 (i := 163) rfl rfl
theorem mp_80 : 1 ≤ a_na 80 ∧ (parseMethodDescriptor (a_y 80).desc).map (fun d => d.parameters.length) = some (a_na 80 - 1) := by decide +kernel
theorem ms_80 : Cond.selects (a_Rn (a_own 80)) (a_y 80) (a_y 80) ∈ lw_gd := a_m4 (i := 164) rfl rfl
theorem mk_81 : a_mk0 81 := ⟨by decide, by decide +kernel, ⟨by decide +kernel, by decide +kernel⟩, a_m1 (i := 3) rfl rfl, rfl⟩
theorem mc_81 : Cond.code (a_y 81) (a_c 81) (a_ml 81) (a_rt 81) ∈ lw_gd := a_m4 (i := 155) rfl rfl
theorem mh_81 : a_hh 81 = [] := rfl
theorem mi_81 : Cond.instanceMethod (a_y 81) ∈ lw_gd := a_m4 (i := 153) rfl rfl
theorem mp_81 : 1 ≤ a_na 81 ∧ (parseMethodDescriptor (a_y 81).desc).map (fun d => d.parameters.length) = some (a_na 81 - 1) := by decide +kernel
theorem ms_81 : Cond.selects (a_Rn (a_own 81)) (a_y 81) (a_y 81) ∈ lw_gd := a_m4 (i := 154) rfl rfl
theorem mk_82 : a_mk0 82 := ⟨by decide, by decide +kernel, ⟨by decide +kernel, by decide +kernel⟩, a_m1 (i := 3) rfl rfl, rfl⟩
theorem mc_82 : Cond.code (a_y 82) (a_c 82) (a_ml 82) (a_rt 82) ∈ lw_gd := a_m4 (i := 188) rfl rfl
theorem mh_82 : a_hh 82 = [] := rfl
theorem mi_82 : Cond.instanceMethod (a_y 82) ∈ lw_gd := a_m4 (i := 186) rfl rfl
theorem mp_82 : 1 ≤ a_na 82 ∧ (parseMethodDescriptor (a_y 82).desc).map (fun d => d.parameters.length) = some (a_na 82 - 1) := by decide +kernel
theorem ms_82 : Cond.selects (a_Rn (a_own 82)) (a_y 82) (a_y 82) ∈ lw_gd := a_m4 (i := 187) rfl rfl
theorem mk_83 : a_mk0 83 := ⟨by decide, by decide +kernel, ⟨by decide +kernel, by decide +kernel⟩, a_m1 (i := 3) rfl rfl, rfl⟩
theorem mc_83 : Cond.code (a_y 83) (a_c 83) (a_ml 83) (a_rt 83) ∈ lw_gd := a_m4 (i := 184) rfl rfl
theorem mh_83 : a_hh 83 = [] := rfl
theorem mi_83 : Cond.instanceMethod (a_y 83) ∈ lw_gd := a_m4 (i := 182) rfl rfl
theorem mp_83 : 1 ≤ a_na 83 ∧ (parseMethodDescriptor (a_y 83).desc).map (fun d => d.parameters.length) = some (a_na 83 - 1) := by decide +kernel
theorem ms_83 : Cond.selects (a_Rn (a_own 83)) (a_y 83) (a_y 83) ∈ lw_gd := a_m4 (i := 183) rfl rfl
theorem mk_84 : a_mk0 84 := ⟨by decide, by decide +kernel, ⟨by decide +kernel, by decide +kernel⟩, a_m1 (i := 3) rfl rfl, rfl⟩
theorem mc_84 : Cond.code (a_y 84) (a_c 84) (a_ml 84) (a_rt 84) ∈ lw_gd := a_m5 (i := 11) rfl rfl
theorem mh_84 : a_hh 84 = [] := rfl
theorem mi_84 : Cond.instanceMethod (a_y 84) ∈ lw_gd := a_m5 (i := 9) rfl rfl
theorem mp_84 : 1 ≤ a_na 84 ∧ (parseMethodDescriptor (a_y 84).desc).map (fun d => d.parameters.length) = some (a_na 84 - 1) := by decide +kernel
theorem ms_84 : Cond.selects (a_Rn (a_own 84)) (a_y 84) (a_y 84) ∈ lw_gd := a_m5 (i := 10) rfl rfl
theorem mk_85 : a_mk0 85 := ⟨by decide, by decide +kernel, ⟨by decide +kernel, by decide +kernel⟩, a_m1 (i := 3) rfl rfl, rfl⟩
theorem mc_85 : Cond.code (a_y 85) (a_c 85) (a_ml 85) (a_rt 85) ∈ lw_gd := a_m4 (i := 229) rfl rfl
theorem mh_85 : a_hh 85 = [] := rfl
theorem mi_85 : Cond.instanceMethod (a_y 85) ∈ lw_gd := a_m4 (i := 227) rfl rfl
theorem mp_85 : 1 ≤ a_na 85 ∧ (parseMethodDescriptor (a_y 85).desc).map (fun d => d.parameters.length) = some (a_na 85 - 1) := by decide +kernel
theorem ms_85 : Cond.selects (a_Rn (a_own 85)) (a_y 85) (a_y 85) ∈ lw_gd := a_m4 (i := 228) rfl rfl
theorem mk_86 : a_mk0 86 := ⟨by decide, by decide +kernel, ⟨by decide +kernel, by decide +kernel⟩, a_m1 (i := 3) rfl rfl, rfl⟩
theorem mc_86 : Cond.code (a_y 86) (a_c 86) (a_ml 86) (a_rt 86) ∈ lw_gd := a_m4 (i := 205) rfl rfl
theorem mh_86 : a_hh 86 = [] := rfl
theorem mi_86 : Cond.instanceMethod (a_y 86) ∈ lw_gd := a_m4 (i := 203) rfl rfl
theorem mp_86 : 1 ≤ a_na 86 ∧ (parseMethodDescriptor (a_y 86).desc).map (fun d => d.parameters.length) = some (a_na 86 - 1) := by decide +kernel
theorem ms_86 : Cond.selects (a_Rn (a_own 86)) (a_y 86) (a_y 86) ∈ lw_gd := a_m4 (i := 204) rfl rfl
theorem mk_87 : a_mk0 87 := ⟨by decide, by decide +kernel, ⟨by decide +kernel, by decide +kernel⟩, a_m1 (i := 3) rfl rfl, rfl⟩
theorem mc_87 : Cond.code (a_y 87) (a_c 87) (a_ml 87) (a_rt 87) ∈ lw_gd := a_m4 (i := 209) rfl rfl
theorem mh_87 : a_hh 87 = [] := rfl
theorem mi_87 : Cond.instanceMethod (a_y 87) ∈ lw_gd := a_m4 (i := 208) rfl rfl
theorem mp_87 : 1 ≤ a_na 87 ∧ (parseMethodDescriptor (a_y 87).desc).map (fun d => d.parameters.length) = some (a_na 87 - 1) := by decide +kernel
theorem ms_87 : Cond.selects (a_Rn (a_own 87)) (a_y 87) (a_y 87) ∈ lw_gd := a_s2 (i := 4) (q := (a_y 87, _)) rfl rfl
theorem mk_88 : a_mk0 88 := ⟨by decide, by decide +kernel, ⟨by decide +kernel, by decide +kernel⟩, a_m1 (i := 3) rfl rfl, rfl⟩
theorem mc_88 : Cond.code (a_y 88) (a_c 88) (a_ml 88) (a_rt 88) ∈ lw_gd := a_m4 (i := 213) rfl rfl
theorem mh_88 : a_hh 88 = [] := rfl
theorem mi_88 : Cond.instanceMethod (a_y 88) ∈ lw_gd := a_m4 (i := 212) rfl rfl
theorem mp_88 : 1 ≤ a_na 88 ∧ (parseMethodDescriptor (a_y 88).desc).map (fun d => d.parameters.length) = some (a_na 88 - 1) := by decide +kernel
theorem ms_88 : Cond.selects (a_Rn (a_own 88)) (a_y 88) (a_y 88) ∈ lw_gd := a_s2 (i := 5) (q := (a_y 88, _)) rfl rfl
theorem mk_89 : a_mk0 89 := ⟨by decide, by decide +kernel, ⟨by decide +kernel, by decide +kernel⟩, a_m1 (i := 3) rfl rfl, rfl⟩
theorem mc_89 : Cond.code (a_y 89) (a_c 89) (a_ml 89) (a_rt 89) ∈ lw_gd := a_m5 (i := 53) rfl rfl
theorem mh_89 : a_hh 89 = [] := rfl
theorem mi_89 : Cond.instanceMethod (a_y 89) ∈ lw_gd := a_m5 (i := 51) rfl rfl
theorem mp_89 : 1 ≤ a_na 89 ∧ (parseMethodDescriptor (a_y 89).desc).map (fun d => d.parameters.length) = some (a_na 89 - 1) := by decide +kernel
theorem ms_89 : Cond.selects (a_Rn (a_own 89)) (a_y 89) (a_y 89) ∈ lw_gd := a_m5 (i := 52) rfl rfl
theorem mk_90 : a_mk0 90 := ⟨by decide, by decide +kernel, ⟨by decide +kernel, by decide +kernel⟩, a_m1 (i := 3) rfl rfl, rfl⟩
theorem mc_90 : Cond.code (a_y 90) (a_c 90) (a_ml 90) (a_rt 90) ∈ lw_gd := a_m5 (i := 16) rfl rfl
theorem mh_90 : a_hh 90 = [] := rfl
theorem mi_90 : Cond.instanceMethod (a_y 90) ∈ lw_gd := a_m5 (i := 14) rfl rfl
theorem mp_90 : 1 ≤ a_na 90 ∧ (parseMethodDescriptor (a_y 90).desc).map (fun d => d.parameters.length) = some (a_na 90 - 1) := by decide +kernel
theorem ms_90 : Cond.selects (a_Rn (a_own 90)) (a_y 90) (a_y 90) ∈ lw_gd := a_m5 (i := 15) rfl rfl
theorem mk_91 : a_mk0 91 := ⟨by decide, by decide +kernel, ⟨by decide +kernel, by decide +kernel⟩, a_m1 (i := 3) rfl rfl, rfl⟩
theorem mc_91 : Cond.code (a_y 91) (a_c 91) (a_ml 91) (a_rt 91) ∈ lw_gd := a_m5 (i := 7) rfl rfl
theorem mh_91 : a_hh 91 = [] := rfl
theorem mi_91 : Cond.instanceMethod (a_y 91) ∈ lw_gd := a_m5 (i := 5) rfl rfl
theorem mp_91 : 1 ≤ a_na 91 ∧ (parseMethodDescriptor (a_y 91).desc).map (fun d => d.parameters.length) = some (a_na 91 - 1) := by decide +kernel
theorem ms_91 : Cond.selects (a_Rn (a_own 91)) (a_y 91) (a_y 91) ∈ lw_gd := a_m5 (i := 6) rfl rfl
theorem mk_92 : a_mk0 92 := ⟨by decide, by decide +kernel, ⟨by decide +kernel, by decide +kernel⟩, a_m1 (i := 3) rfl rfl, rfl⟩
theorem mc_92 : Cond.code (a_y 92) (a_c 92) (a_ml 92) (a_rt 92) ∈ lw_gd := a_m5 (i := 27) rfl rfl
theorem mh_92 : a_hh 92 = [] := rfl
theorem mi_92 : Cond.instanceMethod (a_y 92) ∈ lw_gd := a_m5 (i := 25) rfl rfl
theorem mp_92 : 1 ≤ a_na 92 ∧ (parseMethodDescriptor (a_y 92).desc).map (fun d => d.parameters.length) = some (a_na 92 - 1) := by decide +kernel
theorem ms_92 : Cond.selects (a_Rn (a_own 92)) (a_y 92) (a_y 92) ∈ lw_gd := a_m5 (i := 26) rfl rfl
theorem mk_93 : a_mk0 93 := ⟨by decide, by decide +kernel, ⟨by decide +kernel, by decide +kernel⟩, a_m1 (i := 3) rfl rfl, rfl⟩
theorem mc_93 : Cond.code (a_y 93) (a_c 93) (a_ml 93) (a_rt 93) ∈ lw_gd := a_m5 (i := 41) rfl rfl
theorem mh_93 : a_hh 93 = [] := rfl
theorem mi_93 : Cond.instanceMethod (a_y 93) ∈ lw_gd := a_m5 (i := 39) rfl rfl
theorem mp_93 : 1 ≤ a_na 93 ∧ (parseMethodDescriptor (a_y 93).desc).map (fun d => d.parameters.length) = some (a_na 93 - 1) := by decide +kernel
theorem ms_93 : Cond.selects (a_Rn (a_own 93)) (a_y 93) (a_y 93) ∈ lw_gd := a_m5 (i := 40) rfl rfl
theorem mk_94 : a_mk0 94 := ⟨by decide, by decide +kernel, ⟨by decide +kernel, by decide +kernel⟩, a_m1 (i := 4) rfl rfl, rfl⟩
theorem mc_94 : Cond.code (a_y 94) (a_c 94) (a_ml 94) (a_rt 94) ∈ lw_gd := a_m1 (i := 49) rfl rfl
theorem mh_94 : a_hh 94 = [] := rfl
theorem mi_94 : Cond.instanceMethod (a_y 94) ∈ lw_gd := a_m1 (i := 48) rfl rfl
theorem mp_94 : 1 ≤ a_na 94 ∧ (parseMethodDescriptor (a_y 94).desc).map (fun d => d.parameters.length) = some (a_na 94 - 1) := by decide +kernel
theorem mk_95 : a_mk0 95 := ⟨by decide, by decide +kernel, ⟨by decide +kernel, by decide +kernel⟩, a_m1 (i := 4) rfl rfl, rfl⟩
theorem mc_95 : Cond.code (a_y 95) (a_c 95) (a_ml 95) (a_rt 95) ∈ lw_gd := a_m3 (i := 180) rfl rfl
theorem mh_95 : a_hh 95 = [] := rfl
theorem mi_95 : Cond.instanceMethod (a_y 95) ∈ lw_gd := a_m3 (i := 178) rfl rfl
theorem mp_95 : 1 ≤ a_na 95 ∧ (parseMethodDescriptor (a_y 95).desc).map (fun d => d.parameters.length) = some (a_na 95 - 1) := by decide +kernel
theorem ms_95 : Cond.selects (a_Rn (a_own 95)) (a_y 95) (a_y 95) ∈ lw_gd := a_m3 (i := 179) rfl rfl
theorem mk_96 : a_mk0 96 := ⟨by decide, by decide +kernel, ⟨by decide +kernel, by decide +kernel⟩, a_m1 (i := 1) rfl rfl, rfl⟩
theorem mc_96 : Cond.code (a_y 96) (a_c 96) (a_ml 96) (a_rt 96) ∈ lw_gd := a_m1 (i := 28) rfl rfl
theorem mh_96 : a_hh 96 = [] := rfl
theorem mi_96 : Cond.instanceMethod (a_y 96) ∈ lw_gd := a_m1 (i := 27) rfl rfl
theorem mp_96 : 1 ≤ a_na 96 ∧ (parseMethodDescriptor (a_y 96).desc).map (fun d => d.parameters.length) = some (a_na 96 - 1) := by decide +kernel
theorem mk_97 : a_mk0 97 := ⟨by decide, by decide +kernel, ⟨by decide +kernel, by decide +kernel⟩, a_m1 (i := 1) rfl rfl, rfl⟩
theorem mc_97 : Cond.code (a_y 97) (a_c 97) (a_ml 97) (a_rt 97) ∈ lw_gd := a_m3 (i := 214) rfl rfl
theorem mh_97 : a_hh 97 = [] := rfl
theorem mi_97 : Cond.instanceMethod (a_y 97) ∈ lw_gd := a_m3 (i := 212) rfl rfl
theorem mp_97 : 1 ≤ a_na 97 ∧ (parseMethodDescriptor (a_y 97).desc).map (fun d => d.parameters.length) = some (a_na 97 - 1) := by decide +kernel
theorem ms_97 : Cond.selects (a_Rn (a_own 97)) (a_y 97) (a_y 97) ∈ lw_gd := a_m3 (i := 213) rfl rfl
theorem mk_98 : a_mk0 98 := ⟨by decide, by decide +kernel, ⟨by decide +kernel, by decide +kernel⟩, a_m1 (i := 1) rfl rfl, rfl⟩
theorem mc_98 : Cond.code (a_y 98) (a_c 98) (a_ml 98) (a_rt 98) ∈ lw_gd := a_m4 (i := 54) rfl rfl
theorem mh_98 : a_hh 98 = [] := rfl
theorem mi_98 : Cond.instanceMethod (a_y 98) ∈ lw_gd := a_m4 (i := 52) rfl rfl
theorem mp_98 : 1 ≤ a_na 98 ∧ (parseMethodDescriptor (a_y 98).desc).map (fun d => d.parameters.length) = some (a_na 98 - 1) := by decide +kernel
theorem ms_98 : Cond.selects (a_Rn (a_own 98)) (a_y 98) (a_y 98) ∈ lw_gd := a_m4 (i := 53) rfl rfl
theorem mk_99 : a_mk0 99 := ⟨by decide, by decide +kernel, ⟨by decide +kernel, by decide +kernel⟩, a_m1 (i := 1) rfl rfl, rfl⟩
theorem mc_99 : Cond.code (a_y 99) (a_c 99) (a_ml 99) (a_rt 99) ∈ lw_gd := a_m2 (i := 119) rfl rfl
theorem mh_99 : a_hh 99 = [] := rfl
theorem mi_99 : Cond.instanceMethod (a_y 99) ∈ lw_gd := a_m2 (i := 117) rfl rfl
theorem mp_99 : 1 ≤ a_na 99 ∧ (parseMethodDescriptor (a_y 99).desc).map (fun d => d.parameters.length) = some (a_na 99 - 1) := by decide +kernel
theorem ms_99 : Cond.selects (a_Rn (a_own 99)) (a_y 99) (a_y 99) ∈ lw_gd := a_m2 (i := 118) rfl rfl
theorem mk_100 : a_mk0 100 := ⟨by decide, by decide +kernel, ⟨by decide +kernel, by decide +kernel⟩, a_m1 (i := 1) rfl rfl, rfl⟩
theorem mc_100 : Cond.code (a_y 100) (a_c 100) (a_ml 100) (a_rt 100) ∈ lw_gd := a_m4 (i := 80) rfl rfl
theorem mh_100 : a_hh 100 = [] := rfl
theorem mi_100 : Cond.instanceMethod (a_y 100) ∈ lw_gd := a_m4 (i := 78) rfl rfl
theorem mp_100 : 1 ≤ a_na 100 ∧ (parseMethodDescriptor (a_y 100).desc).map (fun d => d.parameters.length) = some (a_na 100 - 1) := by decide +kernel
theorem ms_100 : Cond.selects (a_Rn (a_own 100)) (a_y 100) (a_y 100) ∈ lw_gd := a_m4 (i := 79) rfl rfl
theorem mk_101 : a_mk0 101 := ⟨by decide, by decide +kernel, ⟨by decide +kernel, by decide +kernel⟩, a_m1 (i := 1) rfl rfl, rfl⟩
theorem mc_101 : Cond.code (a_y 101) (a_c 101) (a_ml 101) (a_rt 101) ∈ lw_gd := a_m4 (i := 107) rfl rfl
theorem mh_101 : a_hh 101 = [] := rfl
theorem mi_101 : Cond.instanceMethod (a_y 101) ∈ lw_gd := a_m4 (i := 105) rfl rfl
theorem mp_101 : 1 ≤ a_na 101 ∧ (parseMethodDescriptor (a_y 101).desc).map (fun d => d.parameters.length) = some (a_na 101 - 1) := by decide +kernel
theorem ms_101 : Cond.selects (a_Rn (a_own 101)) (a_y 101) (a_y 101) ∈ lw_gd := a_m4 (i := 106) rfl rfl
theorem mk_102 : a_mk0 102 := ⟨by decide, by decide +kernel, ⟨by decide +kernel, by decide +kernel⟩, a_m1 (i := 1) rfl rfl, rfl⟩
theorem mc_102 : Cond.code (a_y 102) (a_c 102) (a_ml 102) (a_rt 102) ∈ lw_gd := a_m4 (i := 114) rfl rfl
theorem mh_102 : a_hh 102 = [] := rfl
theorem mi_102 : Cond.instanceMethod (a_y 102) ∈ lw_gd := a_m4 (i := 112) rfl rfl
theorem mp_102 : 1 ≤ a_na 102 ∧ (parseMethodDescriptor (a_y 102).desc).map (fun d => d.parameters.length) = some (a_na 102 - 1) := by decide +kernel
theorem ms_102 : Cond.selects (a_Rn (a_own 102)) (a_y 102) (a_y 102) ∈ lw_gd := a_m4 (i := 113) rfl rfl
theorem mk_103 : a_mk0 103 := ⟨by decide, by decide +kernel, ⟨by decide +kernel, by decide +kernel⟩, a_m1 (i := 1) rfl rfl, rfl⟩
theorem mc_103 : Cond.code (a_y 103) (a_c 103) (a_ml 103) (a_rt 103) ∈ lw_gd := a_m4 (i := 121) rfl rfl
theorem mh_103 : a_hh 103 = [] := rfl
theorem mi_103 : Cond.instanceMethod (a_y 103) ∈ lw_gd := a_m4 (i := 119) rfl rfl
theorem mp_103 : 1 ≤ a_na 103 ∧ (parseMethodDescriptor (a_y 103).desc).map (fun d => d.parameters.length) = some (a_na 103 - 1) := by decide +kernel
theorem ms_103 : Cond.selects (a_Rn (a_own 103)) (a_y 103) (a_y 103) ∈ lw_gd := a_m4 (i := 120) rfl rfl
theorem mk_104 : a_mk0 104 := ⟨by decide, by decide +kernel, ⟨by decide +kernel, by decide +kernel⟩, a_m1 (i := 1) rfl rfl, rfl⟩
theorem mc_104 : Cond.code (a_y 104) (a_c 104) (a_ml 104) (a_rt 104) ∈ lw_gd := a_m4 (i := 128) rfl rfl
theorem mh_104 : a_hh 104 = [] := rfl
theorem mi_104 : Cond.instanceMethod (a_y 104) ∈ lw_gd := a_m4 (i := 126) rfl rfl
theorem mp_104 : 1 ≤ a_na 104 ∧ (parseMethodDescriptor (a_y 104).desc).map (fun d => d.parameters.length) = some (a_na 104 - 1) := by decide +kernel
theorem ms_104 : Cond.selects (a_Rn (a_own 104)) (a_y 104) (a_y 104) ∈ lw_gd := a_m4 (i := 127) rfl rfl
theorem mk_105 : a_mk0 105 := ⟨by decide, by decide +kernel, ⟨by decide +kernel, by decide +kernel⟩, a_m1 (i := 1) rfl rfl, rfl⟩
theorem mc_105 : Cond.code (a_y 105) (a_c 105) (a_ml 105) (a_rt 105) ∈ lw_gd := a_m4 (i := 136) rfl rfl
theorem mh_105 : a_hh 105 = [] := rfl
theorem mi_105 : Cond.instanceMethod (a_y 105) ∈ lw_gd := a_m4 (i := 134) rfl rfl
theorem mp_105 : 1 ≤ a_na 105 ∧ (parseMethodDescriptor (a_y 105).desc).map (fun d => d.parameters.length) = some (a_na 105 - 1) := by decide +kernel
theorem ms_105 : Cond.selects (a_Rn (a_own 105)) (a_y 105) (a_y 105) ∈ lw_gd := a_m4 (i := 135) rfl rfl
theorem mk_106 : a_mk0 106 := ⟨by decide, by decide +kernel, ⟨by decide +kernel, by decide +kernel⟩, a_m1 (i := 1) rfl rfl, rfl⟩
theorem mc_106 : Cond.code (a_y 106) (a_c 106) (a_ml 106) (a_rt 106) ∈ lw_gd := a_m4 (i := 143) rfl rfl
theorem mh_106 : a_hh 106 = [] := rfl
theorem mi_106 : Cond.instanceMethod (a_y 106) ∈ lw_gd := a_m4 (i := 141) rfl rfl
theorem mp_106 : 1 ≤ a_na 106 ∧ (parseMethodDescriptor (a_y 106).desc).map (fun d => d.parameters.length) = some (a_na 106 - 1) := by decide +kernel
theorem ms_106 : Cond.selects (a_Rn (a_own 106)) (a_y 106) (a_y 106) ∈ lw_gd := a_m4 (i := 142) rfl rfl
theorem mk_107 : a_mk0 107 := ⟨by decide, by decide +kernel, ⟨by decide +kernel, by decide +kernel⟩, a_m1 (i := 1) rfl rfl, rfl⟩
theorem mc_107 : Cond.code (a_y 107) (a_c 107) (a_ml 107) (a_rt 107) ∈ lw_gd := a_m4 (i := 151) rfl rfl
theorem mh_107 : a_hh 107 = [] := rfl
theorem mi_107 : Cond.instanceMethod (a_y 107) ∈ lw_gd := a_m4 (i := 149) rfl rfl
theorem mp_107 : 1 ≤ a_na 107 ∧ (parseMethodDescriptor (a_y 107).desc).map (fun d => d.parameters.length) = some (a_na 107 - 1) := by decide +kernel
theorem ms_107 : Cond.selects (a_Rn (a_own 107)) (a_y 107) (a_y 107) ∈ lw_gd := a_m4 (i := 150) rfl rfl
theorem mk_108 : a_mk0 108 := ⟨by decide, by decide +kernel, ⟨by decide +kernel, by decide +kernel⟩, a_m1 (i := 1) rfl rfl, rfl⟩
theorem mc_108 : Cond.code (a_y 108) (a_c 108) (a_ml 108) (a_rt 108) ∈ lw_gd := a_m4 (i := 172) rfl rfl
theorem mh_108 : a_hh 108 = [] := rfl
theorem mi_108 : Cond.instanceMethod (a_y 108) ∈ lw_gd := a_m4 (i := 170) rfl rfl
theorem mp_108 : 1 ≤ a_na 108 ∧ (parseMethodDescriptor (a_y 108).desc).map (fun d => d.parameters.length) = some (a_na 108 - 1) := by decide +kernel
theorem ms_108 : Cond.selects (a_Rn (a_own 108)) (a_y 108) (a_y 108) ∈ lw_gd := a_m4 (i := 171) rfl rfl
theorem mk_109 : a_mk0 109 := ⟨by decide, by decide +kernel, ⟨by decide +kernel, by decide +kernel⟩, a_m1 (i := 1) rfl rfl, rfl⟩
theorem mc_109 : Cond.code (a_y 109) (a_c 109) (a_ml 109) (a_rt 109) ∈ lw_gd := a_m4 (i := 179) rfl rfl
theorem mh_109 : a_hh 109 = [] := rfl
theorem mi_109 : Cond.instanceMethod (a_y 109) ∈ lw_gd := a_m4 (i := 177) rfl rfl
theorem mp_109 : 1 ≤ a_na 109 ∧ (parseMethodDescriptor (a_y 109).desc).map (fun d => d.parameters.length) = some (a_na 109 - 1) := by decide +kernel
theorem ms_109 : Cond.selects (a_Rn (a_own 109)) (a_y 109) (a_y 109) ∈ lw_gd := a_m4 (i := 178) rfl rfl
theorem mk_110 : a_mk0 110 := ⟨by decide, by decide +kernel, ⟨by decide +kernel, by decide +kernel⟩, a_m1 (i := 1) rfl rfl, rfl⟩
theorem mc_110 : Cond.code (a_y 110) (a_c 110) (a_ml 110) (a_rt 110) ∈ lw_gd := a_m4 (i := 201) rfl rfl
theorem mh_110 : a_hh 110 = [] := rfl
theorem mi_110 : Cond.instanceMethod (a_y 110) ∈ lw_gd := a_m4 (i := 199) rfl rfl
theorem mp_110 : 1 ≤ a_na 110 ∧ (parseMethodDescriptor (a_y 110).desc).map (fun d => d.parameters.length) = some (a_na 110 - 1) := by decide +kernel
theorem ms_110 : Cond.selects (a_Rn (a_own 110)) (a_y 110) (a_y 110) ∈ lw_gd := a_m4 (i := 200) rfl rfl
theorem mk_111 : a_mk0 111 := ⟨by decide, by decide +kernel, ⟨by decide +kernel, by decide +kernel⟩, a_m1 (i := 1) rfl rfl, rfl⟩
theorem mc_111 : Cond.code (a_y 111) (a_c 111) (a_ml 111) (a_rt 111) ∈ lw_gd := a_m4 (i := 220) rfl rfl
theorem mh_111 : a_hh 111 = [] := rfl
theorem mi_111 : Cond.instanceMethod (a_y 111) ∈ lw_gd := a_m4 (i := 218) rfl rfl
theorem mp_111 : 1 ≤ a_na 111 ∧ (parseMethodDescriptor (a_y 111).desc).map (fun d => d.parameters.length) = some (a_na 111 - 1) := by decide +kernel
theorem ms_111 : Cond.selects (a_Rn (a_own 111)) (a_y 111) (a_y 111) ∈ lw_gd := a_m4 (i := 219) rfl rfl
theorem mk_112 : a_mk0 112 := ⟨by decide, by decide +kernel, ⟨by decide +kernel, by decide +kernel⟩, a_m1 (i := 1) rfl rfl, rfl⟩
theorem mc_112 : Cond.code (a_y 112) (a_c 112) (a_ml 112) (a_rt 112) ∈ lw_gd := a_m5 (i := 0) rfl rfl
theorem mh_112 : a_hh 112 = [] := rfl
theorem mi_112 : Cond.instanceMethod (a_y 112) ∈ lw_gd := a_m4 (i := 238) rfl rfl
theorem mp_112 : 1 ≤ a_na 112 ∧ (parseMethodDescriptor (a_y 112).desc).map (fun d => d.parameters.length) = some (a_na 112 - 1) := by decide +kernel
theorem ms_112 : Cond.selects (a_Rn (a_own 112)) (a_y 112) (a_y 112) ∈ lw_gd := a_m4 (i := 239) rfl rfl
theorem mk_113 : a_mk0 113 := ⟨by decide, by decide +kernel, ⟨by decide +kernel, by decide +kernel⟩, a_m1 (i := 1) rfl rfl, rfl⟩
theorem mc_113 : Cond.code (a_y 113) (a_c 113) (a_ml 113) (a_rt 113) ∈ lw_gd := a_m5 (i := 23) rfl rfl
theorem mh_113 : a_hh 113 = [] := rfl
theorem mi_113 : Cond.instanceMethod (a_y 113) ∈ lw_gd := a_m5 (i := 21) rfl rfl
theorem mp_113 : 1 ≤ a_na 113 ∧ (parseMethodDescriptor (a_y 113).desc).map (fun d => d.parameters.length) = some (a_na 113 - 1) := by decide +kernel
theorem ms_113 : Cond.selects (a_Rn (a_own 113)) (a_y 113) (a_y 113) ∈ lw_gd := a_m5 (i := 22) rfl rfl
theorem mk_114 : a_mk0 114 := ⟨by decide, by decide +kernel, ⟨by decide +kernel, by decide +kernel⟩, a_m1 (i := 1) rfl rfl, rfl⟩
theorem mc_114 : Cond.code (a_y 114) (a_c 114) (a_ml 114) (a_rt 114) ∈ lw_gd := a_m5 (i := 37) rfl rfl
theorem mh_114 : a_hh 114 = [] := rfl
theorem mi_114 : Cond.instanceMethod (a_y 114) ∈ lw_gd := a_m5 (i := 35) rfl rfl
theorem mp_114 : 1 ≤ a_na 114 ∧ (parseMethodDescriptor (a_y 114).desc).map (fun d => d.parameters.length) = some (a_na 114 - 1) := by decide +kernel
theorem ms_114 : Cond.selects (a_Rn (a_own 114)) (a_y 114) (a_y 114) ∈ lw_gd := a_m5 (i := 36) rfl rfl
theorem mk_115 : a_mk0 115 := ⟨by decide, by decide +kernel, ⟨by decide +kernel, by decide +kernel⟩, a_m1 (i := 1) rfl rfl, rfl⟩
theorem mc_115 : Cond.code (a_y 115) (a_c 115) (a_ml 115) (a_rt 115) ∈ lw_gd := a_m5 (i := 49) rfl rfl
theorem mh_115 : a_hh 115 = [] := rfl
theorem mi_115 : Cond.instanceMethod (a_y 115) ∈ lw_gd := a_m5 (i := 47) rfl rfl
theorem mp_115 : 1 ≤ a_na 115 ∧ (parseMethodDescriptor (a_y 115).desc).map (fun d => d.parameters.length) = some (a_na 115 - 1) := by decide +kernel
theorem ms_115 : Cond.selects (a_Rn (a_own 115)) (a_y 115) (a_y 115) ∈ lw_gd := a_m5 (i := 48) rfl rfl
theorem mk_116 : a_mk0 116 := ⟨by decide, by decide +kernel, ⟨by decide +kernel, by decide +kernel⟩, a_m1 (i := 1) rfl rfl, rfl⟩
theorem mc_116 : Cond.code (a_y 116) (a_c 116) (a_ml 116) (a_rt 116) ∈ lw_gd := a_m5 (i := 60) rfl rfl
theorem mh_116 : a_hh 116 = [] := rfl
theorem mi_116 : Cond.instanceMethod (a_y 116) ∈ lw_gd := a_m5 (i := 58) rfl rfl
theorem mp_116 : 1 ≤ a_na 116 ∧ (parseMethodDescriptor (a_y 116).desc).map (fun d => d.parameters.length) = some (a_na 116 - 1) := by decide +kernel
theorem ms_116 : Cond.selects (a_Rn (a_own 116)) (a_y 116) (a_y 116) ∈ lw_gd := a_m5 (i := 59) rfl rfl
theorem mk_117 : a_mk0 117 := ⟨by decide, by decide +kernel, ⟨by decide +kernel, by decide +kernel⟩, a_m1 (i := 1) rfl rfl, rfl⟩
theorem mc_117 : Cond.code (a_y 117) (a_c 117) (a_ml 117) (a_rt 117) ∈ lw_gd := a_m5 (i := 67) rfl rfl
theorem mh_117 : a_hh 117 = [] := rfl
theorem mi_117 : Cond.instanceMethod (a_y 117) ∈ lw_gd := a_m5 (i := 65) rfl rfl
theorem mp_117 : 1 ≤ a_na 117 ∧ (parseMethodDescriptor (a_y 117).desc).map (fun d => d.parameters.length) = some (a_na 117 - 1) := by decide +kernel
theorem ms_117 : Cond.selects (a_Rn (a_own 117)) (a_y 117) (a_y 117) ∈ lw_gd := a_m5 (i := 66) rfl rfl
theorem mk_118 : a_mk0 118 := ⟨by decide, by decide +kernel, ⟨by decide +kernel, by decide +kernel⟩, a_m1 (i := 1) rfl rfl, rfl⟩
theorem mc_118 : Cond.code (a_y 118) (a_c 118) (a_ml 118) (a_rt 118) ∈ lw_gd := a_m2 (i := 123) rfl rfl
theorem mh_118 : a_hh 118 = [] := rfl
theorem mi_118 : Cond.instanceMethod (a_y 118) ∈ lw_gd := a_m2 (i := 121) rfl rfl
theorem mp_118 : 1 ≤ a_na 118 ∧ (parseMethodDescriptor (a_y 118).desc).map (fun d => d.parameters.length) = some (a_na 118 - 1) := by decide +kernel
theorem ms_118 : Cond.selects (a_Rn (a_own 118)) (a_y 118) (a_y 118) ∈ lw_gd := a_m2 (i := 122) rfl rfl
theorem mk_119 : a_mk0 119 := ⟨by decide, by decide +kernel, ⟨by decide +kernel, by decide +kernel⟩, a_m1 (i := 1) rfl rfl, rfl⟩
theorem mc_119 : Cond.code (a_y 119) (a_c 119) (a_ml 119) (a_rt 119) ∈ lw_gd := a_m5 (i := 78) rfl rfl
theorem mh_119 : a_hh 119 = [] := rfl
theorem mi_119 : Cond.instanceMethod (a_y 119) ∈ lw_gd := a_m5 (i := 76) rfl rfl
theorem mp_119 : 1 ≤ a_na 119 ∧ (parseMethodDescriptor (a_y 119).desc).map (fun d => d.parameters.length) = some (a_na 119 - 1) := by decide +kernel
theorem ms_119 : Cond.selects (a_Rn (a_own 119)) (a_y 119) (a_y 119) ∈ lw_gd := a_m5 (i := 77) rfl rfl
theorem mk_120 : a_mk0 120 := ⟨by decide, by decide +kernel, ⟨by decide +kernel, by decide +kernel⟩, a_m1 (i := 1) rfl rfl, rfl⟩
theorem mc_120 : Cond.code (a_y 120) (a_c 120) (a_ml 120) (a_rt 120) ∈ lw_gd := a_m5 (i := 90) rfl rfl
theorem mh_120 : a_hh 120 = [] := rfl
theorem mi_120 : Cond.instanceMethod (a_y 120) ∈ lw_gd := a_m5 (i := 88) rfl rfl
theorem mp_120 : 1 ≤ a_na 120 ∧ (parseMethodDescriptor (a_y 120).desc).map (fun d => d.parameters.length) = some (a_na 120 - 1) := by decide +kernel
theorem ms_120 : Cond.selects (a_Rn (a_own 120)) (a_y 120) (a_y 120) ∈ lw_gd := a_m5 (i := 89) rfl rfl
theorem mk_121 : a_mk0 121 := ⟨by decide, by decide +kernel, ⟨by decide +kernel, by decide +kernel⟩, a_m1 (i := 1) rfl rfl, rfl⟩
theorem mc_121 : Cond.code (a_y 121) (a_c 121) (a_ml 121) (a_rt 121) ∈ lw_gd := a_m2 (i := 127) rfl rfl
theorem mh_121 : a_hh 121 = [] := rfl
theorem mi_121 : Cond.instanceMethod (a_y 121) ∈ lw_gd := a_m2 (i := 125) rfl rfl
theorem mp_121 : 1 ≤ a_na 121 ∧ (parseMethodDescriptor (a_y 121).desc).map (fun d => d.parameters.length) = some (a_na 121 - 1) := by decide +kernel
theorem ms_121 : Cond.selects (a_Rn (a_own 121)) (a_y 121) (a_y 121) ∈ lw_gd := a_m2 (i := 126) rfl rfl
theorem mk_122 : a_mk0 122 := ⟨by decide, by decide +kernel, ⟨by decide +kernel, by decide +kernel⟩, a_m1 (i := 1) rfl rfl, rfl⟩
theorem mc_122 : Cond.code (a_y 122) (a_c 122) (a_ml 122) (a_rt 122) ∈ lw_gd := a_m5 (i := 98) rfl rfl
theorem mh_122 : a_hh 122 = [] := rfl
theorem mi_122 : Cond.instanceMethod (a_y 122) ∈ lw_gd := a_m5 (i := 96) rfl rfl
theorem mp_122 : 1 ≤ a_na 122 ∧ (parseMethodDescriptor (a_y 122).desc).map (fun d => d.parameters.length) = some (a_na 122 - 1) := by decide +kernel
theorem ms_122 : Cond.selects (a_Rn (a_own 122)) (a_y 122) (a_y 122) ∈ lw_gd := a_m5 (i := 97) rfl rfl
theorem mk_123 : a_mk0 123 := ⟨by decide, by decide +kernel, ⟨by decide +kernel, by decide +kernel⟩, a_m1 (i := 1) rfl rfl, rfl⟩
theorem mc_123 : Cond.code (a_y 123) (a_c 123) (a_ml 123) (a_rt 123) ∈ lw_gd := a_m5 (i := 109) rfl rfl
theorem mh_123 : a_hh 123 = [] := rfl
theorem mi_123 : Cond.instanceMethod (a_y 123) ∈ lw_gd := a_m5 (i := 107) rfl rfl
theorem mp_123 : 1 ≤ a_na 123 ∧ (parseMethodDescriptor (a_y 123).desc).map (fun d => d.parameters.length) = some (a_na 123 - 1) := by decide +kernel
theorem ms_123 : Cond.selects (a_Rn (a_own 123)) (a_y 123) (a_y 123) ∈ lw_gd := a_m5 (i := 108) rfl rfl
theorem mk_124 : a_mk0 124 := ⟨by decide, by decide +kernel, ⟨by decide +kernel, by decide +kernel⟩, a_m1 (i := 1) rfl rfl, rfl⟩
theorem mc_124 : Cond.code (a_y 124) (a_c 124) (a_ml 124) (a_rt 124) ∈ lw_gd := a_m5 (i := 116) rfl rfl
theorem mh_124 : a_hh 124 = [] := rfl
theorem mi_124 : Cond.instanceMethod (a_y 124) ∈ lw_gd := a_m5 (i := 114) rfl rfl
theorem mp_124 : 1 ≤ a_na 124 ∧ (parseMethodDescriptor (a_y 124).desc).map (fun d => d.parameters.length) = some (a_na 124 - 1) := by decide +kernel
theorem ms_124 : Cond.selects (a_Rn (a_own 124)) (a_y 124) (a_y 124) ∈ lw_gd := a_m5 (i := 115) rfl rfl
theorem mk_125 : a_mk0 125 := ⟨by decide, by decide +kernel, ⟨by decide +kernel, by decide +kernel⟩, a_m1 (i := 1) rfl rfl, rfl⟩
theorem mc_125 : Cond.code (a_y 125) (a_c 125) (a_ml 125) (a_rt 125) ∈ lw_gd := a_m5 (i := 124) rfl rfl
theorem mh_125 : a_hh 125 = [] := rfl
theorem mi_125 : Cond.instanceMethod (a_y 125) ∈ lw_gd := a_m5 (i := 122) rfl rfl
theorem mp_125 : 1 ≤ a_na 125 ∧ (parseMethodDescriptor (a_y 125).desc).map (fun d => d.parameters.length) = some (a_na 125 - 1) := by decide +kernel
theorem ms_125 : Cond.selects (a_Rn (a_own 125)) (a_y 125) (a_y 125) ∈ lw_gd := a_m5 (i := 123) rfl rfl
theorem mk_126 : a_mk0 126 := ⟨by decide, by decide +kernel, ⟨by decide +kernel, by decide +kernel⟩, a_m1 (i := 1) rfl rfl, rfl⟩
theorem mc_126 : Cond.code (a_y 126) (a_c 126) (a_ml 126) (a_rt 126) ∈ lw_gd := a_m5 (i := 131) rfl rfl
theorem mh_126 : a_hh 126 = [] := rfl
theorem mi_126 : Cond.instanceMethod (a_y 126) ∈ lw_gd := a_m5 (i := 129) rfl rfl
theorem mp_126 : 1 ≤ a_na 126 ∧ (parseMethodDescriptor (a_y 126).desc).map (fun d => d.parameters.length) = some (a_na 126 - 1) := by decide +kernel
theorem ms_126 : Cond.selects (a_Rn (a_own 126)) (a_y 126) (a_y 126) ∈ lw_gd := a_m5 (i := 130) rfl rfl
theorem mk_127 : a_mk0 127 := ⟨by decide, by decide +kernel, ⟨by decide +kernel, by decide +kernel⟩, a_m1 (i := 1) rfl rfl, rfl⟩
theorem mc_127 : Cond.code (a_y 127) (a_c 127) (a_ml 127) (a_rt 127) ∈ lw_gd := a_m5 (i := 138) rfl rfl
theorem mh_127 : a_hh 127 = [] := rfl
theorem mi_127 : Cond.instanceMethod (a_y 127) ∈ lw_gd := a_m5 (i := 136) rfl rfl
theorem mp_127 : 1 ≤ a_na 127 ∧ (parseMethodDescriptor (a_y 127).desc).map (fun d => d.parameters.length) = some (a_na 127 - 1) := by decide +kernel
theorem ms_127 : Cond.selects (a_Rn (a_own 127)) (a_y 127) (a_y 127) ∈ lw_gd := a_m5 (i := 137) rfl rfl
theorem mk_128 : a_mk0 128 := ⟨by decide, by decide +kernel, ⟨by decide +kernel, by decide +kernel⟩, a_m1 (i := 1) rfl rfl, rfl⟩
theorem mc_128 : Cond.code (a_y 128) (a_c 128) (a_ml 128) (a_rt 128) ∈ lw_gd := a_m2 (i := 139) rfl rfl
theorem mh_128 : a_hh 128 = [] := rfl
theorem mi_128 : Cond.instanceMethod (a_y 128) ∈ lw_gd := a_m2 (i := 137) rfl rfl
theorem mp_128 : 1 ≤ a_na 128 ∧ (parseMethodDescriptor (a_y 128).desc).map (fun d => d.parameters.length) = some (a_na 128 - 1) := by decide +kernel
theorem ms_128 : Cond.selects (a_Rn (a_own 128)) (a_y 128) (a_y 128) ∈ lw_gd := a_m2 (i := 138) rfl rfl
theorem mk_129 : a_mk0 129 := ⟨by decide, by decide +kernel, ⟨by decide +kernel, by decide +kernel⟩, a_m1 (i := 1) rfl rfl, rfl⟩
theorem mc_129 : Cond.code (a_y 129) (a_c 129) (a_ml 129) (a_rt 129) ∈ lw_gd := a_m2 (i := 147) rfl rfl
theorem mh_129 : a_hh 129 = [] := rfl
theorem mi_129 : Cond.instanceMethod (a_y 129) ∈ lw_gd := a_m2 (i := 145) rfl rfl
theorem mp_129 : 1 ≤ a_na 129 ∧ (parseMethodDescriptor (a_y 129).desc).map (fun d => d.parameters.length) = some (a_na 129 - 1) := by decide +kernel
theorem ms_129 : Cond.selects (a_Rn (a_own 129)) (a_y 129) (a_y 129) ∈ lw_gd := a_m2 (i := 146) rfl rfl
theorem mk_130 : a_mk0 130 := ⟨by decide, by decide +kernel, ⟨by decide +kernel, by decide +kernel⟩, a_m1 (i := 1) rfl rfl, rfl⟩
theorem mc_130 : Cond.code (a_y 130) (a_c 130) (a_ml 130) (a_rt 130) ∈ lw_gd := a_m2 (i := 155) rfl rfl
theorem mh_130 : a_hh 130 = [] := rfl
theorem mi_130 : Cond.instanceMethod (a_y 130) ∈ lw_gd := a_m2 (i := 153) rfl rfl
theorem mp_130 : 1 ≤ a_na 130 ∧ (parseMethodDescriptor (a_y 130).desc).map (fun d => d.parameters.length) = some (a_na 130 - 1) := by decide +kernel
theorem ms_130 : Cond.selects (a_Rn (a_own 130)) (a_y 130) (a_y 130) ∈ lw_gd := a_m2 (i := 154) rfl rfl
theorem mk_131 : a_mk0 131 := ⟨by decide, by decide +kernel, ⟨by decide +kernel, by decide +kernel⟩, a_m1 (i := 1) rfl rfl, rfl⟩
theorem mc_131 : Cond.code (a_y 131) (a_c 131) (a_ml 131) (a_rt 131) ∈ lw_gd := a_m5 (i := 155) rfl rfl
theorem mh_131 : a_hh 131 = [] := rfl
theorem mi_131 : Cond.instanceMethod (a_y 131) ∈ lw_gd := a_m5 (i := 153) rfl rfl
theorem mp_131 : 1 ≤ a_na 131 ∧ (parseMethodDescriptor (a_y 131).desc).map (fun d => d.parameters.length) = some (a_na 131 - 1) := by decide +kernel
theorem ms_131 : Cond.selects (a_Rn (a_own 131)) (a_y 131) (a_y 131) ∈ lw_gd := a_m5 (i := 154) rfl rfl
theorem mk_132 : a_mk0 132 := ⟨by decide, by decide +kernel, ⟨by decide +kernel, by decide +kernel⟩, a_m1 (i := 1) rfl rfl, rfl⟩
theorem mc_132 : Cond.code (a_y 132) (a_c 132) (a_ml 132) (a_rt 132) ∈ lw_gd := a_m2 (i := 159) rfl rfl
theorem mh_132 : a_hh 132 = [] := rfl
theorem mi_132 : Cond.instanceMethod (a_y 132) ∈ lw_gd := a_m2 (i := 157) rfl rfl
theorem mp_132 : 1 ≤ a_na 132 ∧ (parseMethodDescriptor (a_y 132).desc).map (fun d => d.parameters.length) = some (a_na 132 - 1) := by decide +kernel
theorem ms_132 : Cond.selects (a_Rn (a_own 132)) (a_y 132) (a_y 132) ∈ lw_gd := a_m2 (i := 158) rfl rfl
theorem mk_133 : a_mk0 133 := ⟨by decide, by decide +kernel, ⟨by decide +kernel, by decide +kernel⟩, a_m1 (i := 1) rfl rfl, rfl⟩
theorem mc_133 : Cond.code (a_y 133) (a_c 133) (a_ml 133) (a_rt 133) ∈ lw_gd := a_m2 (i := 163) rfl rfl
theorem mh_133 : a_hh 133 = [] := rfl
theorem mi_133 : Cond.instanceMethod (a_y 133) ∈ lw_gd := a_m2 (i := 161) rfl rfl
theorem mp_133 : 1 ≤ a_na 133 ∧ (parseMethodDescriptor (a_y 133).desc).map (fun d => d.parameters.length) = some (a_na 133 - 1) := by decide +kernel
theorem ms_133 : Cond.selects (a_Rn (a_own 133)) (a_y 133) (a_y 133) ∈ lw_gd := a_m2 (i := 162) rfl rfl
theorem mk_134 : a_mk0 134 := ⟨by decide, by decide +kernel, ⟨by decide +kernel, by decide +kernel⟩, a_m1 (i := 1) rfl rfl, rfl⟩
theorem mc_134 : Cond.code (a_y 134) (a_c 134) (a_ml 134) (a_rt 134) ∈ lw_gd := a_m5 (i := 236) rfl rfl
theorem mh_134 : a_hh 134 = [] := rfl
theorem mi_134 : Cond.instanceMethod (a_y 134) ∈ lw_gd := a_m5 (i := 234) rfl rfl
theorem mp_134 : 1 ≤ a_na 134 ∧ (parseMethodDescriptor (a_y 134).desc).map (fun d => d.parameters.length) = some (a_na 134 - 1) := by decide +kernel
theorem ms_134 : Cond.selects (a_Rn (a_own 134)) (a_y 134) (a_y 134) ∈ lw_gd := a_m5 (i := 235) rfl rfl
theorem mk_135 : a_mk0 135 := ⟨by decide, by decide +kernel, ⟨by decide +kernel, by decide +kernel⟩, a_m1 (i := 1) rfl rfl, rfl⟩
theorem mc_135 : Cond.code (a_y 135) (a_c 135) (a_ml 135) (a_rt 135) ∈ lw_gd := a_m6 (i := 13) rfl rfl
theorem mh_135 : a_hh 135 = [] := rfl
theorem mi_135 : Cond.instanceMethod (a_y 135) ∈ lw_gd := a_m6 (i := 11) rfl rfl
theorem mp_135 : 1 ≤ a_na 135 ∧ (parseMethodDescriptor (a_y 135).desc).map (fun d => d.parameters.length) = some (a_na 135 - 1) := by decide +kernel
theorem ms_135 : Cond.selects (a_Rn (a_own 135)) (a_y 135) (a_y 135) ∈ lw_gd := a_m6 (i := 12) rfl rfl
theorem mk_136 : a_mk0 136 := ⟨by decide, by decide +kernel, ⟨by decide +kernel, by decide +kernel⟩, a_m1 (i := 1) rfl rfl, rfl⟩
theorem mc_136 : Cond.code (a_y 136) (a_c 136) (a_ml 136) (a_rt 136) ∈ lw_gd := a_m6 (i := 20) rfl rfl
theorem mh_136 : a_hh 136 = [] := rfl
theorem mi_136 : Cond.instanceMethod (a_y 136) ∈ lw_gd := a_m6 (i := 18) rfl rfl
theorem mp_136 : 1 ≤ a_na 136 ∧ (parseMethodDescriptor (a_y 136).desc).map (fun d => d.parameters.length) = some (a_na 136 - 1) := by decide +kernel
theorem ms_136 : Cond.selects (a_Rn (a_own 136)) (a_y 136) (a_y 136) ∈ lw_gd := a_m6 (i := 19) rfl rfl
theorem mk_137 : a_mk0 137 := ⟨by decide, by decide +kernel, ⟨by decide +kernel, by decide +kernel⟩, a_m1 (i := 1) rfl rfl, rfl⟩
theorem mc_137 : Cond.code (a_y 137) (a_c 137) (a_ml 137) (a_rt 137) ∈ lw_gd := a_m6 (i := 27) rfl rfl
theorem mh_137 : a_hh 137 = [] := rfl
theorem mi_137 : Cond.instanceMethod (a_y 137) ∈ lw_gd := a_m6 (i := 25) rfl rfl
theorem mp_137 : 1 ≤ a_na 137 ∧ (parseMethodDescriptor (a_y 137).desc).map (fun d => d.parameters.length) = some (a_na 137 - 1) := by decide +kernel
theorem ms_137 : Cond.selects (a_Rn (a_own 137)) (a_y 137) (a_y 137) ∈ lw_gd := a_m6 (i := 26) rfl rfl
theorem mk_138 : a_mk0 138 := ⟨by decide, by decide +kernel, ⟨by decide +kernel, by decide +kernel⟩, a_m1 (i := 1) rfl rfl, rfl⟩
theorem mc_138 : Cond.code (a_y 138) (a_c 138) (a_ml 138) (a_rt 138) ∈ lw_gd := a_m6 (i := 34) rfl rfl
theorem mh_138 : a_hh 138 = [] := rfl
theorem mi_138 : Cond.instanceMethod (a_y 138) ∈ lw_gd := a_m6 (i := 32) rfl rfl
theorem mp_138 : 1 ≤ a_na 138 ∧ (parseMethodDescriptor (a_y 138).desc).map (fun d => d.parameters.length) = some (a_na 138 - 1) := by decide +kernel
theorem ms_138 : Cond.selects (a_Rn (a_own 138)) (a_y 138) (a_y 138) ∈ lw_gd := a_m6 (i := 33) rfl rfl
theorem mk_139 : a_mk0 139 := ⟨by decide, by decide +kernel, ⟨by decide +kernel, by decide +kernel⟩, a_m1 (i := 1) rfl rfl, rfl⟩
theorem mc_139 : Cond.code (a_y 139) (a_c 139) (a_ml 139) (a_rt 139) ∈ lw_gd := a_m6 (i := 45) rfl rfl
theorem mh_139 : a_hh 139 = [] := rfl
theorem mi_139 : Cond.instanceMethod (a_y 139) ∈ lw_gd := a_m6 (i := 43) rfl rfl
theorem mp_139 : 1 ≤ a_na 139 ∧ (parseMethodDescriptor (a_y 139).desc).map (fun d => d.parameters.length) = some (a_na 139 - 1) := by decide +kernel
theorem ms_139 : Cond.selects (a_Rn (a_own 139)) (a_y 139) (a_y 139) ∈ lw_gd := a_m6 (i := 44) rfl rfl
theorem mk_140 : a_mk0 140 := ⟨by decide, by decide +kernel, ⟨by decide +kernel, by decide +kernel⟩, a_m1 (i := 1) rfl rfl, rfl⟩
theorem mc_140 : Cond.code (a_y 140) (a_c 140) (a_ml 140) (a_rt 140) ∈ lw_gd := a_m6 (i := 58) rfl rfl
theorem mh_140 : a_hh 140 = [] := rfl
theorem mi_140 : Cond.instanceMethod (a_y 140) ∈ lw_gd := a_m6 (i := 56) rfl rfl
theorem mp_140 : 1 ≤ a_na 140 ∧ (parseMethodDescriptor (a_y 140).desc).map (fun d => d.parameters.length) = some (a_na 140 - 1) := by decide +kernel
theorem ms_140 : Cond.selects (a_Rn (a_own 140)) (a_y 140) (a_y 140) ∈ lw_gd := a_m6 (i := 57) rfl rfl
theorem mk_141 : a_mk0 141 := ⟨by decide, by decide +kernel, ⟨by decide +kernel, by decide +kernel⟩, a_m1 (i := 1) rfl rfl, rfl⟩
theorem mc_141 : Cond.code (a_y 141) (a_c 141) (a_ml 141) (a_rt 141) ∈ lw_gd := a_m6 (i := 69) rfl rfl
theorem mh_141 : a_hh 141 = [] := rfl
theorem mi_141 : Cond.instanceMethod (a_y 141) ∈ lw_gd := a_m6 (i := 67) rfl rfl
theorem mp_141 : 1 ≤ a_na 141 ∧ (parseMethodDescriptor (a_y 141).desc).map (fun d => d.parameters.length) = some (a_na 141 - 1) := by decide +kernel
theorem ms_141 : Cond.selects (a_Rn (a_own 141)) (a_y 141) (a_y 141) ∈ lw_gd := a_m6 (i := 68) rfl rfl
theorem mk_142 : a_mk0 142 := ⟨by decide, by decide +kernel, ⟨by decide +kernel, by decide +kernel⟩, a_m1 (i := 1) rfl rfl, rfl⟩
theorem mc_142 : Cond.code (a_y 142) (a_c 142) (a_ml 142) (a_rt 142) ∈ lw_gd := a_m6 (i := 76) rfl rfl
theorem mh_142 : a_hh 142 = [] := rfl
theorem mi_142 : Cond.instanceMethod (a_y 142) ∈ lw_gd := a_m6 (i := 74) rfl rfl
theorem mp_142 : 1 ≤ a_na 142 ∧ (parseMethodDescriptor (a_y 142).desc).map (fun d => d.parameters.length) = some (a_na 142 - 1) := by decide +kernel
theorem ms_142 : Cond.selects (a_Rn (a_own 142)) (a_y 142) (a_y 142) ∈ lw_gd := a_m6 (i := 75) rfl rfl
theorem mk_143 : a_mk0 143 := ⟨by decide, by decide +kernel, ⟨by decide +kernel, by decide +kernel⟩, a_m1 (i := 1) rfl rfl, rfl⟩
theorem mc_143 : Cond.code (a_y 143) (a_c 143) (a_ml 143) (a_rt 143) ∈ lw_gd := a_m2 (i := 175) rfl rfl
theorem mh_143 : a_hh 143 = [] := rfl
theorem mi_143 : Cond.instanceMethod (a_y 143) ∈ lw_gd := a_m2 (i := 173) rfl rfl
theorem mp_143 : 1 ≤ a_na 143 ∧ (parseMethodDescriptor (a_y 143).desc).map (fun d => d.parameters.length) = some (a_na 143 - 1) := by decide +kernel
theorem ms_143 : Cond.selects (a_Rn (a_own 143)) (a_y 143) (a_y 143) ∈ lw_gd := a_m2 (i := 174) rfl rfl
theorem mk_144 : a_mk0 144 := ⟨by decide, by decide +kernel, ⟨by decide +kernel, by decide +kernel⟩, a_m1 (i := 1) rfl rfl, rfl⟩
theorem mc_144 : Cond.code (a_y 144) (a_c 144) (a_ml 144) (a_rt 144) ∈ lw_gd := a_m2 (i := 179) rfl rfl
theorem mh_144 : a_hh 144 = [] := rfl
theorem mi_144 : Cond.instanceMethod (a_y 144) ∈ lw_gd := a_m2 (i := 177) rfl rfl
theorem mp_144 : 1 ≤ a_na 144 ∧ (parseMethodDescriptor (a_y 144).desc).map (fun d => d.parameters.length) = some (a_na 144 - 1) := by decide +kernel
theorem ms_144 : Cond.selects (a_Rn (a_own 144)) (a_y 144) (a_y 144) ∈ lw_gd := a_m2 (i := 178) rfl rfl
theorem mk_145 : a_mk0 145 := ⟨by decide, by decide +kernel, ⟨by decide +kernel, by decide +kernel⟩, a_m1 (i := 1) rfl rfl, rfl⟩
theorem mc_145 : Cond.code (a_y 145) (a_c 145) (a_ml 145) (a_rt 145) ∈ lw_gd := a_m2 (i := 197) rfl rfl
theorem mh_145 : a_hh 145 = [] := rfl
theorem mi_145 : Cond.instanceMethod (a_y 145) ∈ lw_gd := a_m2 (i := 195) rfl rfl
theorem mp_145 : 1 ≤ a_na 145 ∧ (parseMethodDescriptor (a_y 145).desc).map (fun d => d.parameters.length) = some (a_na 145 - 1) := by decide +kernel
theorem ms_145 : Cond.selects (a_Rn (a_own 145)) (a_y 145) (a_y 145) ∈ lw_gd := a_m2 (i := 196) rfl rfl
theorem mk_146 : a_mk0 146 := ⟨by decide, by decide +kernel, ⟨by decide +kernel, by decide +kernel⟩, a_m1 (i := 1) rfl rfl, rfl⟩
theorem mc_146 : Cond.code (a_y 146) (a_c 146) (a_ml 146) (a_rt 146) ∈ lw_gd := a_m2 (i := 201) rfl rfl
theorem mh_146 : a_hh 146 = [] := rfl
theorem mi_146 : Cond.instanceMethod (a_y 146) ∈ lw_gd := a_m2 (i := 199) rfl rfl
theorem mp_146 : 1 ≤ a_na 146 ∧ (parseMethodDescriptor (a_y 146).desc).map (fun d => d.parameters.length) = some (a_na 146 - 1) := by decide +kernel
theorem ms_146 : Cond.selects (a_Rn (a_own 146)) (a_y 146) (a_y 146) ∈ lw_gd := a_m2 (i := 200) rfl rfl
theorem mk_147 : a_mk0 147 := ⟨by decide, by decide +kernel, ⟨by decide +kernel, by decide +kernel⟩, a_m1 (i := 1) rfl rfl, rfl⟩
theorem mc_147 : Cond.code (a_y 147) (a_c 147) (a_ml 147) (a_rt 147) ∈ lw_gd := a_m2 (i := 205) rfl rfl
theorem mh_147 : a_hh 147 = [] := rfl
theorem mi_147 : Cond.instanceMethod (a_y 147) ∈ lw_gd := a_m2 (i := 203) rfl rfl
theorem mp_147 : 1 ≤ a_na 147 ∧ (parseMethodDescriptor (a_y 147).desc).map (fun d => d.parameters.length) = some (a_na 147 - 1) := by decide +kernel
theorem ms_147 : Cond.selects (a_Rn (a_own 147)) (a_y 147) (a_y 147) ∈ lw_gd := a_m2 (i := 204) rfl rfl
theorem mk_148 : a_mk0 148 := ⟨by decide, by decide +kernel, ⟨by decide +kernel, by decide +kernel⟩, a_m1 (i := 1) rfl rfl, rfl⟩
theorem mc_148 : Cond.code (a_y 148) (a_c 148) (a_ml 148) (a_rt 148) ∈ lw_gd := a_m2 (i := 209) rfl rfl
theorem mh_148 : a_hh 148 = [] := rfl
theorem mi_148 : Cond.instanceMethod (a_y 148) ∈ lw_gd := a_m2 (i := 207) rfl rfl
theorem mp_148 : 1 ≤ a_na 148 ∧ (parseMethodDescriptor (a_y 148).desc).map (fun d => d.parameters.length) = some (a_na 148 - 1) := by decide +kernel
theorem ms_148 : Cond.selects (a_Rn (a_own 148)) (a_y 148) (a_y 148) ∈ lw_gd := a_m2 (i := 208) rfl rfl
theorem mk_149 : a_mk0 149 := ⟨by decide, by decide +kernel, ⟨by decide +kernel, by decide +kernel⟩, a_m1 (i := 1) rfl rfl, rfl⟩
theorem mc_149 : Cond.code (a_y 149) (a_c 149) (a_ml 149) (a_rt 149) ∈ lw_gd := a_m2 (i := 220) rfl rfl
theorem mh_149 : a_hh 149 = [] := rfl
theorem mi_149 : Cond.instanceMethod (a_y 149) ∈ lw_gd := a_m2 (i := 218) rfl rfl
theorem mp_149 : 1 ≤ a_na 149 ∧ (parseMethodDescriptor (a_y 149).desc).map (fun d => d.parameters.length) = some (a_na 149 - 1) := by decide +kernel
theorem ms_149 : Cond.selects (a_Rn (a_own 149)) (a_y 149) (a_y 149) ∈ lw_gd := a_m2 (i := 219) rfl rfl
theorem mk_150 : a_mk0 150 := ⟨by decide, by decide +kernel, ⟨by decide +kernel, by decide +kernel⟩, a_m1 (i := 1) rfl rfl, rfl⟩
theorem mc_150 : Cond.code (a_y 150) (a_c 150) (a_ml 150) (a_rt 150) ∈ lw_gd := a_m6 (i := 83) rfl rfl
theorem mh_150 : a_hh 150 = [] := rfl
theorem mi_150 : Cond.instanceMethod (a_y 150) ∈ lw_gd := a_m6 (i := 81) rfl rfl
theorem mp_150 : 1 ≤ a_na 150 ∧ (parseMethodDescriptor (a_y 150).desc).map (fun d => d.parameters.length) = some (a_na 150 - 1) := by decide +kernel
theorem ms_150 : Cond.selects (a_Rn (a_own 150)) (a_y 150) (a_y 150) ∈ lw_gd := a_m6 (i := 82) rfl rfl
theorem mk_151 : a_mk0 151 := ⟨by decide, by decide +kernel, ⟨by decide +kernel, by decide +kernel⟩, a_m1 (i := 1) rfl rfl, rfl⟩
theorem mc_151 : Cond.code (a_y 151) (a_c 151) (a_ml 151) (a_rt 151) ∈ lw_gd := a_m6 (i := 98) rfl rfl
theorem mh_151 : a_hh 151 = [] := rfl
theorem mi_151 : Cond.instanceMethod (a_y 151) ∈ lw_gd := a_m6 (i := 96) rfl rfl
theorem mp_151 : 1 ≤ a_na 151 ∧ (parseMethodDescriptor (a_y 151).desc).map (fun d => d.parameters.length) = some (a_na 151 - 1) := by decide +kernel
theorem ms_151 : Cond.selects (a_Rn (a_own 151)) (a_y 151) (a_y 151) ∈ lw_gd := a_m6 (i := 97) rfl rfl
theorem mk_152 : a_mk0 152 := ⟨by decide, by decide +kernel, ⟨by decide +kernel, by decide +kernel⟩, a_m1 (i := 1) rfl rfl, rfl⟩
theorem mc_152 : Cond.code (a_y 152) (a_c 152) (a_ml 152) (a_rt 152) ∈ lw_gd := a_m6 (i := 109) rfl rfl
theorem mh_152 : a_hh 152 = [] := rfl
theorem mi_152 : Cond.instanceMethod (a_y 152) ∈ lw_gd := a_m6 (i := 107) rfl rfl
theorem mp_152 : 1 ≤ a_na 152 ∧ (parseMethodDescriptor (a_y 152).desc).map (fun d => d.parameters.length) = some (a_na 152 - 1) := by decide +kernel
theorem ms_152 : Cond.selects (a_Rn (a_own 152)) (a_y 152) (a_y 152) ∈ lw_gd := a_m6 (i := 108) rfl rfl
theorem mk_153 : a_mk0 153 := ⟨by decide, by decide +kernel, ⟨by decide +kernel, by decide +kernel⟩, a_m1 (i := 1) rfl rfl, rfl⟩
theorem mc_153 : Cond.code (a_y 153) (a_c 153) (a_ml 153) (a_rt 153) ∈ lw_gd := a_m6 (i := 125) rfl rfl
theorem mh_153 : a_hh 153 = [] := rfl
theorem mi_153 : Cond.instanceMethod (a_y 153) ∈ lw_gd := a_m6 (i := 123) rfl rfl
theorem mp_153 : 1 ≤ a_na 153 ∧ (parseMethodDescriptor (a_y 153).desc).map (fun d => d.parameters.length) = some (a_na 153 - 1) := by decide +kernel
theorem ms_153 : Cond.selects (a_Rn (a_own 153)) (a_y 153) (a_y 153) ∈ lw_gd := a_m6 (i := 124) rfl rfl
theorem mk_154 : a_mk0 154 := ⟨by decide, by decide +kernel, ⟨by decide +kernel, by decide +kernel⟩, a_m1 (i := 1) rfl rfl, rfl⟩
theorem mc_154 : Cond.code (a_y 154) (a_c 154) (a_ml 154) (a_rt 154) ∈ lw_gd := a_m2 (i := 228) rfl rfl
theorem mh_154 : a_hh 154 = [] := rfl
theorem mi_154 : Cond.instanceMethod (a_y 154) ∈ lw_gd := a_m2 (i := 226) rfl rfl
theorem mp_154 : 1 ≤ a_na 154 ∧ (parseMethodDescriptor (a_y 154).desc).map (fun d => d.parameters.length) = some (a_na 154 - 1) := by decide +kernel
theorem ms_154 : Cond.selects (a_Rn (a_own 154)) (a_y 154) (a_y 154) ∈ lw_gd := a_m2 (i := 227) rfl rfl
theorem mk_155 : a_mk0 155 := ⟨by decide, by decide +kernel, ⟨by decide +kernel, by decide +kernel⟩, a_m1 (i := 1) rfl rfl, rfl⟩
theorem mc_155 : Cond.code (a_y 155) (a_c 155) (a_ml 155) (a_rt 155) ∈ lw_gd := a_m3 (i := 202) rfl rfl
theorem mh_155 : a_hh 155 = [] := rfl
theorem mi_155 : Cond.instanceMethod (a_y 155) ∈ lw_gd := a_m3 (i := 200) rfl rfl
theorem mp_155 : 1 ≤ a_na 155 ∧ (parseMethodDescriptor (a_y 155).desc).map (fun d => d.parameters.length) = some (a_na 155 - 1) := by decide +kernel
theorem ms_155 : Cond.selects (a_Rn (a_own 155)) (a_y 155) (a_y 155) ∈ lw_gd := a_m3 (i := 201) rfl rfl
theorem mk_156 : a_mk0 156 := ⟨by decide, by decide +kernel, ⟨by decide +kernel, by decide +kernel⟩, a_m1 (i := 1) rfl rfl, rfl⟩
theorem mc_156 : Cond.code (a_y 156) (a_c 156) (a_ml 156) (a_rt 156) ∈ lw_gd := a_m3 (i := 206) rfl rfl
theorem mh_156 : a_hh 156 = [] := rfl
theorem mi_156 : Cond.instanceMethod (a_y 156) ∈ lw_gd := a_m3 (i := 204) rfl rfl
theorem mp_156 : 1 ≤ a_na 156 ∧ (parseMethodDescriptor (a_y 156).desc).map (fun d => d.parameters.length) = some (a_na 156 - 1) := by decide +kernel
theorem ms_156 : Cond.selects (a_Rn (a_own 156)) (a_y 156) (a_y 156) ∈ lw_gd := a_m3 (i := 205) rfl rfl
theorem mk_157 : a_mk0 157 := ⟨by decide, by decide +kernel, ⟨by decide +kernel, by decide +kernel⟩, a_m1 (i := 1) rfl rfl, rfl⟩
theorem mc_157 : Cond.code (a_y 157) (a_c 157) (a_ml 157) (a_rt 157) ∈ lw_gd := a_m6 (i := 132) rfl rfl
theorem mh_157 : a_hh 157 = [] := rfl
theorem mi_157 : Cond.instanceMethod (a_y 157) ∈ lw_gd := a_m6 (i := 130) rfl rfl
theorem mp_157 : 1 ≤ a_na 157 ∧ (parseMethodDescriptor (a_y 157).desc).map (fun d => d.parameters.length) = some (a_na 157 - 1) := by decide +kernel
theorem ms_157 : Cond.selects (a_Rn (a_own 157)) (a_y 157) (a_y 157) ∈ lw_gd := a_m6 (i := 131) rfl rfl
theorem mk_158 : a_mk0 158 := ⟨by decide, by decide +kernel, ⟨by decide +kernel, by decide +kernel⟩, a_m1 (i := 1) rfl rfl, rfl⟩
theorem mc_158 : Cond.code (a_y 158) (a_c 158) (a_ml 158) (a_rt 158) ∈ lw_gd := a_m6 (i := 139) rfl rfl
theorem mh_158 : a_hh 158 = [] := rfl
theorem mi_158 : Cond.instanceMethod (a_y 158) ∈ lw_gd := a_m6 (i := 137) rfl rfl
theorem mp_158 : 1 ≤ a_na 158 ∧ (parseMethodDescriptor (a_y 158).desc).map (fun d => d.parameters.length) = some (a_na 158 - 1) := by decide +kernel
theorem ms_158 : Cond.selects (a_Rn (a_own 158)) (a_y 158) (a_y 158) ∈ lw_gd := a_m6 (i := 138) rfl rfl
theorem mk_159 : a_mk0 159 := ⟨by decide, by decide +kernel, ⟨by decide +kernel, by decide +kernel⟩, a_m1 (i := 1) rfl rfl, rfl⟩
theorem mc_159 : Cond.code (a_y 159) (a_c 159) (a_ml 159) (a_rt 159) ∈ lw_gd := a_m3 (i := 75) rfl rfl
theorem mh_159 : a_hh 159 = [] := rfl
theorem mi_159 : Cond.static (a_y 159) ∈ lw_gd := a_m3 (i := 74) rfl rfl
theorem mp_159 : (parseMethodDescriptor (a_y 159).desc).map (fun d => d.parameters.length) = some (a_na 159) := by decide +kernel
theorem mk_160 : a_mk0 160 := ⟨by decide, by decide +kernel, ⟨by decide +kernel, by decide +kernel⟩, a_m1 (i := 1) rfl rfl, rfl⟩
theorem mc_160 : Cond.code (a_y 160) (a_c 160) (a_ml 160) (a_rt 160) ∈ lw_gd := a_m3 (i := 217) rfl rfl
theorem mh_160 : a_hh 160 = [] := rfl
theorem mi_160 : Cond.static (a_y 160) ∈ lw_gd := a_m3 (i := 216) rfl rfl
theorem mp_160 : (parseMethodDescriptor (a_y 160).desc).map (fun d => d.parameters.length) = some (a_na 160) := by decide +kernel
theorem mk_161 : a_mk0 161 := ⟨by decide, by decide +kernel, ⟨by decide +kernel, by decide +kernel⟩, a_m1 (i := 1) rfl rfl, rfl⟩
theorem mc_161 : Cond.code (a_y 161) (a_c 161) (a_ml 161) (a_rt 161) ∈ lw_gd := a_m5 (i := 3) rfl rfl
theorem mh_161 : a_hh 161 = [] := rfl
theorem mi_161 : Cond.static (a_y 161) ∈ lw_gd := a_m5 (i := 2) rfl rfl
theorem mp_161 : (parseMethodDescriptor (a_y 161).desc).map (fun d => d.parameters.length) = some (a_na 161) := by decide +kernel
theorem mk_162 : a_mk0 162 := ⟨by decide, by decide +kernel, ⟨by decide +kernel, by decide +kernel⟩, a_m1 (i := 1) rfl rfl, rfl⟩
theorem mc_162 : Cond.code (a_y 162) (a_c 162) (a_ml 162) (a_rt 162) ∈ lw_gd := a_m4 (i := 84) rfl rfl
theorem mh_162 : a_hh 162 = [] := rfl
theorem mi_162 : Cond.instanceMethod (a_y 162) ∈ lw_gd := a_m4 (i := 83) rfl rfl
theorem mp_162 : 1 ≤ a_na 162 ∧ (parseMethodDescriptor (a_y 162).desc).map (fun d => d.parameters.length) = some (a_na 162 - 1) := by decide +kernel
theorem ms_162 : Cond.selects (a_Rn (a_own 162)) (a_y 162) (a_y 162) ∈ lw_gd := a_s2 (i := 2) (q := (a_y 162, _)) rfl rfl
theorem mk_163 : a_mk0 163 := ⟨by decide, by decide +kernel, ⟨by decide +kernel, by decide +kernel⟩, a_m1 (i := 1) rfl rfl, rfl⟩
theorem mc_163 : Cond.code (a_y 163) (a_c 163) (a_ml 163) (a_rt 163) ∈ lw_gd := a_m5 (i := 82) rfl rfl
theorem mh_163 : a_hh 163 = [] := rfl
theorem mi_163 : Cond.instanceMethod (a_y 163) ∈ lw_gd := a_m5 (i := 81) rfl rfl
theorem mp_163 : 1 ≤ a_na 163 ∧ (parseMethodDescriptor (a_y 163).desc).map (fun d => d.parameters.length) = some (a_na 163 - 1) := by decide +kernel
theorem ms_163 : Cond.selects (a_Rn (a_own 163)) (a_y 163) (a_y 163) ∈ lw_gd := a_s2 (i := 7) (q := (a_y 163, _)) rfl rfl
theorem mk_164 : a_mk0 164 := ⟨by decide, by decide +kernel, ⟨by decide +kernel, by decide +kernel⟩, a_m1 (i := 1) rfl rfl, rfl⟩
theorem mc_164 : Cond.code (a_y 164) (a_c 164) (a_ml 164) (a_rt 164) ∈ lw_gd := a_m6 (i := 0) rfl rfl
theorem mh_164 : a_hh 164 = [] := rfl
theorem mi_164 : Cond.instanceMethod (a_y 164) ∈ lw_gd := a_m5 (i := 239) rfl rfl
theorem mp_164 : 1 ≤ a_na 164 ∧ (parseMethodDescriptor (a_y 164).desc).map (fun d => d.parameters.length) = some (a_na 164 - 1) := by decide +kernel
theorem ms_164 : Cond.selects (a_Rn (a_own 164)) (a_y 164) (a_y 164) ∈ lw_gd := a_s3 (i := 1) (q := (a_y 164, _)) rfl rfl
theorem mk_165 : a_mk0 165 := ⟨by decide, by decide +kernel, ⟨by decide +kernel, by decide +kernel⟩, a_m1 (i := 1) rfl rfl, rfl⟩
theorem mc_165 : Cond.code (a_y 165) (a_c 165) (a_ml 165) (a_rt 165) ∈ lw_gd := a_m2 (i := 232) rfl rfl
theorem mh_165 : a_hh 165 = [] := rfl
theorem mi_165 : Cond.instanceMethod (a_y 165) ∈ lw_gd := a_m2 (i := 231) rfl rfl
theorem mp_165 : 1 ≤ a_na 165 ∧ (parseMethodDescriptor (a_y 165).desc).map (fun d => d.parameters.length) = some (a_na 165 - 1) := by decide +kernel
theorem ms_165 : Cond.selects (a_Rn (a_own 165)) (a_y 165) (a_y 165) ∈ lw_gd := a_s1 (i := 0) (q := (a_y 165, _)) rfl rfl
theorem mk_166 : a_mk0 166 := ⟨by decide, by decide +kernel, ⟨by decide +kernel, by decide +kernel⟩, a_m1 (i := 1) rfl rfl, rfl⟩
theorem mc_166 : Cond.code (a_y 166) (a_c 166) (a_ml 166) (a_rt 166) ∈ lw_gd := a_m6 (i := 87) rfl rfl
theorem mh_166 : a_hh 166 = [] := rfl
theorem mi_166 : Cond.instanceMethod (a_y 166) ∈ lw_gd := a_m6 (i := 86) rfl rfl
theorem mp_166 : 1 ≤ a_na 166 ∧ (parseMethodDescriptor (a_y 166).desc).map (fun d => d.parameters.length) = some (a_na 166 - 1) := by decide +kernel
theorem ms_166 : Cond.selects (a_Rn (a_own 166)) (a_y 166) (a_y 166) ∈ lw_gd := a_s3 (i := 2) (q := (a_y 166, _)) rfl rfl
theorem mk_167 : a_mk0 167 := ⟨by decide, by decide +kernel, ⟨by decide +kernel, by decide +kernel⟩, a_m1 (i := 1) rfl rfl, rfl⟩
theorem mc_167 : Cond.code (a_y 167) (a_c 167) (a_ml 167) (a_rt 167) ∈ lw_gd := a_m6 (i := 102) rfl rfl
theorem mh_167 : a_hh 167 = [] := rfl
theorem mi_167 : Cond.instanceMethod (a_y 167) ∈ lw_gd := a_m6 (i := 101) rfl rfl
theorem mp_167 : 1 ≤ a_na 167 ∧ (parseMethodDescriptor (a_y 167).desc).map (fun d => d.parameters.length) = some (a_na 167 - 1) := by decide +kernel
theorem ms_167 : Cond.selects (a_Rn (a_own 167)) (a_y 167) (a_y 167) ∈ lw_gd := a_s3 (i := 3) (q := (a_y 167, _)) rfl rfl
theorem mk_168 : a_mk0 168 := ⟨by decide, by decide +kernel, ⟨by decide +kernel, by decide +kernel⟩, a_m1 (i := 1) rfl rfl, rfl⟩
theorem mc_168 : Cond.code (a_y 168) (a_c 168) (a_ml 168) (a_rt 168) ∈ lw_gd := a_m2 (i := 190) rfl rfl
theorem mh_168 : a_hh 168 = [] := rfl
theorem mi_168 : Cond.static (a_y 168) ∈ lw_gd := a_m2 (i := 189) rfl rfl
theorem mp_168 : (parseMethodDescriptor (a_y 168).desc).map (fun d => d.parameters.length) = some (a_na 168) := by decide +kernel
theorem mk_169 : a_mk0 169 := ⟨by decide, by decide +kernel, ⟨by decide +kernel, by decide +kernel⟩, a_m1 (i := 1) rfl rfl, rfl⟩
theorem mc_169 : Cond.code (a_y 169) (a_c 169) (a_ml 169) (a_rt 169) ∈ lw_gd := a_m2 (i := 193) rfl rfl
theorem mh_169 : a_hh 169 = [] := rfl
theorem mi_169 : Cond.static (a_y 169) ∈ lw_gd := a_m2 (i := 192) rfl rfl
theorem mp_169 : (parseMethodDescriptor (a_y 169).desc).map (fun d => d.parameters.length) = some (a_na 169) := by decide +kernel
theorem mk_170 : a_mk0 170 := ⟨by decide, by decide +kernel, ⟨by decide +kernel, by decide +kernel⟩, a_m1 (i := 10) rfl rfl, rfl⟩
theorem mc_170 : Cond.code (a_y 170) (a_c 170) (a_ml 170) (a_rt 170) ∈ lw_gd := a_m6 (i := 145) rfl rfl
theorem mh_170 : a_hh 170 = [] := rfl
theorem mi_170 : Cond.instanceMethod (a_y 170) ∈ lw_gd := a_m6 (i := 144) rfl rfl
theorem mp_170 : 1 ≤ a_na 170 ∧ (parseMethodDescriptor (a_y 170).desc).map (fun d => d.parameters.length) = some (a_na 170 - 1) := by decide +kernel
theorem mk_171 : a_mk0 171 := ⟨by decide, by decide +kernel, ⟨by decide +kernel, by decide +kernel⟩, a_m1 (i := 10) rfl rfl, rfl⟩
theorem mc_171 : Cond.code (a_y 171) (a_c 171) (a_ml 171) (a_rt 171) ∈ lw_gd := a_m6 (i := 210) rfl rfl
theorem mh_171 : a_hh 171 = [] := rfl
theorem mi_171 : Cond.instanceMethod (a_y 171) ∈ lw_gd := a_m6 (i := 208) rfl rfl
theorem mp_171 : 1 ≤ a_na 171 ∧ (parseMethodDescriptor (a_y 171).desc).map (fun d => d.parameters.length) = some (a_na 171 - 1) := by decide +kernel
theorem ms_171 : Cond.selects (a_Rn (a_own 171)) (a_y 171) (a_y 171) ∈ lw_gd := a_m6 (i := 209) rfl rfl
theorem mk_172 : a_mk0 172 := ⟨by decide, by decide +kernel, ⟨by decide +kernel, by decide +kernel⟩, a_m1 (i := 10) rfl rfl, rfl⟩
theorem mc_172 : Cond.code (a_y 172) (a_c 172) (a_ml 172) (a_rt 172) ∈ lw_gd := a_m6 (i := 150) rfl rfl
theorem mh_172 : a_hh 172 = [] := rfl
theorem mi_172 : Cond.instanceMethod (a_y 172) ∈ lw_gd := a_m6 (i := 149) rfl rfl
theorem mp_172 : 1 ≤ a_na 172 ∧ (parseMethodDescriptor (a_y 172).desc).map (fun d => d.parameters.length) = some (a_na 172 - 1) := by decide +kernel
theorem ms_172 : Cond.selects (a_Rn (a_own 172)) (a_y 172) (a_y 172) ∈ lw_gd := a_s3 (i := 4) (q := (a_y 172, _)) rfl rfl
theorem mk_173 : a_mk0 173 := ⟨by decide, by decide +kernel, ⟨by decide +kernel, by decide +kernel⟩, a_m1 (i := 10) rfl rfl, rfl⟩
theorem mc_173 : Cond.code (a_y 173) (a_c 173) (a_ml 173) (a_rt 173) ∈ lw_gd := a_m6 (i := 220) rfl rfl
theorem mh_173 : a_hh 173 = [] := rfl
theorem mi_173 : Cond.static (a_y 173) ∈ lw_gd := a_m6 (i := 219) rfl rfl
theorem mp_173 : (parseMethodDescriptor (a_y 173).desc).map (fun d => d.parameters.length) = some (a_na 173) := by decide +kernel
theorem mk_174 : a_mk0 174 := ⟨by decide, by decide +kernel, ⟨by decide +kernel, by decide +kernel⟩, a_m1 (i := 10) rfl rfl, rfl⟩
theorem mc_174 : Cond.code (a_y 174) (a_c 174) (a_ml 174) (a_rt 174) ∈ lw_gd := a_m7 (i := 174) rfl rfl
theorem mh_174 : a_hh 174 = [] := rfl
theorem mi_174 : Cond.static (a_y 174) ∈ lw_gd := a_m7 (i := 173) rfl rfl
theorem mp_174 : (parseMethodDescriptor (a_y 174).desc).map (fun d => d.parameters.length) = some (a_na 174) := by decide +kernel
theorem mk_175 : a_mk0 175 := ⟨by decide, by decide +kernel, ⟨by decide +kernel, by decide +kernel⟩, a_m1 (i := 10) rfl rfl, rfl⟩
theorem mc_175 : Cond.code (a_y 175) (a_c 175) (a_ml 175) (a_rt 175) ∈ lw_gd := a_m7 (i := 209) rfl rfl
theorem mh_175 : a_hh 175 = [] := rfl
theorem mi_175 : Cond.static (a_y 175) ∈ lw_gd := a_m7 (i := 208) rfl rfl
theorem mp_175 : (parseMethodDescriptor (a_y 175).desc).map (fun d => d.parameters.length) = some (a_na 175) := by decide +kernel
theorem mk_176 : a_mk0 176 := ⟨by decide, by decide +kernel, ⟨by decide +kernel, by decide +kernel⟩, a_m1 (i := 10) rfl rfl, rfl⟩
theorem mc_176 : Cond.code (a_y 176) (a_c 176) (a_ml 176) (a_rt 176) ∈ lw_gd := a_m7 (i := 171) rfl rfl
theorem mh_176 : a_hh 176 = [] := rfl
theorem mi_176 : Cond.static (a_y 176) ∈ lw_gd := a_m7 (i := 170) rfl rfl
theorem mp_176 : (parseMethodDescriptor (a_y 176).desc).map (fun d => d.parameters.length) = some (a_na 176) := by decide +kernel
theorem mk_177 : a_mk0 177 := ⟨by decide, by decide +kernel, ⟨by decide +kernel, by decide +kernel⟩, a_m1 (i := 10) rfl rfl, rfl⟩
theorem mc_177 : Cond.code (a_y 177) (a_c 177) (a_ml 177) (a_rt 177) ∈ lw_gd := a_m7 (i := 4) rfl rfl
theorem mh_177 : a_hh 177 = [] := rfl
theorem mi_177 : Cond.instanceMethod (a_y 177) ∈ lw_gd := a_m7 (i := 3) rfl rfl
theorem mp_177 : 1 ≤ a_na 177 ∧ (parseMethodDescriptor (a_y 177).desc).map (fun d => d.parameters.length) = some (a_na 177 - 1) := by decide +kernel
theorem ms_177 : Cond.selects (a_Rn (a_own 177)) (a_y 177) (a_y 177) ∈ lw_gd := a_s3 (i := 7) (q := (a_y 177, _)) rfl rfl
theorem mk_178 : a_mk0 178 := ⟨by decide, by decide +kernel, ⟨by decide +kernel, by decide +kernel⟩, a_m1 (i := 10) rfl rfl, rfl⟩
theorem mc_178 : Cond.code (a_y 178) (a_c 178) (a_ml 178) (a_rt 178) ∈ lw_gd := a_m7 (i := 148) rfl rfl
theorem mh_178 : a_hh 178 = [] := rfl
theorem mi_178 : Cond.instanceMethod (a_y 178) ∈ lw_gd := a_m7 (i := 147) rfl rfl
theorem mp_178 : 1 ≤ a_na 178 ∧ (parseMethodDescriptor (a_y 178).desc).map (fun d => d.parameters.length) = some (a_na 178 - 1) := by decide +kernel
theorem ms_178 : Cond.selects (a_Rn (a_own 178)) (a_y 178) (a_y 178) ∈ lw_gd := a_s4 (i := 7) (q := (a_y 178, _)) rfl rfl
theorem mk_179 : a_mk0 179 := ⟨by decide, by decide +kernel, ⟨by decide +kernel, by decide +kernel⟩, a_m1 (i := 10) rfl rfl, rfl⟩
theorem mc_179 : Cond.code (a_y 179) (a_c 179) (a_ml 179) (a_rt 179) ∈ lw_gd := a_m7 (i := 8) rfl rfl
theorem mh_179 : a_hh 179 = [] := rfl
theorem mi_179 : Cond.instanceMethod (a_y 179) ∈ lw_gd := a_m7 (i := 7) rfl rfl
theorem mp_179 : 1 ≤ a_na 179 ∧ (parseMethodDescriptor (a_y 179).desc).map (fun d => d.parameters.length) = some (a_na 179 - 1) := by decide +kernel
theorem ms_179 : Cond.selects (a_Rn (a_own 179)) (a_y 179) (a_y 179) ∈ lw_gd := a_s3 (i := 8) (q := (a_y 179, _)) rfl rfl
theorem mk_180 : a_mk0 180 := ⟨by decide, by decide +kernel, ⟨by decide +kernel, by decide +kernel⟩, a_m1 (i := 10) rfl rfl, rfl⟩
theorem mc_180 : Cond.code (a_y 180) (a_c 180) (a_ml 180) (a_rt 180) ∈ lw_gd := a_m8 (i := 5) rfl rfl
theorem mh_180 : a_hh 180 = [] := rfl
theorem mi_180 : Cond.instanceMethod (a_y 180) ∈ lw_gd := a_m8 (i := 4) rfl rfl
theorem mp_180 : 1 ≤ a_na 180 ∧ (parseMethodDescriptor (a_y 180).desc).map (fun d => d.parameters.length) = some (a_na 180 - 1) := by decide +kernel
theorem ms_180 : Cond.selects (a_Rn (a_own 180)) (a_y 180) (a_y 180) ∈ lw_gd := a_s5 (i := 1) (q := (a_y 180, _)) rfl rfl
theorem mk_181 : a_mk0 181 := ⟨by decide, by decide +kernel, ⟨by decide +kernel, by decide +kernel⟩, a_m1 (i := 10) rfl rfl, rfl⟩
theorem mc_181 : Cond.code (a_y 181) (a_c 181) (a_ml 181) (a_rt 181) ∈ lw_gd := a_m7 (i := 40) rfl rfl
theorem mh_181 : a_hh 181 = [] := rfl
theorem mi_181 : Cond.instanceMethod (a_y 181) ∈ lw_gd := a_m7 (i := 39) rfl rfl
theorem mp_181 : 1 ≤ a_na 181 ∧ (parseMethodDescriptor (a_y 181).desc).map (fun d => d.parameters.length) = some (a_na 181 - 1) := by decide +kernel
theorem ms_181 : Cond.selects (a_Rn (a_own 181)) (a_y 181) (a_y 181) ∈ lw_gd := a_s3 (i := 11) (q := (a_y 181, _)) rfl rfl
theorem mk_182 : a_mk0 182 := ⟨by decide, by decide +kernel, ⟨by decide +kernel, by decide +kernel⟩, a_m1 (i := 10) rfl rfl, rfl⟩
theorem mc_182 : Cond.code (a_y 182) (a_c 182) (a_ml 182) (a_rt 182) ∈ lw_gd := a_m7 (i := 136) rfl rfl
theorem mh_182 : a_hh 182 = [] := rfl
theorem mi_182 : Cond.instanceMethod (a_y 182) ∈ lw_gd := a_m7 (i := 135) rfl rfl
theorem mp_182 : 1 ≤ a_na 182 ∧ (parseMethodDescriptor (a_y 182).desc).map (fun d => d.parameters.length) = some (a_na 182 - 1) := by decide +kernel
theorem ms_182 : Cond.selects (a_Rn (a_own 182)) (a_y 182) (a_y 182) ∈ lw_gd := a_s4 (i := 6) (q := (a_y 182, _)) rfl rfl
theorem mk_183 : a_mk0 183 := ⟨by decide, by decide +kernel, ⟨by decide +kernel, by decide +kernel⟩, a_m1 (i := 10) rfl rfl, rfl⟩
theorem mc_183 : Cond.code (a_y 183) (a_c 183) (a_ml 183) (a_rt 183) ∈ lw_gd := a_m7 (i := 120) rfl rfl
theorem mh_183 : a_hh 183 = [] := rfl
theorem mi_183 : Cond.static (a_y 183) ∈ lw_gd := a_m7 (i := 119) rfl rfl
theorem mp_183 : (parseMethodDescriptor (a_y 183).desc).map (fun d => d.parameters.length) = some (a_na 183) := by decide +kernel
theorem mk_184 : a_mk0 184 := ⟨by decide, by decide +kernel, ⟨by decide +kernel, by decide +kernel⟩, a_m1 (i := 10) rfl rfl, rfl⟩
theorem mc_184 : Cond.code (a_y 184) (a_c 184) (a_ml 184) (a_rt 184) ∈ lw_gd := a_m7 (i := 117) rfl rfl
theorem mh_184 : a_hh 184 = [] := rfl
theorem mi_184 : Cond.instanceMethod (a_y 184) ∈ lw_gd := a_m7 (i := 116) rfl rfl
theorem mp_184 : 1 ≤ a_na 184 ∧ (parseMethodDescriptor (a_y 184).desc).map (fun d => d.parameters.length) = some (a_na 184 - 1) := by decide +kernel
theorem ms_184 : Cond.selects (a_Rn (a_own 184)) (a_y 184) (a_y 184) ∈ lw_gd := a_s4 (i := 3) (q := (a_y 184, _)) rfl rfl
theorem mk_185 : a_mk0 185 := ⟨by decide, by decide +kernel, ⟨by decide +kernel, by decide +kernel⟩, a_m1 (i := 10) rfl rfl, rfl⟩
theorem mc_185 : Cond.code (a_y 185) (a_c 185) (a_ml 185) (a_rt 185) ∈ lw_gd := a_m6 (i := 217) rfl rfl
theorem mh_185 : a_hh 185 = [] := rfl
theorem mi_185 : Cond.static (a_y 185) ∈ lw_gd := a_m6 (i := 216) rfl rfl
theorem mp_185 : (parseMethodDescriptor (a_y 185).desc).map (fun d => d.parameters.length) = some (a_na 185) := by decide +kernel
theorem mk_186 : a_mk0 186 := ⟨by decide, by decide +kernel, ⟨by decide +kernel, by decide +kernel⟩, a_m1 (i := 10) rfl rfl, rfl⟩
theorem mc_186 : Cond.code (a_y 186) (a_c 186) (a_ml 186) (a_rt 186) ∈ lw_gd := a_m6 (i := 224) rfl rfl
theorem mh_186 : a_hh 186 = [] := rfl
theorem mi_186 : Cond.instanceMethod (a_y 186) ∈ lw_gd := a_m6 (i := 223) rfl rfl
theorem mp_186 : 1 ≤ a_na 186 ∧ (parseMethodDescriptor (a_y 186).desc).map (fun d => d.parameters.length) = some (a_na 186 - 1) := by decide +kernel
theorem ms_186 : Cond.selects (a_Rn (a_own 186)) (a_y 186) (a_y 186) ∈ lw_gd := a_s3 (i := 5) (q := (a_y 186, _)) rfl rfl
theorem mk_187 : a_mk0 187 := ⟨by decide, by decide +kernel, ⟨by decide +kernel, by decide +kernel⟩, a_m1 (i := 10) rfl rfl, rfl⟩
theorem mc_187 : Cond.code (a_y 187) (a_c 187) (a_ml 187) (a_rt 187) ∈ lw_gd := a_m6 (i := 214) rfl rfl
theorem mh_187 : a_hh 187 = [] := rfl
theorem mi_187 : Cond.instanceMethod (a_y 187) ∈ lw_gd := a_m6 (i := 212) rfl rfl
theorem mp_187 : 1 ≤ a_na 187 ∧ (parseMethodDescriptor (a_y 187).desc).map (fun d => d.parameters.length) = some (a_na 187 - 1) := by decide +kernel
theorem ms_187 : Cond.selects (a_Rn (a_own 187)) (a_y 187) (a_y 187) ∈ lw_gd := a_m6 (i := 213) rfl rfl
theorem mk_188 : a_mk0 188 := ⟨by decide, by decide +kernel, ⟨by decide +kernel, by decide +kernel⟩, a_m1 (i := 10) rfl rfl, rfl⟩
theorem mc_188 : Cond.code (a_y 188) (a_c 188) (a_ml 188) (a_rt 188) ∈ lw_gd := a_m6 (i := 232) rfl rfl
theorem mh_188 : a_hh 188 = [] := rfl
theorem mi_188 : Cond.instanceMethod (a_y 188) ∈ lw_gd := a_m6 (i := 231) rfl rfl
theorem mp_188 : 1 ≤ a_na 188 ∧ (parseMethodDescriptor (a_y 188).desc).map (fun d => d.parameters.length) = some (a_na 188 - 1) := by decide +kernel
theorem ms_188 : Cond.selects (a_Rn (a_own 188)) (a_y 188) (a_y 188) ∈ lw_gd := a_s3 (i := 6) (q := (a_y 188, _)) rfl rfl
theorem mk_189 : a_mk0 189 := ⟨by decide, by decide +kernel, ⟨by decide +kernel, by decide +kernel⟩, a_m1 (i := 10) rfl rfl, rfl⟩
theorem mc_189 : Cond.code (a_y 189) (a_c 189) (a_ml 189) (a_rt 189) ∈ lw_gd := a_m6 (i := 228) rfl rfl
theorem mh_189 : a_hh 189 = [] := rfl
theorem mi_189 : Cond.instanceMethod (a_y 189) ∈ lw_gd := a_m6 (i := 226) rfl rfl
theorem mp_189 : 1 ≤ a_na 189 ∧ (parseMethodDescriptor (a_y 189).desc).map (fun d => d.parameters.length) = some (a_na 189 - 1) := by decide +kernel
theorem ms_189 : Cond.selects (a_Rn (a_own 189)) (a_y 189) (a_y 189) ∈ lw_gd := a_m6 (i := 227) rfl rfl
theorem mk_190 : a_mk0 190 := ⟨by decide, by decide +kernel, ⟨by decide +kernel, by decide +kernel⟩, a_m1 (i := 10) rfl rfl, rfl⟩
theorem mc_190 : Cond.code (a_y 190) (a_c 190) (a_ml 190) (a_rt 190) ∈ lw_gd := a_m6 (i := 236) rfl rfl
theorem mh_190 : a_hh 190 = [] := rfl
theorem mi_190 : Cond.instanceMethod (a_y 190) ∈ lw_gd := a_m6 (i := 234) rfl rfl
theorem mp_190 : 1 ≤ a_na 190 ∧ (parseMethodDescriptor (a_y 190).desc).map (fun d => d.parameters.length) = some (a_na 190 - 1) := by decide +kernel
theorem ms_190 : Cond.selects (a_Rn (a_own 190)) (a_y 190) (a_y 190) ∈ lw_gd := a_m6 (i := 235) rfl rfl
theorem mk_191 : a_mk0 191 := ⟨by decide, by decide +kernel, ⟨by decide +kernel, by decide +kernel⟩, a_m1 (i := 10) rfl rfl, rfl⟩
theorem mc_191 : Cond.code (a_y 191) (a_c 191) (a_ml 191) (a_rt 191) ∈ lw_gd := a_m7 (i := 0) rfl rfl
theorem mh_191 : a_hh 191 = [] := rfl
theorem mi_191 : Cond.instanceMethod (a_y 191) ∈ lw_gd := a_m6 (i := 238) rfl rfl
theorem mp_191 : 1 ≤ a_na 191 ∧ (parseMethodDescriptor (a_y 191).desc).map (fun d => d.parameters.length) = some (a_na 191 - 1) := by decide +kernel
theorem ms_191 : Cond.selects (a_Rn (a_own 191)) (a_y 191) (a_y 191) ∈ lw_gd := a_m6 (i := 239) rfl rfl
theorem mk_192 : a_mk0 192 := ⟨by decide, by decide +kernel, ⟨by decide +kernel, by decide +kernel⟩, a_m1 (i := 10) rfl rfl, rfl⟩
theorem mc_192 : Cond.code (a_y 192) (a_c 192) (a_ml 192) (a_rt 192) ∈ lw_gd := a_m7 (i := 16) rfl rfl
theorem mh_192 : a_hh 192 = [] := rfl
theorem mi_192 : Cond.instanceMethod (a_y 192) ∈ lw_gd := a_m7 (i := 15) rfl rfl
theorem mp_192 : 1 ≤ a_na 192 ∧ (parseMethodDescriptor (a_y 192).desc).map (fun d => d.parameters.length) = some (a_na 192 - 1) := by decide +kernel
theorem ms_192 : Cond.selects (a_Rn (a_own 192)) (a_y 192) (a_y 192) ∈ lw_gd := a_s3 (i := 9) (q := (a_y 192, _)) rfl rfl
theorem mk_193 : a_mk0 193 := ⟨by decide, by decide +kernel, ⟨by decide +kernel, by decide +kernel⟩, a_m1 (i := 10) rfl rfl, rfl⟩
theorem mc_193 : Cond.code (a_y 193) (a_c 193) (a_ml 193) (a_rt 193) ∈ lw_gd := a_m7 (i := 12) rfl rfl
theorem mh_193 : a_hh 193 = [] := rfl
theorem mi_193 : Cond.instanceMethod (a_y 193) ∈ lw_gd := a_m7 (i := 10) rfl rfl
theorem mp_193 : 1 ≤ a_na 193 ∧ (parseMethodDescriptor (a_y 193).desc).map (fun d => d.parameters.length) = some (a_na 193 - 1) := by decide +kernel
theorem ms_193 : Cond.selects (a_Rn (a_own 193)) (a_y 193) (a_y 193) ∈ lw_gd := a_m7 (i := 11) rfl rfl
theorem mk_194 : a_mk0 194 := ⟨by decide, by decide +kernel, ⟨by decide +kernel, by decide +kernel⟩, a_m1 (i := 10) rfl rfl, rfl⟩
theorem mc_194 : Cond.code (a_y 194) (a_c 194) (a_ml 194) (a_rt 194) ∈ lw_gd := a_m7 (i := 20) rfl rfl
theorem mh_194 : a_hh 194 = [] := rfl
theorem mi_194 : Cond.instanceMethod (a_y 194) ∈ lw_gd := a_m7 (i := 18) rfl rfl
theorem mp_194 : 1 ≤ a_na 194 ∧ (parseMethodDescriptor (a_y 194).desc).map (fun d => d.parameters.length) = some (a_na 194 - 1) := by decide +kernel
theorem ms_194 : Cond.selects (a_Rn (a_own 194)) (a_y 194) (a_y 194) ∈ lw_gd := a_m7 (i := 19) rfl rfl
theorem mk_195 : a_mk0 195 := ⟨by decide, by decide +kernel, ⟨by decide +kernel, by decide +kernel⟩, a_m1 (i := 10) rfl rfl, rfl⟩
theorem mc_195 : Cond.code (a_y 195) (a_c 195) (a_ml 195) (a_rt 195) ∈ lw_gd := a_m7 (i := 24) rfl rfl
theorem mh_195 : a_hh 195 = [] := rfl
theorem mi_195 : Cond.instanceMethod (a_y 195) ∈ lw_gd := a_m7 (i := 22) rfl rfl
theorem mp_195 : 1 ≤ a_na 195 ∧ (parseMethodDescriptor (a_y 195).desc).map (fun d => d.parameters.length) = some (a_na 195 - 1) := by decide +kernel
theorem ms_195 : Cond.selects (a_Rn (a_own 195)) (a_y 195) (a_y 195) ∈ lw_gd := a_m7 (i := 23) rfl rfl
theorem mk_196 : a_mk0 196 := ⟨by decide, by decide +kernel, ⟨by decide +kernel, by decide +kernel⟩, a_m1 (i := 10) rfl rfl, rfl⟩
theorem mc_196 : Cond.code (a_y 196) (a_c 196) (a_ml 196) (a_rt 196) ∈ lw_gd := a_m7 (i := 28) rfl rfl
theorem mh_196 : a_hh 196 = [] := rfl
theorem mi_196 : Cond.instanceMethod (a_y 196) ∈ lw_gd := a_m7 (i := 26) rfl rfl
theorem mp_196 : 1 ≤ a_na 196 ∧ (parseMethodDescriptor (a_y 196).desc).map (fun d => d.parameters.length) = some (a_na 196 - 1) := by decide +kernel
theorem ms_196 : Cond.selects (a_Rn (a_own 196)) (a_y 196) (a_y 196) ∈ lw_gd := a_m7 (i := 27) rfl rfl
theorem mk_197 : a_mk0 197 := ⟨by decide, by decide +kernel, ⟨by decide +kernel, by decide +kernel⟩, a_m1 (i := 10) rfl rfl, rfl⟩
theorem mc_197 : Cond.code (a_y 197) (a_c 197) (a_ml 197) (a_rt 197) ∈ lw_gd := a_m7 (i := 36) rfl rfl
theorem mh_197 : a_hh 197 = [] := rfl
theorem mi_197 : Cond.instanceMethod (a_y 197) ∈ lw_gd := a_m7 (i := 35) rfl rfl
theorem mp_197 : 1 ≤ a_na 197 ∧ (parseMethodDescriptor (a_y 197).desc).map (fun d => d.parameters.length) = some (a_na 197 - 1) := by decide +kernel
theorem ms_197 : Cond.selects (a_Rn (a_own 197)) (a_y 197) (a_y 197) ∈ lw_gd := a_s3 (i := 10) (q := (a_y 197, _)) rfl rfl
theorem mk_198 : a_mk0 198 := ⟨by decide, by decide +kernel, ⟨by decide +kernel, by decide +kernel⟩, a_m1 (i := 10) rfl rfl, rfl⟩
theorem mc_198 : Cond.code (a_y 198) (a_c 198) (a_ml 198) (a_rt 198) ∈ lw_gd := a_m7 (i := 32) rfl rfl
theorem mh_198 : a_hh 198 = [] := rfl
theorem mi_198 : Cond.instanceMethod (a_y 198) ∈ lw_gd := a_m7 (i := 30) rfl rfl
theorem mp_198 : 1 ≤ a_na 198 ∧ (parseMethodDescriptor (a_y 198).desc).map (fun d => d.parameters.length) = some (a_na 198 - 1) := by decide +kernel
theorem ms_198 : Cond.selects (a_Rn (a_own 198)) (a_y 198) (a_y 198) ∈ lw_gd := a_m7 (i := 31) rfl rfl
theorem mk_199 : a_mk0 199 := ⟨by decide, by decide +kernel, ⟨by decide +kernel, by decide +kernel⟩, a_m1 (i := 10) rfl rfl, rfl⟩
theorem mc_199 : Cond.code (a_y 199) (a_c 199) (a_ml 199) (a_rt 199) ∈ lw_gd := a_m7 (i := 44) rfl rfl
theorem mh_199 : a_hh 199 = [] := rfl
theorem mi_199 : Cond.instanceMethod (a_y 199) ∈ lw_gd := a_m7 (i := 42) rfl rfl
theorem mp_199 : 1 ≤ a_na 199 ∧ (parseMethodDescriptor (a_y 199).desc).map (fun d => d.parameters.length) = some (a_na 199 - 1) := by decide +kernel
theorem ms_199 : Cond.selects (a_Rn (a_own 199)) (a_y 199) (a_y 199) ∈ lw_gd := a_m7 (i := 43) rfl rfl
theorem mk_200 : a_mk0 200 := ⟨by decide, by decide +kernel, ⟨by decide +kernel, by decide +kernel⟩, a_m1 (i := 10) rfl rfl, rfl⟩
theorem mc_200 : Cond.code (a_y 200) (a_c 200) (a_ml 200) (a_rt 200) ∈ lw_gd := a_m7 (i := 56) rfl rfl
theorem mh_200 : a_hh 200 = [] := rfl
theorem mi_200 : Cond.instanceMethod (a_y 200) ∈ lw_gd := a_m7 (i := 55) rfl rfl
theorem mp_200 : 1 ≤ a_na 200 ∧ (parseMethodDescriptor (a_y 200).desc).map (fun d => d.parameters.length) = some (a_na 200 - 1) := by decide +kernel
theorem ms_200 : Cond.selects (a_Rn (a_own 200)) (a_y 200) (a_y 200) ∈ lw_gd := a_s3 (i := 13) (q := (a_y 200, _)) rfl rfl
theorem mk_201 : a_mk0 201 := ⟨by decide, by decide +kernel, ⟨by decide +kernel, by decide +kernel⟩, a_m1 (i := 10) rfl rfl, rfl⟩
theorem mc_201 : Cond.code (a_y 201) (a_c 201) (a_ml 201) (a_rt 201) ∈ lw_gd := a_m7 (i := 60) rfl rfl
theorem mh_201 : a_hh 201 = [] := rfl
theorem mi_201 : Cond.instanceMethod (a_y 201) ∈ lw_gd := a_m7 (i := 59) rfl rfl
theorem mp_201 : 1 ≤ a_na 201 ∧ (parseMethodDescriptor (a_y 201).desc).map (fun d => d.parameters.length) = some (a_na 201 - 1) := by decide +kernel
theorem ms_201 : Cond.selects (a_Rn (a_own 201)) (a_y 201) (a_y 201) ∈ lw_gd := a_s3 (i := 14) (q := (a_y 201, _)) rfl rfl
theorem mk_202 : a_mk0 202 := ⟨by decide, by decide +kernel, ⟨by decide +kernel, by decide +kernel⟩, a_m1 (i := 10) rfl rfl, rfl⟩
theorem mc_202 : Cond.code (a_y 202) (a_c 202) (a_ml 202) (a_rt 202) ∈ lw_gd := a_m7 (i := 77) rfl rfl
theorem mh_202 : a_hh 202 = [] := rfl
theorem mi_202 : Cond.instanceMethod (a_y 202) ∈ lw_gd := a_m7 (i := 76) rfl rfl
theorem mp_202 : 1 ≤ a_na 202 ∧ (parseMethodDescriptor (a_y 202).desc).map (fun d => d.parameters.length) = some (a_na 202 - 1) := by decide +kernel
theorem ms_202 : Cond.selects (a_Rn (a_own 202)) (a_y 202) (a_y 202) ∈ lw_gd := a_s3 (i := 15) (q := (a_y 202, _)) rfl rfl
theorem mk_203 : a_mk0 203 := ⟨by decide, by decide +kernel, ⟨by decide +kernel, by decide +kernel⟩, a_m1 (i := 10) rfl rfl, rfl⟩
theorem mc_203 : Cond.code (a_y 203) (a_c 203) (a_ml 203) (a_rt 203) ∈ lw_gd := a_m7 (i := 52) rfl rfl
theorem mh_203 : a_hh 203 = [] := rfl
theorem mi_203 : Cond.instanceMethod (a_y 203) ∈ lw_gd := a_m7 (i := 51) rfl rfl
theorem mp_203 : 1 ≤ a_na 203 ∧ (parseMethodDescriptor (a_y 203).desc).map (fun d => d.parameters.length) = some (a_na 203 - 1) := by decide +kernel
theorem ms_203 : Cond.selects (a_Rn (a_own 203)) (a_y 203) (a_y 203) ∈ lw_gd := a_s3 (i := 12) (q := (a_y 203, _)) rfl rfl
theorem mk_204 : a_mk0 204 := ⟨by decide, by decide +kernel, ⟨by decide +kernel, by decide +kernel⟩, a_m1 (i := 10) rfl rfl, rfl⟩
theorem mc_204 : Cond.code (a_y 204) (a_c 204) (a_ml 204) (a_rt 204) ∈ lw_gd := a_m7 (i := 48) rfl rfl
theorem mh_204 : a_hh 204 = [] := rfl
theorem mi_204 : Cond.instanceMethod (a_y 204) ∈ lw_gd := a_m7 (i := 46) rfl rfl
theorem mp_204 : 1 ≤ a_na 204 ∧ (parseMethodDescriptor (a_y 204).desc).map (fun d => d.parameters.length) = some (a_na 204 - 1) := by decide +kernel
theorem ms_204 : Cond.selects (a_Rn (a_own 204)) (a_y 204) (a_y 204) ∈ lw_gd := a_m7 (i := 47) rfl rfl
theorem mk_205 : a_mk0 205 := ⟨by decide, by decide +kernel, ⟨by decide +kernel, by decide +kernel⟩, a_m1 (i := 10) rfl rfl, rfl⟩
theorem mc_205 : Cond.code (a_y 205) (a_c 205) (a_ml 205) (a_rt 205) ∈ lw_gd := a_m7 (i := 64) rfl rfl
theorem mh_205 : a_hh 205 = [] := rfl
theorem mi_205 : Cond.instanceMethod (a_y 205) ∈ lw_gd := a_m7 (i := 62) rfl rfl
theorem mp_205 : 1 ≤ a_na 205 ∧ (parseMethodDescriptor (a_y 205).desc).map (fun d => d.parameters.length) = some (a_na 205 - 1) := by decide +kernel
theorem ms_205 : Cond.selects (a_Rn (a_own 205)) (a_y 205) (a_y 205) ∈ lw_gd := a_m7 (i := 63) rfl rfl
theorem mk_206 : a_mk0 206 := ⟨by decide, by decide +kernel, ⟨by decide +kernel, by decide +kernel⟩, a_m1 (i := 10) rfl rfl, rfl⟩
theorem mc_206 : Cond.code (a_y 206) (a_c 206) (a_ml 206) (a_rt 206) ∈ lw_gd := a_m7 (i := 68) rfl rfl
theorem mh_206 : a_hh 206 = [] := rfl
theorem mi_206 : Cond.instanceMethod (a_y 206) ∈ lw_gd := a_m7 (i := 66) rfl rfl
theorem mp_206 : 1 ≤ a_na 206 ∧ (parseMethodDescriptor (a_y 206).desc).map (fun d => d.parameters.length) = some (a_na 206 - 1) := by decide +kernel
theorem ms_206 : Cond.selects (a_Rn (a_own 206)) (a_y 206) (a_y 206) ∈ lw_gd := a_m7 (i := 67) rfl rfl
theorem mk_207 : a_mk0 207 := ⟨by decide, by decide +kernel, ⟨by decide +kernel, by decide +kernel⟩, a_m1 (i := 10) rfl rfl, rfl⟩
theorem mc_207 : Cond.code (a_y 207) (a_c 207) (a_ml 207) (a_rt 207) ∈ lw_gd := a_m7 (i := 72) rfl rfl
theorem mh_207 : a_hh 207 = [] := rfl
theorem mi_207 : Cond.instanceMethod (a_y 207) ∈ lw_gd := a_m7 (i := 70) rfl rfl
theorem mp_207 : 1 ≤ a_na 207 ∧ (parseMethodDescriptor (a_y 207).desc).map (fun d => d.parameters.length) = some (a_na 207 - 1) := by decide +kernel
theorem ms_207 : Cond.selects (a_Rn (a_own 207)) (a_y 207) (a_y 207) ∈ lw_gd := a_m7 (i := 71) rfl rfl
theorem mk_208 : a_mk0 208 := ⟨by decide, by decide +kernel, ⟨by decide +kernel, by decide +kernel⟩, a_m1 (i := 10) rfl rfl, rfl⟩
theorem mc_208 : Cond.code (a_y 208) (a_c 208) (a_ml 208) (a_rt 208) ∈ lw_gd := a_m7 (i := 85) rfl rfl
theorem mh_208 : a_hh 208 = [] := rfl
theorem mi_208 : Cond.instanceMethod (a_y 208) ∈ lw_gd := a_m7 (i := 84) rfl rfl
theorem mp_208 : 1 ≤ a_na 208 ∧ (parseMethodDescriptor (a_y 208).desc).map (fun d => d.parameters.length) = some (a_na 208 - 1) := by decide +kernel
theorem ms_208 : Cond.selects (a_Rn (a_own 208)) (a_y 208) (a_y 208) ∈ lw_gd := a_s4 (i := 0) (q := (a_y 208, _)) rfl rfl
theorem mk_209 : a_mk0 209 := ⟨by decide, by decide +kernel, ⟨by decide +kernel, by decide +kernel⟩, a_m1 (i := 10) rfl rfl, rfl⟩
theorem mc_209 : Cond.code (a_y 209) (a_c 209) (a_ml 209) (a_rt 209) ∈ lw_gd := a_m7 (i := 81) rfl rfl
theorem mh_209 : a_hh 209 = [] := rfl
theorem mi_209 : Cond.instanceMethod (a_y 209) ∈ lw_gd := a_m7 (i := 79) rfl rfl
theorem mp_209 : 1 ≤ a_na 209 ∧ (parseMethodDescriptor (a_y 209).desc).map (fun d => d.parameters.length) = some (a_na 209 - 1) := by decide +kernel
theorem ms_209 : Cond.selects (a_Rn (a_own 209)) (a_y 209) (a_y 209) ∈ lw_gd := a_m7 (i := 80) rfl rfl
theorem mk_210 : a_mk0 210 := ⟨by decide, by decide +kernel, ⟨by decide +kernel, by decide +kernel⟩, a_m1 (i := 10) rfl rfl, rfl⟩
theorem mc_210 : Cond.code (a_y 210) (a_c 210) (a_ml 210) (a_rt 210) ∈ lw_gd := a_m7 (i := 89) rfl rfl
theorem mh_210 : a_hh 210 = [] := rfl
theorem mi_210 : Cond.instanceMethod (a_y 210) ∈ lw_gd := a_m7 (i := 87) rfl rfl
theorem mp_210 : 1 ≤ a_na 210 ∧ (parseMethodDescriptor (a_y 210).desc).map (fun d => d.parameters.length) = some (a_na 210 - 1) := by decide +kernel
theorem ms_210 : Cond.selects (a_Rn (a_own 210)) (a_y 210) (a_y 210) ∈ lw_gd := a_m7 (i := 88) rfl rfl
theorem mk_211 : a_mk0 211 := ⟨by decide, by decide +kernel, ⟨by decide +kernel, by decide +kernel⟩, a_m1 (i := 10) rfl rfl, rfl⟩
theorem mc_211 : Cond.code (a_y 211) (a_c 211) (a_ml 211) (a_rt 211) ∈ lw_gd := a_m7 (i := 93) rfl rfl
theorem mh_211 : a_hh 211 = [] := rfl
theorem mi_211 : Cond.instanceMethod (a_y 211) ∈ lw_gd := a_m7 (i := 91) rfl rfl
theorem mp_211 : 1 ≤ a_na 211 ∧ (parseMethodDescriptor (a_y 211).desc).map (fun d => d.parameters.length) = some (a_na 211 - 1) := by decide +kernel
theorem ms_211 : Cond.selects (a_Rn (a_own 211)) (a_y 211) (a_y 211) ∈ lw_gd := a_m7 (i := 92) rfl rfl
theorem mk_212 : a_mk0 212 := ⟨by decide, by decide +kernel, ⟨by decide +kernel, by decide +kernel⟩, a_m1 (i := 10) rfl rfl, rfl⟩
theorem mc_212 : Cond.code (a_y 212) (a_c 212) (a_ml 212) (a_rt 212) ∈ lw_gd := a_m7 (i := 97) rfl rfl
theorem mh_212 : a_hh 212 = [] := rfl
theorem mi_212 : Cond.instanceMethod (a_y 212) ∈ lw_gd := a_m7 (i := 95) rfl rfl
theorem mp_212 : 1 ≤ a_na 212 ∧ (parseMethodDescriptor (a_y 212).desc).map (fun d => d.parameters.length) = some (a_na 212 - 1) := by decide +kernel
theorem ms_212 : Cond.selects (a_Rn (a_own 212)) (a_y 212) (a_y 212) ∈ lw_gd := a_m7 (i := 96) rfl rfl
theorem mk_213 : a_mk0 213 := ⟨by decide, by decide +kernel, ⟨by decide +kernel, by decide +kernel⟩, a_m1 (i := 10) rfl rfl, rfl⟩
theorem mc_213 : Cond.code (a_y 213) (a_c 213) (a_ml 213) (a_rt 213) ∈ lw_gd := a_m7 (i := 105) rfl rfl
theorem mh_213 : a_hh 213 = [] := rfl
theorem mi_213 : Cond.instanceMethod (a_y 213) ∈ lw_gd := a_m7 (i := 104) rfl rfl
theorem mp_213 : 1 ≤ a_na 213 ∧ (parseMethodDescriptor (a_y 213).desc).map (fun d => d.parameters.length) = some (a_na 213 - 1) := by decide +kernel
theorem ms_213 : Cond.selects (a_Rn (a_own 213)) (a_y 213) (a_y 213) ∈ lw_gd := a_s4 (i := 1) (q := (a_y 213, _)) rfl rfl
theorem mk_214 : a_mk0 214 := ⟨by decide, by decide +kernel, ⟨by decide +kernel, by decide +kernel⟩, a_m1 (i := 10) rfl rfl, rfl⟩
theorem mc_214 : Cond.code (a_y 214) (a_c 214) (a_ml 214) (a_rt 214) ∈ lw_gd := a_m7 (i := 101) rfl rfl
theorem mh_214 : a_hh 214 = [] := rfl
theorem mi_214 : Cond.instanceMethod (a_y 214) ∈ lw_gd := a_m7 (i := 99) rfl rfl
theorem mp_214 : 1 ≤ a_na 214 ∧ (parseMethodDescriptor (a_y 214).desc).map (fun d => d.parameters.length) = some (a_na 214 - 1) := by decide +kernel
theorem ms_214 : Cond.selects (a_Rn (a_own 214)) (a_y 214) (a_y 214) ∈ lw_gd := a_m7 (i := 100) rfl rfl
theorem mk_215 : a_mk0 215 := ⟨by decide, by decide +kernel, ⟨by decide +kernel, by decide +kernel⟩, a_m1 (i := 10) rfl rfl, rfl⟩
theorem mc_215 : Cond.code (a_y 215) (a_c 215) (a_ml 215) (a_rt 215) ∈ lw_gd := a_m7 (i := 124) rfl rfl
theorem mh_215 : a_hh 215 = [] := rfl
theorem mi_215 : Cond.instanceMethod (a_y 215) ∈ lw_gd := a_m7 (i := 123) rfl rfl
theorem mp_215 : 1 ≤ a_na 215 ∧ (parseMethodDescriptor (a_y 215).desc).map (fun d => d.parameters.length) = some (a_na 215 - 1) := by decide +kernel
theorem ms_215 : Cond.selects (a_Rn (a_own 215)) (a_y 215) (a_y 215) ∈ lw_gd := a_s4 (i := 4) (q := (a_y 215, _)) rfl rfl
theorem mk_216 : a_mk0 216 := ⟨by decide, by decide +kernel, ⟨by decide +kernel, by decide +kernel⟩, a_m1 (i := 10) rfl rfl, rfl⟩
theorem mc_216 : Cond.code (a_y 216) (a_c 216) (a_ml 216) (a_rt 216) ∈ lw_gd := a_m7 (i := 113) rfl rfl
theorem mh_216 : a_hh 216 = [] := rfl
theorem mi_216 : Cond.instanceMethod (a_y 216) ∈ lw_gd := a_m7 (i := 112) rfl rfl
theorem mp_216 : 1 ≤ a_na 216 ∧ (parseMethodDescriptor (a_y 216).desc).map (fun d => d.parameters.length) = some (a_na 216 - 1) := by decide +kernel
theorem ms_216 : Cond.selects (a_Rn (a_own 216)) (a_y 216) (a_y 216) ∈ lw_gd := a_s4 (i := 2) (q := (a_y 216, _)) rfl rfl
theorem mk_217 : a_mk0 217 := ⟨by decide, by decide +kernel, ⟨by decide +kernel, by decide +kernel⟩, a_m1 (i := 10) rfl rfl, rfl⟩
theorem mc_217 : Cond.code (a_y 217) (a_c 217) (a_ml 217) (a_rt 217) ∈ lw_gd := a_m7 (i := 109) rfl rfl
theorem mh_217 : a_hh 217 = [] := rfl
theorem mi_217 : Cond.instanceMethod (a_y 217) ∈ lw_gd := a_m7 (i := 107) rfl rfl
theorem mp_217 : 1 ≤ a_na 217 ∧ (parseMethodDescriptor (a_y 217).desc).map (fun d => d.parameters.length) = some (a_na 217 - 1) := by decide +kernel
theorem ms_217 : Cond.selects (a_Rn (a_own 217)) (a_y 217) (a_y 217) ∈ lw_gd := a_m7 (i := 108) rfl rfl
theorem mk_218 : a_mk0 218 := ⟨by decide, by decide +kernel, ⟨by decide +kernel, by decide +kernel⟩, a_m1 (i := 10) rfl rfl, rfl⟩
theorem mc_218 : Cond.code (a_y 218) (a_c 218) (a_ml 218) (a_rt 218) ∈ lw_gd := a_m7 (i := 132) rfl rfl
theorem mh_218 : a_hh 218 = [] := rfl
theorem mi_218 : Cond.instanceMethod (a_y 218) ∈ lw_gd := a_m7 (i := 131) rfl rfl
theorem mp_218 : 1 ≤ a_na 218 ∧ (parseMethodDescriptor (a_y 218).desc).map (fun d => d.parameters.length) = some (a_na 218 - 1) := by decide +kernel
theorem ms_218 : Cond.selects (a_Rn (a_own 218)) (a_y 218) (a_y 218) ∈ lw_gd := a_s4 (i := 5) (q := (a_y 218, _)) rfl rfl
theorem mk_219 : a_mk0 219 := ⟨by decide, by decide +kernel, ⟨by decide +kernel, by decide +kernel⟩, a_m1 (i := 10) rfl rfl, rfl⟩
theorem mc_219 : Cond.code (a_y 219) (a_c 219) (a_ml 219) (a_rt 219) ∈ lw_gd := a_m7 (i := 128) rfl rfl
theorem mh_219 : a_hh 219 = [] := rfl
theorem mi_219 : Cond.instanceMethod (a_y 219) ∈ lw_gd := a_m7 (i := 126) rfl rfl
theorem mp_219 : 1 ≤ a_na 219 ∧ (parseMethodDescriptor (a_y 219).desc).map (fun d => d.parameters.length) = some (a_na 219 - 1) := by decide +kernel
theorem ms_219 : Cond.selects (a_Rn (a_own 219)) (a_y 219) (a_y 219) ∈ lw_gd := a_m7 (i := 127) rfl rfl
theorem mk_220 : a_mk0 220 := ⟨by decide, by decide +kernel, ⟨by decide +kernel, by decide +kernel⟩, a_m1 (i := 10) rfl rfl, rfl⟩
theorem mc_220 : Cond.code (a_y 220) (a_c 220) (a_ml 220) (a_rt 220) ∈ lw_gd := a_m7 (i := 140) rfl rfl
theorem mh_220 : a_hh 220 = [] := rfl
theorem mi_220 : Cond.instanceMethod (a_y 220) ∈ lw_gd := a_m7 (i := 138) rfl rfl
theorem mp_220 : 1 ≤ a_na 220 ∧ (parseMethodDescriptor (a_y 220).desc).map (fun d => d.parameters.length) = some (a_na 220 - 1) := by decide +kernel
theorem ms_220 : Cond.selects (a_Rn (a_own 220)) (a_y 220) (a_y 220) ∈ lw_gd := a_m7 (i := 139) rfl rfl
theorem mk_221 : a_mk0 221 := ⟨by decide, by decide +kernel, ⟨by decide +kernel, by decide +kernel⟩, a_m1 (i := 10) rfl rfl, rfl⟩
theorem mc_221 : Cond.code (a_y 221) (a_c 221) (a_ml 221) (a_rt 221) ∈ lw_gd := a_m7 (i := 144) rfl rfl
theorem mh_221 : a_hh 221 = [] := rfl
theorem mi_221 : Cond.instanceMethod (a_y 221) ∈ lw_gd := a_m7 (i := 142) rfl rfl
theorem mp_221 : 1 ≤ a_na 221 ∧ (parseMethodDescriptor (a_y 221).desc).map (fun d => d.parameters.length) = some (a_na 221 - 1) := by decide +kernel
theorem ms_221 : Cond.selects (a_Rn (a_own 221)) (a_y 221) (a_y 221) ∈ lw_gd := a_m7 (i := 143) rfl rfl
theorem mk_222 : a_mk0 222 := ⟨by decide, by decide +kernel, ⟨by decide +kernel, by decide +kernel⟩, a_m1 (i := 10) rfl rfl, rfl⟩
theorem mc_222 : Cond.code (a_y 222) (a_c 222) (a_ml 222) (a_rt 222) ∈ lw_gd := a_m7 (i := 156) rfl rfl
theorem mh_222 : a_hh 222 = [] := rfl
theorem mi_222 : Cond.instanceMethod (a_y 222) ∈ lw_gd := a_m7 (i := 155) rfl rfl
theorem mp_222 : 1 ≤ a_na 222 ∧ (parseMethodDescriptor (a_y 222).desc).map (fun d => d.parameters.length) = some (a_na 222 - 1) := by decide +kernel
theorem ms_222 : Cond.selects (a_Rn (a_own 222)) (a_y 222) (a_y 222) ∈ lw_gd := a_s4 (i := 8) (q := (a_y 222, _)) rfl rfl
theorem mk_223 : a_mk0 223 := ⟨by decide, by decide +kernel, ⟨by decide +kernel, by decide +kernel⟩, a_m1 (i := 10) rfl rfl, rfl⟩
theorem mc_223 : Cond.code (a_y 223) (a_c 223) (a_ml 223) (a_rt 223) ∈ lw_gd := a_m7 (i := 164) rfl rfl
theorem mh_223 : a_hh 223 = [] := rfl
theorem mi_223 : Cond.instanceMethod (a_y 223) ∈ lw_gd := a_m7 (i := 163) rfl rfl
theorem mp_223 : 1 ≤ a_na 223 ∧ (parseMethodDescriptor (a_y 223).desc).map (fun d => d.parameters.length) = some (a_na 223 - 1) := by decide +kernel
theorem ms_223 : Cond.selects (a_Rn (a_own 223)) (a_y 223) (a_y 223) ∈ lw_gd := a_s4 (i := 9) (q := (a_y 223, _)) rfl rfl
theorem mk_224 : a_mk0 224 := ⟨by decide, by decide +kernel, ⟨by decide +kernel, by decide +kernel⟩, a_m1 (i := 10) rfl rfl, rfl⟩
theorem mc_224 : Cond.code (a_y 224) (a_c 224) (a_ml 224) (a_rt 224) ∈ lw_gd := a_m7 (i := 152) rfl rfl
theorem mh_224 : a_hh 224 = [] := rfl
theorem mi_224 : Cond.instanceMethod (a_y 224) ∈ lw_gd := a_m7 (i := 150) rfl rfl
theorem mp_224 : 1 ≤ a_na 224 ∧ (parseMethodDescriptor (a_y 224).desc).map (fun d => d.parameters.length) = some (a_na 224 - 1) := by decide +kernel
theorem ms_224 : Cond.selects (a_Rn (a_own 224)) (a_y 224) (a_y 224) ∈ lw_gd := a_m7 (i := 151) rfl rfl
theorem mk_225 : a_mk0 225 := ⟨by decide, by decide +kernel, ⟨by decide +kernel, by decide +kernel⟩, a_m1 (i := 10) rfl rfl, rfl⟩
theorem mc_225 : Cond.code (a_y 225) (a_c 225) (a_ml 225) (a_rt 225) ∈ lw_gd := a_m7 (i := 160) rfl rfl
theorem mh_225 : a_hh 225 = [] := rfl
theorem mi_225 : Cond.instanceMethod (a_y 225) ∈ lw_gd := a_m7 (i := 158) rfl rfl
theorem mp_225 : 1 ≤ a_na 225 ∧ (parseMethodDescriptor (a_y 225).desc).map (fun d => d.parameters.length) = some (a_na 225 - 1) := by decide +kernel
theorem ms_225 : Cond.selects (a_Rn (a_own 225)) (a_y 225) (a_y 225) ∈ lw_gd := a_m7 (i := 159) rfl rfl
theorem mk_226 : a_mk0 226 := ⟨by decide, by decide +kernel, ⟨by decide +kernel, by decide +kernel⟩, a_m1 (i := 10) rfl rfl, rfl⟩
theorem mc_226 : Cond.code (a_y 226) (a_c 226) (a_ml 226) (a_rt 226) ∈ lw_gd := a_m7 (i := 168) rfl rfl
theorem mh_226 : a_hh 226 = [] := rfl
theorem mi_226 : Cond.instanceMethod (a_y 226) ∈ lw_gd := a_m7 (i := 166) rfl rfl
theorem mp_226 : 1 ≤ a_na 226 ∧ (parseMethodDescriptor (a_y 226).desc).map (fun d => d.parameters.length) = some (a_na 226 - 1) := by decide +kernel
theorem ms_226 : Cond.selects (a_Rn (a_own 226)) (a_y 226) (a_y 226) ∈ lw_gd := a_m7 (i := 167) rfl rfl
theorem mk_227 : a_mk0 227 := ⟨by decide, by decide +kernel, ⟨by decide +kernel, by decide +kernel⟩, a_m1 (i := 10) rfl rfl, rfl⟩
theorem mc_227 : Cond.code (a_y 227) (a_c 227) (a_ml 227) (a_rt 227) ∈ lw_gd := a_m7 (i := 186) rfl rfl
theorem mh_227 : a_hh 227 = [] := rfl
theorem mi_227 : Cond.instanceMethod (a_y 227) ∈ lw_gd := a_m7 (i := 185) rfl rfl
theorem mp_227 : 1 ≤ a_na 227 ∧ (parseMethodDescriptor (a_y 227).desc).map (fun d => d.parameters.length) = some (a_na 227 - 1) := by decide +kernel
theorem ms_227 : Cond.selects (a_Rn (a_own 227)) (a_y 227) (a_y 227) ∈ lw_gd := a_s4 (i := 11) (q := (a_y 227, _)) rfl rfl
theorem mk_228 : a_mk0 228 := ⟨by decide, by decide +kernel, ⟨by decide +kernel, by decide +kernel⟩, a_m1 (i := 10) rfl rfl, rfl⟩
theorem mc_228 : Cond.code (a_y 228) (a_c 228) (a_ml 228) (a_rt 228) ∈ lw_gd := a_m7 (i := 182) rfl rfl
theorem mh_228 : a_hh 228 = [] := rfl
theorem mi_228 : Cond.instanceMethod (a_y 228) ∈ lw_gd := a_m7 (i := 181) rfl rfl
theorem mp_228 : 1 ≤ a_na 228 ∧ (parseMethodDescriptor (a_y 228).desc).map (fun d => d.parameters.length) = some (a_na 228 - 1) := by decide +kernel
theorem ms_228 : Cond.selects (a_Rn (a_own 228)) (a_y 228) (a_y 228) ∈ lw_gd := a_s4 (i := 10) (q := (a_y 228, _)) rfl rfl
theorem mk_229 : a_mk0 229 := ⟨by decide, by decide +kernel, ⟨by decide +kernel, by decide +kernel⟩, a_m1 (i := 10) rfl rfl, rfl⟩
theorem mc_229 : Cond.code (a_y 229) (a_c 229) (a_ml 229) (a_rt 229) ∈ lw_gd := a_m7 (i := 178) rfl rfl
theorem mh_229 : a_hh 229 = [] := rfl
theorem mi_229 : Cond.instanceMethod (a_y 229) ∈ lw_gd := a_m7 (i := 176) rfl rfl
theorem mp_229 : 1 ≤ a_na 229 ∧ (parseMethodDescriptor (a_y 229).desc).map (fun d => d.parameters.length) = some (a_na 229 - 1) := by decide +kernel
theorem ms_229 : Cond.selects (a_Rn (a_own 229)) (a_y 229) (a_y 229) ∈ lw_gd := a_m7 (i := 177) rfl rfl
theorem mk_230 : a_mk0 230 := ⟨by decide, by decide +kernel, ⟨by decide +kernel, by decide +kernel⟩, a_m1 (i := 10) rfl rfl, rfl⟩
theorem mc_230 : Cond.code (a_y 230) (a_c 230) (a_ml 230) (a_rt 230) ∈ lw_gd := a_m7 (i := 190) rfl rfl
theorem mh_230 : a_hh 230 = [] := rfl
theorem mi_230 : Cond.instanceMethod (a_y 230) ∈ lw_gd := a_m7 (i := 188) rfl rfl
theorem mp_230 : 1 ≤ a_na 230 ∧ (parseMethodDescriptor (a_y 230).desc).map (fun d => d.parameters.length) = some (a_na 230 - 1) := by decide +kernel
theorem ms_230 : Cond.selects (a_Rn (a_own 230)) (a_y 230) (a_y 230) ∈ lw_gd := a_m7 (i := 189) rfl rfl
theorem mk_231 : a_mk0 231 := ⟨by decide, by decide +kernel, ⟨by decide +kernel, by decide +kernel⟩, a_m1 (i := 10) rfl rfl, rfl⟩
theorem mc_231 : Cond.code (a_y 231) (a_c 231) (a_ml 231) (a_rt 231) ∈ lw_gd := a_m7 (i := 198) rfl rfl
theorem mh_231 : a_hh 231 = [] := rfl
theorem mi_231 : Cond.instanceMethod (a_y 231) ∈ lw_gd := a_m7 (i := 197) rfl rfl
theorem mp_231 : 1 ≤ a_na 231 ∧ (parseMethodDescriptor (a_y 231).desc).map (fun d => d.parameters.length) = some (a_na 231 - 1) := by decide +kernel
theorem ms_231 : Cond.selects (a_Rn (a_own 231)) (a_y 231) (a_y 231) ∈ lw_gd := a_s4 (i := 12) (q := (a_y 231, _)) rfl rfl
theorem mk_232 : a_mk0 232 := ⟨by decide, by decide +kernel, ⟨by decide +kernel, by decide +kernel⟩, a_m1 (i := 10) rfl rfl, rfl⟩
theorem mc_232 : Cond.code (a_y 232) (a_c 232) (a_ml 232) (a_rt 232) ∈ lw_gd := a_m7 (i := 194) rfl rfl
theorem mh_232 : a_hh 232 = [] := rfl
theorem mi_232 : Cond.instanceMethod (a_y 232) ∈ lw_gd := a_m7 (i := 192) rfl rfl
theorem mp_232 : 1 ≤ a_na 232 ∧ (parseMethodDescriptor (a_y 232).desc).map (fun d => d.parameters.length) = some (a_na 232 - 1) := by decide +kernel
theorem ms_232 : Cond.selects (a_Rn (a_own 232)) (a_y 232) (a_y 232) ∈ lw_gd := a_m7 (i := 193) rfl rfl
theorem mk_233 : a_mk0 233 := ⟨by decide, by decide +kernel, ⟨by decide +kernel, by decide +kernel⟩, a_m1 (i := 10) rfl rfl, rfl⟩
theorem mc_233 : Cond.code (a_y 233) (a_c 233) (a_ml 233) (a_rt 233) ∈ lw_gd := a_m7 (i := 202) rfl rfl
theorem mh_233 : a_hh 233 = [] := rfl
theorem mi_233 : Cond.instanceMethod (a_y 233) ∈ lw_gd := a_m7 (i := 200) rfl rfl
theorem mp_233 : 1 ≤ a_na 233 ∧ (parseMethodDescriptor (a_y 233).desc).map (fun d => d.parameters.length) = some (a_na 233 - 1) := by decide +kernel
theorem ms_233 : Cond.selects (a_Rn (a_own 233)) (a_y 233) (a_y 233) ∈ lw_gd := a_m7 (i := 201) rfl rfl
theorem mk_234 : a_mk0 234 := ⟨by decide, by decide +kernel, ⟨by decide +kernel, by decide +kernel⟩, a_m1 (i := 10) rfl rfl, rfl⟩
theorem mc_234 : Cond.code (a_y 234) (a_c 234) (a_ml 234) (a_rt 234) ∈ lw_gd := a_m7 (i := 206) rfl rfl
theorem mh_234 : a_hh 234 = [] := rfl
theorem mi_234 : Cond.instanceMethod (a_y 234) ∈ lw_gd := a_m7 (i := 204) rfl rfl
theorem mp_234 : 1 ≤ a_na 234 ∧ (parseMethodDescriptor (a_y 234).desc).map (fun d => d.parameters.length) = some (a_na 234 - 1) := by decide +kernel
theorem ms_234 : Cond.selects (a_Rn (a_own 234)) (a_y 234) (a_y 234) ∈ lw_gd := a_m7 (i := 205) rfl rfl
theorem mk_235 : a_mk0 235 := ⟨by decide, by decide +kernel, ⟨by decide +kernel, by decide +kernel⟩, a_m1 (i := 10) rfl rfl, rfl⟩
theorem mc_235 : Cond.code (a_y 235) (a_c 235) (a_ml 235) (a_rt 235) ∈ lw_gd := a_m7 (i := 213) rfl rfl
theorem mh_235 : a_hh 235 = [] := rfl
theorem mi_235 : Cond.instanceMethod (a_y 235) ∈ lw_gd := a_m7 (i := 211) rfl rfl
theorem mp_235 : 1 ≤ a_na 235 ∧ (parseMethodDescriptor (a_y 235).desc).map (fun d => d.parameters.length) = some (a_na 235 - 1) := by decide +kernel
theorem ms_235 : Cond.selects (a_Rn (a_own 235)) (a_y 235) (a_y 235) ∈ lw_gd := a_m7 (i := 212) rfl rfl
theorem mk_236 : a_mk0 236 := ⟨by decide, by decide +kernel, ⟨by decide +kernel, by decide +kernel⟩, a_m1 (i := 10) rfl rfl, rfl⟩
theorem mc_236 : Cond.code (a_y 236) (a_c 236) (a_ml 236) (a_rt 236) ∈ lw_gd := a_m7 (i := 217) rfl rfl
theorem mh_236 : a_hh 236 = [] := rfl
theorem mi_236 : Cond.instanceMethod (a_y 236) ∈ lw_gd := a_m7 (i := 215) rfl rfl
theorem mp_236 : 1 ≤ a_na 236 ∧ (parseMethodDescriptor (a_y 236).desc).map (fun d => d.parameters.length) = some (a_na 236 - 1) := by decide +kernel
theorem ms_236 : Cond.selects (a_Rn (a_own 236)) (a_y 236) (a_y 236) ∈ lw_gd := a_m7 (i := 216) rfl rfl
theorem mk_237 : a_mk0 237 := ⟨by decide, by decide +kernel, ⟨by decide +kernel, by decide +kernel⟩, a_m1 (i := 10) rfl rfl, rfl⟩
theorem mc_237 : Cond.code (a_y 237) (a_c 237) (a_ml 237) (a_rt 237) ∈ lw_gd := a_m8 (i := 21) rfl rfl
theorem mh_237 : a_hh 237 = [] := rfl
theorem mi_237 : Cond.instanceMethod (a_y 237) ∈ lw_gd := a_m8 (i := 20) rfl rfl
theorem mp_237 : 1 ≤ a_na 237 ∧ (parseMethodDescriptor (a_y 237).desc).map (fun d => d.parameters.length) = some (a_na 237 - 1) := by decide +kernel
theorem ms_237 : Cond.selects (a_Rn (a_own 237)) (a_y 237) (a_y 237) ∈ lw_gd := a_s5 (i := 5) (q := (a_y 237, _)) rfl rfl
theorem mk_238 : a_mk0 238 := ⟨by decide, by decide +kernel, ⟨by decide +kernel, by decide +kernel⟩, a_m1 (i := 10) rfl rfl, rfl⟩
theorem mc_238 : Cond.code (a_y 238) (a_c 238) (a_ml 238) (a_rt 238) ∈ lw_gd := a_m8 (i := 1) rfl rfl
theorem mh_238 : a_hh 238 = [] := rfl
theorem mi_238 : Cond.instanceMethod (a_y 238) ∈ lw_gd := a_m8 (i := 0) rfl rfl
theorem mp_238 : 1 ≤ a_na 238 ∧ (parseMethodDescriptor (a_y 238).desc).map (fun d => d.parameters.length) = some (a_na 238 - 1) := by decide +kernel
theorem ms_238 : Cond.selects (a_Rn (a_own 238)) (a_y 238) (a_y 238) ∈ lw_gd := a_s5 (i := 0) (q := (a_y 238, _)) rfl rfl
theorem mk_239 : a_mk0 239 := ⟨by decide, by decide +kernel, ⟨by decide +kernel, by decide +kernel⟩, a_m1 (i := 10) rfl rfl, rfl⟩
theorem mc_239 : Cond.code (a_y 239) (a_c 239) (a_ml 239) (a_rt 239) ∈ lw_gd := a_m7 (i := 237) rfl rfl
theorem mh_239 : a_hh 239 = [] := rfl
theorem mi_239 : Cond.instanceMethod (a_y 239) ∈ lw_gd := a_m7 (i := 236) rfl rfl
theorem mp_239 : 1 ≤ a_na 239 ∧ (parseMethodDescriptor (a_y 239).desc).map (fun d => d.parameters.length) = some (a_na 239 - 1) := by decide +kernel
theorem ms_239 : Cond.selects (a_Rn (a_own 239)) (a_y 239) (a_y 239) ∈ lw_gd := a_s4 (i := 15) (q := (a_y 239, _)) rfl rfl
theorem mk_240 : a_mk0 240 := ⟨by decide, by decide +kernel, ⟨by decide +kernel, by decide +kernel⟩, a_m1 (i := 10) rfl rfl, rfl⟩
theorem mc_240 : Cond.code (a_y 240) (a_c 240) (a_ml 240) (a_rt 240) ∈ lw_gd := a_m8 (i := 13) rfl rfl
theorem mh_240 : a_hh 240 = [] := rfl
theorem mi_240 : Cond.instanceMethod (a_y 240) ∈ lw_gd := a_m8 (i := 12) rfl rfl
theorem mp_240 : 1 ≤ a_na 240 ∧ (parseMethodDescriptor (a_y 240).desc).map (fun d => d.parameters.length) = some (a_na 240 - 1) := by decide +kernel
theorem ms_240 : Cond.selects (a_Rn (a_own 240)) (a_y 240) (a_y 240) ∈ lw_gd := a_s5 (i := 3) (q := (a_y 240, _)) rfl rfl
theorem mk_241 : a_mk0 241 := ⟨by decide, by decide +kernel, ⟨by decide +kernel, by decide +kernel⟩, a_m1 (i := 10) rfl rfl, rfl⟩
theorem mc_241 : Cond.code (a_y 241) (a_c 241) (a_ml 241) (a_rt 241) ∈ lw_gd := a_m8 (i := 9) rfl rfl
theorem mh_241 : a_hh 241 = [] := rfl
theorem mi_241 : Cond.instanceMethod (a_y 241) ∈ lw_gd := a_m8 (i := 8) rfl rfl
theorem mp_241 : 1 ≤ a_na 241 ∧ (parseMethodDescriptor (a_y 241).desc).map (fun d => d.parameters.length) = some (a_na 241 - 1) := by decide +kernel
theorem ms_241 : Cond.selects (a_Rn (a_own 241)) (a_y 241) (a_y 241) ∈ lw_gd := a_s5 (i := 2) (q := (a_y 241, _)) rfl rfl
theorem mk_242 : a_mk0 242 := ⟨by decide, by decide +kernel, ⟨by decide +kernel, by decide +kernel⟩, a_m1 (i := 10) rfl rfl, rfl⟩
theorem mc_242 : Cond.code (a_y 242) (a_c 242) (a_ml 242) (a_rt 242) ∈ lw_gd := a_m7 (i := 233) rfl rfl
theorem mh_242 : a_hh 242 = [] := rfl
theorem mi_242 : Cond.instanceMethod (a_y 242) ∈ lw_gd := a_m7 (i := 232) rfl rfl
theorem mp_242 : 1 ≤ a_na 242 ∧ (parseMethodDescriptor (a_y 242).desc).map (fun d => d.parameters.length) = some (a_na 242 - 1) := by decide +kernel
theorem ms_242 : Cond.selects (a_Rn (a_own 242)) (a_y 242) (a_y 242) ∈ lw_gd := a_s4 (i := 14) (q := (a_y 242, _)) rfl rfl
theorem mk_243 : a_mk0 243 := ⟨by decide, by decide +kernel, ⟨by decide +kernel, by decide +kernel⟩, a_m1 (i := 10) rfl rfl, rfl⟩
theorem mc_243 : Cond.code (a_y 243) (a_c 243) (a_ml 243) (a_rt 243) ∈ lw_gd := a_m8 (i := 29) rfl rfl
theorem mh_243 : a_hh 243 = [] := rfl
theorem mi_243 : Cond.instanceMethod (a_y 243) ∈ lw_gd := a_m8 (i := 28) rfl rfl
theorem mp_243 : 1 ≤ a_na 243 ∧ (parseMethodDescriptor (a_y 243).desc).map (fun d => d.parameters.length) = some (a_na 243 - 1) := by decide +kernel
theorem ms_243 : Cond.selects (a_Rn (a_own 243)) (a_y 243) (a_y 243) ∈ lw_gd := a_s5 (i := 6) (q := (a_y 243, _)) rfl rfl
theorem mk_244 : a_mk0 244 := ⟨by decide, by decide +kernel, ⟨by decide +kernel, by decide +kernel⟩, a_m1 (i := 10) rfl rfl, rfl⟩
theorem mc_244 : Cond.code (a_y 244) (a_c 244) (a_ml 244) (a_rt 244) ∈ lw_gd := a_m8 (i := 17) rfl rfl
theorem mh_244 : a_hh 244 = [] := rfl
theorem mi_244 : Cond.instanceMethod (a_y 244) ∈ lw_gd := a_m8 (i := 16) rfl rfl
theorem mp_244 : 1 ≤ a_na 244 ∧ (parseMethodDescriptor (a_y 244).desc).map (fun d => d.parameters.length) = some (a_na 244 - 1) := by decide +kernel
theorem ms_244 : Cond.selects (a_Rn (a_own 244)) (a_y 244) (a_y 244) ∈ lw_gd := a_s5 (i := 4) (q := (a_y 244, _)) rfl rfl
theorem mk_245 : a_mk0 245 := ⟨by decide, by decide +kernel, ⟨by decide +kernel, by decide +kernel⟩, a_m1 (i := 10) rfl rfl, rfl⟩
theorem mc_245 : Cond.code (a_y 245) (a_c 245) (a_ml 245) (a_rt 245) ∈ lw_gd := a_m7 (i := 229) rfl rfl
theorem mh_245 : a_hh 245 = [] := rfl
theorem mi_245 : Cond.instanceMethod (a_y 245) ∈ lw_gd := a_m7 (i := 228) rfl rfl
theorem mp_245 : 1 ≤ a_na 245 ∧ (parseMethodDescriptor (a_y 245).desc).map (fun d => d.parameters.length) = some (a_na 245 - 1) := by decide +kernel
theorem ms_245 : Cond.selects (a_Rn (a_own 245)) (a_y 245) (a_y 245) ∈ lw_gd := a_s4 (i := 13) (q := (a_y 245, _)) rfl rfl
theorem mk_246 : a_mk0 246 := ⟨by decide, by decide +kernel, ⟨by decide +kernel, by decide +kernel⟩, a_m1 (i := 10) rfl rfl, rfl⟩
theorem mc_246 : Cond.code (a_y 246) (a_c 246) (a_ml 246) (a_rt 246) ∈ lw_gd := a_m7 (i := 221) rfl rfl
theorem mh_246 : a_hh 246 = [] := rfl
theorem mi_246 : Cond.instanceMethod (a_y 246) ∈ lw_gd := a_m7 (i := 219) rfl rfl
theorem mp_246 : 1 ≤ a_na 246 ∧ (parseMethodDescriptor (a_y 246).desc).map (fun d => d.parameters.length) = some (a_na 246 - 1) := by decide +kernel
theorem ms_246 : Cond.selects (a_Rn (a_own 246)) (a_y 246) (a_y 246) ∈ lw_gd := a_m7 (i := 220) rfl rfl
theorem mk_247 : a_mk0 247 := ⟨by decide, by decide +kernel, ⟨by decide +kernel, by decide +kernel⟩, a_m1 (i := 10) rfl rfl, rfl⟩
theorem mc_247 : Cond.code (a_y 247) (a_c 247) (a_ml 247) (a_rt 247) ∈ lw_gd := a_m7 (i := 225) rfl rfl
theorem mh_247 : a_hh 247 = [] := rfl
theorem mi_247 : Cond.instanceMethod (a_y 247) ∈ lw_gd := a_m7 (i := 223) rfl rfl
theorem mp_247 : 1 ≤ a_na 247 ∧ (parseMethodDescriptor (a_y 247).desc).map (fun d => d.parameters.length) = some (a_na 247 - 1) := by decide +kernel
theorem ms_247 : Cond.selects (a_Rn (a_own 247)) (a_y 247) (a_y 247) ∈ lw_gd := a_m7 (i := 224) rfl rfl
theorem mk_248 : a_mk0 248 := ⟨by decide, by decide +kernel, ⟨by decide +kernel, by decide +kernel⟩, a_m1 (i := 10) rfl rfl, rfl⟩
theorem mc_248 : Cond.code (a_y 248) (a_c 248) (a_ml 248) (a_rt 248) ∈ lw_gd := a_m8 (i := 49) rfl rfl
theorem mh_248 : a_hh 248 = [] := rfl
theorem mi_248 : Cond.instanceMethod (a_y 248) ∈ lw_gd := a_m8 (i := 48) rfl rfl
theorem mp_248 : 1 ≤ a_na 248 ∧ (parseMethodDescriptor (a_y 248).desc).map (fun d => d.parameters.length) = some (a_na 248 - 1) := by decide +kernel
theorem ms_248 : Cond.selects (a_Rn (a_own 248)) (a_y 248) (a_y 248) ∈ lw_gd := a_s5 (i := 8) (q := (a_y 248, _)) rfl rfl
theorem mk_249 : a_mk0 249 := ⟨by decide, by decide +kernel, ⟨by decide +kernel, by decide +kernel⟩, a_m1 (i := 10) rfl rfl, rfl⟩
theorem mc_249 : Cond.code (a_y 249) (a_c 249) (a_ml 249) (a_rt 249) ∈ lw_gd := a_m8 (i := 45) rfl rfl
theorem mh_249 : a_hh 249 = [] := rfl
theorem mi_249 : Cond.instanceMethod (a_y 249) ∈ lw_gd := a_m8 (i := 44) rfl rfl
theorem mp_249 : 1 ≤ a_na 249 ∧ (parseMethodDescriptor (a_y 249).desc).map (fun d => d.parameters.length) = some (a_na 249 - 1) := by decide +kernel
theorem ms_249 : Cond.selects (a_Rn (a_own 249)) (a_y 249) (a_y 249) ∈ lw_gd := a_s5 (i := 7) (q := (a_y 249, _)) rfl rfl
theorem mk_250 : a_mk0 250 := ⟨by decide, by decide +kernel, ⟨by decide +kernel, by decide +kernel⟩, a_m1 (i := 10) rfl rfl, rfl⟩
theorem mc_250 : Cond.code (a_y 250) (a_c 250) (a_ml 250) (a_rt 250) ∈ lw_gd := a_m8 (i := 33) rfl rfl
theorem mh_250 : a_hh 250 = [] := rfl
theorem mi_250 : Cond.instanceMethod (a_y 250) ∈ lw_gd := a_m8 (i := 31) rfl rfl
theorem mp_250 : 1 ≤ a_na 250 ∧ (parseMethodDescriptor (a_y 250).desc).map (fun d => d.parameters.length) = some (a_na 250 - 1) := by decide +kernel
theorem ms_250 : Cond.selects (a_Rn (a_own 250)) (a_y 250) (a_y 250) ∈ lw_gd := a_m8 (i := 32) rfl rfl
theorem mk_251 : a_mk0 251 := ⟨by decide, by decide +kernel, ⟨by decide +kernel, by decide +kernel⟩, a_m1 (i := 10) rfl rfl, rfl⟩
theorem mc_251 : Cond.code (a_y 251) (a_c 251) (a_ml 251) (a_rt 251) ∈ lw_gd := a_m8 (i := 37) rfl rfl
theorem mh_251 : a_hh 251 = [] := rfl
theorem mi_251 : Cond.instanceMethod (a_y 251) ∈ lw_gd := a_m8 (i := 35) rfl rfl
theorem mp_251 : 1 ≤ a_na 251 ∧ (parseMethodDescriptor (a_y 251).desc).map (fun d => d.parameters.length) = some (a_na 251 - 1) := by decide +kernel
theorem ms_251 : Cond.selects (a_Rn (a_own 251)) (a_y 251) (a_y 251) ∈ lw_gd := a_m8 (i := 36) rfl rfl
theorem mk_252 : a_mk0 252 := ⟨by decide, by decide +kernel, ⟨by decide +kernel, by decide +kernel⟩, a_m1 (i := 10) rfl rfl, rfl⟩
theorem mc_252 : Cond.code (a_y 252) (a_c 252) (a_ml 252) (a_rt 252) ∈ lw_gd := a_m8 (i := 41) rfl rfl
theorem mh_252 : a_hh 252 = [] := rfl
theorem mi_252 : Cond.instanceMethod (a_y 252) ∈ lw_gd := a_m8 (i := 39) rfl rfl
theorem mp_252 : 1 ≤ a_na 252 ∧ (parseMethodDescriptor (a_y 252).desc).map (fun d => d.parameters.length) = some (a_na 252 - 1) := by decide +kernel
theorem ms_252 : Cond.selects (a_Rn (a_own 252)) (a_y 252) (a_y 252) ∈ lw_gd := a_m8 (i := 40) rfl rfl
theorem mk_253 : a_mk0 253 := ⟨by decide, by decide +kernel, ⟨by decide +kernel, by decide +kernel⟩, a_m1 (i := 10) rfl rfl, rfl⟩
theorem mc_253 : Cond.code (a_y 253) (a_c 253) (a_ml 253) (a_rt 253) ∈ lw_gd := a_m8 (i := 53) rfl rfl
theorem mh_253 : a_hh 253 = [] := rfl
theorem mi_253 : Cond.instanceMethod (a_y 253) ∈ lw_gd := a_m8 (i := 51) rfl rfl
theorem mp_253 : 1 ≤ a_na 253 ∧ (parseMethodDescriptor (a_y 253).desc).map (fun d => d.parameters.length) = some (a_na 253 - 1) := by decide +kernel
theorem ms_253 : Cond.selects (a_Rn (a_own 253)) (a_y 253) (a_y 253) ∈ lw_gd := a_m8 (i := 52) rfl rfl
theorem mk_254 : a_mk0 254 := ⟨by decide, by decide +kernel, ⟨by decide +kernel, by decide +kernel⟩, a_m1 (i := 10) rfl rfl, rfl⟩
theorem mc_254 : Cond.code (a_y 254) (a_c 254) (a_ml 254) (a_rt 254) ∈ lw_gd := a_m8 (i := 57) rfl rfl
theorem mh_254 : a_hh 254 = [] := rfl
theorem mi_254 : Cond.instanceMethod (a_y 254) ∈ lw_gd := a_m8 (i := 55) rfl rfl
theorem mp_254 : 1 ≤ a_na 254 ∧ (parseMethodDescriptor (a_y 254).desc).map (fun d => d.parameters.length) = some (a_na 254 - 1) := by decide +kernel
theorem ms_254 : Cond.selects (a_Rn (a_own 254)) (a_y 254) (a_y 254) ∈ lw_gd := a_m8 (i := 56) rfl rfl
theorem mk_255 : a_mk0 255 := ⟨by decide, by decide +kernel, ⟨by decide +kernel, by decide +kernel⟩, a_m1 (i := 10) rfl rfl, rfl⟩
theorem mc_255 : Cond.code (a_y 255) (a_c 255) (a_ml 255) (a_rt 255) ∈ lw_gd := a_m8 (i := 61) rfl rfl
theorem mh_255 : a_hh 255 = [] := rfl
theorem mi_255 : Cond.instanceMethod (a_y 255) ∈ lw_gd := a_m8 (i := 59) rfl rfl
theorem mp_255 : 1 ≤ a_na 255 ∧ (parseMethodDescriptor (a_y 255).desc).map (fun d => d.parameters.length) = some (a_na 255 - 1) := by decide +kernel
theorem ms_255 : Cond.selects (a_Rn (a_own 255)) (a_y 255) (a_y 255) ∈ lw_gd := a_m8 (i := 60) rfl rfl
theorem mk_256 : a_mk0 256 := ⟨by decide, by decide +kernel, ⟨by decide +kernel, by decide +kernel⟩, a_m1 (i := 10) rfl rfl, rfl⟩
theorem mc_256 : Cond.code (a_y 256) (a_c 256) (a_ml 256) (a_rt 256) ∈ lw_gd := a_m8 (i := 65) rfl rfl
theorem mh_256 : a_hh 256 = [] := rfl
theorem mi_256 : Cond.instanceMethod (a_y 256) ∈ lw_gd := a_m8 (i := 63) rfl rfl
theorem mp_256 : 1 ≤ a_na 256 ∧ (parseMethodDescriptor (a_y 256).desc).map (fun d => d.parameters.length) = some (a_na 256 - 1) := by decide +kernel
theorem ms_256 : Cond.selects (a_Rn (a_own 256)) (a_y 256) (a_y 256) ∈ lw_gd := a_m8 (i := 64) rfl rfl
theorem mk_257 : a_mk0 257 := ⟨by decide, by decide +kernel, ⟨by decide +kernel, by decide +kernel⟩, a_m1 (i := 10) rfl rfl, rfl⟩
theorem mc_257 : Cond.code (a_y 257) (a_c 257) (a_ml 257) (a_rt 257) ∈ lw_gd := a_m8 (i := 69) rfl rfl
theorem mh_257 : a_hh 257 = [] := rfl
theorem mi_257 : Cond.instanceMethod (a_y 257) ∈ lw_gd := a_m8 (i := 67) rfl rfl
theorem mp_257 : 1 ≤ a_na 257 ∧ (parseMethodDescriptor (a_y 257).desc).map (fun d => d.parameters.length) = some (a_na 257 - 1) := by decide +kernel
theorem ms_257 : Cond.selects (a_Rn (a_own 257)) (a_y 257) (a_y 257) ∈ lw_gd := a_m8 (i := 68) rfl rfl
theorem mk_258 : a_mk0 258 := ⟨by decide, by decide +kernel, ⟨by decide +kernel, by decide +kernel⟩, a_m1 (i := 10) rfl rfl, rfl⟩
theorem mc_258 : Cond.code (a_y 258) (a_c 258) (a_ml 258) (a_rt 258) ∈ lw_gd := a_m8 (i := 73) rfl rfl
theorem mh_258 : a_hh 258 = [] := rfl
theorem mi_258 : Cond.instanceMethod (a_y 258) ∈ lw_gd := a_m8 (i := 71) rfl rfl
theorem mp_258 : 1 ≤ a_na 258 ∧ (parseMethodDescriptor (a_y 258).desc).map (fun d => d.parameters.length) = some (a_na 258 - 1) := by decide +kernel
theorem ms_258 : Cond.selects (a_Rn (a_own 258)) (a_y 258) (a_y 258) ∈ lw_gd := a_m8 (i := 72) rfl rfl
theorem mk_259 : a_mk0 259 := ⟨by decide, by decide +kernel, ⟨by decide +kernel, by decide +kernel⟩, a_m1 (i := 10) rfl rfl, rfl⟩
theorem mc_259 : Cond.code (a_y 259) (a_c 259) (a_ml 259) (a_rt 259) ∈ lw_gd := a_m8 (i := 77) rfl rfl
theorem mh_259 : a_hh 259 = [] := rfl
theorem mi_259 : Cond.instanceMethod (a_y 259) ∈ lw_gd := a_m8 (i := 75) rfl rfl
theorem mp_259 : 1 ≤ a_na 259 ∧ (parseMethodDescriptor (a_y 259).desc).map (fun d => d.parameters.length) = some (a_na 259 - 1) := by decide +kernel
theorem ms_259 : Cond.selects (a_Rn (a_own 259)) (a_y 259) (a_y 259) ∈ lw_gd := a_m8 (i := 76) rfl rfl
theorem mk_260 : a_mk0 260 := ⟨by decide, by decide +kernel, ⟨by decide +kernel, by decide +kernel⟩, a_m1 (i := 10) rfl rfl, rfl⟩
theorem mc_260 : Cond.code (a_y 260) (a_c 260) (a_ml 260) (a_rt 260) ∈ lw_gd := a_m8 (i := 81) rfl rfl
theorem mh_260 : a_hh 260 = [] := rfl
theorem mi_260 : Cond.instanceMethod (a_y 260) ∈ lw_gd := a_m8 (i := 79) rfl rfl
theorem mp_260 : 1 ≤ a_na 260 ∧ (parseMethodDescriptor (a_y 260).desc).map (fun d => d.parameters.length) = some (a_na 260 - 1) := by decide +kernel
theorem ms_260 : Cond.selects (a_Rn (a_own 260)) (a_y 260) (a_y 260) ∈ lw_gd := a_m8 (i := 80) rfl rfl
theorem mk_261 : a_mk0 261 := ⟨by decide, by decide +kernel, ⟨by decide +kernel, by decide +kernel⟩, a_m1 (i := 10) rfl rfl, rfl⟩
theorem mc_261 : Cond.code (a_y 261) (a_c 261) (a_ml 261) (a_rt 261) ∈ lw_gd := a_m8 (i := 85) rfl rfl
theorem mh_261 : a_hh 261 = [] := rfl
theorem mi_261 : Cond.instanceMethod (a_y 261) ∈ lw_gd := a_m8 (i := 83) rfl rfl
theorem mp_261 : 1 ≤ a_na 261 ∧ (parseMethodDescriptor (a_y 261).desc).map (fun d => d.parameters.length) = some (a_na 261 - 1) := by decide +kernel
theorem ms_261 : Cond.selects (a_Rn (a_own 261)) (a_y 261) (a_y 261) ∈ lw_gd := a_m8 (i := 84) rfl rfl
theorem mk_262 : a_mk0 262 := ⟨by decide, by decide +kernel, ⟨by decide +kernel, by decide +kernel⟩, a_m1 (i := 10) rfl rfl, rfl⟩
theorem mc_262 : Cond.code (a_y 262) (a_c 262) (a_ml 262) (a_rt 262) ∈ lw_gd := a_m8 (i := 93) rfl rfl
theorem mh_262 : a_hh 262 = [] := rfl
theorem mi_262 : Cond.instanceMethod (a_y 262) ∈ lw_gd := a_m8 (i := 92) rfl rfl
theorem mp_262 : 1 ≤ a_na 262 ∧ (parseMethodDescriptor (a_y 262).desc).map (fun d => d.parameters.length) = some (a_na 262 - 1) := by decide +kernel
theorem ms_262 : Cond.selects (a_Rn (a_own 262)) (a_y 262) (a_y 262) ∈ lw_gd := a_s5 (i := 9) (q := (a_y 262, _)) rfl rfl
theorem mk_263 : a_mk0 263 := ⟨by decide, by decide +kernel, ⟨by decide +kernel, by decide +kernel⟩, a_m1 (i := 10) rfl rfl, rfl⟩
theorem mc_263 : Cond.code (a_y 263) (a_c 263) (a_ml 263) (a_rt 263) ∈ lw_gd := a_m8 (i := 96) rfl rfl
theorem mh_263 : a_hh 263 = [] := rfl
theorem mi_263 : Cond.static (a_y 263) ∈ lw_gd := a_m8 (i := 95) rfl rfl
theorem mp_263 : (parseMethodDescriptor (a_y 263).desc).map (fun d => d.parameters.length) = some (a_na 263) := by decide +kernel
theorem mk_264 : a_mk0 264 := ⟨by decide, by decide +kernel, ⟨by decide +kernel, by decide +kernel⟩, a_m1 (i := 10) rfl rfl, rfl⟩
theorem mc_264 : Cond.code (a_y 264) (a_c 264) (a_ml 264) (a_rt 264) ∈ lw_gd := a_m8 (i := 89) rfl rfl
theorem mh_264 : a_hh 264 = [] := rfl
theorem mi_264 : Cond.instanceMethod (a_y 264) ∈ lw_gd := a_m8 (i := 87) rfl rfl
theorem mp_264 : 1 ≤ a_na 264 ∧ (parseMethodDescriptor (a_y 264).desc).map (fun d => d.parameters.length) = some (a_na 264 - 1) := by decide +kernel
theorem ms_264 : Cond.selects (a_Rn (a_own 264)) (a_y 264) (a_y 264) ∈ lw_gd := a_m8 (i := 88) rfl rfl
theorem mk_265 : a_mk0 265 := ⟨by decide, by decide +kernel, ⟨by decide +kernel, by decide +kernel⟩, a_m1 (i := 10) rfl rfl, rfl⟩
theorem mc_265 : Cond.code (a_y 265) (a_c 265) (a_ml 265) (a_rt 265) ∈ lw_gd := a_m8 (i := 100) rfl rfl
theorem mh_265 : a_hh 265 = [] := rfl
theorem mi_265 : Cond.instanceMethod (a_y 265) ∈ lw_gd := a_m8 (i := 98) rfl rfl
theorem mp_265 : 1 ≤ a_na 265 ∧ (parseMethodDescriptor (a_y 265).desc).map (fun d => d.parameters.length) = some (a_na 265 - 1) := by decide +kernel
theorem ms_265 : Cond.selects (a_Rn (a_own 265)) (a_y 265) (a_y 265) ∈ lw_gd := a_m8 (i := 99) rfl rfl
theorem mk_266 : a_mk0 266 := ⟨by decide, by decide +kernel, ⟨by decide +kernel, by decide +kernel⟩, a_m1 (i := 10) rfl rfl, rfl⟩
theorem mc_266 : Cond.code (a_y 266) (a_c 266) (a_ml 266) (a_rt 266) ∈ lw_gd := a_m8 (i := 104) rfl rfl
theorem mh_266 : a_hh 266 = [] := rfl
theorem mi_266 : Cond.instanceMethod (a_y 266) ∈ lw_gd := a_m8 (i := 102) rfl rfl
theorem mp_266 : 1 ≤ a_na 266 ∧ (parseMethodDescriptor (a_y 266).desc).map (fun d => d.parameters.length) = some (a_na 266 - 1) := by decide +kernel
theorem ms_266 : Cond.selects (a_Rn (a_own 266)) (a_y 266) (a_y 266) ∈ lw_gd := a_m8 (i := 103) rfl rfl
theorem mk_267 : a_mk0 267 := ⟨by decide, by decide +kernel, ⟨by decide +kernel, by decide +kernel⟩, a_m1 (i := 10) rfl rfl, rfl⟩
theorem mc_267 : Cond.code (a_y 267) (a_c 267) (a_ml 267) (a_rt 267) ∈ lw_gd := a_m8 (i := 108) rfl rfl
theorem mh_267 : a_hh 267 = [] := rfl
theorem mi_267 : Cond.instanceMethod (a_y 267) ∈ lw_gd := a_m8 (i := 106) rfl rfl
theorem mp_267 : 1 ≤ a_na 267 ∧ (parseMethodDescriptor (a_y 267).desc).map (fun d => d.parameters.length) = some (a_na 267 - 1) := by decide +kernel
theorem ms_267 : Cond.selects (a_Rn (a_own 267)) (a_y 267) (a_y 267) ∈ lw_gd := a_m8 (i := 107) rfl rfl
theorem mk_268 : a_mk0 268 := ⟨by decide, by decide +kernel, ⟨by decide +kernel, by decide +kernel⟩, a_m1 (i := 10) rfl rfl, rfl⟩
theorem mc_268 : Cond.code (a_y 268) (a_c 268) (a_ml 268) (a_rt 268) ∈ lw_gd := a_m8 (i := 116) rfl rfl
theorem mh_268 : a_hh 268 = [] := rfl
theorem mi_268 : Cond.instanceMethod (a_y 268) ∈ lw_gd := a_m8 (i := 115) rfl rfl
theorem mp_268 : 1 ≤ a_na 268 ∧ (parseMethodDescriptor (a_y 268).desc).map (fun d => d.parameters.length) = some (a_na 268 - 1) := by decide +kernel
theorem ms_268 : Cond.selects (a_Rn (a_own 268)) (a_y 268) (a_y 268) ∈ lw_gd := a_s5 (i := 10) (q := (a_y 268, _)) rfl rfl
theorem mk_269 : a_mk0 269 := ⟨by decide, by decide +kernel, ⟨by decide +kernel, by decide +kernel⟩, a_m1 (i := 10) rfl rfl, rfl⟩
theorem mc_269 : Cond.code (a_y 269) (a_c 269) (a_ml 269) (a_rt 269) ∈ lw_gd := a_m8 (i := 120) rfl rfl
theorem mh_269 : a_hh 269 = [] := rfl
theorem mi_269 : Cond.instanceMethod (a_y 269) ∈ lw_gd := a_m8 (i := 119) rfl rfl
theorem mp_269 : 1 ≤ a_na 269 ∧ (parseMethodDescriptor (a_y 269).desc).map (fun d => d.parameters.length) = some (a_na 269 - 1) := by decide +kernel
theorem ms_269 : Cond.selects (a_Rn (a_own 269)) (a_y 269) (a_y 269) ∈ lw_gd := a_s5 (i := 11) (q := (a_y 269, _)) rfl rfl
theorem mk_270 : a_mk0 270 := ⟨by decide, by decide +kernel, ⟨by decide +kernel, by decide +kernel⟩, a_m1 (i := 10) rfl rfl, rfl⟩
theorem mc_270 : Cond.code (a_y 270) (a_c 270) (a_ml 270) (a_rt 270) ∈ lw_gd := a_m8 (i := 112) rfl rfl
theorem mh_270 : a_hh 270 = [] := rfl
theorem mi_270 : Cond.instanceMethod (a_y 270) ∈ lw_gd := a_m8 (i := 110) rfl rfl
theorem mp_270 : 1 ≤ a_na 270 ∧ (parseMethodDescriptor (a_y 270).desc).map (fun d => d.parameters.length) = some (a_na 270 - 1) := by decide +kernel
theorem ms_270 : Cond.selects (a_Rn (a_own 270)) (a_y 270) (a_y 270) ∈ lw_gd := a_m8 (i := 111) rfl rfl
theorem mk_271 : a_mk0 271 := ⟨by decide, by decide +kernel, ⟨by decide +kernel, by decide +kernel⟩, a_m1 (i := 10) rfl rfl, rfl⟩
theorem mc_271 : Cond.code (a_y 271) (a_c 271) (a_ml 271) (a_rt 271) ∈ lw_gd := a_m8 (i := 124) rfl rfl
theorem mh_271 : a_hh 271 = [] := rfl
theorem mi_271 : Cond.instanceMethod (a_y 271) ∈ lw_gd := a_m8 (i := 122) rfl rfl
theorem mp_271 : 1 ≤ a_na 271 ∧ (parseMethodDescriptor (a_y 271).desc).map (fun d => d.parameters.length) = some (a_na 271 - 1) := by decide +kernel
theorem ms_271 : Cond.selects (a_Rn (a_own 271)) (a_y 271) (a_y 271) ∈ lw_gd := a_m8 (i := 123) rfl rfl
theorem mk_272 : a_mk0 272 := ⟨by decide, by decide +kernel, ⟨by decide +kernel, by decide +kernel⟩, a_m1 (i := 10) rfl rfl, rfl⟩
theorem mc_272 : Cond.code (a_y 272) (a_c 272) (a_ml 272) (a_rt 272) ∈ lw_gd := a_m8 (i := 131) rfl rfl
theorem mh_272 : a_hh 272 = [] := rfl
theorem mi_272 : Cond.static (a_y 272) ∈ lw_gd := a_m8 (i := 130) rfl rfl
theorem mp_272 : (parseMethodDescriptor (a_y 272).desc).map (fun d => d.parameters.length) = some (a_na 272) := by decide +kernel
theorem mk_273 : a_mk0 273 := ⟨by decide, by decide +kernel, ⟨by decide +kernel, by decide +kernel⟩, a_m1 (i := 10) rfl rfl, rfl⟩
theorem mc_273 : Cond.code (a_y 273) (a_c 273) (a_ml 273) (a_rt 273) ∈ lw_gd := a_m8 (i := 128) rfl rfl
theorem mh_273 : a_hh 273 = [] := rfl
theorem mi_273 : Cond.instanceMethod (a_y 273) ∈ lw_gd := a_m8 (i := 126) rfl rfl
theorem mp_273 : 1 ≤ a_na 273 ∧ (parseMethodDescriptor (a_y 273).desc).map (fun d => d.parameters.length) = some (a_na 273 - 1) := by decide +kernel
theorem ms_273 : Cond.selects (a_Rn (a_own 273)) (a_y 273) (a_y 273) ∈ lw_gd := a_m8 (i := 127) rfl rfl
theorem mk_274 : a_mk0 274 := ⟨by decide, by decide +kernel, ⟨by decide +kernel, by decide +kernel⟩, a_m1 (i := 10) rfl rfl, rfl⟩
theorem mc_274 : Cond.code (a_y 274) (a_c 274) (a_ml 274) (a_rt 274) ∈ lw_gd := a_m8 (i := 139) rfl rfl
theorem mh_274 : a_hh 274 = [] := rfl
theorem mi_274 : Cond.instanceMethod (a_y 274) ∈ lw_gd := a_m8 (i := 138) rfl rfl
theorem mp_274 : 1 ≤ a_na 274 ∧ (parseMethodDescriptor (a_y 274).desc).map (fun d => d.parameters.length) = some (a_na 274 - 1) := by decide +kernel
theorem ms_274 : Cond.selects (a_Rn (a_own 274)) (a_y 274) (a_y 274) ∈ lw_gd := a_s5 (i := 12) (q := (a_y 274, _)) rfl rfl
theorem mk_275 : a_mk0 275 := ⟨by decide, by decide +kernel, ⟨by decide +kernel, by decide +kernel⟩, a_m1 (i := 10) rfl rfl, rfl⟩
theorem mc_275 : Cond.code (a_y 275) (a_c 275) (a_ml 275) (a_rt 275) ∈ lw_gd := a_m8 (i := 135) rfl rfl
theorem mh_275 : a_hh 275 = [] := rfl
theorem mi_275 : Cond.instanceMethod (a_y 275) ∈ lw_gd := a_m8 (i := 133) rfl rfl
theorem mp_275 : 1 ≤ a_na 275 ∧ (parseMethodDescriptor (a_y 275).desc).map (fun d => d.parameters.length) = some (a_na 275 - 1) := by decide +kernel
theorem ms_275 : Cond.selects (a_Rn (a_own 275)) (a_y 275) (a_y 275) ∈ lw_gd := a_m8 (i := 134) rfl rfl
theorem mk_276 : a_mk0 276 := ⟨by decide, by decide +kernel, ⟨by decide +kernel, by decide +kernel⟩, a_m1 (i := 10) rfl rfl, rfl⟩
theorem mc_276 : Cond.code (a_y 276) (a_c 276) (a_ml 276) (a_rt 276) ∈ lw_gd := a_m8 (i := 143) rfl rfl
theorem mh_276 : a_hh 276 = [] := rfl
theorem mi_276 : Cond.instanceMethod (a_y 276) ∈ lw_gd := a_m8 (i := 141) rfl rfl
theorem mp_276 : 1 ≤ a_na 276 ∧ (parseMethodDescriptor (a_y 276).desc).map (fun d => d.parameters.length) = some (a_na 276 - 1) := by decide +kernel
theorem ms_276 : Cond.selects (a_Rn (a_own 276)) (a_y 276) (a_y 276) ∈ lw_gd := a_m8 (i := 142) rfl rfl
theorem mk_277 : a_mk0 277 := ⟨by decide, by decide +kernel, ⟨by decide +kernel, by decide +kernel⟩, a_m1 (i := 10) rfl rfl, rfl⟩
theorem mc_277 : Cond.code (a_y 277) (a_c 277) (a_ml 277) (a_rt 277) ∈ lw_gd := a_m8 (i := 147) rfl rfl
theorem mh_277 : a_hh 277 = [] := rfl
theorem mi_277 : Cond.instanceMethod (a_y 277) ∈ lw_gd := a_m8 (i := 145) rfl rfl
theorem mp_277 : 1 ≤ a_na 277 ∧ (parseMethodDescriptor (a_y 277).desc).map (fun d => d.parameters.length) = some (a_na 277 - 1) := by decide +kernel
theorem ms_277 : Cond.selects (a_Rn (a_own 277)) (a_y 277) (a_y 277) ∈ lw_gd := a_m8 (i := 146) rfl rfl
theorem mk_278 : a_mk0 278 := ⟨by decide, by decide +kernel, ⟨by decide +kernel, by decide +kernel⟩, a_m1 (i := 10) rfl rfl, rfl⟩
theorem mc_278 : Cond.code (a_y 278) (a_c 278) (a_ml 278) (a_rt 278) ∈ lw_gd := a_m8 (i := 159) rfl rfl
theorem mh_278 : a_hh 278 = [] := rfl
theorem mi_278 : Cond.instanceMethod (a_y 278) ∈ lw_gd := a_m8 (i := 158) rfl rfl
theorem mp_278 : 1 ≤ a_na 278 ∧ (parseMethodDescriptor (a_y 278).desc).map (fun d => d.parameters.length) = some (a_na 278 - 1) := by decide +kernel
theorem ms_278 : Cond.selects (a_Rn (a_own 278)) (a_y 278) (a_y 278) ∈ lw_gd := a_s5 (i := 14) (q := (a_y 278, _)) rfl rfl
theorem mk_279 : a_mk0 279 := ⟨by decide, by decide +kernel, ⟨by decide +kernel, by decide +kernel⟩, a_m1 (i := 10) rfl rfl, rfl⟩
theorem mc_279 : Cond.code (a_y 279) (a_c 279) (a_ml 279) (a_rt 279) ∈ lw_gd := a_m8 (i := 163) rfl rfl
theorem mh_279 : a_hh 279 = [] := rfl
theorem mi_279 : Cond.instanceMethod (a_y 279) ∈ lw_gd := a_m8 (i := 162) rfl rfl
theorem mp_279 : 1 ≤ a_na 279 ∧ (parseMethodDescriptor (a_y 279).desc).map (fun d => d.parameters.length) = some (a_na 279 - 1) := by decide +kernel
theorem ms_279 : Cond.selects (a_Rn (a_own 279)) (a_y 279) (a_y 279) ∈ lw_gd := a_s5 (i := 15) (q := (a_y 279, _)) rfl rfl
theorem mk_280 : a_mk0 280 := ⟨by decide, by decide +kernel, ⟨by decide +kernel, by decide +kernel⟩, a_m1 (i := 10) rfl rfl, rfl⟩
theorem mc_280 : Cond.code (a_y 280) (a_c 280) (a_ml 280) (a_rt 280) ∈ lw_gd := a_m8 (i := 167) rfl rfl
theorem mh_280 : a_hh 280 = [] := rfl
theorem mi_280 : Cond.instanceMethod (a_y 280) ∈ lw_gd := a_m8 (i := 166) rfl rfl
theorem mp_280 : 1 ≤ a_na 280 ∧ (parseMethodDescriptor (a_y 280).desc).map (fun d => d.parameters.length) = some (a_na 280 - 1) := by decide +kernel
theorem ms_280 : Cond.selects (a_Rn (a_own 280)) (a_y 280) (a_y 280) ∈ lw_gd := a_s6 (i := 0) (q := (a_y 280, _)) rfl rfl
theorem mk_281 : a_mk0 281 := ⟨by decide, by decide +kernel, ⟨by decide +kernel, by decide +kernel⟩, a_m1 (i := 10) rfl rfl, rfl⟩
theorem mc_281 : Cond.code (a_y 281) (a_c 281) (a_ml 281) (a_rt 281) ∈ lw_gd := a_m8 (i := 155) rfl rfl
theorem mh_281 : a_hh 281 = [] := rfl
theorem mi_281 : Cond.instanceMethod (a_y 281) ∈ lw_gd := a_m8 (i := 154) rfl rfl
theorem mp_281 : 1 ≤ a_na 281 ∧ (parseMethodDescriptor (a_y 281).desc).map (fun d => d.parameters.length) = some (a_na 281 - 1) := by decide +kernel
theorem ms_281 : Cond.selects (a_Rn (a_own 281)) (a_y 281) (a_y 281) ∈ lw_gd := a_s5 (i := 13) (q := (a_y 281, _)) rfl rfl
theorem mk_282 : a_mk0 282 := ⟨by decide, by decide +kernel, ⟨by decide +kernel, by decide +kernel⟩, a_m1 (i := 10) rfl rfl, rfl⟩
theorem mc_282 : Cond.code (a_y 282) (a_c 282) (a_ml 282) (a_rt 282) ∈ lw_gd := a_m8 (i := 184) rfl rfl
theorem mh_282 : a_hh 282 = [] := rfl
theorem mi_282 : Cond.instanceMethod (a_y 282) ∈ lw_gd := a_m8 (i := 183) rfl rfl
theorem mp_282 : 1 ≤ a_na 282 ∧ (parseMethodDescriptor (a_y 282).desc).map (fun d => d.parameters.length) = some (a_na 282 - 1) := by decide +kernel
theorem ms_282 : Cond.selects (a_Rn (a_own 282)) (a_y 282) (a_y 282) ∈ lw_gd := a_s6 (i := 4) (q := (a_y 282, _)) rfl rfl
theorem mk_283 : a_mk0 283 := ⟨by decide, by decide +kernel, ⟨by decide +kernel, by decide +kernel⟩, a_m1 (i := 10) rfl rfl, rfl⟩
theorem mc_283 : Cond.code (a_y 283) (a_c 283) (a_ml 283) (a_rt 283) ∈ lw_gd := a_m8 (i := 172) rfl rfl
theorem mh_283 : a_hh 283 = [] := rfl
theorem mi_283 : Cond.instanceMethod (a_y 283) ∈ lw_gd := a_m8 (i := 171) rfl rfl
theorem mp_283 : 1 ≤ a_na 283 ∧ (parseMethodDescriptor (a_y 283).desc).map (fun d => d.parameters.length) = some (a_na 283 - 1) := by decide +kernel
theorem ms_283 : Cond.selects (a_Rn (a_own 283)) (a_y 283) (a_y 283) ∈ lw_gd := a_s6 (i := 1) (q := (a_y 283, _)) rfl rfl
theorem mk_284 : a_mk0 284 := ⟨by decide, by decide +kernel, ⟨by decide +kernel, by decide +kernel⟩, a_m1 (i := 10) rfl rfl, rfl⟩
theorem mc_284 : Cond.code (a_y 284) (a_c 284) (a_ml 284) (a_rt 284) ∈ lw_gd := a_m8 (i := 180) rfl rfl
theorem mh_284 : a_hh 284 = [] := rfl
theorem mi_284 : Cond.instanceMethod (a_y 284) ∈ lw_gd := a_m8 (i := 179) rfl rfl
theorem mp_284 : 1 ≤ a_na 284 ∧ (parseMethodDescriptor (a_y 284).desc).map (fun d => d.parameters.length) = some (a_na 284 - 1) := by decide +kernel
theorem ms_284 : Cond.selects (a_Rn (a_own 284)) (a_y 284) (a_y 284) ∈ lw_gd := a_s6 (i := 3) (q := (a_y 284, _)) rfl rfl
theorem mk_285 : a_mk0 285 := ⟨by decide, by decide +kernel, ⟨by decide +kernel, by decide +kernel⟩, a_m1 (i := 10) rfl rfl, rfl⟩
theorem mc_285 : Cond.code (a_y 285) (a_c 285) (a_ml 285) (a_rt 285) ∈ lw_gd := a_m8 (i := 200) rfl rfl
theorem mh_285 : a_hh 285 = [] := rfl
theorem mi_285 : Cond.instanceMethod (a_y 285) ∈ lw_gd := a_m8 (i := 199) rfl rfl
theorem mp_285 : 1 ≤ a_na 285 ∧ (parseMethodDescriptor (a_y 285).desc).map (fun d => d.parameters.length) = some (a_na 285 - 1) := by decide +kernel
theorem ms_285 : Cond.selects (a_Rn (a_own 285)) (a_y 285) (a_y 285) ∈ lw_gd := a_s6 (i := 8) (q := (a_y 285, _)) rfl rfl
theorem mk_286 : a_mk0 286 := ⟨by decide, by decide +kernel, ⟨by decide +kernel, by decide +kernel⟩, a_m1 (i := 10) rfl rfl, rfl⟩
theorem mc_286 : Cond.code (a_y 286) (a_c 286) (a_ml 286) (a_rt 286) ∈ lw_gd := a_m8 (i := 196) rfl rfl
theorem mh_286 : a_hh 286 = [] := rfl
theorem mi_286 : Cond.instanceMethod (a_y 286) ∈ lw_gd := a_m8 (i := 195) rfl rfl
theorem mp_286 : 1 ≤ a_na 286 ∧ (parseMethodDescriptor (a_y 286).desc).map (fun d => d.parameters.length) = some (a_na 286 - 1) := by decide +kernel
theorem ms_286 : Cond.selects (a_Rn (a_own 286)) (a_y 286) (a_y 286) ∈ lw_gd := a_s6 (i := 7) (q := (a_y 286, _)) rfl rfl
theorem mk_287 : a_mk0 287 := ⟨by decide, by decide +kernel, ⟨by decide +kernel, by decide +kernel⟩, a_m1 (i := 10) rfl rfl, rfl⟩
theorem mc_287 : Cond.code (a_y 287) (a_c 287) (a_ml 287) (a_rt 287) ∈ lw_gd := a_m8 (i := 192) rfl rfl
theorem mh_287 : a_hh 287 = [] := rfl
theorem mi_287 : Cond.instanceMethod (a_y 287) ∈ lw_gd := a_m8 (i := 191) rfl rfl
theorem mp_287 : 1 ≤ a_na 287 ∧ (parseMethodDescriptor (a_y 287).desc).map (fun d => d.parameters.length) = some (a_na 287 - 1) := by decide +kernel
theorem ms_287 : Cond.selects (a_Rn (a_own 287)) (a_y 287) (a_y 287) ∈ lw_gd := a_s6 (i := 6) (q := (a_y 287, _)) rfl rfl
theorem mk_288 : a_mk0 288 := ⟨by decide, by decide +kernel, ⟨by decide +kernel, by decide +kernel⟩, a_m1 (i := 10) rfl rfl, rfl⟩
theorem mc_288 : Cond.code (a_y 288) (a_c 288) (a_ml 288) (a_rt 288) ∈ lw_gd := a_m8 (i := 204) rfl rfl
theorem mh_288 : a_hh 288 = [] := rfl
theorem mi_288 : Cond.instanceMethod (a_y 288) ∈ lw_gd := a_m8 (i := 203) rfl rfl
theorem mp_288 : 1 ≤ a_na 288 ∧ (parseMethodDescriptor (a_y 288).desc).map (fun d => d.parameters.length) = some (a_na 288 - 1) := by decide +kernel
theorem ms_288 : Cond.selects (a_Rn (a_own 288)) (a_y 288) (a_y 288) ∈ lw_gd := a_s6 (i := 9) (q := (a_y 288, _)) rfl rfl
theorem mk_289 : a_mk0 289 := ⟨by decide, by decide +kernel, ⟨by decide +kernel, by decide +kernel⟩, a_m1 (i := 10) rfl rfl, rfl⟩
theorem mc_289 : Cond.code (a_y 289) (a_c 289) (a_ml 289) (a_rt 289) ∈ lw_gd := a_m8 (i := 212) rfl rfl
theorem mh_289 : a_hh 289 = [] := rfl
theorem mi_289 : Cond.instanceMethod (a_y 289) ∈ lw_gd := a_m8 (i := 211) rfl rfl
theorem mp_289 : 1 ≤ a_na 289 ∧ (parseMethodDescriptor (a_y 289).desc).map (fun d => d.parameters.length) = some (a_na 289 - 1) := by decide +kernel
theorem ms_289 : Cond.selects (a_Rn (a_own 289)) (a_y 289) (a_y 289) ∈ lw_gd := a_s6 (i := 11) (q := (a_y 289, _)) rfl rfl
theorem mk_290 : a_mk0 290 := ⟨by decide, by decide +kernel, ⟨by decide +kernel, by decide +kernel⟩, a_m1 (i := 10) rfl rfl, rfl⟩
theorem mc_290 : Cond.code (a_y 290) (a_c 290) (a_ml 290) (a_rt 290) ∈ lw_gd := a_m8 (i := 208) rfl rfl
theorem mh_290 : a_hh 290 = [] := rfl
theorem mi_290 : Cond.instanceMethod (a_y 290) ∈ lw_gd := a_m8 (i := 207) rfl rfl
theorem mp_290 : 1 ≤ a_na 290 ∧ (parseMethodDescriptor (a_y 290).desc).map (fun d => d.parameters.length) = some (a_na 290 - 1) := by decide +kernel
theorem ms_290 : Cond.selects (a_Rn (a_own 290)) (a_y 290) (a_y 290) ∈ lw_gd := a_s6 (i := 10) (q := (a_y 290, _)) rfl rfl
theorem mk_291 : a_mk0 291 := ⟨by decide, by decide +kernel, ⟨by decide +kernel, by decide +kernel⟩, a_m1 (i := 10) rfl rfl, rfl⟩
theorem mc_291 : Cond.code (a_y 291) (a_c 291) (a_ml 291) (a_rt 291) ∈ lw_gd := a_m8 (i := 188) rfl rfl
theorem mh_291 : a_hh 291 = [] := rfl
theorem mi_291 : Cond.instanceMethod (a_y 291) ∈ lw_gd := a_m8 (i := 187) rfl rfl
theorem mp_291 : 1 ≤ a_na 291 ∧ (parseMethodDescriptor (a_y 291).desc).map (fun d => d.parameters.length) = some (a_na 291 - 1) := by decide +kernel
theorem ms_291 : Cond.selects (a_Rn (a_own 291)) (a_y 291) (a_y 291) ∈ lw_gd := a_s6 (i := 5) (q := (a_y 291, _)) rfl rfl
theorem mk_292 : a_mk0 292 := ⟨by decide, by decide +kernel, ⟨by decide +kernel, by decide +kernel⟩, a_m1 (i := 10) rfl rfl, rfl⟩
theorem mc_292 : Cond.code (a_y 292) (a_c 292) (a_ml 292) (a_rt 292) ∈ lw_gd := a_m8 (i := 176) rfl rfl
theorem mh_292 : a_hh 292 = [] := rfl
theorem mi_292 : Cond.instanceMethod (a_y 292) ∈ lw_gd := a_m8 (i := 175) rfl rfl
theorem mp_292 : 1 ≤ a_na 292 ∧ (parseMethodDescriptor (a_y 292).desc).map (fun d => d.parameters.length) = some (a_na 292 - 1) := by decide +kernel
theorem ms_292 : Cond.selects (a_Rn (a_own 292)) (a_y 292) (a_y 292) ∈ lw_gd := a_s6 (i := 2) (q := (a_y 292, _)) rfl rfl
theorem mk_293 : a_mk0 293 := ⟨by decide, by decide +kernel, ⟨by decide +kernel, by decide +kernel⟩, a_m1 (i := 10) rfl rfl, rfl⟩
theorem mc_293 : Cond.code (a_y 293) (a_c 293) (a_ml 293) (a_rt 293) ∈ lw_gd := a_m8 (i := 151) rfl rfl
theorem mh_293 : a_hh 293 = [] := rfl
theorem mi_293 : Cond.instanceMethod (a_y 293) ∈ lw_gd := a_m8 (i := 149) rfl rfl
theorem mp_293 : 1 ≤ a_na 293 ∧ (parseMethodDescriptor (a_y 293).desc).map (fun d => d.parameters.length) = some (a_na 293 - 1) := by decide +kernel
theorem ms_293 : Cond.selects (a_Rn (a_own 293)) (a_y 293) (a_y 293) ∈ lw_gd := a_m8 (i := 150) rfl rfl
theorem mk_294 : a_mk0 294 := ⟨by decide, by decide +kernel, ⟨by decide +kernel, by decide +kernel⟩, a_m1 (i := 10) rfl rfl, rfl⟩
theorem mc_294 : Cond.code (a_y 294) (a_c 294) (a_ml 294) (a_rt 294) ∈ lw_gd := a_m8 (i := 216) rfl rfl
theorem mh_294 : a_hh 294 = [] := rfl
theorem mi_294 : Cond.instanceMethod (a_y 294) ∈ lw_gd := a_m8 (i := 214) rfl rfl
theorem mp_294 : 1 ≤ a_na 294 ∧ (parseMethodDescriptor (a_y 294).desc).map (fun d => d.parameters.length) = some (a_na 294 - 1) := by decide +kernel
theorem ms_294 : Cond.selects (a_Rn (a_own 294)) (a_y 294) (a_y 294) ∈ lw_gd := a_m8 (i := 215) rfl rfl
theorem mk_295 : a_mk0 295 := ⟨by decide, by decide +kernel, ⟨by decide +kernel, by decide +kernel⟩, a_m1 (i := 10) rfl rfl, rfl⟩
theorem mc_295 : Cond.code (a_y 295) (a_c 295) (a_ml 295) (a_rt 295) ∈ lw_gd := a_m8 (i := 220) rfl rfl
theorem mh_295 : a_hh 295 = [] := rfl
theorem mi_295 : Cond.instanceMethod (a_y 295) ∈ lw_gd := a_m8 (i := 218) rfl rfl
theorem mp_295 : 1 ≤ a_na 295 ∧ (parseMethodDescriptor (a_y 295).desc).map (fun d => d.parameters.length) = some (a_na 295 - 1) := by decide +kernel
theorem ms_295 : Cond.selects (a_Rn (a_own 295)) (a_y 295) (a_y 295) ∈ lw_gd := a_m8 (i := 219) rfl rfl
theorem mk_296 : a_mk0 296 := ⟨by decide, by decide +kernel, ⟨by decide +kernel, by decide +kernel⟩, a_m1 (i := 10) rfl rfl, rfl⟩
theorem mc_296 : Cond.code (a_y 296) (a_c 296) (a_ml 296) (a_rt 296) ∈ lw_gd := a_m8 (i := 224) rfl rfl
theorem mh_296 : a_hh 296 = [] := rfl
theorem mi_296 : Cond.instanceMethod (a_y 296) ∈ lw_gd := a_m8 (i := 222) rfl rfl
theorem mp_296 : 1 ≤ a_na 296 ∧ (parseMethodDescriptor (a_y 296).desc).map (fun d => d.parameters.length) = some (a_na 296 - 1) := by decide +kernel
theorem ms_296 : Cond.selects (a_Rn (a_own 296)) (a_y 296) (a_y 296) ∈ lw_gd := a_m8 (i := 223) rfl rfl
theorem mk_297 : a_mk0 297 := ⟨by decide, by decide +kernel, ⟨by decide +kernel, by decide +kernel⟩, a_m1 (i := 10) rfl rfl, rfl⟩
theorem mc_297 : Cond.code (a_y 297) (a_c 297) (a_ml 297) (a_rt 297) ∈ lw_gd := a_m8 (i := 228) rfl rfl
theorem mh_297 : a_hh 297 = [] := rfl
theorem mi_297 : Cond.instanceMethod (a_y 297) ∈ lw_gd := a_m8 (i := 226) rfl rfl
theorem mp_297 : 1 ≤ a_na 297 ∧ (parseMethodDescriptor (a_y 297).desc).map (fun d => d.parameters.length) = some (a_na 297 - 1) := by decide +kernel
theorem ms_297 : Cond.selects (a_Rn (a_own 297)) (a_y 297) (a_y 297) ∈ lw_gd := a_m8 (i := 227) rfl rfl
theorem mk_298 : a_mk0 298 := ⟨by decide, by decide +kernel, ⟨by decide +kernel, by decide +kernel⟩, a_m1 (i := 18) rfl rfl, rfl⟩
theorem mc_298 : Cond.code (a_y 298) (a_c 298) (a_ml 298) (a_rt 298) ∈ lw_gd := a_m5 (i := 145) rfl rfl
theorem mh_298 : a_hh 298 = [] := rfl
theorem mi_298 : Cond.static (a_y 298) ∈ lw_gd := a_m5 (i := 144) rfl rfl
theorem mp_298 : (parseMethodDescriptor (a_y 298).desc).map (fun d => d.parameters.length) = some (a_na 298) := by decide +kernel
theorem mk_302 : a_mk0 302 := ⟨by decide, by decide +kernel, ⟨by decide +kernel, by decide +kernel⟩, a_m1 (i := 20) rfl rfl, rfl⟩
theorem mc_302 : Cond.code (a_y 302) (a_c 302) (a_ml 302) (a_rt 302) ∈ lw_gd := a_m3 (i := 20) rfl rfl
theorem mh_302 : a_hh 302 = [] := rfl
theorem mi_302 : Cond.instanceMethod (a_y 302) ∈ lw_gd := a_m3 (i := 18) rfl rfl
theorem mp_302 : 1 ≤ a_na 302 ∧ (parseMethodDescriptor (a_y 302).desc).map (fun d => d.parameters.length) = some (a_na 302 - 1) := by decide +kernel
theorem ms_302 : Cond.selects (a_Rn (a_own 302)) (a_y 302) (a_y 302) ∈ lw_gd := a_m3 (i := 19) rfl rfl
theorem mk_303 : a_mk0 303 := ⟨by decide, by decide +kernel, ⟨by decide +kernel, by decide +kernel⟩, a_m1 (i := 20) rfl rfl, rfl⟩
theorem mc_303 : Cond.code (a_y 303) (a_c 303) (a_ml 303) (a_rt 303) ∈ lw_gd := a_m3 (i := 30) rfl rfl
theorem mh_303 : a_hh 303 = [] := rfl
theorem mi_303 : Cond.instanceMethod (a_y 303) ∈ lw_gd := a_m3 (i := 28) rfl rfl
theorem mp_303 : 1 ≤ a_na 303 ∧ (parseMethodDescriptor (a_y 303).desc).map (fun d => d.parameters.length) = some (a_na 303 - 1) := by decide +kernel
theorem ms_303 : Cond.selects (a_Rn (a_own 303)) (a_y 303) (a_y 303) ∈ lw_gd := a_m3 (i := 29) rfl rfl
theorem mk_304 : a_mk0 304 := ⟨by decide, by decide +kernel, ⟨by decide +kernel, by decide +kernel⟩, a_m1 (i := 20) rfl rfl, rfl⟩
theorem mc_304 : Cond.code (a_y 304) (a_c 304) (a_ml 304) (a_rt 304) ∈ lw_gd := a_m3 (i := 24) rfl rfl
theorem mh_304 : a_hh 304 = [] := rfl
theorem mi_304 : Cond.instanceMethod (a_y 304) ∈ lw_gd := a_m3 (i := 22) rfl rfl
theorem mp_304 : 1 ≤ a_na 304 ∧ (parseMethodDescriptor (a_y 304).desc).map (fun d => d.parameters.length) = some (a_na 304 - 1) := by decide +kernel
theorem ms_304 : Cond.selects (a_Rn (a_own 304)) (a_y 304) (a_y 304) ∈ lw_gd := a_m3 (i := 23) rfl rfl
theorem mk_305 : a_mk0 305 := ⟨by decide, by decide +kernel, ⟨by decide +kernel, by decide +kernel⟩, a_m1 (i := 20) rfl rfl, rfl⟩
theorem mc_305 : Cond.code (a_y 305) (a_c 305) (a_ml 305) (a_rt 305) ∈ lw_gd := a_m3 (i := 34) rfl rfl
theorem mh_305 : a_hh 305 = [] := rfl
theorem mi_305 : Cond.instanceMethod (a_y 305) ∈ lw_gd := a_m3 (i := 32) rfl rfl
theorem mp_305 : 1 ≤ a_na 305 ∧ (parseMethodDescriptor (a_y 305).desc).map (fun d => d.parameters.length) = some (a_na 305 - 1) := by decide +kernel
theorem ms_305 : Cond.selects (a_Rn (a_own 305)) (a_y 305) (a_y 305) ∈ lw_gd := a_m3 (i := 33) rfl rfl
theorem mk_306 : a_mk0 306 := ⟨by decide, by decide +kernel, ⟨by decide +kernel, by decide +kernel⟩, a_m1 (i := 20) rfl rfl, rfl⟩
theorem mc_306 : Cond.code (a_y 306) (a_c 306) (a_ml 306) (a_rt 306) ∈ lw_gd := a_m3 (i := 40) rfl rfl
theorem mh_306 : a_hh 306 = [] := rfl
theorem mi_306 : Cond.static (a_y 306) ∈ lw_gd := a_m3 (i := 39) rfl rfl
theorem mp_306 : (parseMethodDescriptor (a_y 306).desc).map (fun d => d.parameters.length) = some (a_na 306) := by decide +kernel
theorem mk_307 : a_mk0 307 := ⟨by decide, by decide +kernel, ⟨by decide +kernel, by decide +kernel⟩, a_m1 (i := 21) rfl rfl, rfl⟩
theorem mc_307 : Cond.code (a_y 307) (a_c 307) (a_ml 307) (a_rt 307) ∈ lw_gd := a_m3 (i := 37) rfl rfl
theorem mh_307 : a_hh 307 = [] := rfl
theorem mi_307 : Cond.static (a_y 307) ∈ lw_gd := a_m3 (i := 36) rfl rfl
theorem mp_307 : (parseMethodDescriptor (a_y 307).desc).map (fun d => d.parameters.length) = some (a_na 307) := by decide +kernel
theorem mk_308 : a_mk0 308 := ⟨by decide, by decide +kernel, ⟨by decide +kernel, by decide +kernel⟩, a_m1 (i := 8) rfl rfl, rfl⟩
theorem mc_308 : Cond.code (a_y 308) (a_c 308) (a_ml 308) (a_rt 308) ∈ lw_gd := a_m2 (i := 21) rfl rfl
theorem mh_308 : a_hh 308 = [] := rfl
theorem mi_308 : Cond.static (a_y 308) ∈ lw_gd := a_m2 (i := 20) rfl rfl
theorem mp_308 : (parseMethodDescriptor (a_y 308).desc).map (fun d => d.parameters.length) = some (a_na 308) := by decide +kernel
theorem mk_309 : a_mk0 309 := ⟨by decide, by decide +kernel, ⟨by decide +kernel, by decide +kernel⟩, a_m1 (i := 22) rfl rfl, rfl⟩
theorem mc_309 : Cond.code (a_y 309) (a_c 309) (a_ml 309) (a_rt 309) ∈ lw_gd := a_m3 (i := 45) rfl rfl
theorem mh_309 : a_hh 309 = [] := rfl
theorem mi_309 : Cond.static (a_y 309) ∈ lw_gd := a_m3 (i := 44) rfl rfl
theorem mp_309 : (parseMethodDescriptor (a_y 309).desc).map (fun d => d.parameters.length) = some (a_na 309) := by decide +kernel
theorem mk_310 : a_mk0 310 := ⟨by decide, by decide +kernel, ⟨by decide +kernel, by decide +kernel⟩, a_m1 (i := 0) rfl rfl, rfl⟩
theorem mc_310 : Cond.codeWith (a_y 310) (a_c 310) (a_ml 310) (a_rt 310) (a_hh 310) ∈ lw_gd := a_m3 (i := 209) rfl rfl
theorem mi_310 : Cond.static (a_y 310) ∈ lw_gd := a_m3 (i := 208) rfl rfl
theorem mp_310 : (parseMethodDescriptor (a_y 310).desc).map (fun d => d.parameters.length) = some (a_na 310) := by decide +kernel
theorem mk_311 : a_mk0 311 := ⟨by decide, by decide +kernel, ⟨by decide +kernel, by decide +kernel⟩, a_m1 (i := 0) rfl rfl, rfl⟩
theorem mc_311 : Cond.codeWith (a_y 311) (a_c 311) (a_ml 311) (a_rt 311) (a_hh 311) ∈ lw_gd := a_m4 (i := 49) rfl rfl
theorem mi_311 : Cond.static (a_y 311) ∈ lw_gd := a_m4 (i := 48) rfl rfl
theorem mp_311 : (parseMethodDescriptor (a_y 311).desc).map (fun d => d.parameters.length) = some (a_na 311) := by decide +kernel
theorem mk_312 : a_mk0 312 := ⟨by decide, by decide +kernel, ⟨by decide +kernel, by decide +kernel⟩, a_m1 (i := 0) rfl rfl, rfl⟩
theorem mc_312 : Cond.codeWith (a_y 312) (a_c 312) (a_ml 312) (a_rt 312) (a_hh 312) ∈ lw_gd := a_m4 (i := 75) rfl rfl
theorem mi_312 : Cond.static (a_y 312) ∈ lw_gd := a_m4 (i := 74) rfl rfl
theorem mp_312 : (parseMethodDescriptor (a_y 312).desc).map (fun d => d.parameters.length) = some (a_na 312) := by decide +kernel
theorem mk_313 : a_mk0 313 := ⟨by decide, by decide +kernel, ⟨by decide +kernel, by decide +kernel⟩, a_m1 (i := 0) rfl rfl, rfl⟩
theorem mc_313 : Cond.codeWith (a_y 313) (a_c 313) (a_ml 313) (a_rt 313) (a_hh 313) ∈ lw_gd := a_m4 (i := 103) rfl rfl
theorem mi_313 : Cond.static (a_y 313) ∈ lw_gd := a_m4 (i := 102) rfl rfl
theorem mp_313 : (parseMethodDescriptor (a_y 313).desc).map (fun d => d.parameters.length) = some (a_na 313) := by decide +kernel
theorem mk_314 : a_mk0 314 := ⟨by decide, by decide +kernel, ⟨by decide +kernel, by decide +kernel⟩, a_m1 (i := 0) rfl rfl, rfl⟩
theorem mc_314 : Cond.codeWith (a_y 314) (a_c 314) (a_ml 314) (a_rt 314) (a_hh 314) ∈ lw_gd := a_m4 (i := 110) rfl rfl
theorem mi_314 : Cond.static (a_y 314) ∈ lw_gd := a_m4 (i := 109) rfl rfl
theorem mp_314 : (parseMethodDescriptor (a_y 314).desc).map (fun d => d.parameters.length) = some (a_na 314) := by decide +kernel
theorem mk_315 : a_mk0 315 := ⟨by decide, by decide +kernel, ⟨by decide +kernel, by decide +kernel⟩, a_m1 (i := 0) rfl rfl, rfl⟩
theorem mc_315 : Cond.codeWith (a_y 315) (a_c 315) (a_ml 315) (a_rt 315) (a_hh 315) ∈ lw_gd := a_m4 (i := 117) rfl rfl
theorem mi_315 : Cond.static (a_y 315) ∈ lw_gd := a_m4 (i := 116) rfl rfl
theorem mp_315 : (parseMethodDescriptor (a_y 315).desc).map (fun d => d.parameters.length) = some (a_na 315) := by decide +kernel
theorem mk_316 : a_mk0 316 := ⟨by decide, by decide +kernel, ⟨by decide +kernel, by decide +kernel⟩, a_m1 (i := 0) rfl rfl, rfl⟩
theorem mc_316 : Cond.codeWith (a_y 316) (a_c 316) (a_ml 316) (a_rt 316) (a_hh 316) ∈ lw_gd := a_m4 (i := 124) rfl rfl
theorem mi_316 : Cond.static (a_y 316) ∈ lw_gd := a_m4 (i := 123) rfl rfl
theorem mp_316 : (parseMethodDescriptor (a_y 316).desc).map (fun d => d.parameters.length) = some (a_na 316) := by decide +kernel
theorem mk_317 : a_mk0 317 := ⟨by decide, by decide +kernel, ⟨by decide +kernel, by decide +kernel⟩, a_m1 (i := 0) rfl rfl, rfl⟩
theorem mc_317 : Cond.codeWith (a_y 317) (a_c 317) (a_ml 317) (a_rt 317) (a_hh 317) ∈ lw_gd := a_m4 (i := 132) rfl rfl
theorem mi_317 : Cond.static (a_y 317) ∈ lw_gd := a_m4 (i := 131) rfl rfl
theorem mp_317 : (parseMethodDescriptor (a_y 317).desc).map (fun d => d.parameters.length) = some (a_na 317) := by decide +kernel
theorem mk_318 : a_mk0 318 := ⟨by decide, by decide +kernel, ⟨by decide +kernel, by decide +kernel⟩, a_m1 (i := 0) rfl rfl, rfl⟩
theorem mc_318 : Cond.codeWith (a_y 318) (a_c 318) (a_ml 318) (a_rt 318) (a_hh 318) ∈ lw_gd := a_m4 (i := 139) rfl rfl
theorem mi_318 : Cond.static (a_y 318) ∈ lw_gd := a_m4 (i := 138) rfl rfl
theorem mp_318 : (parseMethodDescriptor (a_y 318).desc).map (fun d => d.parameters.length) = some (a_na 318) := by decide +kernel
theorem mk_319 : a_mk0 319 := ⟨by decide, by decide +kernel, ⟨by decide +kernel, by decide +kernel⟩, a_m1 (i := 0) rfl rfl, rfl⟩
theorem mc_319 : Cond.codeWith (a_y 319) (a_c 319) (a_ml 319) (a_rt 319) (a_hh 319) ∈ lw_gd := a_m4 (i := 147) rfl rfl
theorem mi_319 : Cond.static (a_y 319) ∈ lw_gd := a_m4 (i := 146) rfl rfl
theorem mp_319 : (parseMethodDescriptor (a_y 319).desc).map (fun d => d.parameters.length) = some (a_na 319) := by decide +kernel
theorem mk_320 : a_mk0 320 := ⟨by decide, by decide +kernel, ⟨by decide +kernel, by decide +kernel⟩, a_m1 (i := 0) rfl rfl, rfl⟩
theorem mc_320 : Cond.codeWith (a_y 320) (a_c 320) (a_ml 320) (a_rt 320) (a_hh 320) ∈ lw_gd := a_m4 (i := 168) rfl rfl
theorem mi_320 : Cond.static (a_y 320) ∈ lw_gd := a_m4 (i := 167) rfl rfl
theorem mp_320 : (parseMethodDescriptor (a_y 320).desc).map (fun d => d.parameters.length) = some (a_na 320) := by decide +kernel
theorem mk_321 : a_mk0 321 := ⟨by decide, by decide +kernel, ⟨by decide +kernel, by decide +kernel⟩, a_m1 (i := 0) rfl rfl, rfl⟩
theorem mc_321 : Cond.codeWith (a_y 321) (a_c 321) (a_ml 321) (a_rt 321) (a_hh 321) ∈ lw_gd := a_m4 (i := 175) rfl rfl
theorem mi_321 : Cond.static (a_y 321) ∈ lw_gd := a_m4 (i := 174) rfl rfl
theorem mp_321 : (parseMethodDescriptor (a_y 321).desc).map (fun d => d.parameters.length) = some (a_na 321) := by decide +kernel
theorem mk_322 : a_mk0 322 := ⟨by decide, by decide +kernel, ⟨by decide +kernel, by decide +kernel⟩, a_m1 (i := 0) rfl rfl, rfl⟩
theorem mc_322 : Cond.codeWith (a_y 322) (a_c 322) (a_ml 322) (a_rt 322) (a_hh 322) ∈ lw_gd := a_m4 (i := 197) rfl rfl
theorem mi_322 : Cond.static (a_y 322) ∈ lw_gd := a_m4 (i := 196) rfl rfl
theorem mp_322 : (parseMethodDescriptor (a_y 322).desc).map (fun d => d.parameters.length) = some (a_na 322) := by decide +kernel
theorem mk_323 : a_mk0 323 := ⟨by decide, by decide +kernel, ⟨by decide +kernel, by decide +kernel⟩, a_m1 (i := 0) rfl rfl, rfl⟩
theorem mc_323 : Cond.codeWith (a_y 323) (a_c 323) (a_ml 323) (a_rt 323) (a_hh 323) ∈ lw_gd := a_m4 (i := 216) rfl rfl
theorem mi_323 : Cond.static (a_y 323) ∈ lw_gd := a_m4 (i := 215) rfl rfl
theorem mp_323 : (parseMethodDescriptor (a_y 323).desc).map (fun d => d.parameters.length) = some (a_na 323) := by decide +kernel
theorem mk_324 : a_mk0 324 := ⟨by decide, by decide +kernel, ⟨by decide +kernel, by decide +kernel⟩, a_m1 (i := 0) rfl rfl, rfl⟩
theorem mc_324 : Cond.codeWith (a_y 324) (a_c 324) (a_ml 324) (a_rt 324) (a_hh 324) ∈ lw_gd := a_m4 (i := 236) rfl rfl
theorem mi_324 : Cond.static (a_y 324) ∈ lw_gd := a_m4 (i := 235) rfl rfl
theorem mp_324 : (parseMethodDescriptor (a_y 324).desc).map (fun d => d.parameters.length) = some (a_na 324) := by decide +kernel
theorem mk_325 : a_mk0 325 := ⟨by decide, by decide +kernel, ⟨by decide +kernel, by decide +kernel⟩, a_m1 (i := 0) rfl rfl, rfl⟩
theorem mc_325 : Cond.codeWith (a_y 325) (a_c 325) (a_ml 325) (a_rt 325) (a_hh 325) ∈ lw_gd := a_m5 (i := 19) rfl rfl
theorem mi_325 : Cond.static (a_y 325) ∈ lw_gd := a_m5 (i := 18) rfl rfl
theorem mp_325 : (parseMethodDescriptor (a_y 325).desc).map (fun d => d.parameters.length) = some (a_na 325) := by decide +kernel
theorem mk_326 : a_mk0 326 := ⟨by decide, by decide +kernel, ⟨by decide +kernel, by decide +kernel⟩, a_m1 (i := 0) rfl rfl, rfl⟩
theorem mc_326 : Cond.codeWith (a_y 326) (a_c 326) (a_ml 326) (a_rt 326) (a_hh 326) ∈ lw_gd := a_m5 (i := 33) rfl rfl
theorem mi_326 : Cond.static (a_y 326) ∈ lw_gd := a_m5 (i := 32) rfl rfl
theorem mp_326 : (parseMethodDescriptor (a_y 326).desc).map (fun d => d.parameters.length) = some (a_na 326) := by decide +kernel
theorem mk_327 : a_mk0 327 := ⟨by decide, by decide +kernel, ⟨by decide +kernel, by decide +kernel⟩, a_m1 (i := 0) rfl rfl, rfl⟩
theorem mc_327 : Cond.codeWith (a_y 327) (a_c 327) (a_ml 327) (a_rt 327) (a_hh 327) ∈ lw_gd := a_m5 (i := 45) rfl rfl
theorem mi_327 : Cond.static (a_y 327) ∈ lw_gd := a_m5 (i := 44) rfl rfl
theorem mp_327 : (parseMethodDescriptor (a_y 327).desc).map (fun d => d.parameters.length) = some (a_na 327) := by decide +kernel
theorem mk_328 : a_mk0 328 := ⟨by decide, by decide +kernel, ⟨by decide +kernel, by decide +kernel⟩, a_m1 (i := 0) rfl rfl, rfl⟩
theorem mc_328 : Cond.codeWith (a_y 328) (a_c 328) (a_ml 328) (a_rt 328) (a_hh 328) ∈ lw_gd := a_m5 (i := 56) rfl rfl
theorem mi_328 : Cond.static (a_y 328) ∈ lw_gd := a_m5 (i := 55) rfl rfl
theorem mp_328 : (parseMethodDescriptor (a_y 328).desc).map (fun d => d.parameters.length) = some (a_na 328) := by decide +kernel
theorem mk_329 : a_mk0 329 := ⟨by decide, by decide +kernel, ⟨by decide +kernel, by decide +kernel⟩, a_m1 (i := 0) rfl rfl, rfl⟩
theorem mc_329 : Cond.codeWith (a_y 329) (a_c 329) (a_ml 329) (a_rt 329) (a_hh 329) ∈ lw_gd := a_m5 (i := 63) rfl rfl
theorem mi_329 : Cond.static (a_y 329) ∈ lw_gd := a_m5 (i := 62) rfl rfl
theorem mp_329 : (parseMethodDescriptor (a_y 329).desc).map (fun d => d.parameters.length) = some (a_na 329) := by decide +kernel
theorem mk_330 : a_mk0 330 := ⟨by decide, by decide +kernel, ⟨by decide +kernel, by decide +kernel⟩, a_m1 (i := 0) rfl rfl, rfl⟩
theorem mc_330 : Cond.codeWith (a_y 330) (a_c 330) (a_ml 330) (a_rt 330) (a_hh 330) ∈ lw_gd := a_m5 (i := 74) rfl rfl
theorem mi_330 : Cond.static (a_y 330) ∈ lw_gd := a_m5 (i := 73) rfl rfl
theorem mp_330 : (parseMethodDescriptor (a_y 330).desc).map (fun d => d.parameters.length) = some (a_na 330) := by decide +kernel
theorem mk_331 : a_mk0 331 := ⟨by decide, by decide +kernel, ⟨by decide +kernel, by decide +kernel⟩, a_m1 (i := 0) rfl rfl, rfl⟩
theorem mc_331 : Cond.codeWith (a_y 331) (a_c 331) (a_ml 331) (a_rt 331) (a_hh 331) ∈ lw_gd := a_m5 (i := 86) rfl rfl
theorem mi_331 : Cond.static (a_y 331) ∈ lw_gd := a_m5 (i := 85) rfl rfl
theorem mp_331 : (parseMethodDescriptor (a_y 331).desc).map (fun d => d.parameters.length) = some (a_na 331) := by decide +kernel
theorem mk_332 : a_mk0 332 := ⟨by decide, by decide +kernel, ⟨by decide +kernel, by decide +kernel⟩, a_m1 (i := 0) rfl rfl, rfl⟩
theorem mc_332 : Cond.codeWith (a_y 332) (a_c 332) (a_ml 332) (a_rt 332) (a_hh 332) ∈ lw_gd := a_m5 (i := 94) rfl rfl
theorem mi_332 : Cond.static (a_y 332) ∈ lw_gd := a_m5 (i := 93) rfl rfl
theorem mp_332 : (parseMethodDescriptor (a_y 332).desc).map (fun d => d.parameters.length) = some (a_na 332) := by decide +kernel
theorem mk_333 : a_mk0 333 := ⟨by decide, by decide +kernel, ⟨by decide +kernel, by decide +kernel⟩, a_m1 (i := 0) rfl rfl, rfl⟩
theorem mc_333 : Cond.codeWith (a_y 333) (a_c 333) (a_ml 333) (a_rt 333) (a_hh 333) ∈ lw_gd := a_m5 (i := 105) rfl rfl
theorem mi_333 : Cond.static (a_y 333) ∈ lw_gd := a_m5 (i := 104) rfl rfl
theorem mp_333 : (parseMethodDescriptor (a_y 333).desc).map (fun d => d.parameters.length) = some (a_na 333) := by decide +kernel
theorem mk_334 : a_mk0 334 := ⟨by decide, by decide +kernel, ⟨by decide +kernel, by decide +kernel⟩, a_m1 (i := 0) rfl rfl, rfl⟩
theorem mc_334 : Cond.codeWith (a_y 334) (a_c 334) (a_ml 334) (a_rt 334) (a_hh 334) ∈ lw_gd := a_m5 (i := 112) rfl rfl
theorem mi_334 : Cond.static (a_y 334) ∈ lw_gd := a_m5 (i := 111) rfl rfl
theorem mp_334 : (parseMethodDescriptor (a_y 334).desc).map (fun d => d.parameters.length) = some (a_na 334) := by decide +kernel
theorem mk_335 : a_mk0 335 := ⟨by decide, by decide +kernel, ⟨by decide +kernel, by decide +kernel⟩, a_m1 (i := 0) rfl rfl, rfl⟩
theorem mc_335 : Cond.codeWith (a_y 335) (a_c 335) (a_ml 335) (a_rt 335) (a_hh 335) ∈ lw_gd := a_m5 (i := 120) rfl rfl
theorem mi_335 : Cond.static (a_y 335) ∈ lw_gd := a_m5 (i := 119) rfl rfl
theorem mp_335 : (parseMethodDescriptor (a_y 335).desc).map (fun d => d.parameters.length) = some (a_na 335) := by decide +kernel
theorem mk_336 : a_mk0 336 := ⟨by decide, by decide +kernel, ⟨by decide +kernel, by decide +kernel⟩, a_m1 (i := 0) rfl rfl, rfl⟩
theorem mc_336 : Cond.codeWith (a_y 336) (a_c 336) (a_ml 336) (a_rt 336) (a_hh 336) ∈ lw_gd := a_m5 (i := 127) rfl rfl
theorem mi_336 : Cond.static (a_y 336) ∈ lw_gd := a_m5 (i := 126) rfl rfl
theorem mp_336 : (parseMethodDescriptor (a_y 336).desc).map (fun d => d.parameters.length) = some (a_na 336) := by decide +kernel
theorem mk_337 : a_mk0 337 := ⟨by decide, by decide +kernel, ⟨by decide +kernel, by decide +kernel⟩, a_m1 (i := 0) rfl rfl, rfl⟩
theorem mc_337 : Cond.codeWith (a_y 337) (a_c 337) (a_ml 337) (a_rt 337) (a_hh 337) ∈ lw_gd := a_m5 (i := 134) rfl rfl
theorem mi_337 : Cond.static (a_y 337) ∈ lw_gd := a_m5 (i := 133) rfl rfl
theorem mp_337 : (parseMethodDescriptor (a_y 337).desc).map (fun d => d.parameters.length) = some (a_na 337) := by decide +kernel
theorem mk_338 : a_mk0 338 := ⟨by decide, by decide +kernel, ⟨by decide +kernel, by decide +kernel⟩, a_m1 (i := 0) rfl rfl, rfl⟩
theorem mc_338 : Cond.codeWith (a_y 338) (a_c 338) (a_ml 338) (a_rt 338) (a_hh 338) ∈ lw_gd := a_m5 (i := 151) rfl rfl
theorem mi_338 : Cond.static (a_y 338) ∈ lw_gd := a_m5 (i := 150) rfl rfl
theorem mp_338 : (parseMethodDescriptor (a_y 338).desc).map (fun d => d.parameters.length) = some (a_na 338) := by decide +kernel
theorem mk_339 : a_mk0 339 := ⟨by decide, by decide +kernel, ⟨by decide +kernel, by decide +kernel⟩, a_m1 (i := 0) rfl rfl, rfl⟩
theorem mc_339 : Cond.codeWith (a_y 339) (a_c 339) (a_ml 339) (a_rt 339) (a_hh 339) ∈ lw_gd := a_m5 (i := 232) rfl rfl
theorem mi_339 : Cond.static (a_y 339) ∈ lw_gd := a_m5 (i := 231) rfl rfl
theorem mp_339 : (parseMethodDescriptor (a_y 339).desc).map (fun d => d.parameters.length) = some (a_na 339) := by decide +kernel
theorem mk_340 : a_mk0 340 := ⟨by decide, by decide +kernel, ⟨by decide +kernel, by decide +kernel⟩, a_m1 (i := 0) rfl rfl, rfl⟩
theorem mc_340 : Cond.codeWith (a_y 340) (a_c 340) (a_ml 340) (a_rt 340) (a_hh 340) ∈ lw_gd := a_m6 (i := 9) rfl rfl
theorem mi_340 : Cond.static (a_y 340) ∈ lw_gd := a_m6 (i := 8) rfl rfl
theorem mp_340 : (parseMethodDescriptor (a_y 340).desc).map (fun d => d.parameters.length) = some (a_na 340) := by decide +kernel
theorem mk_341 : a_mk0 341 := ⟨by decide, by decide +kernel, ⟨by decide +kernel, by decide +kernel⟩, a_m1 (i := 0) rfl rfl, rfl⟩
theorem mc_341 : Cond.codeWith (a_y 341) (a_c 341) (a_ml 341) (a_rt 341) (a_hh 341) ∈ lw_gd := a_m6 (i := 16) rfl rfl
theorem mi_341 : Cond.static (a_y 341) ∈ lw_gd := a_m6 (i := 15) rfl rfl
theorem mp_341 : (parseMethodDescriptor (a_y 341).desc).map (fun d => d.parameters.length) = some (a_na 341) := by decide +kernel
theorem mk_342 : a_mk0 342 := ⟨by decide, by decide +kernel, ⟨by decide +kernel, by decide +kernel⟩, a_m1 (i := 0) rfl rfl, rfl⟩
theorem mc_342 : Cond.codeWith (a_y 342) (a_c 342) (a_ml 342) (a_rt 342) (a_hh 342) ∈ lw_gd := a_m6 (i := 23) rfl rfl
theorem mi_342 : Cond.static (a_y 342) ∈ lw_gd := a_m6 (i := 22) rfl rfl
theorem mp_342 : (parseMethodDescriptor (a_y 342).desc).map (fun d => d.parameters.length) = some (a_na 342) := by decide +kernel
theorem mk_343 : a_mk0 343 := ⟨by decide, by decide +kernel, ⟨by decide +kernel, by decide +kernel⟩, a_m1 (i := 0) rfl rfl, rfl⟩
theorem mc_343 : Cond.codeWith (a_y 343) (a_c 343) (a_ml 343) (a_rt 343) (a_hh 343) ∈ lw_gd := a_m6 (i := 30) rfl rfl
theorem mi_343 : Cond.static (a_y 343) ∈ lw_gd := a_m6 (i := 29) rfl rfl
theorem mp_343 : (parseMethodDescriptor (a_y 343).desc).map (fun d => d.parameters.length) = some (a_na 343) := by decide +kernel
theorem mk_344 : a_mk0 344 := ⟨by decide, by decide +kernel, ⟨by decide +kernel, by decide +kernel⟩, a_m1 (i := 0) rfl rfl, rfl⟩
theorem mc_344 : Cond.codeWith (a_y 344) (a_c 344) (a_ml 344) (a_rt 344) (a_hh 344) ∈ lw_gd := a_m6 (i := 41) rfl rfl
theorem mi_344 : Cond.static (a_y 344) ∈ lw_gd := a_m6 (i := 40) rfl rfl
theorem mp_344 : (parseMethodDescriptor (a_y 344).desc).map (fun d => d.parameters.length) = some (a_na 344) := by decide +kernel
theorem mk_345 : a_mk0 345 := ⟨by decide, by decide +kernel, ⟨by decide +kernel, by decide +kernel⟩, a_m1 (i := 0) rfl rfl, rfl⟩
theorem mc_345 : Cond.codeWith (a_y 345) (a_c 345) (a_ml 345) (a_rt 345) (a_hh 345) ∈ lw_gd := a_m6 (i := 54) rfl rfl
theorem mi_345 : Cond.static (a_y 345) ∈ lw_gd := a_m6 (i := 53) rfl rfl
theorem mp_345 : (parseMethodDescriptor (a_y 345).desc).map (fun d => d.parameters.length) = some (a_na 345) := by decide +kernel
theorem mk_346 : a_mk0 346 := ⟨by decide, by decide +kernel, ⟨by decide +kernel, by decide +kernel⟩, a_m1 (i := 0) rfl rfl, rfl⟩
theorem mc_346 : Cond.codeWith (a_y 346) (a_c 346) (a_ml 346) (a_rt 346) (a_hh 346) ∈ lw_gd := a_m6 (i := 65) rfl rfl
theorem mi_346 : Cond.static (a_y 346) ∈ lw_gd := a_m6 (i := 64) rfl rfl
theorem mp_346 : (parseMethodDescriptor (a_y 346).desc).map (fun d => d.parameters.length) = some (a_na 346) := by decide +kernel
theorem mk_347 : a_mk0 347 := ⟨by decide, by decide +kernel, ⟨by decide +kernel, by decide +kernel⟩, a_m1 (i := 0) rfl rfl, rfl⟩
theorem mc_347 : Cond.codeWith (a_y 347) (a_c 347) (a_ml 347) (a_rt 347) (a_hh 347) ∈ lw_gd := a_m6 (i := 72) rfl rfl
theorem mi_347 : Cond.static (a_y 347) ∈ lw_gd := a_m6 (i := 71) rfl rfl
theorem mp_347 : (parseMethodDescriptor (a_y 347).desc).map (fun d => d.parameters.length) = some (a_na 347) := by decide +kernel
theorem mk_348 : a_mk0 348 := ⟨by decide, by decide +kernel, ⟨by decide +kernel, by decide +kernel⟩, a_m1 (i := 0) rfl rfl, rfl⟩
theorem mc_348 : Cond.codeWith (a_y 348) (a_c 348) (a_ml 348) (a_rt 348) (a_hh 348) ∈ lw_gd := a_m6 (i := 79) rfl rfl
theorem mi_348 : Cond.static (a_y 348) ∈ lw_gd := a_m6 (i := 78) rfl rfl
theorem mp_348 : (parseMethodDescriptor (a_y 348).desc).map (fun d => d.parameters.length) = some (a_na 348) := by decide +kernel
theorem mk_349 : a_mk0 349 := ⟨by decide, by decide +kernel, ⟨by decide +kernel, by decide +kernel⟩, a_m1 (i := 0) rfl rfl, rfl⟩
theorem mc_349 : Cond.codeWith (a_y 349) (a_c 349) (a_ml 349) (a_rt 349) (a_hh 349) ∈ lw_gd := a_m6 (i := 94) rfl rfl
theorem mi_349 : Cond.static (a_y 349) ∈ lw_gd := a_m6 (i := 93) rfl rfl
theorem mp_349 : (parseMethodDescriptor (a_y 349).desc).map (fun d => d.parameters.length) = some (a_na 349) := by decide +kernel
theorem mk_350 : a_mk0 350 := ⟨by decide, by decide +kernel, ⟨by decide +kernel, by decide +kernel⟩, a_m1 (i := 0) rfl rfl, rfl⟩
theorem mc_350 : Cond.codeWith (a_y 350) (a_c 350) (a_ml 350) (a_rt 350) (a_hh 350) ∈ lw_gd := a_m6 (i := 105) rfl rfl
theorem mi_350 : Cond.static (a_y 350) ∈ lw_gd := a_m6 (i := 104) rfl rfl
theorem mp_350 : (parseMethodDescriptor (a_y 350).desc).map (fun d => d.parameters.length) = some (a_na 350) := by decide +kernel
theorem mk_351 : a_mk0 351 := ⟨by decide, by decide +kernel, ⟨by decide +kernel, by decide +kernel⟩, a_m1 (i := 0) rfl rfl, rfl⟩
theorem mc_351 : Cond.codeWith (a_y 351) (a_c 351) (a_ml 351) (a_rt 351) (a_hh 351) ∈ lw_gd := a_m6 (i := 121) rfl rfl
theorem mi_351 : Cond.static (a_y 351) ∈ lw_gd := a_m6 (i := 120) rfl rfl
theorem mp_351 : (parseMethodDescriptor (a_y 351).desc).map (fun d => d.parameters.length) = some (a_na 351) := by decide +kernel
theorem mk_352 : a_mk0 352 := ⟨by decide, by decide +kernel, ⟨by decide +kernel, by decide +kernel⟩, a_m1 (i := 0) rfl rfl, rfl⟩
theorem mc_352 : Cond.codeWith (a_y 352) (a_c 352) (a_ml 352) (a_rt 352) (a_hh 352) ∈ lw_gd := a_m6 (i := 128) rfl rfl
theorem mi_352 : Cond.static (a_y 352) ∈ lw_gd := a_m6 (i := 127) rfl rfl
theorem mp_352 : (parseMethodDescriptor (a_y 352).desc).map (fun d => d.parameters.length) = some (a_na 352) := by decide +kernel
theorem mk_353 : a_mk0 353 := ⟨by decide, by decide +kernel, ⟨by decide +kernel, by decide +kernel⟩, a_m1 (i := 0) rfl rfl, rfl⟩
theorem mc_353 : Cond.codeWith (a_y 353) (a_c 353) (a_ml 353) (a_rt 353) (a_hh 353) ∈ lw_gd := a_m6 (i := 135) rfl rfl
theorem mi_353 : Cond.static (a_y 353) ∈ lw_gd := a_m6 (i := 134) rfl rfl
theorem mp_353 : (parseMethodDescriptor (a_y 353).desc).map (fun d => d.parameters.length) = some (a_na 353) := by decide +kernel
