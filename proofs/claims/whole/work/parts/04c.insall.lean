theorem iq_354 : a_iq 354 := by
  intro pc i len h
  have h : (bif Nat.blt pc 1718 then (bif Nat.blt pc 992 then (bif Nat.blt pc 619 then (bif Nat.blt pc 435 then (bif Nat.blt pc 348 then (a_find ki_354_0 pc) else (a_find ki_354_1 pc)) else (bif Nat.blt pc 525 then (a_find ki_354_2 pc) else (a_find ki_354_3 pc))) else (bif Nat.blt pc 807 then (bif Nat.blt pc 712 then (a_find ki_354_4 pc) else (a_find ki_354_5 pc)) else (bif Nat.blt pc 903 then (a_find ki_354_6 pc) else (a_find ki_354_7 pc)))) else (bif Nat.blt pc 1355 then (bif Nat.blt pc 1172 then (bif Nat.blt pc 1082 then (a_find ki_354_8 pc) else (a_find ki_354_9 pc)) else (bif Nat.blt pc 1268 then (a_find ki_354_10 pc) else (a_find ki_354_11 pc))) else (bif Nat.blt pc 1538 then (bif Nat.blt pc 1444 then (a_find ki_354_12 pc) else (a_find ki_354_13 pc)) else (bif Nat.blt pc 1627 then (a_find ki_354_14 pc) else (a_find ki_354_15 pc))))) else (bif Nat.blt pc 2490 then (bif Nat.blt pc 2095 then (bif Nat.blt pc 1909 then (bif Nat.blt pc 1816 then (a_find ki_354_16 pc) else (a_find ki_354_17 pc)) else (bif Nat.blt pc 2002 then (a_find ki_354_18 pc) else (a_find ki_354_19 pc))) else (bif Nat.blt pc 2297 then (bif Nat.blt pc 2196 then (a_find ki_354_20 pc) else (a_find ki_354_21 pc)) else (bif Nat.blt pc 2394 then (a_find ki_354_22 pc) else (a_find ki_354_23 pc)))) else (bif Nat.blt pc 2863 then (bif Nat.blt pc 2673 then (bif Nat.blt pc 2579 then (a_find ki_354_24 pc) else (a_find ki_354_25 pc)) else (bif Nat.blt pc 2773 then (a_find ki_354_26 pc) else (a_find ki_354_27 pc))) else (bif Nat.blt pc 3069 then (bif Nat.blt pc 2972 then (a_find ki_354_28 pc) else (a_find ki_354_29 pc)) else (bif Nat.blt pc 3165 then (a_find ki_354_30 pc) else (bif Nat.blt pc 3265 then (a_find ki_354_31 pc) else (a_find ki_354_32 pc))))))) = some (i, len) := h
  cases hb : Nat.blt pc 1718 with
  | true =>
    simp only [hb, cond_true] at h
    cases hb : Nat.blt pc 992 with
    | true =>
      simp only [hb, cond_true] at h
      cases hb : Nat.blt pc 619 with
      | true =>
        simp only [hb, cond_true] at h
        cases hb : Nat.blt pc 435 with
        | true =>
          simp only [hb, cond_true] at h
          cases hb : Nat.blt pc 348 with
          | true =>
            simp only [hb, cond_true] at h
            exact a_io_ok ih_354_0 h
          | false =>
            simp only [hb, cond_false] at h
            exact a_io_ok ih_354_1 h
        | false =>
          simp only [hb, cond_false] at h
          cases hb : Nat.blt pc 525 with
          | true =>
            simp only [hb, cond_true] at h
            exact a_io_ok ih_354_2 h
          | false =>
            simp only [hb, cond_false] at h
            exact a_io_ok ih_354_3 h
      | false =>
        simp only [hb, cond_false] at h
        cases hb : Nat.blt pc 807 with
        | true =>
          simp only [hb, cond_true] at h
          cases hb : Nat.blt pc 712 with
          | true =>
            simp only [hb, cond_true] at h
            exact a_io_ok ih_354_4 h
          | false =>
            simp only [hb, cond_false] at h
            exact a_io_ok ih_354_5 h
        | false =>
          simp only [hb, cond_false] at h
          cases hb : Nat.blt pc 903 with
          | true =>
            simp only [hb, cond_true] at h
            exact a_io_ok ih_354_6 h
          | false =>
            simp only [hb, cond_false] at h
            exact a_io_ok ih_354_7 h
    | false =>
      simp only [hb, cond_false] at h
      cases hb : Nat.blt pc 1355 with
      | true =>
        simp only [hb, cond_true] at h
        cases hb : Nat.blt pc 1172 with
        | true =>
          simp only [hb, cond_true] at h
          cases hb : Nat.blt pc 1082 with
          | true =>
            simp only [hb, cond_true] at h
            exact a_io_ok ih_354_8 h
          | false =>
            simp only [hb, cond_false] at h
            exact a_io_ok ih_354_9 h
        | false =>
          simp only [hb, cond_false] at h
          cases hb : Nat.blt pc 1268 with
          | true =>
            simp only [hb, cond_true] at h
            exact a_io_ok ih_354_10 h
          | false =>
            simp only [hb, cond_false] at h
            exact a_io_ok ih_354_11 h
      | false =>
        simp only [hb, cond_false] at h
        cases hb : Nat.blt pc 1538 with
        | true =>
          simp only [hb, cond_true] at h
          cases hb : Nat.blt pc 1444 with
          | true =>
            simp only [hb, cond_true] at h
            exact a_io_ok ih_354_12 h
          | false =>
            simp only [hb, cond_false] at h
            exact a_io_ok ih_354_13 h
        | false =>
          simp only [hb, cond_false] at h
          cases hb : Nat.blt pc 1627 with
          | true =>
            simp only [hb, cond_true] at h
            exact a_io_ok ih_354_14 h
          | false =>
            simp only [hb, cond_false] at h
            exact a_io_ok ih_354_15 h
  | false =>
    simp only [hb, cond_false] at h
    cases hb : Nat.blt pc 2490 with
    | true =>
      simp only [hb, cond_true] at h
      cases hb : Nat.blt pc 2095 with
      | true =>
        simp only [hb, cond_true] at h
        cases hb : Nat.blt pc 1909 with
        | true =>
          simp only [hb, cond_true] at h
          cases hb : Nat.blt pc 1816 with
          | true =>
            simp only [hb, cond_true] at h
            exact a_io_ok ih_354_16 h
          | false =>
            simp only [hb, cond_false] at h
            exact a_io_ok ih_354_17 h
        | false =>
          simp only [hb, cond_false] at h
          cases hb : Nat.blt pc 2002 with
          | true =>
            simp only [hb, cond_true] at h
            exact a_io_ok ih_354_18 h
          | false =>
            simp only [hb, cond_false] at h
            exact a_io_ok ih_354_19 h
      | false =>
        simp only [hb, cond_false] at h
        cases hb : Nat.blt pc 2297 with
        | true =>
          simp only [hb, cond_true] at h
          cases hb : Nat.blt pc 2196 with
          | true =>
            simp only [hb, cond_true] at h
            exact a_io_ok ih_354_20 h
          | false =>
            simp only [hb, cond_false] at h
            exact a_io_ok ih_354_21 h
        | false =>
          simp only [hb, cond_false] at h
          cases hb : Nat.blt pc 2394 with
          | true =>
            simp only [hb, cond_true] at h
            exact a_io_ok ih_354_22 h
          | false =>
            simp only [hb, cond_false] at h
            exact a_io_ok ih_354_23 h
    | false =>
      simp only [hb, cond_false] at h
      cases hb : Nat.blt pc 2863 with
      | true =>
        simp only [hb, cond_true] at h
        cases hb : Nat.blt pc 2673 with
        | true =>
          simp only [hb, cond_true] at h
          cases hb : Nat.blt pc 2579 with
          | true =>
            simp only [hb, cond_true] at h
            exact a_io_ok ih_354_24 h
          | false =>
            simp only [hb, cond_false] at h
            exact a_io_ok ih_354_25 h
        | false =>
          simp only [hb, cond_false] at h
          cases hb : Nat.blt pc 2773 with
          | true =>
            simp only [hb, cond_true] at h
            exact a_io_ok ih_354_26 h
          | false =>
            simp only [hb, cond_false] at h
            exact a_io_ok ih_354_27 h
      | false =>
        simp only [hb, cond_false] at h
        cases hb : Nat.blt pc 3069 with
        | true =>
          simp only [hb, cond_true] at h
          cases hb : Nat.blt pc 2972 with
          | true =>
            simp only [hb, cond_true] at h
            exact a_io_ok ih_354_28 h
          | false =>
            simp only [hb, cond_false] at h
            exact a_io_ok ih_354_29 h
        | false =>
          simp only [hb, cond_false] at h
          cases hb : Nat.blt pc 3165 with
          | true =>
            simp only [hb, cond_true] at h
            exact a_io_ok ih_354_30 h
          | false =>
            simp only [hb, cond_false] at h
            cases hb : Nat.blt pc 3265 with
            | true =>
              simp only [hb, cond_true] at h
              exact a_io_ok ih_354_31 h
            | false =>
              simp only [hb, cond_false] at h
              exact a_io_ok ih_354_32 h
theorem a_iq_all : ∀ f, 0 ≤ f → f < 355 → a_iq f := a_spl (m := 177) (a_spl (m := 88) (a_spl (m := 44) (a_spl (m := 22) (a_spl (m := 11) (a_spl (m := 5) (a_spl (m := 2) (a_spl (m := 1) (a_sp1 iq_0) (a_sp1 iq_1)) (a_spl (m := 3) (a_sp1 iq_2) (a_spl (m := 4) (a_sp1 iq_3) (a_sp1 iq_4)))) (a_spl (m := 8) (a_spl (m := 6) (a_sp1 iq_5) (a_spl (m := 7) (a_sp1 iq_6) (a_sp1 iq_7))) (a_spl (m := 9) (a_sp1 iq_8) (a_spl (m := 10) (a_sp1 iq_9) (a_sp1 iq_10))))) (a_spl (m := 16) (a_spl (m := 13) (a_spl (m := 12) (a_sp1 iq_11) (a_sp1 iq_12)) (a_spl (m := 14) (a_sp1 iq_13) (a_spl (m := 15) (a_sp1 iq_14) (a_sp1 iq_15)))) (a_spl (m := 19) (a_spl (m := 17) (a_sp1 iq_16) (a_spl (m := 18) (a_sp1 iq_17) (a_sp1 iq_18))) (a_spl (m := 20) (a_sp1 iq_19) (a_spl (m := 21) (a_sp1 iq_20) (a_sp1 iq_21)))))) (a_spl (m := 33) (a_spl (m := 27) (a_spl (m := 24) (a_spl (m := 23) (a_sp1 iq_22) (a_sp1 iq_23)) (a_spl (m := 25) (a_sp1 iq_24) (a_spl (m := 26) (a_sp1 iq_25) (a_sp1 iq_26)))) (a_spl (m := 30) (a_spl (m := 28) (a_sp1 iq_27) (a_spl (m := 29) (a_sp1 iq_28) (a_sp1 iq_29))) (a_spl (m := 31) (a_sp1 iq_30) (a_spl (m := 32) (a_sp1 iq_31) (a_sp1 iq_32))))) (a_spl (m := 38) (a_spl (m := 35) (a_spl (m := 34) (a_sp1 iq_33) (a_sp1 iq_34)) (a_spl (m := 36) (a_sp1 iq_35) (a_spl (m := 37) (a_sp1 iq_36) (a_sp1 iq_37)))) (a_spl (m := 41) (a_spl (m := 39) (a_sp1 iq_38) (a_spl (m := 40) (a_sp1 iq_39) (a_sp1 iq_40))) (a_spl (m := 42) (a_sp1 iq_41) (a_spl (m := 43) (a_sp1 iq_42) (a_sp1 iq_43))))))) (a_spl (m := 66) (a_spl (m := 55) (a_spl (m := 49) (a_spl (m := 46) (a_spl (m := 45) (a_sp1 iq_44) (a_sp1 iq_45)) (a_spl (m := 47) (a_sp1 iq_46) (a_spl (m := 48) (a_sp1 iq_47) (a_sp1 iq_48)))) (a_spl (m := 52) (a_spl (m := 50) (a_sp1 iq_49) (a_spl (m := 51) (a_sp1 iq_50) (a_sp1 iq_51))) (a_spl (m := 53) (a_sp1 iq_52) (a_spl (m := 54) (a_sp1 iq_53) (a_sp1 iq_54))))) (a_spl (m := 60) (a_spl (m := 57) (a_spl (m := 56) (a_sp1 iq_55) (a_sp1 iq_56)) (a_spl (m := 58) (a_sp1 iq_57) (a_spl (m := 59) (a_sp1 iq_58) (a_sp1 iq_59)))) (a_spl (m := 63) (a_spl (m := 61) (a_sp1 iq_60) (a_spl (m := 62) (a_sp1 iq_61) (a_sp1 iq_62))) (a_spl (m := 64) (a_sp1 iq_63) (a_spl (m := 65) (a_sp1 iq_64) (a_sp1 iq_65)))))) (a_spl (m := 77) (a_spl (m := 71) (a_spl (m := 68) (a_spl (m := 67) (a_sp1 iq_66) (a_sp1 iq_67)) (a_spl (m := 69) (a_sp1 iq_68) (a_spl (m := 70) (a_sp1 iq_69) (a_sp1 iq_70)))) (a_spl (m := 74) (a_spl (m := 72) (a_sp1 iq_71) (a_spl (m := 73) (a_sp1 iq_72) (a_sp1 iq_73))) (a_spl (m := 75) (a_sp1 iq_74) (a_spl (m := 76) (a_sp1 iq_75) (a_sp1 iq_76))))) (a_spl (m := 82) (a_spl (m := 79) (a_spl (m := 78) (a_sp1 iq_77) (a_sp1 iq_78)) (a_spl (m := 80) (a_sp1 iq_79) (a_spl (m := 81) (a_sp1 iq_80) (a_sp1 iq_81)))) (a_spl (m := 85) (a_spl (m := 83) (a_sp1 iq_82) (a_spl (m := 84) (a_sp1 iq_83) (a_sp1 iq_84))) (a_spl (m := 86) (a_sp1 iq_85) (a_spl (m := 87) (a_sp1 iq_86) (a_sp1 iq_87)))))))) (a_spl (m := 132) (a_spl (m := 110) (a_spl (m := 99) (a_spl (m := 93) (a_spl (m := 90) (a_spl (m := 89) (a_sp1 iq_88) (a_sp1 iq_89)) (a_spl (m := 91) (a_sp1 iq_90) (a_spl (m := 92) (a_sp1 iq_91) (a_sp1 iq_92)))) (a_spl (m := 96) (a_spl (m := 94) (a_sp1 iq_93) (a_spl (m := 95) (a_sp1 iq_94) (a_sp1 iq_95))) (a_spl (m := 97) (a_sp1 iq_96) (a_spl (m := 98) (a_sp1 iq_97) (a_sp1 iq_98))))) (a_spl (m := 104) (a_spl (m := 101) (a_spl (m := 100) (a_sp1 iq_99) (a_sp1 iq_100)) (a_spl (m := 102) (a_sp1 iq_101) (a_spl (m := 103) (a_sp1 iq_102) (a_sp1 iq_103)))) (a_spl (m := 107) (a_spl (m := 105) (a_sp1 iq_104) (a_spl (m := 106) (a_sp1 iq_105) (a_sp1 iq_106))) (a_spl (m := 108) (a_sp1 iq_107) (a_spl (m := 109) (a_sp1 iq_108) (a_sp1 iq_109)))))) (a_spl (m := 121) (a_spl (m := 115) (a_spl (m := 112) (a_spl (m := 111) (a_sp1 iq_110) (a_sp1 iq_111)) (a_spl (m := 113) (a_sp1 iq_112) (a_spl (m := 114) (a_sp1 iq_113) (a_sp1 iq_114)))) (a_spl (m := 118) (a_spl (m := 116) (a_sp1 iq_115) (a_spl (m := 117) (a_sp1 iq_116) (a_sp1 iq_117))) (a_spl (m := 119) (a_sp1 iq_118) (a_spl (m := 120) (a_sp1 iq_119) (a_sp1 iq_120))))) (a_spl (m := 126) (a_spl (m := 123) (a_spl (m := 122) (a_sp1 iq_121) (a_sp1 iq_122)) (a_spl (m := 124) (a_sp1 iq_123) (a_spl (m := 125) (a_sp1 iq_124) (a_sp1 iq_125)))) (a_spl (m := 129) (a_spl (m := 127) (a_sp1 iq_126) (a_spl (m := 128) (a_sp1 iq_127) (a_sp1 iq_128))) (a_spl (m := 130) (a_sp1 iq_129) (a_spl (m := 131) (a_sp1 iq_130) (a_sp1 iq_131))))))) (a_spl (m := 154) (a_spl (m := 143) (a_spl (m := 137) (a_spl (m := 134) (a_spl (m := 133) (a_sp1 iq_132) (a_sp1 iq_133)) (a_spl (m := 135) (a_sp1 iq_134) (a_spl (m := 136) (a_sp1 iq_135) (a_sp1 iq_136)))) (a_spl (m := 140) (a_spl (m := 138) (a_sp1 iq_137) (a_spl (m := 139) (a_sp1 iq_138) (a_sp1 iq_139))) (a_spl (m := 141) (a_sp1 iq_140) (a_spl (m := 142) (a_sp1 iq_141) (a_sp1 iq_142))))) (a_spl (m := 148) (a_spl (m := 145) (a_spl (m := 144) (a_sp1 iq_143) (a_sp1 iq_144)) (a_spl (m := 146) (a_sp1 iq_145) (a_spl (m := 147) (a_sp1 iq_146) (a_sp1 iq_147)))) (a_spl (m := 151) (a_spl (m := 149) (a_sp1 iq_148) (a_spl (m := 150) (a_sp1 iq_149) (a_sp1 iq_150))) (a_spl (m := 152) (a_sp1 iq_151) (a_spl (m := 153) (a_sp1 iq_152) (a_sp1 iq_153)))))) (a_spl (m := 165) (a_spl (m := 159) (a_spl (m := 156) (a_spl (m := 155) (a_sp1 iq_154) (a_sp1 iq_155)) (a_spl (m := 157) (a_sp1 iq_156) (a_spl (m := 158) (a_sp1 iq_157) (a_sp1 iq_158)))) (a_spl (m := 162) (a_spl (m := 160) (a_sp1 iq_159) (a_spl (m := 161) (a_sp1 iq_160) (a_sp1 iq_161))) (a_spl (m := 163) (a_sp1 iq_162) (a_spl (m := 164) (a_sp1 iq_163) (a_sp1 iq_164))))) (a_spl (m := 171) (a_spl (m := 168) (a_spl (m := 166) (a_sp1 iq_165) (a_spl (m := 167) (a_sp1 iq_166) (a_sp1 iq_167))) (a_spl (m := 169) (a_sp1 iq_168) (a_spl (m := 170) (a_sp1 iq_169) (a_sp1 iq_170)))) (a_spl (m := 174) (a_spl (m := 172) (a_sp1 iq_171) (a_spl (m := 173) (a_sp1 iq_172) (a_sp1 iq_173))) (a_spl (m := 175) (a_sp1 iq_174) (a_spl (m := 176) (a_sp1 iq_175) (a_sp1 iq_176))))))))) (a_spl (m := 266) (a_spl (m := 221) (a_spl (m := 199) (a_spl (m := 188) (a_spl (m := 182) (a_spl (m := 179) (a_spl (m := 178) (a_sp1 iq_177) (a_sp1 iq_178)) (a_spl (m := 180) (a_sp1 iq_179) (a_spl (m := 181) (a_sp1 iq_180) (a_sp1 iq_181)))) (a_spl (m := 185) (a_spl (m := 183) (a_sp1 iq_182) (a_spl (m := 184) (a_sp1 iq_183) (a_sp1 iq_184))) (a_spl (m := 186) (a_sp1 iq_185) (a_spl (m := 187) (a_sp1 iq_186) (a_sp1 iq_187))))) (a_spl (m := 193) (a_spl (m := 190) (a_spl (m := 189) (a_sp1 iq_188) (a_sp1 iq_189)) (a_spl (m := 191) (a_sp1 iq_190) (a_spl (m := 192) (a_sp1 iq_191) (a_sp1 iq_192)))) (a_spl (m := 196) (a_spl (m := 194) (a_sp1 iq_193) (a_spl (m := 195) (a_sp1 iq_194) (a_sp1 iq_195))) (a_spl (m := 197) (a_sp1 iq_196) (a_spl (m := 198) (a_sp1 iq_197) (a_sp1 iq_198)))))) (a_spl (m := 210) (a_spl (m := 204) (a_spl (m := 201) (a_spl (m := 200) (a_sp1 iq_199) (a_sp1 iq_200)) (a_spl (m := 202) (a_sp1 iq_201) (a_spl (m := 203) (a_sp1 iq_202) (a_sp1 iq_203)))) (a_spl (m := 207) (a_spl (m := 205) (a_sp1 iq_204) (a_spl (m := 206) (a_sp1 iq_205) (a_sp1 iq_206))) (a_spl (m := 208) (a_sp1 iq_207) (a_spl (m := 209) (a_sp1 iq_208) (a_sp1 iq_209))))) (a_spl (m := 215) (a_spl (m := 212) (a_spl (m := 211) (a_sp1 iq_210) (a_sp1 iq_211)) (a_spl (m := 213) (a_sp1 iq_212) (a_spl (m := 214) (a_sp1 iq_213) (a_sp1 iq_214)))) (a_spl (m := 218) (a_spl (m := 216) (a_sp1 iq_215) (a_spl (m := 217) (a_sp1 iq_216) (a_sp1 iq_217))) (a_spl (m := 219) (a_sp1 iq_218) (a_spl (m := 220) (a_sp1 iq_219) (a_sp1 iq_220))))))) (a_spl (m := 243) (a_spl (m := 232) (a_spl (m := 226) (a_spl (m := 223) (a_spl (m := 222) (a_sp1 iq_221) (a_sp1 iq_222)) (a_spl (m := 224) (a_sp1 iq_223) (a_spl (m := 225) (a_sp1 iq_224) (a_sp1 iq_225)))) (a_spl (m := 229) (a_spl (m := 227) (a_sp1 iq_226) (a_spl (m := 228) (a_sp1 iq_227) (a_sp1 iq_228))) (a_spl (m := 230) (a_sp1 iq_229) (a_spl (m := 231) (a_sp1 iq_230) (a_sp1 iq_231))))) (a_spl (m := 237) (a_spl (m := 234) (a_spl (m := 233) (a_sp1 iq_232) (a_sp1 iq_233)) (a_spl (m := 235) (a_sp1 iq_234) (a_spl (m := 236) (a_sp1 iq_235) (a_sp1 iq_236)))) (a_spl (m := 240) (a_spl (m := 238) (a_sp1 iq_237) (a_spl (m := 239) (a_sp1 iq_238) (a_sp1 iq_239))) (a_spl (m := 241) (a_sp1 iq_240) (a_spl (m := 242) (a_sp1 iq_241) (a_sp1 iq_242)))))) (a_spl (m := 254) (a_spl (m := 248) (a_spl (m := 245) (a_spl (m := 244) (a_sp1 iq_243) (a_sp1 iq_244)) (a_spl (m := 246) (a_sp1 iq_245) (a_spl (m := 247) (a_sp1 iq_246) (a_sp1 iq_247)))) (a_spl (m := 251) (a_spl (m := 249) (a_sp1 iq_248) (a_spl (m := 250) (a_sp1 iq_249) (a_sp1 iq_250))) (a_spl (m := 252) (a_sp1 iq_251) (a_spl (m := 253) (a_sp1 iq_252) (a_sp1 iq_253))))) (a_spl (m := 260) (a_spl (m := 257) (a_spl (m := 255) (a_sp1 iq_254) (a_spl (m := 256) (a_sp1 iq_255) (a_sp1 iq_256))) (a_spl (m := 258) (a_sp1 iq_257) (a_spl (m := 259) (a_sp1 iq_258) (a_sp1 iq_259)))) (a_spl (m := 263) (a_spl (m := 261) (a_sp1 iq_260) (a_spl (m := 262) (a_sp1 iq_261) (a_sp1 iq_262))) (a_spl (m := 264) (a_sp1 iq_263) (a_spl (m := 265) (a_sp1 iq_264) (a_sp1 iq_265)))))))) (a_spl (m := 310) (a_spl (m := 288) (a_spl (m := 277) (a_spl (m := 271) (a_spl (m := 268) (a_spl (m := 267) (a_sp1 iq_266) (a_sp1 iq_267)) (a_spl (m := 269) (a_sp1 iq_268) (a_spl (m := 270) (a_sp1 iq_269) (a_sp1 iq_270)))) (a_spl (m := 274) (a_spl (m := 272) (a_sp1 iq_271) (a_spl (m := 273) (a_sp1 iq_272) (a_sp1 iq_273))) (a_spl (m := 275) (a_sp1 iq_274) (a_spl (m := 276) (a_sp1 iq_275) (a_sp1 iq_276))))) (a_spl (m := 282) (a_spl (m := 279) (a_spl (m := 278) (a_sp1 iq_277) (a_sp1 iq_278)) (a_spl (m := 280) (a_sp1 iq_279) (a_spl (m := 281) (a_sp1 iq_280) (a_sp1 iq_281)))) (a_spl (m := 285) (a_spl (m := 283) (a_sp1 iq_282) (a_spl (m := 284) (a_sp1 iq_283) (a_sp1 iq_284))) (a_spl (m := 286) (a_sp1 iq_285) (a_spl (m := 287) (a_sp1 iq_286) (a_sp1 iq_287)))))) (a_spl (m := 299) (a_spl (m := 293) (a_spl (m := 290) (a_spl (m := 289) (a_sp1 iq_288) (a_sp1 iq_289)) (a_spl (m := 291) (a_sp1 iq_290) (a_spl (m := 292) (a_sp1 iq_291) (a_sp1 iq_292)))) (a_spl (m := 296) (a_spl (m := 294) (a_sp1 iq_293) (a_spl (m := 295) (a_sp1 iq_294) (a_sp1 iq_295))) (a_spl (m := 297) (a_sp1 iq_296) (a_spl (m := 298) (a_sp1 iq_297) (a_sp1 iq_298))))) (a_spl (m := 304) (a_spl (m := 301) (a_spl (m := 300) (a_sp1 iq_299) (a_sp1 iq_300)) (a_spl (m := 302) (a_sp1 iq_301) (a_spl (m := 303) (a_sp1 iq_302) (a_sp1 iq_303)))) (a_spl (m := 307) (a_spl (m := 305) (a_sp1 iq_304) (a_spl (m := 306) (a_sp1 iq_305) (a_sp1 iq_306))) (a_spl (m := 308) (a_sp1 iq_307) (a_spl (m := 309) (a_sp1 iq_308) (a_sp1 iq_309))))))) (a_spl (m := 332) (a_spl (m := 321) (a_spl (m := 315) (a_spl (m := 312) (a_spl (m := 311) (a_sp1 iq_310) (a_sp1 iq_311)) (a_spl (m := 313) (a_sp1 iq_312) (a_spl (m := 314) (a_sp1 iq_313) (a_sp1 iq_314)))) (a_spl (m := 318) (a_spl (m := 316) (a_sp1 iq_315) (a_spl (m := 317) (a_sp1 iq_316) (a_sp1 iq_317))) (a_spl (m := 319) (a_sp1 iq_318) (a_spl (m := 320) (a_sp1 iq_319) (a_sp1 iq_320))))) (a_spl (m := 326) (a_spl (m := 323) (a_spl (m := 322) (a_sp1 iq_321) (a_sp1 iq_322)) (a_spl (m := 324) (a_sp1 iq_323) (a_spl (m := 325) (a_sp1 iq_324) (a_sp1 iq_325)))) (a_spl (m := 329) (a_spl (m := 327) (a_sp1 iq_326) (a_spl (m := 328) (a_sp1 iq_327) (a_sp1 iq_328))) (a_spl (m := 330) (a_sp1 iq_329) (a_spl (m := 331) (a_sp1 iq_330) (a_sp1 iq_331)))))) (a_spl (m := 343) (a_spl (m := 337) (a_spl (m := 334) (a_spl (m := 333) (a_sp1 iq_332) (a_sp1 iq_333)) (a_spl (m := 335) (a_sp1 iq_334) (a_spl (m := 336) (a_sp1 iq_335) (a_sp1 iq_336)))) (a_spl (m := 340) (a_spl (m := 338) (a_sp1 iq_337) (a_spl (m := 339) (a_sp1 iq_338) (a_sp1 iq_339))) (a_spl (m := 341) (a_sp1 iq_340) (a_spl (m := 342) (a_sp1 iq_341) (a_sp1 iq_342))))) (a_spl (m := 349) (a_spl (m := 346) (a_spl (m := 344) (a_sp1 iq_343) (a_spl (m := 345) (a_sp1 iq_344) (a_sp1 iq_345))) (a_spl (m := 347) (a_sp1 iq_346) (a_spl (m := 348) (a_sp1 iq_347) (a_sp1 iq_348)))) (a_spl (m := 352) (a_spl (m := 350) (a_sp1 iq_349) (a_spl (m := 351) (a_sp1 iq_350) (a_sp1 iq_351))) (a_spl (m := 353) (a_sp1 iq_352) (a_spl (m := 354) (a_sp1 iq_353) (a_sp1 iq_354)))))))))
