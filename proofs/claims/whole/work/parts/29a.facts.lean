/-! ===== closed facts for the equations (by wip/whole/gen31.py) ===== -/
theorem fC_106_112 : a_cpC (a_own 106) 112 = some (.inl 2147483647) := by decide +kernel
theorem fC_109_123 : a_cpC (a_own 109) 123 = some (.inl 99999) := by decide +kernel
theorem fC_110_123 : a_cpC (a_own 110) 123 = some (.inl 99999) := by decide +kernel
theorem fC_115_123 : a_cpC (a_own 115) 123 = some (.inl 99999) := by decide +kernel
theorem fC_161_123 : a_cpC (a_own 161) 123 = some (.inl 99999) := by decide +kernel
theorem fC_207_91 : a_cpC (a_own 207) 91 = some (.inl 99999) := by decide +kernel
theorem fC_209_91 : a_cpC (a_own 209) 91 = some (.inl 99999) := by decide +kernel
theorem fC_210_91 : a_cpC (a_own 210) 91 = some (.inl 99999) := by decide +kernel
theorem fC_211_91 : a_cpC (a_own 211) 91 = some (.inl 99999) := by decide +kernel
theorem fC_212_91 : a_cpC (a_own 212) 91 = some (.inl 99999) := by decide +kernel
theorem fC_214_91 : a_cpC (a_own 214) 91 = some (.inl 99999) := by decide +kernel
theorem fC_237_155 : a_cpC (a_own 237) 155 = some (.inl 65536) := by decide +kernel
theorem fC_24_53 : a_cpC (a_own 24) 53 = some (.inr (.inr (some (1, 0)))) := by decide +kernel
theorem fC_24_62 : a_cpC (a_own 24) 62 = some (.inr (.inr (some (1, 1)))) := by decide +kernel
theorem fC_24_67 : a_cpC (a_own 24) 67 = some (.inr (.inr (some (1, 2)))) := by decide +kernel
theorem fC_24_72 : a_cpC (a_own 24) 72 = some (.inr (.inr (some (1, 3)))) := by decide +kernel
theorem fC_24_77 : a_cpC (a_own 24) 77 = some (.inr (.inr (some (1, 4)))) := by decide +kernel
theorem fC_24_82 : a_cpC (a_own 24) 82 = some (.inr (.inr (some (1, 5)))) := by decide +kernel
theorem fC_24_87 : a_cpC (a_own 24) 87 = some (.inr (.inr (some (1, 6)))) := by decide +kernel
theorem fC_24_92 : a_cpC (a_own 24) 92 = some (.inr (.inr (some (1, 7)))) := by decide +kernel
theorem fC_281_244 : a_cpC (a_own 281) 244 = some (.inl 100000) := by decide +kernel
theorem fC_298_265 : a_cpC (a_own 298) 265 = some (.inl 1431655765) := by decide +kernel
theorem fC_298_266 : a_cpC (a_own 298) 266 = some (.inl 858993459) := by decide +kernel
theorem fC_298_267 : a_cpC (a_own 298) 267 = some (.inl 252645135) := by decide +kernel
theorem fC_31_143 : a_cpC (a_own 31) 143 = some (.inr (.inr (some (1, 8)))) := by decide +kernel
theorem fC_31_147 : a_cpC (a_own 31) 147 = some (.inr (.inr (some (1, 9)))) := by decide +kernel
theorem fC_34_162 : a_cpC (a_own 34) 162 = some (.inl 100000) := by decide +kernel
theorem fC_70_273 : a_cpC (a_own 70) 273 = some (.inl 65536) := by decide +kernel
theorem fF_100_10_30 : a_fld (a_own 100) 10 30 = some (0, 2) := by decide +kernel
theorem fF_100_38_20 : a_fld (a_own 100) 38 20 = some (0, 2) := by decide +kernel
theorem fF_100_73_9 : a_fld (a_own 100) 73 9 = some (4, 2) := by decide +kernel
theorem fF_100_77_18 : a_fld (a_own 100) 77 18 = some (5, 0) := by decide +kernel
theorem fF_101_10_30 : a_fld (a_own 101) 10 30 = some (0, 2) := by decide +kernel
theorem fF_101_82_20 : a_fld (a_own 101) 82 20 = some (1, 2) := by decide +kernel
theorem fF_101_86_10 : a_fld (a_own 101) 86 10 = some (0, 0) := by decide +kernel
theorem fF_102_10_30 : a_fld (a_own 102) 10 30 = some (0, 2) := by decide +kernel
theorem fF_102_82_20 : a_fld (a_own 102) 82 20 = some (1, 2) := by decide +kernel
theorem fF_102_91_10 : a_fld (a_own 102) 91 10 = some (1, 0) := by decide +kernel
theorem fF_103_10_30 : a_fld (a_own 103) 10 30 = some (0, 2) := by decide +kernel
theorem fF_103_82_20 : a_fld (a_own 103) 82 20 = some (1, 2) := by decide +kernel
theorem fF_103_94_10 : a_fld (a_own 103) 94 10 = some (2, 0) := by decide +kernel
theorem fF_103_97_10 : a_fld (a_own 103) 97 10 = some (3, 0) := by decide +kernel
theorem fF_104_106_10 : a_fld (a_own 104) 106 10 = some (4, 0) := by decide +kernel
theorem fF_104_10_30 : a_fld (a_own 104) 10 30 = some (0, 2) := by decide +kernel
theorem fF_104_82_20 : a_fld (a_own 104) 82 20 = some (1, 2) := by decide +kernel
theorem fF_105_109_10 : a_fld (a_own 105) 109 10 = some (5, 0) := by decide +kernel
theorem fF_105_10_30 : a_fld (a_own 105) 10 30 = some (0, 2) := by decide +kernel
theorem fF_105_82_20 : a_fld (a_own 105) 82 20 = some (1, 2) := by decide +kernel
theorem fF_106_10_30 : a_fld (a_own 106) 10 30 = some (0, 2) := by decide +kernel
theorem fF_106_113_20 : a_fld (a_own 106) 113 20 = some (9, 0) := by decide +kernel
theorem fF_107_10_30 : a_fld (a_own 107) 10 30 = some (0, 2) := by decide +kernel
theorem fF_107_38_20 : a_fld (a_own 107) 38 20 = some (0, 2) := by decide +kernel
theorem fF_107_73_9 : a_fld (a_own 107) 73 9 = some (4, 2) := by decide +kernel
theorem fF_108_10_30 : a_fld (a_own 108) 10 30 = some (0, 2) := by decide +kernel
theorem fF_108_38_20 : a_fld (a_own 108) 38 20 = some (0, 2) := by decide +kernel
theorem fF_108_73_9 : a_fld (a_own 108) 73 9 = some (4, 2) := by decide +kernel
theorem fF_109_10_30 : a_fld (a_own 109) 10 30 = some (0, 2) := by decide +kernel
theorem fF_109_38_20 : a_fld (a_own 109) 38 20 = some (0, 2) := by decide +kernel
theorem fF_109_73_9 : a_fld (a_own 109) 73 9 = some (4, 2) := by decide +kernel
theorem fF_10_22_14 : a_fld (a_own 10) 22 14 = some (2, 0) := by decide +kernel
theorem fF_10_41_14 : a_fld (a_own 10) 41 14 = some (7, 0) := by decide +kernel
theorem fF_110_10_30 : a_fld (a_own 110) 10 30 = some (0, 2) := by decide +kernel
theorem fF_110_38_20 : a_fld (a_own 110) 38 20 = some (0, 2) := by decide +kernel
theorem fF_111_10_30 : a_fld (a_own 111) 10 30 = some (0, 2) := by decide +kernel
theorem fF_112_10_30 : a_fld (a_own 112) 10 30 = some (0, 2) := by decide +kernel
theorem fF_112_38_20 : a_fld (a_own 112) 38 20 = some (0, 2) := by decide +kernel
theorem fF_112_73_9 : a_fld (a_own 112) 73 9 = some (4, 2) := by decide +kernel
theorem fF_113_10_30 : a_fld (a_own 113) 10 30 = some (0, 2) := by decide +kernel
theorem fF_113_38_20 : a_fld (a_own 113) 38 20 = some (0, 2) := by decide +kernel
theorem fF_114_10_30 : a_fld (a_own 114) 10 30 = some (0, 2) := by decide +kernel
theorem fF_114_38_20 : a_fld (a_own 114) 38 20 = some (0, 2) := by decide +kernel
theorem fF_115_10_30 : a_fld (a_own 115) 10 30 = some (0, 2) := by decide +kernel
theorem fF_115_38_20 : a_fld (a_own 115) 38 20 = some (0, 2) := by decide +kernel
theorem fF_115_73_9 : a_fld (a_own 115) 73 9 = some (4, 2) := by decide +kernel
theorem fF_116_10_30 : a_fld (a_own 116) 10 30 = some (0, 2) := by decide +kernel
theorem fF_116_157_18 : a_fld (a_own 116) 157 18 = some (4, 0) := by decide +kernel
theorem fF_116_38_20 : a_fld (a_own 116) 38 20 = some (0, 2) := by decide +kernel
theorem fF_116_73_9 : a_fld (a_own 116) 73 9 = some (4, 2) := by decide +kernel
theorem fF_117_10_30 : a_fld (a_own 117) 10 30 = some (0, 2) := by decide +kernel
theorem fF_118_10_30 : a_fld (a_own 118) 10 30 = some (0, 2) := by decide +kernel
theorem fF_118_169_20 : a_fld (a_own 118) 169 20 = some (3, 0) := by decide +kernel
theorem fF_119_10_30 : a_fld (a_own 119) 10 30 = some (0, 2) := by decide +kernel
theorem fF_119_175_20 : a_fld (a_own 119) 175 20 = some (2, 2) := by decide +kernel
theorem fF_119_179_14 : a_fld (a_own 119) 179 14 = some (1, 0) := by decide +kernel
theorem fF_11_29_14 : a_fld (a_own 11) 29 14 = some (3, 0) := by decide +kernel
theorem fF_120_10_30 : a_fld (a_own 120) 10 30 = some (0, 2) := by decide +kernel
theorem fF_120_175_20 : a_fld (a_own 120) 175 20 = some (2, 2) := by decide +kernel
theorem fF_121_10_30 : a_fld (a_own 121) 10 30 = some (0, 2) := by decide +kernel
theorem fF_122_10_30 : a_fld (a_own 122) 10 30 = some (0, 2) := by decide +kernel
theorem fF_122_175_20 : a_fld (a_own 122) 175 20 = some (2, 2) := by decide +kernel
theorem fF_123_10_30 : a_fld (a_own 123) 10 30 = some (0, 2) := by decide +kernel
theorem fF_123_175_20 : a_fld (a_own 123) 175 20 = some (2, 2) := by decide +kernel
theorem fF_123_194_14 : a_fld (a_own 123) 194 14 = some (3, 0) := by decide +kernel
theorem fF_123_197_14 : a_fld (a_own 123) 197 14 = some (4, 0) := by decide +kernel
theorem fF_123_200_14 : a_fld (a_own 123) 200 14 = some (5, 0) := by decide +kernel
theorem fF_123_203_14 : a_fld (a_own 123) 203 14 = some (6, 0) := by decide +kernel
theorem fF_124_10_30 : a_fld (a_own 124) 10 30 = some (0, 2) := by decide +kernel
theorem fF_124_175_20 : a_fld (a_own 124) 175 20 = some (2, 2) := by decide +kernel
theorem fF_124_206_14 : a_fld (a_own 124) 206 14 = some (0, 0) := by decide +kernel
theorem fF_124_218_14 : a_fld (a_own 124) 218 14 = some (9, 2) := by decide +kernel
theorem fF_125_10_30 : a_fld (a_own 125) 10 30 = some (0, 2) := by decide +kernel
theorem fF_125_175_20 : a_fld (a_own 125) 175 20 = some (2, 2) := by decide +kernel
theorem fF_125_221_14 : a_fld (a_own 125) 221 14 = some (7, 0) := by decide +kernel
theorem fF_126_10_30 : a_fld (a_own 126) 10 30 = some (0, 2) := by decide +kernel
theorem fF_126_175_20 : a_fld (a_own 126) 175 20 = some (2, 2) := by decide +kernel
theorem fF_126_224_14 : a_fld (a_own 126) 224 14 = some (8, 0) := by decide +kernel
theorem fF_127_10_30 : a_fld (a_own 127) 10 30 = some (0, 2) := by decide +kernel
theorem fF_128_10_30 : a_fld (a_own 128) 10 30 = some (0, 2) := by decide +kernel
theorem fF_129_10_30 : a_fld (a_own 129) 10 30 = some (0, 2) := by decide +kernel
theorem fF_12_29_14 : a_fld (a_own 12) 29 14 = some (3, 0) := by decide +kernel
theorem fF_12_32_14 : a_fld (a_own 12) 32 14 = some (4, 0) := by decide +kernel
theorem fF_12_9_14 : a_fld (a_own 12) 9 14 = some (9, 2) := by decide +kernel
theorem fF_130_10_30 : a_fld (a_own 130) 10 30 = some (0, 2) := by decide +kernel
theorem fF_130_233_20 : a_fld (a_own 130) 233 20 = some (8, 0) := by decide +kernel
theorem fF_131_10_30 : a_fld (a_own 131) 10 30 = some (0, 2) := by decide +kernel
theorem fF_131_233_20 : a_fld (a_own 131) 233 20 = some (8, 0) := by decide +kernel
theorem fF_132_10_30 : a_fld (a_own 132) 10 30 = some (0, 2) := by decide +kernel
theorem fF_132_241_20 : a_fld (a_own 132) 241 20 = some (5, 0) := by decide +kernel
theorem fF_133_10_30 : a_fld (a_own 133) 10 30 = some (0, 2) := by decide +kernel
theorem fF_134_10_30 : a_fld (a_own 134) 10 30 = some (0, 2) := by decide +kernel
theorem fF_134_254_15 : a_fld (a_own 134) 254 15 = some (1, 0) := by decide +kernel
theorem fF_135_10_30 : a_fld (a_own 135) 10 30 = some (0, 2) := by decide +kernel
theorem fF_135_259_15 : a_fld (a_own 135) 259 15 = some (2, 0) := by decide +kernel
theorem fF_136_10_30 : a_fld (a_own 136) 10 30 = some (0, 2) := by decide +kernel
theorem fF_136_262_15 : a_fld (a_own 136) 262 15 = some (3, 0) := by decide +kernel
theorem fF_137_10_30 : a_fld (a_own 137) 10 30 = some (0, 2) := by decide +kernel
theorem fF_137_265_15 : a_fld (a_own 137) 265 15 = some (4, 0) := by decide +kernel
theorem fF_138_10_30 : a_fld (a_own 138) 10 30 = some (0, 2) := by decide +kernel
theorem fF_139_10_30 : a_fld (a_own 139) 10 30 = some (0, 2) := by decide +kernel
theorem fF_13_29_14 : a_fld (a_own 13) 29 14 = some (3, 0) := by decide +kernel
theorem fF_13_32_14 : a_fld (a_own 13) 32 14 = some (4, 0) := by decide +kernel
theorem fF_13_35_14 : a_fld (a_own 13) 35 14 = some (5, 0) := by decide +kernel
theorem fF_140_10_30 : a_fld (a_own 140) 10 30 = some (0, 2) := by decide +kernel
theorem fF_141_10_30 : a_fld (a_own 141) 10 30 = some (0, 2) := by decide +kernel
theorem fF_141_279_20 : a_fld (a_own 141) 279 20 = some (6, 2) := by decide +kernel
theorem fF_142_10_30 : a_fld (a_own 142) 10 30 = some (0, 2) := by decide +kernel
theorem fF_142_282_18 : a_fld (a_own 142) 282 18 = some (6, 2) := by decide +kernel
theorem fF_142_38_20 : a_fld (a_own 142) 38 20 = some (0, 2) := by decide +kernel
theorem fF_142_73_9 : a_fld (a_own 142) 73 9 = some (4, 2) := by decide +kernel
theorem fF_143_10_30 : a_fld (a_own 143) 10 30 = some (0, 2) := by decide +kernel
theorem fF_143_283_20 : a_fld (a_own 143) 283 20 = some (7, 0) := by decide +kernel
theorem fF_144_10_30 : a_fld (a_own 144) 10 30 = some (0, 2) := by decide +kernel
theorem fF_144_279_20 : a_fld (a_own 144) 279 20 = some (6, 2) := by decide +kernel
theorem fF_145_10_30 : a_fld (a_own 145) 10 30 = some (0, 2) := by decide +kernel
theorem fF_145_279_20 : a_fld (a_own 145) 279 20 = some (6, 2) := by decide +kernel
theorem fF_146_10_30 : a_fld (a_own 146) 10 30 = some (0, 2) := by decide +kernel
theorem fF_146_279_20 : a_fld (a_own 146) 279 20 = some (6, 2) := by decide +kernel
theorem fF_147_10_30 : a_fld (a_own 147) 10 30 = some (0, 2) := by decide +kernel
theorem fF_147_279_20 : a_fld (a_own 147) 279 20 = some (6, 2) := by decide +kernel
theorem fF_148_10_30 : a_fld (a_own 148) 10 30 = some (0, 2) := by decide +kernel
theorem fF_148_27_30 : a_fld (a_own 148) 27 30 = some (3, 2) := by decide +kernel
theorem fF_149_10_30 : a_fld (a_own 149) 10 30 = some (0, 2) := by decide +kernel
theorem fF_14_29_14 : a_fld (a_own 14) 29 14 = some (3, 0) := by decide +kernel
theorem fF_14_32_14 : a_fld (a_own 14) 32 14 = some (4, 0) := by decide +kernel
theorem fF_14_9_14 : a_fld (a_own 14) 9 14 = some (9, 2) := by decide +kernel
theorem fF_150_175_20 : a_fld (a_own 150) 175 20 = some (2, 2) := by decide +kernel
theorem fF_150_221_14 : a_fld (a_own 150) 221 14 = some (7, 0) := by decide +kernel
theorem fF_150_38_20 : a_fld (a_own 150) 38 20 = some (0, 2) := by decide +kernel
theorem fF_152_19_30 : a_fld (a_own 152) 19 30 = some (1, 2) := by decide +kernel
theorem fF_152_317_21 : a_fld (a_own 152) 317 21 = some (1, 0) := by decide +kernel
theorem fF_153_19_30 : a_fld (a_own 153) 19 30 = some (1, 2) := by decide +kernel
theorem fF_153_317_21 : a_fld (a_own 153) 317 21 = some (1, 0) := by decide +kernel
theorem fF_154_10_30 : a_fld (a_own 154) 10 30 = some (0, 2) := by decide +kernel
theorem fF_154_19_30 : a_fld (a_own 154) 19 30 = some (1, 2) := by decide +kernel
theorem fF_154_317_21 : a_fld (a_own 154) 317 21 = some (1, 0) := by decide +kernel
theorem fF_155_19_30 : a_fld (a_own 155) 19 30 = some (1, 2) := by decide +kernel
theorem fF_155_334_21 : a_fld (a_own 155) 334 21 = some (2, 0) := by decide +kernel
theorem fF_156_19_30 : a_fld (a_own 156) 19 30 = some (1, 2) := by decide +kernel
theorem fF_156_337_21 : a_fld (a_own 156) 337 21 = some (3, 0) := by decide +kernel
theorem fF_157_23_30 : a_fld (a_own 157) 23 30 = some (2, 2) := by decide +kernel
theorem fF_158_23_30 : a_fld (a_own 158) 23 30 = some (2, 2) := by decide +kernel
theorem fF_162_10_30 : a_fld (a_own 162) 10 30 = some (0, 2) := by decide +kernel
theorem fF_162_38_20 : a_fld (a_own 162) 38 20 = some (0, 2) := by decide +kernel
theorem fF_162_66_9 : a_fld (a_own 162) 66 9 = some (3, 0) := by decide +kernel
theorem fF_163_10_30 : a_fld (a_own 163) 10 30 = some (0, 2) := by decide +kernel
theorem fF_163_169_20 : a_fld (a_own 163) 169 20 = some (3, 0) := by decide +kernel
theorem fF_164_10_30 : a_fld (a_own 164) 10 30 = some (0, 2) := by decide +kernel
theorem fF_165_31_30 : a_fld (a_own 165) 31 30 = some (4, 2) := by decide +kernel
theorem fF_166_10_30 : a_fld (a_own 166) 10 30 = some (0, 2) := by decide +kernel
theorem fF_167_109_10 : a_fld (a_own 167) 109 10 = some (5, 0) := by decide +kernel
theorem fF_167_279_20 : a_fld (a_own 167) 279 20 = some (6, 2) := by decide +kernel
theorem fF_167_82_20 : a_fld (a_own 167) 82 20 = some (1, 2) := by decide +kernel
theorem fF_16_15_10 : a_fld (a_own 16) 15 10 = some (1, 0) := by decide +kernel
theorem fF_16_18_10 : a_fld (a_own 16) 18 10 = some (2, 0) := by decide +kernel
theorem fF_16_21_10 : a_fld (a_own 16) 21 10 = some (3, 0) := by decide +kernel
theorem fF_16_24_10 : a_fld (a_own 16) 24 10 = some (4, 0) := by decide +kernel
theorem fF_16_27_10 : a_fld (a_own 16) 27 10 = some (5, 0) := by decide +kernel
theorem fF_16_9_10 : a_fld (a_own 16) 9 10 = some (0, 0) := by decide +kernel
theorem fF_171_37_31 : a_fld (a_own 171) 37 31 = some (0, 0) := by decide +kernel
theorem fF_172_7_31 : a_fld (a_own 172) 7 31 = some (1, 2) := by decide +kernel
theorem fF_177_7_31 : a_fld (a_own 177) 7 31 = some (1, 2) := by decide +kernel
theorem fF_178_7_31 : a_fld (a_own 178) 7 31 = some (1, 2) := by decide +kernel
theorem fF_179_7_31 : a_fld (a_own 179) 7 31 = some (1, 2) := by decide +kernel
theorem fF_17_15_10 : a_fld (a_own 17) 15 10 = some (1, 0) := by decide +kernel
theorem fF_17_18_10 : a_fld (a_own 17) 18 10 = some (2, 0) := by decide +kernel
theorem fF_17_21_10 : a_fld (a_own 17) 21 10 = some (3, 0) := by decide +kernel
theorem fF_17_24_10 : a_fld (a_own 17) 24 10 = some (4, 0) := by decide +kernel
theorem fF_17_27_10 : a_fld (a_own 17) 27 10 = some (5, 0) := by decide +kernel
theorem fF_17_9_10 : a_fld (a_own 17) 9 10 = some (0, 0) := by decide +kernel
theorem fF_180_7_31 : a_fld (a_own 180) 7 31 = some (1, 2) := by decide +kernel
theorem fF_181_7_31 : a_fld (a_own 181) 7 31 = some (1, 2) := by decide +kernel
theorem fF_182_7_31 : a_fld (a_own 182) 7 31 = some (1, 2) := by decide +kernel
theorem fF_184_7_31 : a_fld (a_own 184) 7 31 = some (1, 2) := by decide +kernel
theorem fF_186_7_31 : a_fld (a_own 186) 7 31 = some (1, 2) := by decide +kernel
theorem fF_187_37_31 : a_fld (a_own 187) 37 31 = some (0, 0) := by decide +kernel
theorem fF_187_7_31 : a_fld (a_own 187) 7 31 = some (1, 2) := by decide +kernel
theorem fF_188_7_31 : a_fld (a_own 188) 7 31 = some (1, 2) := by decide +kernel
theorem fF_189_37_31 : a_fld (a_own 189) 37 31 = some (0, 0) := by decide +kernel
theorem fF_189_7_31 : a_fld (a_own 189) 7 31 = some (1, 2) := by decide +kernel
theorem fF_190_37_31 : a_fld (a_own 190) 37 31 = some (0, 0) := by decide +kernel
theorem fF_190_7_31 : a_fld (a_own 190) 7 31 = some (1, 2) := by decide +kernel
theorem fF_191_37_31 : a_fld (a_own 191) 37 31 = some (0, 0) := by decide +kernel
theorem fF_191_7_31 : a_fld (a_own 191) 7 31 = some (1, 2) := by decide +kernel
theorem fF_192_37_31 : a_fld (a_own 192) 37 31 = some (0, 0) := by decide +kernel
theorem fF_192_7_31 : a_fld (a_own 192) 7 31 = some (1, 2) := by decide +kernel
theorem fF_196_37_31 : a_fld (a_own 196) 37 31 = some (0, 0) := by decide +kernel
theorem fF_196_7_31 : a_fld (a_own 196) 7 31 = some (1, 2) := by decide +kernel
theorem fF_197_7_31 : a_fld (a_own 197) 7 31 = some (1, 2) := by decide +kernel
theorem fF_198_37_31 : a_fld (a_own 198) 37 31 = some (0, 0) := by decide +kernel
theorem fF_198_7_31 : a_fld (a_own 198) 7 31 = some (1, 2) := by decide +kernel
theorem fF_199_37_31 : a_fld (a_own 199) 37 31 = some (0, 0) := by decide +kernel
theorem fF_199_7_31 : a_fld (a_own 199) 7 31 = some (1, 2) := by decide +kernel
theorem fF_19_15_21 : a_fld (a_own 19) 15 21 = some (1, 0) := by decide +kernel
theorem fF_1_15_15 : a_fld (a_own 1) 15 15 = some (6, 2) := by decide +kernel
theorem fF_1_18_15 : a_fld (a_own 1) 18 15 = some (0, 0) := by decide +kernel
theorem fF_1_22_15 : a_fld (a_own 1) 22 15 = some (1, 0) := by decide +kernel
theorem fF_1_25_15 : a_fld (a_own 1) 25 15 = some (2, 0) := by decide +kernel
theorem fF_1_28_15 : a_fld (a_own 1) 28 15 = some (3, 0) := by decide +kernel
theorem fF_1_31_15 : a_fld (a_own 1) 31 15 = some (4, 0) := by decide +kernel
theorem fF_1_9_15 : a_fld (a_own 1) 9 15 = some (5, 2) := by decide +kernel
theorem fF_200_7_31 : a_fld (a_own 200) 7 31 = some (1, 2) := by decide +kernel
theorem fF_201_7_31 : a_fld (a_own 201) 7 31 = some (1, 2) := by decide +kernel
theorem fF_202_7_31 : a_fld (a_own 202) 7 31 = some (1, 2) := by decide +kernel
theorem fF_203_37_31 : a_fld (a_own 203) 37 31 = some (0, 0) := by decide +kernel
theorem fF_207_37_31 : a_fld (a_own 207) 37 31 = some (0, 0) := by decide +kernel
theorem fF_208_7_31 : a_fld (a_own 208) 7 31 = some (1, 2) := by decide +kernel
theorem fF_209_37_31 : a_fld (a_own 209) 37 31 = some (0, 0) := by decide +kernel
theorem fF_20_15_21 : a_fld (a_own 20) 15 21 = some (1, 0) := by decide +kernel
theorem fF_20_9_21 : a_fld (a_own 20) 9 21 = some (0, 2) := by decide +kernel
theorem fF_210_37_31 : a_fld (a_own 210) 37 31 = some (0, 0) := by decide +kernel
theorem fF_211_37_31 : a_fld (a_own 211) 37 31 = some (0, 0) := by decide +kernel
theorem fF_211_7_31 : a_fld (a_own 211) 7 31 = some (1, 2) := by decide +kernel
theorem fF_212_37_31 : a_fld (a_own 212) 37 31 = some (0, 0) := by decide +kernel
theorem fF_213_101_31 : a_fld (a_own 213) 101 31 = some (5, 0) := by decide +kernel
theorem fF_213_104_31 : a_fld (a_own 213) 104 31 = some (6, 0) := by decide +kernel
theorem fF_213_7_31 : a_fld (a_own 213) 7 31 = some (1, 2) := by decide +kernel
theorem fF_213_98_31 : a_fld (a_own 213) 98 31 = some (7, 0) := by decide +kernel
theorem fF_214_101_31 : a_fld (a_own 214) 101 31 = some (5, 0) := by decide +kernel
theorem fF_214_104_31 : a_fld (a_own 214) 104 31 = some (6, 0) := by decide +kernel
theorem fF_214_37_31 : a_fld (a_own 214) 37 31 = some (0, 0) := by decide +kernel
theorem fF_214_98_31 : a_fld (a_own 214) 98 31 = some (7, 0) := by decide +kernel
theorem fF_215_7_31 : a_fld (a_own 215) 7 31 = some (1, 2) := by decide +kernel
theorem fF_216_7_31 : a_fld (a_own 216) 7 31 = some (1, 2) := by decide +kernel
theorem fF_217_37_31 : a_fld (a_own 217) 37 31 = some (0, 0) := by decide +kernel
theorem fF_217_7_31 : a_fld (a_own 217) 7 31 = some (1, 2) := by decide +kernel
theorem fF_218_7_31 : a_fld (a_own 218) 7 31 = some (1, 2) := by decide +kernel
theorem fF_219_37_31 : a_fld (a_own 219) 37 31 = some (0, 0) := by decide +kernel
theorem fF_219_7_31 : a_fld (a_own 219) 7 31 = some (1, 2) := by decide +kernel
theorem fF_21_19_21 : a_fld (a_own 21) 19 21 = some (2, 0) := by decide +kernel
theorem fF_21_22_21 : a_fld (a_own 21) 22 21 = some (3, 0) := by decide +kernel
theorem fF_21_25_21 : a_fld (a_own 21) 25 21 = some (4, 0) := by decide +kernel
theorem fF_21_31_21 : a_fld (a_own 21) 31 21 = some (6, 0) := by decide +kernel
theorem fF_220_37_31 : a_fld (a_own 220) 37 31 = some (0, 0) := by decide +kernel
theorem fF_220_7_31 : a_fld (a_own 220) 7 31 = some (1, 2) := by decide +kernel
theorem fF_221_37_31 : a_fld (a_own 221) 37 31 = some (0, 0) := by decide +kernel
theorem fF_222_7_31 : a_fld (a_own 222) 7 31 = some (1, 2) := by decide +kernel
theorem fF_223_7_31 : a_fld (a_own 223) 7 31 = some (1, 2) := by decide +kernel
theorem fF_224_37_31 : a_fld (a_own 224) 37 31 = some (0, 0) := by decide +kernel
theorem fF_224_7_31 : a_fld (a_own 224) 7 31 = some (1, 2) := by decide +kernel
theorem fF_225_37_31 : a_fld (a_own 225) 37 31 = some (0, 0) := by decide +kernel
theorem fF_225_7_31 : a_fld (a_own 225) 7 31 = some (1, 2) := by decide +kernel
theorem fF_226_37_31 : a_fld (a_own 226) 37 31 = some (0, 0) := by decide +kernel
theorem fF_229_37_31 : a_fld (a_own 229) 37 31 = some (0, 0) := by decide +kernel
theorem fF_22_19_21 : a_fld (a_own 22) 19 21 = some (2, 0) := by decide +kernel
theorem fF_22_22_21 : a_fld (a_own 22) 22 21 = some (3, 0) := by decide +kernel
theorem fF_22_28_21 : a_fld (a_own 22) 28 21 = some (5, 0) := by decide +kernel
theorem fF_230_37_31 : a_fld (a_own 230) 37 31 = some (0, 0) := by decide +kernel
theorem fF_230_7_31 : a_fld (a_own 230) 7 31 = some (1, 2) := by decide +kernel
theorem fF_231_37_31 : a_fld (a_own 231) 37 31 = some (0, 0) := by decide +kernel
theorem fF_234_37_31 : a_fld (a_own 234) 37 31 = some (0, 0) := by decide +kernel
theorem fF_234_7_31 : a_fld (a_own 234) 7 31 = some (1, 2) := by decide +kernel
theorem fF_235_37_31 : a_fld (a_own 235) 37 31 = some (0, 0) := by decide +kernel
theorem fF_235_7_31 : a_fld (a_own 235) 7 31 = some (1, 2) := by decide +kernel
theorem fF_236_37_31 : a_fld (a_own 236) 37 31 = some (0, 0) := by decide +kernel
theorem fF_237_7_31 : a_fld (a_own 237) 7 31 = some (1, 2) := by decide +kernel
theorem fF_238_7_31 : a_fld (a_own 238) 7 31 = some (1, 2) := by decide +kernel
theorem fF_239_7_31 : a_fld (a_own 239) 7 31 = some (1, 2) := by decide +kernel
theorem fF_23_25_21 : a_fld (a_own 23) 25 21 = some (4, 0) := by decide +kernel
theorem fF_240_7_31 : a_fld (a_own 240) 7 31 = some (1, 2) := by decide +kernel
theorem fF_241_7_31 : a_fld (a_own 241) 7 31 = some (1, 2) := by decide +kernel
theorem fF_242_7_31 : a_fld (a_own 242) 7 31 = some (1, 2) := by decide +kernel
theorem fF_243_7_31 : a_fld (a_own 243) 7 31 = some (1, 2) := by decide +kernel
theorem fF_244_173_31 : a_fld (a_own 244) 173 31 = some (8, 1) := by decide +kernel
theorem fF_244_7_31 : a_fld (a_own 244) 7 31 = some (1, 2) := by decide +kernel
theorem fF_245_7_31 : a_fld (a_own 245) 7 31 = some (1, 2) := by decide +kernel
theorem fF_246_37_31 : a_fld (a_own 246) 37 31 = some (0, 0) := by decide +kernel
theorem fF_246_7_31 : a_fld (a_own 246) 7 31 = some (1, 2) := by decide +kernel
theorem fF_247_37_31 : a_fld (a_own 247) 37 31 = some (0, 0) := by decide +kernel
theorem fF_247_7_31 : a_fld (a_own 247) 7 31 = some (1, 2) := by decide +kernel
theorem fF_248_7_31 : a_fld (a_own 248) 7 31 = some (1, 2) := by decide +kernel
theorem fF_249_37_31 : a_fld (a_own 249) 37 31 = some (0, 0) := by decide +kernel
theorem fF_250_37_31 : a_fld (a_own 250) 37 31 = some (0, 0) := by decide +kernel
theorem fF_250_7_31 : a_fld (a_own 250) 7 31 = some (1, 2) := by decide +kernel
theorem fF_251_37_31 : a_fld (a_own 251) 37 31 = some (0, 0) := by decide +kernel
theorem fF_256_37_31 : a_fld (a_own 256) 37 31 = some (0, 0) := by decide +kernel
theorem fF_257_37_31 : a_fld (a_own 257) 37 31 = some (0, 0) := by decide +kernel
theorem fF_257_7_31 : a_fld (a_own 257) 7 31 = some (1, 2) := by decide +kernel
theorem fF_258_37_31 : a_fld (a_own 258) 37 31 = some (0, 0) := by decide +kernel
theorem fF_258_7_31 : a_fld (a_own 258) 7 31 = some (1, 2) := by decide +kernel
theorem fF_259_37_31 : a_fld (a_own 259) 37 31 = some (0, 0) := by decide +kernel
theorem fF_259_7_31 : a_fld (a_own 259) 7 31 = some (1, 2) := by decide +kernel
theorem fF_25_101_20 : a_fld (a_own 25) 101 20 = some (0, 2) := by decide +kernel
theorem fF_25_34_21 : a_fld (a_own 25) 34 21 = some (7, 2) := by decide +kernel
theorem fF_260_37_31 : a_fld (a_own 260) 37 31 = some (0, 0) := by decide +kernel
theorem fF_261_37_31 : a_fld (a_own 261) 37 31 = some (0, 0) := by decide +kernel
theorem fF_261_7_31 : a_fld (a_own 261) 7 31 = some (1, 2) := by decide +kernel
theorem fF_262_7_31 : a_fld (a_own 262) 7 31 = some (1, 2) := by decide +kernel
theorem fF_264_37_31 : a_fld (a_own 264) 37 31 = some (0, 0) := by decide +kernel
theorem fF_264_7_31 : a_fld (a_own 264) 7 31 = some (1, 2) := by decide +kernel
theorem fF_265_37_31 : a_fld (a_own 265) 37 31 = some (0, 0) := by decide +kernel
theorem fF_265_7_31 : a_fld (a_own 265) 7 31 = some (1, 2) := by decide +kernel
theorem fF_266_37_31 : a_fld (a_own 266) 37 31 = some (0, 0) := by decide +kernel
theorem fF_266_7_31 : a_fld (a_own 266) 7 31 = some (1, 2) := by decide +kernel
theorem fF_267_37_31 : a_fld (a_own 267) 37 31 = some (0, 0) := by decide +kernel
theorem fF_267_7_31 : a_fld (a_own 267) 7 31 = some (1, 2) := by decide +kernel
theorem fF_269_7_31 : a_fld (a_own 269) 7 31 = some (1, 2) := by decide +kernel
theorem fF_26_101_20 : a_fld (a_own 26) 101 20 = some (0, 2) := by decide +kernel
theorem fF_26_34_21 : a_fld (a_own 26) 34 21 = some (7, 2) := by decide +kernel
theorem fF_270_37_31 : a_fld (a_own 270) 37 31 = some (0, 0) := by decide +kernel
theorem fF_270_7_31 : a_fld (a_own 270) 7 31 = some (1, 2) := by decide +kernel
theorem fF_271_37_31 : a_fld (a_own 271) 37 31 = some (0, 0) := by decide +kernel
theorem fF_271_7_31 : a_fld (a_own 271) 7 31 = some (1, 2) := by decide +kernel
theorem fF_273_13_31 : a_fld (a_own 273) 13 31 = some (2, 2) := by decide +kernel
theorem fF_273_173_31 : a_fld (a_own 273) 173 31 = some (8, 1) := by decide +kernel
theorem fF_273_37_31 : a_fld (a_own 273) 37 31 = some (0, 0) := by decide +kernel
theorem fF_273_7_31 : a_fld (a_own 273) 7 31 = some (1, 2) := by decide +kernel
theorem fF_274_13_31 : a_fld (a_own 274) 13 31 = some (2, 2) := by decide +kernel
theorem fF_274_7_31 : a_fld (a_own 274) 7 31 = some (1, 2) := by decide +kernel
theorem fF_275_37_31 : a_fld (a_own 275) 37 31 = some (0, 0) := by decide +kernel
theorem fF_276_219_31 : a_fld (a_own 276) 219 31 = some (10, 0) := by decide +kernel
theorem fF_276_23_31 : a_fld (a_own 276) 23 31 = some (9, 2) := by decide +kernel
theorem fF_276_37_31 : a_fld (a_own 276) 37 31 = some (0, 0) := by decide +kernel
theorem fF_277_219_31 : a_fld (a_own 277) 219 31 = some (10, 0) := by decide +kernel
theorem fF_277_37_31 : a_fld (a_own 277) 37 31 = some (0, 0) := by decide +kernel
theorem fF_278_219_31 : a_fld (a_own 278) 219 31 = some (10, 0) := by decide +kernel
theorem fF_278_222_31 : a_fld (a_own 278) 222 31 = some (11, 0) := by decide +kernel
theorem fF_278_23_31 : a_fld (a_own 278) 23 31 = some (9, 2) := by decide +kernel
theorem fF_27_120_20 : a_fld (a_own 27) 120 20 = some (1, 2) := by decide +kernel
theorem fF_27_124_10 : a_fld (a_own 27) 124 10 = some (0, 0) := by decide +kernel
theorem fF_27_34_21 : a_fld (a_own 27) 34 21 = some (7, 2) := by decide +kernel
theorem fF_281_222_31 : a_fld (a_own 281) 222 31 = some (11, 0) := by decide +kernel
theorem fF_281_228_31 : a_fld (a_own 281) 228 31 = some (12, 0) := by decide +kernel
theorem fF_281_238_31 : a_fld (a_own 281) 238 31 = some (13, 0) := by decide +kernel
theorem fF_281_241_31 : a_fld (a_own 281) 241 31 = some (14, 0) := by decide +kernel
theorem fF_282_228_31 : a_fld (a_own 282) 228 31 = some (12, 0) := by decide +kernel
theorem fF_282_245_31 : a_fld (a_own 282) 245 31 = some (15, 0) := by decide +kernel
theorem fF_282_27_31 : a_fld (a_own 282) 27 31 = some (16, 0) := by decide +kernel
theorem fF_283_245_31 : a_fld (a_own 283) 245 31 = some (15, 0) := by decide +kernel
theorem fF_284_222_31 : a_fld (a_own 284) 222 31 = some (11, 0) := by decide +kernel
theorem fF_284_228_31 : a_fld (a_own 284) 228 31 = some (12, 0) := by decide +kernel
theorem fF_284_238_31 : a_fld (a_own 284) 238 31 = some (13, 0) := by decide +kernel
theorem fF_284_23_31 : a_fld (a_own 284) 23 31 = some (9, 2) := by decide +kernel
theorem fF_284_31_31 : a_fld (a_own 284) 31 31 = some (17, 2) := by decide +kernel
theorem fF_285_238_31 : a_fld (a_own 285) 238 31 = some (13, 0) := by decide +kernel
theorem fF_285_241_31 : a_fld (a_own 285) 241 31 = some (14, 0) := by decide +kernel
theorem fF_289_7_31 : a_fld (a_own 289) 7 31 = some (1, 2) := by decide +kernel
theorem fF_28_120_20 : a_fld (a_own 28) 120 20 = some (1, 2) := by decide +kernel
theorem fF_28_129_10 : a_fld (a_own 28) 129 10 = some (1, 0) := by decide +kernel
theorem fF_28_34_21 : a_fld (a_own 28) 34 21 = some (7, 2) := by decide +kernel
theorem fF_290_7_31 : a_fld (a_own 290) 7 31 = some (1, 2) := by decide +kernel
theorem fF_291_7_31 : a_fld (a_own 291) 7 31 = some (1, 2) := by decide +kernel
theorem fF_292_238_31 : a_fld (a_own 292) 238 31 = some (13, 0) := by decide +kernel
theorem fF_292_7_31 : a_fld (a_own 292) 7 31 = some (1, 2) := by decide +kernel
theorem fF_293_13_31 : a_fld (a_own 293) 13 31 = some (2, 2) := by decide +kernel
theorem fF_293_219_31 : a_fld (a_own 293) 219 31 = some (10, 0) := by decide +kernel
theorem fF_293_222_31 : a_fld (a_own 293) 222 31 = some (11, 0) := by decide +kernel
theorem fF_293_238_31 : a_fld (a_own 293) 238 31 = some (13, 0) := by decide +kernel
theorem fF_293_245_31 : a_fld (a_own 293) 245 31 = some (15, 0) := by decide +kernel
theorem fF_293_27_31 : a_fld (a_own 293) 27 31 = some (16, 0) := by decide +kernel
theorem fF_293_37_31 : a_fld (a_own 293) 37 31 = some (0, 0) := by decide +kernel
theorem fF_293_7_31 : a_fld (a_own 293) 7 31 = some (1, 2) := by decide +kernel
theorem fF_294_245_31 : a_fld (a_own 294) 245 31 = some (15, 0) := by decide +kernel
theorem fF_294_37_31 : a_fld (a_own 294) 37 31 = some (0, 0) := by decide +kernel
theorem fF_295_27_31 : a_fld (a_own 295) 27 31 = some (16, 0) := by decide +kernel
theorem fF_295_37_31 : a_fld (a_own 295) 37 31 = some (0, 0) := by decide +kernel
theorem fF_296_16_31 : a_fld (a_own 296) 16 31 = some (3, 2) := by decide +kernel
theorem fF_296_19_31 : a_fld (a_own 296) 19 31 = some (4, 2) := by decide +kernel
theorem fF_296_37_31 : a_fld (a_own 296) 37 31 = some (0, 0) := by decide +kernel
theorem fF_296_7_31 : a_fld (a_own 296) 7 31 = some (1, 2) := by decide +kernel
theorem fF_297_16_31 : a_fld (a_own 297) 16 31 = some (3, 2) := by decide +kernel
theorem fF_297_19_31 : a_fld (a_own 297) 19 31 = some (4, 2) := by decide +kernel
theorem fF_297_37_31 : a_fld (a_own 297) 37 31 = some (0, 0) := by decide +kernel
theorem fF_297_7_31 : a_fld (a_own 297) 7 31 = some (1, 2) := by decide +kernel
theorem fF_29_120_20 : a_fld (a_own 29) 120 20 = some (1, 2) := by decide +kernel
theorem fF_29_131_10 : a_fld (a_own 29) 131 10 = some (2, 0) := by decide +kernel
theorem fF_29_134_10 : a_fld (a_own 29) 134 10 = some (3, 0) := by decide +kernel
theorem fF_29_34_21 : a_fld (a_own 29) 34 21 = some (7, 2) := by decide +kernel
theorem fF_2_15_15 : a_fld (a_own 2) 15 15 = some (6, 2) := by decide +kernel
theorem fF_2_18_15 : a_fld (a_own 2) 18 15 = some (0, 0) := by decide +kernel
theorem fF_2_22_15 : a_fld (a_own 2) 22 15 = some (1, 0) := by decide +kernel
theorem fF_2_25_15 : a_fld (a_own 2) 25 15 = some (2, 0) := by decide +kernel
theorem fF_2_28_15 : a_fld (a_own 2) 28 15 = some (3, 0) := by decide +kernel
theorem fF_2_31_15 : a_fld (a_own 2) 31 15 = some (4, 0) := by decide +kernel
theorem fF_2_9_15 : a_fld (a_own 2) 9 15 = some (5, 2) := by decide +kernel
theorem fF_302_9_1 : a_fld (a_own 302) 9 1 = some (0, 2) := by decide +kernel
theorem fF_303_9_1 : a_fld (a_own 303) 9 1 = some (0, 2) := by decide +kernel
theorem fF_304_15_1 : a_fld (a_own 304) 15 1 = some (1, 0) := by decide +kernel
theorem fF_305_15_1 : a_fld (a_own 305) 15 1 = some (1, 0) := by decide +kernel
theorem fF_30_120_20 : a_fld (a_own 30) 120 20 = some (1, 2) := by decide +kernel
theorem fF_30_141_10 : a_fld (a_own 30) 141 10 = some (4, 0) := by decide +kernel
theorem fF_30_34_21 : a_fld (a_own 30) 34 21 = some (7, 2) := by decide +kernel
theorem fF_31_120_20 : a_fld (a_own 31) 120 20 = some (1, 2) := by decide +kernel
theorem fF_31_145_10 : a_fld (a_own 31) 145 10 = some (5, 0) := by decide +kernel
theorem fF_32_34_21 : a_fld (a_own 32) 34 21 = some (7, 2) := by decide +kernel
theorem fF_33_25_21 : a_fld (a_own 33) 25 21 = some (4, 0) := by decide +kernel
theorem fF_33_34_21 : a_fld (a_own 33) 34 21 = some (7, 2) := by decide +kernel
theorem fF_34_28_21 : a_fld (a_own 34) 28 21 = some (5, 0) := by decide +kernel
theorem fF_34_31_21 : a_fld (a_own 34) 31 21 = some (6, 0) := by decide +kernel
theorem fF_34_9_21 : a_fld (a_own 34) 9 21 = some (0, 2) := by decide +kernel
theorem fF_35_25_21 : a_fld (a_own 35) 25 21 = some (4, 0) := by decide +kernel
theorem fF_35_28_21 : a_fld (a_own 35) 28 21 = some (5, 0) := by decide +kernel
theorem fF_35_31_21 : a_fld (a_own 35) 31 21 = some (6, 0) := by decide +kernel
theorem fF_35_9_21 : a_fld (a_own 35) 9 21 = some (0, 2) := by decide +kernel
theorem fF_36_15_21 : a_fld (a_own 36) 15 21 = some (1, 0) := by decide +kernel
theorem fF_36_25_21 : a_fld (a_own 36) 25 21 = some (4, 0) := by decide +kernel
theorem fF_36_28_21 : a_fld (a_own 36) 28 21 = some (5, 0) := by decide +kernel
theorem fF_36_31_21 : a_fld (a_own 36) 31 21 = some (6, 0) := by decide +kernel
theorem fF_36_9_21 : a_fld (a_own 36) 9 21 = some (0, 2) := by decide +kernel
theorem fF_3_15_15 : a_fld (a_own 3) 15 15 = some (6, 2) := by decide +kernel
theorem fF_3_9_15 : a_fld (a_own 3) 9 15 = some (5, 2) := by decide +kernel
theorem fF_40_12_20 : a_fld (a_own 40) 12 20 = some (0, 2) := by decide +kernel
theorem fF_40_21_20 : a_fld (a_own 40) 21 20 = some (1, 2) := by decide +kernel
theorem fF_40_37_20 : a_fld (a_own 40) 37 20 = some (6, 2) := by decide +kernel
theorem fF_40_48_20 : a_fld (a_own 40) 48 20 = some (3, 0) := by decide +kernel
theorem fF_40_52_20 : a_fld (a_own 40) 52 20 = some (5, 0) := by decide +kernel
theorem fF_40_61_20 : a_fld (a_own 40) 61 20 = some (7, 0) := by decide +kernel
theorem fF_40_64_20 : a_fld (a_own 40) 64 20 = some (8, 0) := by decide +kernel
theorem fF_40_67_20 : a_fld (a_own 40) 67 20 = some (9, 0) := by decide +kernel
theorem fF_41_12_20 : a_fld (a_own 41) 12 20 = some (0, 2) := by decide +kernel
theorem fF_41_21_20 : a_fld (a_own 41) 21 20 = some (1, 2) := by decide +kernel
theorem fF_41_27_20 : a_fld (a_own 41) 27 20 = some (2, 2) := by decide +kernel
theorem fF_41_33_20 : a_fld (a_own 41) 33 20 = some (4, 2) := by decide +kernel
theorem fF_41_37_20 : a_fld (a_own 41) 37 20 = some (6, 2) := by decide +kernel
theorem fF_41_48_20 : a_fld (a_own 41) 48 20 = some (3, 0) := by decide +kernel
theorem fF_41_52_20 : a_fld (a_own 41) 52 20 = some (5, 0) := by decide +kernel
theorem fF_41_61_20 : a_fld (a_own 41) 61 20 = some (7, 0) := by decide +kernel
theorem fF_41_64_20 : a_fld (a_own 41) 64 20 = some (8, 0) := by decide +kernel
theorem fF_41_67_20 : a_fld (a_own 41) 67 20 = some (9, 0) := by decide +kernel
theorem fF_42_48_20 : a_fld (a_own 42) 48 20 = some (3, 0) := by decide +kernel
theorem fF_43_21_20 : a_fld (a_own 43) 21 20 = some (1, 2) := by decide +kernel
theorem fF_43_93_10 : a_fld (a_own 43) 93 10 = some (4, 0) := by decide +kernel
theorem fF_44_27_20 : a_fld (a_own 44) 27 20 = some (2, 2) := by decide +kernel
theorem fF_44_48_20 : a_fld (a_own 44) 48 20 = some (3, 0) := by decide +kernel
theorem fF_44_64_20 : a_fld (a_own 44) 64 20 = some (8, 0) := by decide +kernel
theorem fF_45_103_14 : a_fld (a_own 45) 103 14 = some (8, 0) := by decide +kernel
theorem fF_45_106_14 : a_fld (a_own 45) 106 14 = some (0, 0) := by decide +kernel
theorem fF_45_27_20 : a_fld (a_own 45) 27 20 = some (2, 2) := by decide +kernel
theorem fF_45_48_20 : a_fld (a_own 45) 48 20 = some (3, 0) := by decide +kernel
theorem fF_46_109_14 : a_fld (a_own 46) 109 14 = some (1, 0) := by decide +kernel
theorem fF_46_112_14 : a_fld (a_own 46) 112 14 = some (3, 0) := by decide +kernel
theorem fF_46_27_20 : a_fld (a_own 46) 27 20 = some (2, 2) := by decide +kernel
theorem fF_46_48_20 : a_fld (a_own 46) 48 20 = some (3, 0) := by decide +kernel
theorem fF_47_103_14 : a_fld (a_own 47) 103 14 = some (8, 0) := by decide +kernel
theorem fF_47_27_20 : a_fld (a_own 47) 27 20 = some (2, 2) := by decide +kernel
theorem fF_47_48_20 : a_fld (a_own 47) 48 20 = some (3, 0) := by decide +kernel
theorem fF_48_109_14 : a_fld (a_own 48) 109 14 = some (1, 0) := by decide +kernel
theorem fF_48_121_14 : a_fld (a_own 48) 121 14 = some (2, 0) := by decide +kernel
theorem fF_48_124_10 : a_fld (a_own 48) 124 10 = some (2, 0) := by decide +kernel
theorem fF_48_127_10 : a_fld (a_own 48) 127 10 = some (3, 0) := by decide +kernel
theorem fF_48_21_20 : a_fld (a_own 48) 21 20 = some (1, 2) := by decide +kernel
theorem fF_48_64_20 : a_fld (a_own 48) 64 20 = some (8, 0) := by decide +kernel
theorem fF_49_112_14 : a_fld (a_own 49) 112 14 = some (3, 0) := by decide +kernel
theorem fF_49_27_20 : a_fld (a_own 49) 27 20 = some (2, 2) := by decide +kernel
theorem fF_49_48_20 : a_fld (a_own 49) 48 20 = some (3, 0) := by decide +kernel
theorem fF_50_134_14 : a_fld (a_own 50) 134 14 = some (7, 0) := by decide +kernel
theorem fF_50_27_20 : a_fld (a_own 50) 27 20 = some (2, 2) := by decide +kernel
theorem fF_50_48_20 : a_fld (a_own 50) 48 20 = some (3, 0) := by decide +kernel
theorem fF_51_134_14 : a_fld (a_own 51) 134 14 = some (7, 0) := by decide +kernel
theorem fF_51_27_20 : a_fld (a_own 51) 27 20 = some (2, 2) := by decide +kernel
theorem fF_51_48_20 : a_fld (a_own 51) 48 20 = some (3, 0) := by decide +kernel
theorem fF_52_134_14 : a_fld (a_own 52) 134 14 = some (7, 0) := by decide +kernel
theorem fF_52_27_20 : a_fld (a_own 52) 27 20 = some (2, 2) := by decide +kernel
theorem fF_52_48_20 : a_fld (a_own 52) 48 20 = some (3, 0) := by decide +kernel
theorem fF_54_52_20 : a_fld (a_own 54) 52 20 = some (5, 0) := by decide +kernel
theorem fF_55_33_20 : a_fld (a_own 55) 33 20 = some (4, 2) := by decide +kernel
theorem fF_56_52_20 : a_fld (a_own 56) 52 20 = some (5, 0) := by decide +kernel
theorem fF_57_154_15 : a_fld (a_own 57) 154 15 = some (3, 0) := by decide +kernel
theorem fF_57_157_15 : a_fld (a_own 57) 157 15 = some (1, 0) := by decide +kernel
theorem fF_57_52_20 : a_fld (a_own 57) 52 20 = some (5, 0) := by decide +kernel
theorem fF_58_157_15 : a_fld (a_own 58) 157 15 = some (1, 0) := by decide +kernel
theorem fF_58_52_20 : a_fld (a_own 58) 52 20 = some (5, 0) := by decide +kernel
theorem fF_59_12_20 : a_fld (a_own 59) 12 20 = some (0, 2) := by decide +kernel
theorem fF_59_166_10 : a_fld (a_own 59) 166 10 = some (5, 0) := by decide +kernel
theorem fF_59_21_20 : a_fld (a_own 59) 21 20 = some (1, 2) := by decide +kernel
theorem fF_59_64_20 : a_fld (a_own 59) 64 20 = some (8, 0) := by decide +kernel
theorem fF_5_28_15 : a_fld (a_own 5) 28 15 = some (3, 0) := by decide +kernel
theorem fF_60_12_20 : a_fld (a_own 60) 12 20 = some (0, 2) := by decide +kernel
theorem fF_60_166_10 : a_fld (a_own 60) 166 10 = some (5, 0) := by decide +kernel
theorem fF_60_21_20 : a_fld (a_own 60) 21 20 = some (1, 2) := by decide +kernel
theorem fF_61_12_20 : a_fld (a_own 61) 12 20 = some (0, 2) := by decide +kernel
theorem fF_61_154_15 : a_fld (a_own 61) 154 15 = some (3, 0) := by decide +kernel
theorem fF_61_166_10 : a_fld (a_own 61) 166 10 = some (5, 0) := by decide +kernel
theorem fF_61_180_9 : a_fld (a_own 61) 180 9 = some (4, 2) := by decide +kernel
theorem fF_61_21_20 : a_fld (a_own 61) 21 20 = some (1, 2) := by decide +kernel
theorem fF_61_52_20 : a_fld (a_own 61) 52 20 = some (5, 0) := by decide +kernel
theorem fF_61_61_20 : a_fld (a_own 61) 61 20 = some (7, 0) := by decide +kernel
theorem fF_61_64_20 : a_fld (a_own 61) 64 20 = some (8, 0) := by decide +kernel
theorem fF_62_12_20 : a_fld (a_own 62) 12 20 = some (0, 2) := by decide +kernel
theorem fF_62_180_9 : a_fld (a_own 62) 180 9 = some (4, 2) := by decide +kernel
theorem fF_62_192_18 : a_fld (a_own 62) 192 18 = some (6, 2) := by decide +kernel
theorem fF_62_52_20 : a_fld (a_own 62) 52 20 = some (5, 0) := by decide +kernel
theorem fF_62_64_20 : a_fld (a_own 62) 64 20 = some (8, 0) := by decide +kernel
theorem fF_63_12_20 : a_fld (a_own 63) 12 20 = some (0, 2) := by decide +kernel
theorem fF_63_154_15 : a_fld (a_own 63) 154 15 = some (3, 0) := by decide +kernel
theorem fF_63_157_15 : a_fld (a_own 63) 157 15 = some (1, 0) := by decide +kernel
theorem fF_63_180_9 : a_fld (a_own 63) 180 9 = some (4, 2) := by decide +kernel
theorem fF_63_192_18 : a_fld (a_own 63) 192 18 = some (6, 2) := by decide +kernel
theorem fF_63_201_10 : a_fld (a_own 63) 201 10 = some (0, 0) := by decide +kernel
theorem fF_63_208_15 : a_fld (a_own 63) 208 15 = some (4, 0) := by decide +kernel
theorem fF_63_21_20 : a_fld (a_own 63) 21 20 = some (1, 2) := by decide +kernel
theorem fF_63_37_20 : a_fld (a_own 63) 37 20 = some (6, 2) := by decide +kernel
theorem fF_63_52_20 : a_fld (a_own 63) 52 20 = some (5, 0) := by decide +kernel
theorem fF_63_64_20 : a_fld (a_own 63) 64 20 = some (8, 0) := by decide +kernel
theorem fF_64_103_14 : a_fld (a_own 64) 103 14 = some (8, 0) := by decide +kernel
theorem fF_64_208_15 : a_fld (a_own 64) 208 15 = some (4, 0) := by decide +kernel
theorem fF_64_214_15 : a_fld (a_own 64) 214 15 = some (6, 2) := by decide +kernel
theorem fF_64_220_15 : a_fld (a_own 64) 220 15 = some (5, 2) := by decide +kernel
theorem fF_64_223_15 : a_fld (a_own 64) 223 15 = some (0, 0) := by decide +kernel
theorem fF_64_229_14 : a_fld (a_own 64) 229 14 = some (5, 0) := by decide +kernel
theorem fF_64_27_20 : a_fld (a_own 64) 27 20 = some (2, 2) := by decide +kernel
theorem fF_64_37_20 : a_fld (a_own 64) 37 20 = some (6, 2) := by decide +kernel
theorem fF_64_48_20 : a_fld (a_own 64) 48 20 = some (3, 0) := by decide +kernel
theorem fF_64_64_20 : a_fld (a_own 64) 64 20 = some (8, 0) := by decide +kernel
theorem fF_65_208_15 : a_fld (a_own 65) 208 15 = some (4, 0) := by decide +kernel
theorem fF_65_21_20 : a_fld (a_own 65) 21 20 = some (1, 2) := by decide +kernel
theorem fF_65_235_10 : a_fld (a_own 65) 235 10 = some (1, 0) := by decide +kernel
theorem fF_65_37_20 : a_fld (a_own 65) 37 20 = some (6, 2) := by decide +kernel
theorem fF_65_52_20 : a_fld (a_own 65) 52 20 = some (5, 0) := by decide +kernel
theorem fF_65_64_20 : a_fld (a_own 65) 64 20 = some (8, 0) := by decide +kernel
theorem fF_66_220_15 : a_fld (a_own 66) 220 15 = some (5, 2) := by decide +kernel
theorem fF_66_223_15 : a_fld (a_own 66) 223 15 = some (0, 0) := by decide +kernel
theorem fF_66_27_20 : a_fld (a_own 66) 27 20 = some (2, 2) := by decide +kernel
theorem fF_66_48_20 : a_fld (a_own 66) 48 20 = some (3, 0) := by decide +kernel
theorem fF_67_192_18 : a_fld (a_own 67) 192 18 = some (6, 2) := by decide +kernel
theorem fF_67_238_18 : a_fld (a_own 67) 238 18 = some (4, 0) := by decide +kernel
theorem fF_68_192_18 : a_fld (a_own 68) 192 18 = some (6, 2) := by decide +kernel
theorem fF_68_214_15 : a_fld (a_own 68) 214 15 = some (6, 2) := by decide +kernel
theorem fF_68_220_15 : a_fld (a_own 68) 220 15 = some (5, 2) := by decide +kernel
theorem fF_68_223_15 : a_fld (a_own 68) 223 15 = some (0, 0) := by decide +kernel
theorem fF_68_257_18 : a_fld (a_own 68) 257 18 = some (5, 0) := by decide +kernel
theorem fF_68_27_20 : a_fld (a_own 68) 27 20 = some (2, 2) := by decide +kernel
theorem fF_68_37_20 : a_fld (a_own 68) 37 20 = some (6, 2) := by decide +kernel
theorem fF_69_134_14 : a_fld (a_own 69) 134 14 = some (7, 0) := by decide +kernel
theorem fF_69_264_14 : a_fld (a_own 69) 264 14 = some (6, 0) := by decide +kernel
theorem fF_69_37_20 : a_fld (a_own 69) 37 20 = some (6, 2) := by decide +kernel
theorem fF_69_64_20 : a_fld (a_own 69) 64 20 = some (8, 0) := by decide +kernel
theorem fF_70_67_20 : a_fld (a_own 70) 67 20 = some (9, 0) := by decide +kernel
theorem fF_72_22_9 : a_fld (a_own 72) 22 9 = some (0, 0) := by decide +kernel
theorem fF_72_26_9 : a_fld (a_own 72) 26 9 = some (1, 0) := by decide +kernel
theorem fF_72_29_9 : a_fld (a_own 72) 29 9 = some (2, 0) := by decide +kernel
theorem fF_72_32_9 : a_fld (a_own 72) 32 9 = some (3, 0) := by decide +kernel
theorem fF_73_11_9 : a_fld (a_own 73) 11 9 = some (4, 2) := by decide +kernel
theorem fF_73_17_9 : a_fld (a_own 73) 17 9 = some (5, 2) := by decide +kernel
theorem fF_73_22_9 : a_fld (a_own 73) 22 9 = some (0, 0) := by decide +kernel
theorem fF_73_26_9 : a_fld (a_own 73) 26 9 = some (1, 0) := by decide +kernel
theorem fF_73_29_9 : a_fld (a_own 73) 29 9 = some (2, 0) := by decide +kernel
theorem fF_73_32_9 : a_fld (a_own 73) 32 9 = some (3, 0) := by decide +kernel
theorem fF_74_22_9 : a_fld (a_own 74) 22 9 = some (0, 0) := by decide +kernel
theorem fF_74_26_9 : a_fld (a_own 74) 26 9 = some (1, 0) := by decide +kernel
theorem fF_74_29_9 : a_fld (a_own 74) 29 9 = some (2, 0) := by decide +kernel
theorem fF_75_32_9 : a_fld (a_own 75) 32 9 = some (3, 0) := by decide +kernel
theorem fF_76_11_9 : a_fld (a_own 76) 11 9 = some (4, 2) := by decide +kernel
theorem fF_76_32_9 : a_fld (a_own 76) 32 9 = some (3, 0) := by decide +kernel
theorem fF_76_47_18 : a_fld (a_own 76) 47 18 = some (0, 0) := by decide +kernel
theorem fF_76_50_18 : a_fld (a_own 76) 50 18 = some (1, 0) := by decide +kernel
theorem fF_76_53_18 : a_fld (a_own 76) 53 18 = some (2, 0) := by decide +kernel
theorem fF_76_56_18 : a_fld (a_own 76) 56 18 = some (3, 0) := by decide +kernel
theorem fF_76_59_18 : a_fld (a_own 76) 59 18 = some (4, 0) := by decide +kernel
theorem fF_76_62_18 : a_fld (a_own 76) 62 18 = some (5, 0) := by decide +kernel
theorem fF_76_65_18 : a_fld (a_own 76) 65 18 = some (6, 2) := by decide +kernel
theorem fF_77_11_9 : a_fld (a_own 77) 11 9 = some (4, 2) := by decide +kernel
theorem fF_77_17_9 : a_fld (a_own 77) 17 9 = some (5, 2) := by decide +kernel
theorem fF_77_56_18 : a_fld (a_own 77) 56 18 = some (3, 0) := by decide +kernel
theorem fF_78_11_9 : a_fld (a_own 78) 11 9 = some (4, 2) := by decide +kernel
theorem fF_78_32_9 : a_fld (a_own 78) 32 9 = some (3, 0) := by decide +kernel
theorem fF_78_62_18 : a_fld (a_own 78) 62 18 = some (5, 0) := by decide +kernel
theorem fF_79_22_9 : a_fld (a_own 79) 22 9 = some (0, 0) := by decide +kernel
theorem fF_7_15_14 : a_fld (a_own 7) 15 14 = some (0, 0) := by decide +kernel
theorem fF_7_19_14 : a_fld (a_own 7) 19 14 = some (1, 0) := by decide +kernel
theorem fF_7_22_14 : a_fld (a_own 7) 22 14 = some (2, 0) := by decide +kernel
theorem fF_7_29_14 : a_fld (a_own 7) 29 14 = some (3, 0) := by decide +kernel
theorem fF_7_32_14 : a_fld (a_own 7) 32 14 = some (4, 0) := by decide +kernel
theorem fF_7_35_14 : a_fld (a_own 7) 35 14 = some (5, 0) := by decide +kernel
theorem fF_7_38_14 : a_fld (a_own 7) 38 14 = some (6, 0) := by decide +kernel
theorem fF_7_41_14 : a_fld (a_own 7) 41 14 = some (7, 0) := by decide +kernel
theorem fF_7_44_14 : a_fld (a_own 7) 44 14 = some (8, 0) := by decide +kernel
theorem fF_7_9_14 : a_fld (a_own 7) 9 14 = some (9, 2) := by decide +kernel
theorem fF_80_22_9 : a_fld (a_own 80) 22 9 = some (0, 0) := by decide +kernel
theorem fF_80_56_18 : a_fld (a_own 80) 56 18 = some (3, 0) := by decide +kernel
theorem fF_81_26_9 : a_fld (a_own 81) 26 9 = some (1, 0) := by decide +kernel
theorem fF_81_29_9 : a_fld (a_own 81) 29 9 = some (2, 0) := by decide +kernel
theorem fF_81_47_18 : a_fld (a_own 81) 47 18 = some (0, 0) := by decide +kernel
theorem fF_81_50_18 : a_fld (a_own 81) 50 18 = some (1, 0) := by decide +kernel
theorem fF_81_53_18 : a_fld (a_own 81) 53 18 = some (2, 0) := by decide +kernel
theorem fF_82_53_18 : a_fld (a_own 82) 53 18 = some (2, 0) := by decide +kernel
theorem fF_82_56_18 : a_fld (a_own 82) 56 18 = some (3, 0) := by decide +kernel
theorem fF_84_11_9 : a_fld (a_own 84) 11 9 = some (4, 2) := by decide +kernel
theorem fF_84_32_9 : a_fld (a_own 84) 32 9 = some (3, 0) := by decide +kernel
theorem fF_85_11_9 : a_fld (a_own 85) 11 9 = some (4, 2) := by decide +kernel
theorem fF_85_32_9 : a_fld (a_own 85) 32 9 = some (3, 0) := by decide +kernel
theorem fF_86_11_9 : a_fld (a_own 86) 11 9 = some (4, 2) := by decide +kernel
theorem fF_86_17_9 : a_fld (a_own 86) 17 9 = some (5, 2) := by decide +kernel
theorem fF_86_32_9 : a_fld (a_own 86) 32 9 = some (3, 0) := by decide +kernel
theorem fF_88_11_9 : a_fld (a_own 88) 11 9 = some (4, 2) := by decide +kernel
theorem fF_8_15_14 : a_fld (a_own 8) 15 14 = some (0, 0) := by decide +kernel
theorem fF_8_19_14 : a_fld (a_own 8) 19 14 = some (1, 0) := by decide +kernel
theorem fF_8_22_14 : a_fld (a_own 8) 22 14 = some (2, 0) := by decide +kernel
theorem fF_8_29_14 : a_fld (a_own 8) 29 14 = some (3, 0) := by decide +kernel
theorem fF_8_32_14 : a_fld (a_own 8) 32 14 = some (4, 0) := by decide +kernel
theorem fF_8_35_14 : a_fld (a_own 8) 35 14 = some (5, 0) := by decide +kernel
theorem fF_8_38_14 : a_fld (a_own 8) 38 14 = some (6, 0) := by decide +kernel
theorem fF_8_41_14 : a_fld (a_own 8) 41 14 = some (7, 0) := by decide +kernel
theorem fF_8_44_14 : a_fld (a_own 8) 44 14 = some (8, 0) := by decide +kernel
theorem fF_8_9_14 : a_fld (a_own 8) 9 14 = some (9, 2) := by decide +kernel
theorem fF_93_11_9 : a_fld (a_own 93) 11 9 = some (4, 2) := by decide +kernel
theorem fF_93_32_9 : a_fld (a_own 93) 32 9 = some (3, 0) := by decide +kernel
theorem fF_93_59_18 : a_fld (a_own 93) 59 18 = some (4, 0) := by decide +kernel
theorem fF_95_15_18 : a_fld (a_own 95) 15 18 = some (0, 0) := by decide +kernel
theorem fF_95_19_18 : a_fld (a_own 95) 19 18 = some (1, 0) := by decide +kernel
theorem fF_95_22_18 : a_fld (a_own 95) 22 18 = some (2, 0) := by decide +kernel
theorem fF_95_25_18 : a_fld (a_own 95) 25 18 = some (3, 0) := by decide +kernel
theorem fF_95_28_18 : a_fld (a_own 95) 28 18 = some (4, 0) := by decide +kernel
theorem fF_95_31_18 : a_fld (a_own 95) 31 18 = some (5, 0) := by decide +kernel
theorem fF_95_9_18 : a_fld (a_own 95) 9 18 = some (6, 2) := by decide +kernel
theorem fF_97_10_30 : a_fld (a_own 97) 10 30 = some (0, 2) := by decide +kernel
theorem fF_97_38_20 : a_fld (a_own 97) 38 20 = some (0, 2) := by decide +kernel
theorem fF_97_42_9 : a_fld (a_own 97) 42 9 = some (0, 0) := by decide +kernel
theorem fF_98_10_30 : a_fld (a_own 98) 10 30 = some (0, 2) := by decide +kernel
theorem fF_98_38_20 : a_fld (a_own 98) 38 20 = some (0, 2) := by decide +kernel
theorem fF_99_10_30 : a_fld (a_own 99) 10 30 = some (0, 2) := by decide +kernel
theorem fF_99_38_20 : a_fld (a_own 99) 38 20 = some (0, 2) := by decide +kernel
theorem fF_99_66_9 : a_fld (a_own 99) 66 9 = some (3, 0) := by decide +kernel
theorem fF_9_15_14 : a_fld (a_own 9) 15 14 = some (0, 0) := by decide +kernel
theorem fG_304_38 : a_cpG (a_own 304) 38 = some (.inl 1) := by decide +kernel
theorem fG_305_38 : a_cpG (a_own 305) 38 = some (.inl 1) := by decide +kernel
theorem fG_306_1053 : a_cpG (a_own 306) 1053 = some (.inr (.inr (some (3, 0)))) := by decide +kernel
theorem fK_56_144 : a_cpM (a_own 56) 144 = some (0, 11) := by decide +kernel
theorem fK_81_78 : a_cpM (a_own 81) 78 = some (0, 9) := by decide +kernel
theorem fK_81_84 : a_cpM (a_own 81) 84 = some (0, 10) := by decide +kernel
theorem fK_92_117 : a_cpM (a_own 92) 117 = some (0, 11) := by decide +kernel
theorem fL_237_149 : a_cpL (a_own 237) 149 = some 1103515245 := by decide +kernel
theorem fL_237_151 : a_cpL (a_own 237) 151 = some 12345 := by decide +kernel
theorem fL_237_153 : a_cpL (a_own 237) 153 = some 2147483648 := by decide +kernel
theorem fL_70_267 : a_cpL (a_own 70) 267 = some 1103515245 := by decide +kernel
theorem fL_70_269 : a_cpL (a_own 70) 269 = some 12345 := by decide +kernel
theorem fL_70_271 : a_cpL (a_own 70) 271 = some 2147483648 := by decide +kernel
theorem fM_100_34 : a_cx 100 34 1 = some (160, 1, 3) := by decide +kernel
theorem fM_100_69 : a_cx 100 69 0 = some (162, 0, 2) := by decide +kernel
theorem fM_101_34 : a_cx 101 34 1 = some (160, 1, 3) := by decide +kernel
theorem fM_102_34 : a_cx 102 34 1 = some (160, 1, 3) := by decide +kernel
theorem fM_103_34 : a_cx 103 34 1 = some (160, 1, 3) := by decide +kernel
theorem fM_104_100 : a_cx 104 100 0 = some (45, 0, 1) := by decide +kernel
theorem fM_104_34 : a_cx 104 34 1 = some (160, 1, 3) := by decide +kernel
theorem fM_105_34 : a_cx 105 34 1 = some (160, 1, 3) := by decide +kernel
theorem fM_106_34 : a_cx 106 34 1 = some (160, 1, 3) := by decide +kernel
theorem fM_107_116 : a_cx 107 116 0 = some (81, 0, 3) := by decide +kernel
theorem fM_107_120 : a_cx 107 120 0 = some (80, 0, 3) := by decide +kernel
theorem fM_107_34 : a_cx 107 34 1 = some (160, 1, 3) := by decide +kernel
theorem fM_107_69 : a_cx 107 69 0 = some (162, 0, 2) := by decide +kernel
theorem fM_108_116 : a_cx 108 116 0 = some (81, 0, 3) := by decide +kernel
theorem fM_108_120 : a_cx 108 120 0 = some (80, 0, 3) := by decide +kernel
theorem fM_108_34 : a_cx 108 34 1 = some (160, 1, 3) := by decide +kernel
theorem fM_108_69 : a_cx 108 69 0 = some (162, 0, 2) := by decide +kernel
theorem fM_109_124 : a_cx 109 124 0 = some (83, 0, 3) := by decide +kernel
theorem fM_109_34 : a_cx 109 34 1 = some (160, 1, 3) := by decide +kernel
theorem fM_109_69 : a_cx 109 69 0 = some (162, 0, 2) := by decide +kernel
theorem fM_110_128 : a_cx 110 128 0 = some (86, 0, 4) := by decide +kernel
theorem fM_110_34 : a_cx 110 34 1 = some (160, 1, 3) := by decide +kernel
theorem fM_111_132 : a_cx 111 132 0 = some (59, 0, 2) := by decide +kernel
theorem fM_111_34 : a_cx 111 34 1 = some (160, 1, 3) := by decide +kernel
theorem fM_112_136 : a_cx 112 136 1 = some (161, 1, 2) := by decide +kernel
theorem fM_112_140 : a_cx 112 140 0 = some (91, 0, 3) := by decide +kernel
theorem fM_112_144 : a_cx 112 144 0 = some (90, 0, 4) := by decide +kernel
theorem fM_112_69 : a_cx 112 69 0 = some (162, 0, 2) := by decide +kernel
theorem fM_113_136 : a_cx 113 136 1 = some (161, 1, 2) := by decide +kernel
theorem fM_113_148 : a_cx 113 148 0 = some (92, 0, 3) := by decide +kernel
theorem fM_114_136 : a_cx 114 136 1 = some (161, 1, 2) := by decide +kernel
theorem fM_114_151 : a_cx 114 151 0 = some (93, 0, 3) := by decide +kernel
theorem fM_115_154 : a_cx 115 154 0 = some (89, 0, 3) := by decide +kernel
theorem fM_115_34 : a_cx 115 34 1 = some (160, 1, 3) := by decide +kernel
theorem fM_115_69 : a_cx 115 69 0 = some (162, 0, 2) := by decide +kernel
theorem fM_116_116 : a_cx 116 116 0 = some (81, 0, 3) := by decide +kernel
theorem fM_116_34 : a_cx 116 34 1 = some (160, 1, 3) := by decide +kernel
theorem fM_116_69 : a_cx 116 69 0 = some (162, 0, 2) := by decide +kernel
theorem fM_117_160 : a_cx 117 160 0 = some (42, 0, 1) := by decide +kernel
theorem fM_117_161 : a_cx 117 161 0 = some (43, 0, 2) := by decide +kernel
theorem fM_117_167 : a_cx 117 167 0 = some (44, 0, 3) := by decide +kernel
theorem fM_117_34 : a_cx 117 34 1 = some (160, 1, 3) := by decide +kernel
theorem fM_119_172 : a_cx 119 172 0 = some (163, 0, 2) := by decide +kernel
theorem fM_119_34 : a_cx 119 34 1 = some (160, 1, 3) := by decide +kernel
theorem fM_120_172 : a_cx 120 172 0 = some (163, 0, 2) := by decide +kernel
theorem fM_120_184 : a_cx 120 184 0 = some (48, 0, 2) := by decide +kernel
theorem fM_121_188 : a_cx 121 188 0 = some (49, 0, 1) := by decide +kernel
theorem fM_122_172 : a_cx 122 172 0 = some (163, 0, 2) := by decide +kernel
theorem fM_122_191 : a_cx 122 191 0 = some (11, 0, 1) := by decide +kernel
theorem fM_123_172 : a_cx 123 172 0 = some (163, 0, 2) := by decide +kernel
theorem fM_123_34 : a_cx 123 34 1 = some (160, 1, 3) := by decide +kernel
theorem fM_124_172 : a_cx 124 172 0 = some (163, 0, 2) := by decide +kernel
theorem fM_124_209 : a_cx 124 209 1 = some (159, 1, 3) := by decide +kernel
theorem fM_125_172 : a_cx 125 172 0 = some (163, 0, 2) := by decide +kernel
theorem fM_126_172 : a_cx 126 172 0 = some (163, 0, 2) := by decide +kernel
theorem fM_127_227 : a_cx 127 227 0 = some (46, 0, 2) := by decide +kernel
theorem fM_127_34 : a_cx 127 34 1 = some (160, 1, 3) := by decide +kernel
theorem fM_128_230 : a_cx 128 230 0 = some (47, 0, 1) := by decide +kernel
theorem fM_129_100 : a_cx 129 100 0 = some (45, 0, 1) := by decide +kernel
theorem fM_131_238 : a_cx 131 238 0 = some (61, 0, 1) := by decide +kernel
theorem fM_131_34 : a_cx 131 34 1 = some (160, 1, 3) := by decide +kernel
theorem fM_133_244 : a_cx 133 244 0 = some (57, 0, 1) := by decide +kernel
theorem fM_134_247 : a_cx 134 247 0 = some (164, 0, 2) := by decide +kernel
theorem fM_134_250 : a_cx 134 250 0 = some (55, 0, 2) := by decide +kernel
theorem fM_135_247 : a_cx 135 247 0 = some (164, 0, 2) := by decide +kernel
theorem fM_135_250 : a_cx 135 250 0 = some (55, 0, 2) := by decide +kernel
theorem fM_136_247 : a_cx 136 247 0 = some (164, 0, 2) := by decide +kernel
theorem fM_136_250 : a_cx 136 250 0 = some (55, 0, 2) := by decide +kernel
theorem fM_137_247 : a_cx 137 247 0 = some (164, 0, 2) := by decide +kernel
theorem fM_137_250 : a_cx 137 250 0 = some (55, 0, 2) := by decide +kernel
theorem fM_138_172 : a_cx 138 172 0 = some (163, 0, 2) := by decide +kernel
theorem fM_138_247 : a_cx 138 247 0 = some (164, 0, 2) := by decide +kernel
theorem fM_138_250 : a_cx 138 250 0 = some (55, 0, 2) := by decide +kernel
theorem fM_138_268 : a_cx 138 268 0 = some (3, 0, 2) := by decide +kernel
theorem fM_139_247 : a_cx 139 247 0 = some (164, 0, 2) := by decide +kernel
theorem fM_139_250 : a_cx 139 250 0 = some (55, 0, 2) := by decide +kernel
theorem fM_139_272 : a_cx 139 272 0 = some (4, 0, 2) := by decide +kernel
theorem fM_140_276 : a_cx 140 276 0 = some (58, 0, 2) := by decide +kernel
theorem fM_140_69 : a_cx 140 69 0 = some (162, 0, 2) := by decide +kernel
theorem fM_141_34 : a_cx 141 34 1 = some (160, 1, 3) := by decide +kernel
theorem fM_142_34 : a_cx 142 34 1 = some (160, 1, 3) := by decide +kernel
theorem fM_142_69 : a_cx 142 69 0 = some (162, 0, 2) := by decide +kernel
theorem fM_144_286 : a_cx 144 286 0 = some (50, 0, 1) := by decide +kernel
theorem fM_144_289 : a_cx 144 289 1 = some (168, 1, 2) := by decide +kernel
theorem fM_145_286 : a_cx 145 286 0 = some (50, 0, 1) := by decide +kernel
theorem fM_145_289 : a_cx 145 289 1 = some (168, 1, 2) := by decide +kernel
theorem fM_146_289 : a_cx 146 289 1 = some (168, 1, 2) := by decide +kernel
theorem fM_147_289 : a_cx 147 289 1 = some (168, 1, 2) := by decide +kernel
theorem fM_148_292 : a_cx 148 292 0 = some (52, 0, 2) := by decide +kernel
theorem fM_149_296 : a_cx 149 296 0 = some (51, 0, 1) := by decide +kernel
theorem fM_150_172 : a_cx 150 172 0 = some (163, 0, 2) := by decide +kernel
theorem fM_150_238 : a_cx 150 238 0 = some (61, 0, 1) := by decide +kernel
theorem fM_150_299 : a_cx 150 299 0 = some (166, 0, 1) := by decide +kernel
theorem fM_150_303 : a_cx 150 303 0 = some (78, 0, 1) := by decide +kernel
theorem fM_151_306 : a_cx 151 306 0 = some (167, 0, 3) := by decide +kernel
theorem fM_151_34 : a_cx 151 34 1 = some (160, 1, 3) := by decide +kernel
theorem fM_152_309 : a_cx 152 309 0 = some (19, 0, 1) := by decide +kernel
theorem fM_152_314 : a_cx 152 314 0 = some (20, 0, 2) := by decide +kernel
theorem fM_153_34 : a_cx 153 34 1 = some (160, 1, 3) := by decide +kernel
theorem fM_154_320 : a_cx 154 320 0 = some (165, 0, 1) := by decide +kernel
theorem fM_154_323 : a_cx 154 323 0 = some (40, 0, 1) := by decide +kernel
theorem fM_154_326 : a_cx 154 326 0 = some (21, 0, 2) := by decide +kernel
theorem fM_154_330 : a_cx 154 330 0 = some (41, 0, 2) := by decide +kernel
theorem fM_157_34 : a_cx 157 34 1 = some (160, 1, 3) := by decide +kernel
theorem fM_158_34 : a_cx 158 34 1 = some (160, 1, 3) := by decide +kernel
theorem fM_160_209 : a_cx 160 209 1 = some (159, 1, 3) := by decide +kernel
theorem fM_161_34 : a_cx 161 34 1 = some (160, 1, 3) := by decide +kernel
theorem fM_162_209 : a_cx 162 209 1 = some (159, 1, 3) := by decide +kernel
theorem fM_163_209 : a_cx 163 209 1 = some (159, 1, 3) := by decide +kernel
theorem fM_164_351 : a_cx 164 351 0 = some (54, 0, 2) := by decide +kernel
theorem fM_166_320 : a_cx 166 320 0 = some (165, 0, 1) := by decide +kernel
theorem fM_166_330 : a_cx 166 330 0 = some (41, 0, 2) := by decide +kernel
theorem fM_167_238 : a_cx 167 238 0 = some (61, 0, 1) := by decide +kernel
theorem fM_167_299 : a_cx 167 299 0 = some (166, 0, 1) := by decide +kernel
theorem fM_168_356 : a_cx 168 356 1 = some (169, 1, 2) := by decide +kernel
theorem fM_176_40 : a_cx 176 40 1 = some (174, 1, 2) := by decide +kernel
theorem fM_177_44 : a_cx 177 44 1 = some (173, 1, 3) := by decide +kernel
theorem fM_178_44 : a_cx 178 44 1 = some (173, 1, 3) := by decide +kernel
theorem fM_184_48 : a_cx 184 48 1 = some (183, 1, 1) := by decide +kernel
theorem fM_185_44 : a_cx 185 44 1 = some (173, 1, 3) := by decide +kernel
theorem fM_187_52 : a_cx 187 52 1 = some (185, 1, 3) := by decide +kernel
theorem fM_187_55 : a_cx 187 55 0 = some (186, 0, 4) := by decide +kernel
theorem fM_189_44 : a_cx 189 44 1 = some (173, 1, 3) := by decide +kernel
theorem fM_189_59 : a_cx 189 59 0 = some (188, 0, 7) := by decide +kernel
theorem fM_191_44 : a_cx 191 44 1 = some (173, 1, 3) := by decide +kernel
theorem fM_191_63 : a_cx 191 63 0 = some (177, 0, 2) := by decide +kernel
theorem fM_191_67 : a_cx 191 67 0 = some (179, 0, 3) := by decide +kernel
theorem fM_192_44 : a_cx 192 44 1 = some (173, 1, 3) := by decide +kernel
theorem fM_193_71 : a_cx 193 71 0 = some (192, 0, 5) := by decide +kernel
theorem fM_194_71 : a_cx 194 71 0 = some (192, 0, 5) := by decide +kernel
theorem fM_195_71 : a_cx 195 71 0 = some (192, 0, 5) := by decide +kernel
theorem fM_196_44 : a_cx 196 44 1 = some (173, 1, 3) := by decide +kernel
theorem fM_197_75 : a_cx 197 75 0 = some (181, 0, 3) := by decide +kernel
theorem fM_198_44 : a_cx 198 44 1 = some (173, 1, 3) := by decide +kernel
theorem fM_198_78 : a_cx 198 78 0 = some (197, 0, 1) := by decide +kernel
theorem fM_1_34 : a_cx 1 34 1 = some (308, 1, 2) := by decide +kernel
theorem fM_200_67 : a_cx 200 67 0 = some (179, 0, 3) := by decide +kernel
theorem fM_201_67 : a_cx 201 67 0 = some (179, 0, 3) := by decide +kernel
theorem fM_202_67 : a_cx 202 67 0 = some (179, 0, 3) := by decide +kernel
theorem fM_202_82 : a_cx 202 82 0 = some (201, 0, 3) := by decide +kernel
theorem fM_202_85 : a_cx 202 85 0 = some (200, 0, 3) := by decide +kernel
theorem fM_203_44 : a_cx 203 44 1 = some (173, 1, 3) := by decide +kernel
theorem fM_203_63 : a_cx 203 63 0 = some (177, 0, 2) := by decide +kernel
theorem fM_204_82 : a_cx 204 82 0 = some (201, 0, 3) := by decide +kernel
theorem fM_204_85 : a_cx 204 85 0 = some (200, 0, 3) := by decide +kernel
theorem fM_204_88 : a_cx 204 88 0 = some (203, 0, 3) := by decide +kernel
theorem fM_205_82 : a_cx 205 82 0 = some (201, 0, 3) := by decide +kernel
theorem fM_205_85 : a_cx 205 85 0 = some (200, 0, 3) := by decide +kernel
theorem fM_205_88 : a_cx 205 88 0 = some (203, 0, 3) := by decide +kernel
theorem fM_206_67 : a_cx 206 67 0 = some (179, 0, 3) := by decide +kernel
theorem fM_206_85 : a_cx 206 85 0 = some (200, 0, 3) := by decide +kernel
theorem fM_206_88 : a_cx 206 88 0 = some (203, 0, 3) := by decide +kernel
theorem fM_207_44 : a_cx 207 44 1 = some (173, 1, 3) := by decide +kernel
theorem fM_207_63 : a_cx 207 63 0 = some (177, 0, 2) := by decide +kernel
theorem fM_207_92 : a_cx 207 92 0 = some (202, 0, 3) := by decide +kernel
theorem fM_208_92 : a_cx 208 92 0 = some (202, 0, 3) := by decide +kernel
theorem fM_209_44 : a_cx 209 44 1 = some (173, 1, 3) := by decide +kernel
theorem fM_209_63 : a_cx 209 63 0 = some (177, 0, 2) := by decide +kernel
theorem fM_209_95 : a_cx 209 95 0 = some (208, 0, 3) := by decide +kernel
theorem fM_210_44 : a_cx 210 44 1 = some (173, 1, 3) := by decide +kernel
theorem fM_210_95 : a_cx 210 95 0 = some (208, 0, 3) := by decide +kernel
theorem fM_211_44 : a_cx 211 44 1 = some (173, 1, 3) := by decide +kernel
theorem fM_211_67 : a_cx 211 67 0 = some (179, 0, 3) := by decide +kernel
theorem fM_211_95 : a_cx 211 95 0 = some (208, 0, 3) := by decide +kernel
theorem fM_212_44 : a_cx 212 44 1 = some (173, 1, 3) := by decide +kernel
theorem fM_212_63 : a_cx 212 63 0 = some (177, 0, 2) := by decide +kernel
theorem fM_212_82 : a_cx 212 82 0 = some (201, 0, 3) := by decide +kernel
theorem fM_212_85 : a_cx 212 85 0 = some (200, 0, 3) := by decide +kernel
theorem fM_213_82 : a_cx 213 82 0 = some (201, 0, 3) := by decide +kernel
theorem fM_213_85 : a_cx 213 85 0 = some (200, 0, 3) := by decide +kernel
theorem fM_214_107 : a_cx 214 107 0 = some (213, 0, 3) := by decide +kernel
theorem fM_214_44 : a_cx 214 44 1 = some (173, 1, 3) := by decide +kernel
theorem fM_214_85 : a_cx 214 85 0 = some (200, 0, 3) := by decide +kernel
theorem fM_215_92 : a_cx 215 92 0 = some (202, 0, 3) := by decide +kernel
theorem fM_216_110 : a_cx 216 110 0 = some (184, 0, 3) := by decide +kernel
theorem fM_217_113 : a_cx 217 113 0 = some (216, 0, 1) := by decide +kernel
theorem fM_217_116 : a_cx 217 116 0 = some (215, 0, 3) := by decide +kernel
theorem fM_217_44 : a_cx 217 44 1 = some (173, 1, 3) := by decide +kernel
theorem fM_218_119 : a_cx 218 119 0 = some (182, 0, 4) := by decide +kernel
theorem fM_219_122 : a_cx 219 122 0 = some (218, 0, 3) := by decide +kernel
theorem fM_219_44 : a_cx 219 44 1 = some (173, 1, 3) := by decide +kernel
theorem fM_219_78 : a_cx 219 78 0 = some (197, 0, 1) := by decide +kernel
theorem fM_21_38 : a_cx 21 38 0 = some (36, 0, 1) := by decide +kernel
theorem fM_21_41 : a_cx 21 41 0 = some (24, 0, 2) := by decide +kernel
theorem fM_21_45 : a_cx 21 45 0 = some (23, 0, 1) := by decide +kernel
theorem fM_221_119 : a_cx 221 119 0 = some (182, 0, 4) := by decide +kernel
theorem fM_221_125 : a_cx 221 125 0 = some (178, 0, 2) := by decide +kernel
theorem fM_221_44 : a_cx 221 44 1 = some (173, 1, 3) := by decide +kernel
theorem fM_221_75 : a_cx 221 75 0 = some (181, 0, 3) := by decide +kernel
theorem fM_222_75 : a_cx 222 75 0 = some (181, 0, 3) := by decide +kernel
theorem fM_223_128 : a_cx 223 128 0 = some (222, 0, 3) := by decide +kernel
theorem fM_223_75 : a_cx 223 75 0 = some (181, 0, 3) := by decide +kernel
theorem fM_224_125 : a_cx 224 125 0 = some (178, 0, 2) := by decide +kernel
theorem fM_224_128 : a_cx 224 128 0 = some (222, 0, 3) := by decide +kernel
theorem fM_225_131 : a_cx 225 131 0 = some (223, 0, 2) := by decide +kernel
theorem fM_226_125 : a_cx 226 125 0 = some (178, 0, 2) := by decide +kernel
theorem fM_226_134 : a_cx 226 134 1 = some (176, 1, 1) := by decide +kernel
theorem fM_226_75 : a_cx 226 75 0 = some (181, 0, 3) := by decide +kernel
theorem fM_227_75 : a_cx 227 75 0 = some (181, 0, 3) := by decide +kernel
theorem fM_228_137 : a_cx 228 137 0 = some (227, 0, 2) := by decide +kernel
theorem fM_228_75 : a_cx 228 75 0 = some (181, 0, 3) := by decide +kernel
theorem fM_229_125 : a_cx 229 125 0 = some (178, 0, 2) := by decide +kernel
theorem fM_229_140 : a_cx 229 140 0 = some (228, 0, 2) := by decide +kernel
theorem fM_229_44 : a_cx 229 44 1 = some (173, 1, 3) := by decide +kernel
theorem fM_229_75 : a_cx 229 75 0 = some (181, 0, 3) := by decide +kernel
theorem fM_230_125 : a_cx 230 125 0 = some (178, 0, 2) := by decide +kernel
theorem fM_230_44 : a_cx 230 44 1 = some (173, 1, 3) := by decide +kernel
theorem fM_230_75 : a_cx 230 75 0 = some (181, 0, 3) := by decide +kernel
theorem fM_231_125 : a_cx 231 125 0 = some (178, 0, 2) := by decide +kernel
theorem fM_231_75 : a_cx 231 75 0 = some (181, 0, 3) := by decide +kernel
theorem fM_232_143 : a_cx 232 143 0 = some (231, 0, 3) := by decide +kernel
theorem fM_233_143 : a_cx 233 143 0 = some (231, 0, 3) := by decide +kernel
theorem fM_234_146 : a_cx 234 146 1 = some (175, 1, 1) := by decide +kernel
theorem fM_234_44 : a_cx 234 44 1 = some (173, 1, 3) := by decide +kernel
theorem fM_234_75 : a_cx 234 75 0 = some (181, 0, 3) := by decide +kernel
theorem fM_235_75 : a_cx 235 75 0 = some (181, 0, 3) := by decide +kernel
theorem fM_236_78 : a_cx 236 78 0 = some (197, 0, 1) := by decide +kernel
theorem fM_238_119 : a_cx 238 119 0 = some (182, 0, 4) := by decide +kernel
theorem fM_238_140 : a_cx 238 140 0 = some (228, 0, 2) := by decide +kernel
theorem fM_238_40 : a_cx 238 40 1 = some (174, 1, 2) := by decide +kernel
theorem fM_238_75 : a_cx 238 75 0 = some (181, 0, 3) := by decide +kernel
theorem fM_239_137 : a_cx 239 137 0 = some (227, 0, 2) := by decide +kernel
theorem fM_239_156 : a_cx 239 156 0 = some (238, 0, 4) := by decide +kernel
theorem fM_23_38 : a_cx 23 38 0 = some (36, 0, 1) := by decide +kernel
theorem fM_23_49 : a_cx 23 49 0 = some (22, 0, 2) := by decide +kernel
theorem fM_240_110 : a_cx 240 110 0 = some (184, 0, 3) := by decide +kernel
theorem fM_240_119 : a_cx 240 119 0 = some (182, 0, 4) := by decide +kernel
theorem fM_240_137 : a_cx 240 137 0 = some (227, 0, 2) := by decide +kernel
theorem fM_240_156 : a_cx 240 156 0 = some (238, 0, 4) := by decide +kernel
theorem fM_240_48 : a_cx 240 48 1 = some (183, 1, 1) := by decide +kernel
theorem fM_240_75 : a_cx 240 75 0 = some (181, 0, 3) := by decide +kernel
theorem fM_242_110 : a_cx 242 110 0 = some (184, 0, 3) := by decide +kernel
theorem fM_242_159 : a_cx 242 159 0 = some (239, 0, 2) := by decide +kernel
theorem fM_242_163 : a_cx 242 163 0 = some (180, 0, 3) := by decide +kernel
theorem fM_242_167 : a_cx 242 167 0 = some (241, 0, 1) := by decide +kernel
theorem fM_242_170 : a_cx 242 170 0 = some (240, 0, 3) := by decide +kernel
theorem fM_242_48 : a_cx 242 48 1 = some (183, 1, 1) := by decide +kernel
theorem fM_243_119 : a_cx 243 119 0 = some (182, 0, 4) := by decide +kernel
theorem fM_243_137 : a_cx 243 137 0 = some (227, 0, 2) := by decide +kernel
theorem fM_243_40 : a_cx 243 40 1 = some (174, 1, 2) := by decide +kernel
theorem fM_243_75 : a_cx 243 75 0 = some (181, 0, 3) := by decide +kernel
theorem fM_244_119 : a_cx 244 119 0 = some (182, 0, 4) := by decide +kernel
theorem fM_244_134 : a_cx 244 134 1 = some (176, 1, 1) := by decide +kernel
theorem fM_244_163 : a_cx 244 163 0 = some (180, 0, 3) := by decide +kernel
theorem fM_244_177 : a_cx 244 177 0 = some (237, 0, 2) := by decide +kernel
theorem fM_244_180 : a_cx 244 180 0 = some (243, 0, 4) := by decide +kernel
theorem fM_244_48 : a_cx 244 48 1 = some (183, 1, 1) := by decide +kernel
theorem fM_244_67 : a_cx 244 67 0 = some (179, 0, 3) := by decide +kernel
theorem fM_244_75 : a_cx 244 75 0 = some (181, 0, 3) := by decide +kernel
theorem fM_245_113 : a_cx 245 113 0 = some (216, 0, 1) := by decide +kernel
theorem fM_245_116 : a_cx 245 116 0 = some (215, 0, 3) := by decide +kernel
theorem fM_245_131 : a_cx 245 131 0 = some (223, 0, 2) := by decide +kernel
theorem fM_245_163 : a_cx 245 163 0 = some (180, 0, 3) := by decide +kernel
theorem fM_245_183 : a_cx 245 183 0 = some (242, 0, 3) := by decide +kernel
theorem fM_245_186 : a_cx 245 186 0 = some (244, 0, 5) := by decide +kernel
theorem fM_245_48 : a_cx 245 48 1 = some (183, 1, 1) := by decide +kernel
theorem fM_245_67 : a_cx 245 67 0 = some (179, 0, 3) := by decide +kernel
theorem fM_247_190 : a_cx 247 190 0 = some (245, 0, 1) := by decide +kernel
theorem fM_247_44 : a_cx 247 44 1 = some (173, 1, 3) := by decide +kernel
theorem fM_248_167 : a_cx 248 167 0 = some (241, 0, 1) := by decide +kernel
theorem fM_248_44 : a_cx 248 44 1 = some (173, 1, 3) := by decide +kernel
theorem fM_249_110 : a_cx 249 110 0 = some (184, 0, 3) := by decide +kernel
theorem fM_249_193 : a_cx 249 193 0 = some (248, 0, 2) := by decide +kernel
theorem fM_24_49 : a_cx 24 49 0 = some (22, 0, 2) := by decide +kernel
theorem fM_24_55 : a_cx 24 55 0 = some (35, 0, 2) := by decide +kernel
theorem fM_24_59 : a_cx 24 59 0 = some (25, 0, 2) := by decide +kernel
theorem fM_24_64 : a_cx 24 64 0 = some (26, 0, 2) := by decide +kernel
theorem fM_24_69 : a_cx 24 69 0 = some (27, 0, 2) := by decide +kernel
theorem fM_24_74 : a_cx 24 74 0 = some (28, 0, 2) := by decide +kernel
theorem fM_24_79 : a_cx 24 79 0 = some (29, 0, 2) := by decide +kernel
theorem fM_24_84 : a_cx 24 84 0 = some (30, 0, 2) := by decide +kernel
theorem fM_24_89 : a_cx 24 89 0 = some (31, 0, 2) := by decide +kernel
theorem fM_24_94 : a_cx 24 94 0 = some (32, 0, 2) := by decide +kernel
theorem fM_251_113 : a_cx 251 113 0 = some (216, 0, 1) := by decide +kernel
theorem fM_252_196 : a_cx 252 196 0 = some (249, 0, 3) := by decide +kernel
theorem fM_253_196 : a_cx 253 196 0 = some (249, 0, 3) := by decide +kernel
theorem fM_254_196 : a_cx 254 196 0 = some (249, 0, 3) := by decide +kernel
theorem fM_255_196 : a_cx 255 196 0 = some (249, 0, 3) := by decide +kernel
theorem fM_256_110 : a_cx 256 110 0 = some (184, 0, 3) := by decide +kernel
theorem fM_256_125 : a_cx 256 125 0 = some (178, 0, 2) := by decide +kernel
theorem fM_256_193 : a_cx 256 193 0 = some (248, 0, 2) := by decide +kernel
theorem fM_257_110 : a_cx 257 110 0 = some (184, 0, 3) := by decide +kernel
theorem fM_257_146 : a_cx 257 146 1 = some (175, 1, 1) := by decide +kernel
theorem fM_257_193 : a_cx 257 193 0 = some (248, 0, 2) := by decide +kernel
theorem fM_258_110 : a_cx 258 110 0 = some (184, 0, 3) := by decide +kernel
theorem fM_258_167 : a_cx 258 167 0 = some (241, 0, 1) := by decide +kernel
theorem fM_258_63 : a_cx 258 63 0 = some (177, 0, 2) := by decide +kernel
theorem fM_259_44 : a_cx 259 44 1 = some (173, 1, 3) := by decide +kernel
theorem fM_25_107 : a_cx 25 107 0 = some (74, 0, 4) := by decide +kernel
theorem fM_25_97 : a_cx 25 97 0 = some (33, 0, 4) := by decide +kernel
theorem fM_260_44 : a_cx 260 44 1 = some (173, 1, 3) := by decide +kernel
theorem fM_260_63 : a_cx 260 63 0 = some (177, 0, 2) := by decide +kernel
theorem fM_260_67 : a_cx 260 67 0 = some (179, 0, 3) := by decide +kernel
theorem fM_262_75 : a_cx 262 75 0 = some (181, 0, 3) := by decide +kernel
theorem fM_264_199 : a_cx 264 199 0 = some (262, 0, 1) := by decide +kernel
theorem fM_264_202 : a_cx 264 202 1 = some (263, 1, 2) := by decide +kernel
theorem fM_265_199 : a_cx 265 199 0 = some (262, 0, 1) := by decide +kernel
theorem fM_265_202 : a_cx 265 202 1 = some (263, 1, 2) := by decide +kernel
theorem fM_266_202 : a_cx 266 202 1 = some (263, 1, 2) := by decide +kernel
theorem fM_267_202 : a_cx 267 202 1 = some (263, 1, 2) := by decide +kernel
theorem fM_268_75 : a_cx 268 75 0 = some (181, 0, 3) := by decide +kernel
theorem fM_269_205 : a_cx 269 205 0 = some (268, 0, 2) := by decide +kernel
theorem fM_26_113 : a_cx 26 113 0 = some (75, 0, 1) := by decide +kernel
theorem fM_26_116 : a_cx 26 116 0 = some (76, 0, 7) := by decide +kernel
theorem fM_26_49 : a_cx 26 49 0 = some (22, 0, 2) := by decide +kernel
theorem fM_26_97 : a_cx 26 97 0 = some (33, 0, 4) := by decide +kernel
theorem fM_270_205 : a_cx 270 205 0 = some (268, 0, 2) := by decide +kernel
theorem fM_270_208 : a_cx 270 208 0 = some (269, 0, 3) := by decide +kernel
theorem fM_271_205 : a_cx 271 205 0 = some (268, 0, 2) := by decide +kernel
theorem fM_273_125 : a_cx 273 125 0 = some (178, 0, 2) := by decide +kernel
theorem fM_273_190 : a_cx 273 190 0 = some (245, 0, 1) := by decide +kernel
theorem fM_273_212 : a_cx 273 212 1 = some (272, 1, 4) := by decide +kernel
theorem fM_273_75 : a_cx 273 75 0 = some (181, 0, 3) := by decide +kernel
theorem fM_274_190 : a_cx 274 190 0 = some (245, 0, 1) := by decide +kernel
theorem fM_274_212 : a_cx 274 212 1 = some (272, 1, 4) := by decide +kernel
theorem fM_275_216 : a_cx 275 216 0 = some (274, 0, 3) := by decide +kernel
theorem fM_275_44 : a_cx 275 44 1 = some (173, 1, 3) := by decide +kernel
theorem fM_277_44 : a_cx 277 44 1 = some (173, 1, 3) := by decide +kernel
theorem fM_279_225 : a_cx 279 225 0 = some (278, 0, 1) := by decide +kernel
theorem fM_279_44 : a_cx 279 44 1 = some (173, 1, 3) := by decide +kernel
theorem fM_27_97 : a_cx 27 97 0 = some (33, 0, 4) := by decide +kernel
theorem fM_280_225 : a_cx 280 225 0 = some (278, 0, 1) := by decide +kernel
theorem fM_280_44 : a_cx 280 44 1 = some (173, 1, 3) := by decide +kernel
theorem fM_281_225 : a_cx 281 225 0 = some (278, 0, 1) := by decide +kernel
theorem fM_281_231 : a_cx 281 231 0 = some (279, 0, 1) := by decide +kernel
theorem fM_281_235 : a_cx 281 235 0 = some (280, 0, 1) := by decide +kernel
theorem fM_285_248 : a_cx 285 248 0 = some (282, 0, 2) := by decide +kernel
theorem fM_285_251 : a_cx 285 251 0 = some (283, 0, 1) := by decide +kernel
theorem fM_285_254 : a_cx 285 254 0 = some (281, 0, 1) := by decide +kernel
theorem fM_285_44 : a_cx 285 44 1 = some (173, 1, 3) := by decide +kernel
theorem fM_286_257 : a_cx 286 257 0 = some (285, 0, 5) := by decide +kernel
theorem fM_287_261 : a_cx 287 261 0 = some (286, 0, 3) := by decide +kernel
theorem fM_287_55 : a_cx 287 55 0 = some (186, 0, 4) := by decide +kernel
theorem fM_288_251 : a_cx 288 251 0 = some (283, 0, 1) := by decide +kernel
theorem fM_288_261 : a_cx 288 261 0 = some (286, 0, 3) := by decide +kernel
theorem fM_288_59 : a_cx 288 59 0 = some (188, 0, 7) := by decide +kernel
theorem fM_289_122 : a_cx 289 122 0 = some (218, 0, 3) := by decide +kernel
theorem fM_289_251 : a_cx 289 251 0 = some (283, 0, 1) := by decide +kernel
theorem fM_289_257 : a_cx 289 257 0 = some (285, 0, 5) := by decide +kernel
theorem fM_289_261 : a_cx 289 261 0 = some (286, 0, 3) := by decide +kernel
theorem fM_289_78 : a_cx 289 78 0 = some (197, 0, 1) := by decide +kernel
theorem fM_28_97 : a_cx 28 97 0 = some (33, 0, 4) := by decide +kernel
theorem fM_290_248 : a_cx 290 248 0 = some (282, 0, 2) := by decide +kernel
theorem fM_290_254 : a_cx 290 254 0 = some (281, 0, 1) := by decide +kernel
theorem fM_290_264 : a_cx 290 264 0 = some (284, 0, 1) := by decide +kernel
theorem fM_291_257 : a_cx 291 257 0 = some (285, 0, 5) := by decide +kernel
theorem fM_291_261 : a_cx 291 261 0 = some (286, 0, 3) := by decide +kernel
theorem fM_291_267 : a_cx 291 267 0 = some (287, 0, 1) := by decide +kernel
theorem fM_291_270 : a_cx 291 270 0 = some (288, 0, 1) := by decide +kernel
theorem fM_291_273 : a_cx 291 273 0 = some (290, 0, 1) := by decide +kernel
theorem fM_291_276 : a_cx 291 276 0 = some (289, 0, 1) := by decide +kernel
theorem fM_291_78 : a_cx 291 78 0 = some (197, 0, 1) := by decide +kernel
theorem fM_292_248 : a_cx 292 248 0 = some (282, 0, 2) := by decide +kernel
theorem fM_292_251 : a_cx 292 251 0 = some (283, 0, 1) := by decide +kernel
theorem fM_292_254 : a_cx 292 254 0 = some (281, 0, 1) := by decide +kernel
theorem fM_292_264 : a_cx 292 264 0 = some (284, 0, 1) := by decide +kernel
theorem fM_292_279 : a_cx 292 279 0 = some (291, 0, 2) := by decide +kernel
theorem fM_292_44 : a_cx 292 44 1 = some (173, 1, 3) := by decide +kernel
theorem fM_293_212 : a_cx 293 212 1 = some (272, 1, 4) := by decide +kernel
theorem fM_293_251 : a_cx 293 251 0 = some (283, 0, 1) := by decide +kernel
theorem fM_293_254 : a_cx 293 254 0 = some (281, 0, 1) := by decide +kernel
theorem fM_293_282 : a_cx 293 282 0 = some (292, 0, 1) := by decide +kernel
theorem fM_293_34 : a_cx 293 34 0 = some (172, 0, 1) := by decide +kernel
theorem fM_296_212 : a_cx 296 212 1 = some (272, 1, 4) := by decide +kernel
theorem fM_296_44 : a_cx 296 44 1 = some (173, 1, 3) := by decide +kernel
theorem fM_297_212 : a_cx 297 212 1 = some (272, 1, 4) := by decide +kernel
theorem fM_297_44 : a_cx 297 44 1 = some (173, 1, 3) := by decide +kernel
theorem fM_29_97 : a_cx 29 97 0 = some (33, 0, 4) := by decide +kernel
theorem fM_302_335 : a_cx 302 335 0 = some (304, 8, 1) := by decide +kernel
theorem fM_303_492 : a_cx 303 492 0 = some (305, 8, 1) := by decide +kernel
theorem fM_303_495 : a_cx 303 495 1 = some (307, 1, 2) := by decide +kernel
theorem fM_306_1059 : a_cx 306 1059 1 = some (309, 1, 3) := by decide +kernel
theorem fM_307_9 : a_cx 307 9 1 = some (306, 1, 2) := by decide +kernel
theorem fM_30_137 : a_cx 30 137 0 = some (45, 0, 1) := by decide +kernel
theorem fM_30_49 : a_cx 30 49 0 = some (22, 0, 2) := by decide +kernel
theorem fM_30_97 : a_cx 30 97 0 = some (33, 0, 4) := by decide +kernel
theorem fM_310_7 : a_cx 310 7 0 = some (97, 0, 4) := by decide +kernel
theorem fM_311_15 : a_cx 311 15 0 = some (98, 0, 7) := by decide +kernel
theorem fM_312_21 : a_cx 312 21 0 = some (100, 0, 3) := by decide +kernel
theorem fM_313_27 : a_cx 313 27 0 = some (101, 0, 2) := by decide +kernel
theorem fM_314_31 : a_cx 314 31 0 = some (102, 0, 2) := by decide +kernel
theorem fM_315_34 : a_cx 315 34 0 = some (103, 0, 3) := by decide +kernel
theorem fM_316_37 : a_cx 316 37 0 = some (104, 0, 2) := by decide +kernel
theorem fM_317_40 : a_cx 317 40 0 = some (105, 0, 2) := by decide +kernel
theorem fM_318_43 : a_cx 318 43 0 = some (106, 0, 2) := by decide +kernel
theorem fM_319_47 : a_cx 319 47 0 = some (107, 0, 3) := by decide +kernel
theorem fM_31_38 : a_cx 31 38 0 = some (36, 0, 1) := by decide +kernel
theorem fM_31_49 : a_cx 31 49 0 = some (22, 0, 2) := by decide +kernel
theorem fM_31_55 : a_cx 31 55 0 = some (35, 0, 2) := by decide +kernel
theorem fM_320_50 : a_cx 320 50 0 = some (108, 0, 3) := by decide +kernel
theorem fM_321_53 : a_cx 321 53 0 = some (109, 0, 3) := by decide +kernel
theorem fM_322_57 : a_cx 322 57 0 = some (110, 0, 4) := by decide +kernel
theorem fM_323_60 : a_cx 323 60 0 = some (111, 0, 2) := by decide +kernel
theorem fM_324_63 : a_cx 324 63 0 = some (112, 0, 4) := by decide +kernel
theorem fM_325_66 : a_cx 325 66 0 = some (113, 0, 3) := by decide +kernel
theorem fM_326_69 : a_cx 326 69 0 = some (114, 0, 3) := by decide +kernel
theorem fM_327_72 : a_cx 327 72 0 = some (115, 0, 3) := by decide +kernel
theorem fM_328_75 : a_cx 328 75 0 = some (116, 0, 3) := by decide +kernel
theorem fM_329_78 : a_cx 329 78 0 = some (117, 0, 3) := by decide +kernel
theorem fM_32_149 : a_cx 32 149 0 = some (42, 0, 1) := by decide +kernel
theorem fM_32_150 : a_cx 32 150 0 = some (43, 0, 2) := by decide +kernel
theorem fM_32_153 : a_cx 32 153 0 = some (44, 0, 3) := by decide +kernel
theorem fM_32_49 : a_cx 32 49 0 = some (22, 0, 2) := by decide +kernel
theorem fM_32_97 : a_cx 32 97 0 = some (33, 0, 4) := by decide +kernel
theorem fM_330_81 : a_cx 330 81 0 = some (119, 0, 3) := by decide +kernel
theorem fM_331_84 : a_cx 331 84 0 = some (120, 0, 2) := by decide +kernel
theorem fM_332_87 : a_cx 332 87 0 = some (122, 0, 2) := by decide +kernel
theorem fM_333_90 : a_cx 333 90 0 = some (123, 0, 3) := by decide +kernel
theorem fM_334_93 : a_cx 334 93 0 = some (124, 0, 3) := by decide +kernel
theorem fM_335_96 : a_cx 335 96 0 = some (125, 0, 2) := by decide +kernel
theorem fM_336_99 : a_cx 336 99 0 = some (126, 0, 2) := by decide +kernel
theorem fM_337_102 : a_cx 337 102 0 = some (127, 0, 2) := by decide +kernel
theorem fM_338_105 : a_cx 338 105 0 = some (131, 0, 2) := by decide +kernel
theorem fM_339_108 : a_cx 339 108 0 = some (134, 0, 2) := by decide +kernel
theorem fM_33_156 : a_cx 33 156 1 = some (159, 7, 3) := by decide +kernel
theorem fM_33_159 : a_cx 33 159 0 = some (34, 0, 1) := by decide +kernel
theorem fM_33_38 : a_cx 33 38 0 = some (36, 0, 1) := by decide +kernel
theorem fM_33_49 : a_cx 33 49 0 = some (22, 0, 2) := by decide +kernel
theorem fM_340_111 : a_cx 340 111 0 = some (135, 0, 2) := by decide +kernel
theorem fM_341_114 : a_cx 341 114 0 = some (136, 0, 2) := by decide +kernel
theorem fM_342_117 : a_cx 342 117 0 = some (137, 0, 2) := by decide +kernel
theorem fM_343_120 : a_cx 343 120 0 = some (138, 0, 4) := by decide +kernel
theorem fM_344_124 : a_cx 344 124 0 = some (139, 0, 3) := by decide +kernel
theorem fM_345_128 : a_cx 345 128 0 = some (140, 0, 2) := by decide +kernel
theorem fM_346_131 : a_cx 346 131 0 = some (141, 0, 2) := by decide +kernel
theorem fM_347_134 : a_cx 347 134 0 = some (142, 0, 3) := by decide +kernel
theorem fM_348_137 : a_cx 348 137 0 = some (150, 0, 2) := by decide +kernel
theorem fM_349_140 : a_cx 349 140 0 = some (151, 0, 2) := by decide +kernel
theorem fM_350_143 : a_cx 350 143 0 = some (152, 0, 2) := by decide +kernel
theorem fM_351_146 : a_cx 351 146 0 = some (153, 0, 2) := by decide +kernel
theorem fM_352_149 : a_cx 352 149 0 = some (157, 0, 2) := by decide +kernel
theorem fM_353_152 : a_cx 353 152 0 = some (158, 0, 2) := by decide +kernel
theorem fM_354_159 : a_cx 354 159 1 = some (310, 5, 5) := by decide +kernel
theorem fM_354_164 : a_cx 354 164 0 = some (187, 0, 4) := by decide +kernel
theorem fM_354_165 : a_cx 354 165 0 = some (171, 0, 1) := by decide +kernel
theorem fM_354_169 : a_cx 354 169 1 = some (311, 5, 8) := by decide +kernel
theorem fM_354_172 : a_cx 354 172 0 = some (189, 0, 7) := by decide +kernel
theorem fM_354_173 : a_cx 354 173 0 = some (99, 0, 1) := by decide +kernel
theorem fM_354_176 : a_cx 354 176 0 = some (190, 0, 1) := by decide +kernel
theorem fM_354_177 : a_cx 354 177 1 = some (312, 5, 4) := by decide +kernel
theorem fM_354_180 : a_cx 354 180 0 = some (191, 0, 3) := by decide +kernel
theorem fM_354_181 : a_cx 354 181 1 = some (313, 5, 3) := by decide +kernel
theorem fM_354_184 : a_cx 354 184 0 = some (193, 0, 2) := by decide +kernel
theorem fM_354_185 : a_cx 354 185 1 = some (314, 5, 3) := by decide +kernel
theorem fM_354_187 : a_cx 354 187 0 = some (194, 0, 2) := by decide +kernel
theorem fM_354_188 : a_cx 354 188 1 = some (315, 5, 4) := by decide +kernel
theorem fM_354_190 : a_cx 354 190 0 = some (196, 0, 3) := by decide +kernel
theorem fM_354_191 : a_cx 354 191 1 = some (316, 5, 3) := by decide +kernel
theorem fM_354_193 : a_cx 354 193 0 = some (198, 0, 2) := by decide +kernel
theorem fM_354_194 : a_cx 354 194 1 = some (317, 5, 3) := by decide +kernel
theorem fM_354_196 : a_cx 354 196 0 = some (195, 0, 2) := by decide +kernel
theorem fM_354_197 : a_cx 354 197 1 = some (318, 5, 2) := by decide +kernel
theorem fM_354_200 : a_cx 354 200 0 = some (199, 0, 2) := by decide +kernel
theorem fM_354_201 : a_cx 354 201 1 = some (319, 5, 4) := by decide +kernel
theorem fM_354_203 : a_cx 354 203 0 = some (204, 0, 3) := by decide +kernel
theorem fM_354_204 : a_cx 354 204 1 = some (320, 5, 4) := by decide +kernel
theorem fM_354_206 : a_cx 354 206 0 = some (205, 0, 3) := by decide +kernel
theorem fM_354_207 : a_cx 354 207 1 = some (321, 5, 4) := by decide +kernel
theorem fM_354_209 : a_cx 354 209 0 = some (207, 0, 3) := by decide +kernel
theorem fM_354_210 : a_cx 354 210 1 = some (322, 5, 5) := by decide +kernel
theorem fM_354_212 : a_cx 354 212 0 = some (214, 0, 4) := by decide +kernel
theorem fM_354_213 : a_cx 354 213 1 = some (323, 5, 3) := by decide +kernel
theorem fM_354_215 : a_cx 354 215 0 = some (217, 0, 2) := by decide +kernel
theorem fM_354_216 : a_cx 354 216 1 = some (324, 5, 5) := by decide +kernel
theorem fM_354_218 : a_cx 354 218 0 = some (209, 0, 4) := by decide +kernel
theorem fM_354_219 : a_cx 354 219 1 = some (325, 5, 4) := by decide +kernel
theorem fM_354_221 : a_cx 354 221 0 = some (210, 0, 3) := by decide +kernel
theorem fM_354_222 : a_cx 354 222 1 = some (326, 5, 4) := by decide +kernel
theorem fM_354_224 : a_cx 354 224 0 = some (211, 0, 3) := by decide +kernel
theorem fM_354_225 : a_cx 354 225 1 = some (327, 5, 4) := by decide +kernel
theorem fM_354_227 : a_cx 354 227 0 = some (212, 0, 3) := by decide +kernel
theorem fM_354_228 : a_cx 354 228 1 = some (328, 5, 4) := by decide +kernel
theorem fM_354_230 : a_cx 354 230 0 = some (206, 0, 3) := by decide +kernel
theorem fM_354_231 : a_cx 354 231 1 = some (329, 5, 4) := by decide +kernel
theorem fM_354_233 : a_cx 354 233 0 = some (219, 0, 3) := by decide +kernel
theorem fM_354_234 : a_cx 354 234 0 = some (118, 0, 1) := by decide +kernel
theorem fM_354_237 : a_cx 354 237 0 = some (220, 0, 1) := by decide +kernel
theorem fM_354_238 : a_cx 354 238 1 = some (330, 5, 4) := by decide +kernel
theorem fM_354_240 : a_cx 354 240 0 = some (221, 0, 3) := by decide +kernel
theorem fM_354_241 : a_cx 354 241 1 = some (331, 5, 3) := by decide +kernel
theorem fM_354_243 : a_cx 354 243 0 = some (224, 0, 2) := by decide +kernel
theorem fM_354_244 : a_cx 354 244 0 = some (121, 0, 1) := by decide +kernel
theorem fM_354_247 : a_cx 354 247 0 = some (225, 0, 1) := by decide +kernel
theorem fM_354_248 : a_cx 354 248 1 = some (332, 5, 3) := by decide +kernel
theorem fM_354_250 : a_cx 354 250 0 = some (226, 0, 2) := by decide +kernel
theorem fM_354_251 : a_cx 354 251 1 = some (333, 5, 4) := by decide +kernel
theorem fM_354_253 : a_cx 354 253 0 = some (229, 0, 3) := by decide +kernel
theorem fM_354_254 : a_cx 354 254 1 = some (334, 5, 4) := by decide +kernel
theorem fM_354_256 : a_cx 354 256 0 = some (230, 0, 3) := by decide +kernel
theorem fM_354_257 : a_cx 354 257 1 = some (335, 5, 3) := by decide +kernel
theorem fM_354_259 : a_cx 354 259 0 = some (232, 0, 2) := by decide +kernel
theorem fM_354_260 : a_cx 354 260 1 = some (336, 5, 3) := by decide +kernel
theorem fM_354_262 : a_cx 354 262 0 = some (233, 0, 2) := by decide +kernel
theorem fM_354_263 : a_cx 354 263 1 = some (337, 5, 3) := by decide +kernel
theorem fM_354_265 : a_cx 354 265 0 = some (234, 0, 2) := by decide +kernel
theorem fM_354_266 : a_cx 354 266 0 = some (128, 0, 1) := by decide +kernel
theorem fM_354_269 : a_cx 354 269 0 = some (235, 0, 1) := by decide +kernel
theorem fM_354_270 : a_cx 354 270 0 = some (129, 0, 1) := by decide +kernel
theorem fM_354_273 : a_cx 354 273 0 = some (236, 0, 1) := by decide +kernel
theorem fM_354_274 : a_cx 354 274 0 = some (130, 0, 1) := by decide +kernel
theorem fM_354_277 : a_cx 354 277 0 = some (246, 0, 1) := by decide +kernel
theorem fM_354_278 : a_cx 354 278 1 = some (338, 5, 3) := by decide +kernel
theorem fM_354_280 : a_cx 354 280 0 = some (247, 0, 2) := by decide +kernel
theorem fM_354_281 : a_cx 354 281 0 = some (132, 0, 1) := by decide +kernel
theorem fM_354_284 : a_cx 354 284 0 = some (250, 0, 1) := by decide +kernel
theorem fM_354_285 : a_cx 354 285 0 = some (133, 0, 1) := by decide +kernel
theorem fM_354_288 : a_cx 354 288 0 = some (251, 0, 1) := by decide +kernel
theorem fM_354_289 : a_cx 354 289 1 = some (339, 5, 3) := by decide +kernel
theorem fM_354_291 : a_cx 354 291 0 = some (252, 0, 2) := by decide +kernel
theorem fM_354_292 : a_cx 354 292 1 = some (340, 5, 3) := by decide +kernel
theorem fM_354_294 : a_cx 354 294 0 = some (253, 0, 2) := by decide +kernel
theorem fM_354_295 : a_cx 354 295 1 = some (341, 5, 3) := by decide +kernel
theorem fM_354_297 : a_cx 354 297 0 = some (254, 0, 2) := by decide +kernel
theorem fM_354_298 : a_cx 354 298 1 = some (342, 5, 3) := by decide +kernel
theorem fM_354_300 : a_cx 354 300 0 = some (255, 0, 2) := by decide +kernel
theorem fM_354_301 : a_cx 354 301 1 = some (343, 5, 5) := by decide +kernel
theorem fM_354_304 : a_cx 354 304 0 = some (256, 0, 4) := by decide +kernel
theorem fM_354_305 : a_cx 354 305 1 = some (344, 5, 4) := by decide +kernel
theorem fM_354_308 : a_cx 354 308 0 = some (257, 0, 3) := by decide +kernel
theorem fM_354_309 : a_cx 354 309 1 = some (345, 5, 3) := by decide +kernel
theorem fM_354_311 : a_cx 354 311 0 = some (258, 0, 2) := by decide +kernel
theorem fM_354_312 : a_cx 354 312 1 = some (346, 5, 3) := by decide +kernel
theorem fM_354_314 : a_cx 354 314 0 = some (259, 0, 2) := by decide +kernel
theorem fM_354_315 : a_cx 354 315 1 = some (347, 5, 4) := by decide +kernel
theorem fM_354_317 : a_cx 354 317 0 = some (260, 0, 3) := by decide +kernel
theorem fM_354_318 : a_cx 354 318 0 = some (143, 0, 1) := by decide +kernel
theorem fM_354_321 : a_cx 354 321 0 = some (261, 0, 1) := by decide +kernel
theorem fM_354_322 : a_cx 354 322 0 = some (144, 0, 1) := by decide +kernel
theorem fM_354_325 : a_cx 354 325 0 = some (264, 0, 1) := by decide +kernel
theorem fM_354_326 : a_cx 354 326 0 = some (145, 0, 1) := by decide +kernel
theorem fM_354_329 : a_cx 354 329 0 = some (265, 0, 1) := by decide +kernel
theorem fM_354_330 : a_cx 354 330 0 = some (146, 0, 1) := by decide +kernel
theorem fM_354_333 : a_cx 354 333 0 = some (266, 0, 1) := by decide +kernel
theorem fM_354_334 : a_cx 354 334 0 = some (147, 0, 1) := by decide +kernel
theorem fM_354_337 : a_cx 354 337 0 = some (267, 0, 1) := by decide +kernel
theorem fM_354_338 : a_cx 354 338 0 = some (148, 0, 1) := by decide +kernel
theorem fM_354_341 : a_cx 354 341 0 = some (270, 0, 1) := by decide +kernel
theorem fM_354_342 : a_cx 354 342 0 = some (149, 0, 1) := by decide +kernel
theorem fM_354_345 : a_cx 354 345 0 = some (271, 0, 1) := by decide +kernel
theorem fM_354_346 : a_cx 354 346 1 = some (348, 5, 3) := by decide +kernel
theorem fM_354_348 : a_cx 354 348 0 = some (273, 0, 2) := by decide +kernel
theorem fM_354_349 : a_cx 354 349 1 = some (349, 5, 3) := by decide +kernel
theorem fM_354_351 : a_cx 354 351 0 = some (275, 0, 2) := by decide +kernel
theorem fM_354_352 : a_cx 354 352 1 = some (350, 5, 3) := by decide +kernel
theorem fM_354_354 : a_cx 354 354 0 = some (276, 0, 2) := by decide +kernel
theorem fM_354_355 : a_cx 354 355 1 = some (351, 5, 3) := by decide +kernel
theorem fM_354_357 : a_cx 354 357 0 = some (277, 0, 2) := by decide +kernel
theorem fM_354_358 : a_cx 354 358 0 = some (154, 0, 1) := by decide +kernel
theorem fM_354_361 : a_cx 354 361 0 = some (293, 0, 1) := by decide +kernel
theorem fM_354_362 : a_cx 354 362 0 = some (155, 0, 1) := by decide +kernel
theorem fM_354_365 : a_cx 354 365 0 = some (294, 0, 1) := by decide +kernel
theorem fM_354_366 : a_cx 354 366 0 = some (156, 0, 1) := by decide +kernel
theorem fM_354_369 : a_cx 354 369 0 = some (295, 0, 1) := by decide +kernel
theorem fM_354_370 : a_cx 354 370 1 = some (352, 5, 2) := by decide +kernel
theorem fM_354_372 : a_cx 354 372 0 = some (296, 0, 2) := by decide +kernel
theorem fM_354_373 : a_cx 354 373 1 = some (353, 5, 2) := by decide +kernel
theorem fM_354_375 : a_cx 354 375 0 = some (297, 0, 2) := by decide +kernel
theorem fM_35_163 : a_cx 35 163 0 = some (302, 8, 1) := by decide +kernel
theorem fM_35_167 : a_cx 35 167 0 = some (303, 8, 2) := by decide +kernel
theorem fM_36_171 : a_cx 36 171 1 = some (37, 1, 1) := by decide +kernel
theorem fM_36_175 : a_cx 36 175 1 = some (38, 1, 1) := by decide +kernel
theorem fM_40_46 : a_cx 40 46 0 = some (72, 0, 1) := by decide +kernel
theorem fM_40_47 : a_cx 40 47 0 = some (16, 0, 1) := by decide +kernel
theorem fM_40_55 : a_cx 40 55 1 = some (308, 1, 2) := by decide +kernel
theorem fM_41_70 : a_cx 41 70 0 = some (73, 0, 2) := by decide +kernel
theorem fM_41_74 : a_cx 41 74 0 = some (17, 0, 2) := by decide +kernel
theorem fM_41_77 : a_cx 41 77 0 = some (8, 0, 2) := by decide +kernel
theorem fM_41_80 : a_cx 41 80 0 = some (2, 0, 2) := by decide +kernel
theorem fM_43_89 : a_cx 43 89 0 = some (45, 0, 1) := by decide +kernel
theorem fM_44_100 : a_cx 44 100 0 = some (7, 0, 4) := by decide +kernel
theorem fM_44_96 : a_cx 44 96 0 = some (42, 0, 1) := by decide +kernel
theorem fM_46_115 : a_cx 46 115 1 = some (298, 1, 1) := by decide +kernel
theorem fM_49_130 : a_cx 49 130 0 = some (48, 0, 2) := by decide +kernel
theorem fM_4_46 : a_cx 4 46 0 = some (3, 0, 2) := by decide +kernel
theorem fM_4_50 : a_cx 4 50 1 = some (298, 1, 1) := by decide +kernel
theorem fM_50_137 : a_cx 50 137 0 = some (10, 0, 1) := by decide +kernel
theorem fM_51_137 : a_cx 51 137 0 = some (10, 0, 1) := by decide +kernel
theorem fM_52_137 : a_cx 52 137 0 = some (10, 0, 1) := by decide +kernel
theorem fM_52_140 : a_cx 52 140 1 = some (53, 1, 3) := by decide +kernel
theorem fM_57_150 : a_cx 57 150 0 = some (55, 0, 2) := by decide +kernel
theorem fM_58_150 : a_cx 58 150 0 = some (55, 0, 2) := by decide +kernel
theorem fM_58_160 : a_cx 58 160 0 = some (56, 0, 1) := by decide +kernel
theorem fM_59_163 : a_cx 59 163 0 = some (57, 0, 1) := by decide +kernel
theorem fM_59_169 : a_cx 59 169 0 = some (85, 0, 4) := by decide +kernel
theorem fM_59_173 : a_cx 59 173 0 = some (60, 0, 4) := by decide +kernel
theorem fM_60_169 : a_cx 60 169 0 = some (85, 0, 4) := by decide +kernel
theorem fM_61_150 : a_cx 61 150 0 = some (55, 0, 2) := by decide +kernel
theorem fM_61_163 : a_cx 61 163 0 = some (57, 0, 1) := by decide +kernel
theorem fM_61_169 : a_cx 61 169 0 = some (85, 0, 4) := by decide +kernel
theorem fM_61_176 : a_cx 61 176 0 = some (62, 0, 2) := by decide +kernel
theorem fM_61_184 : a_cx 61 184 0 = some (67, 0, 3) := by decide +kernel
theorem fM_62_150 : a_cx 62 150 0 = some (55, 0, 2) := by decide +kernel
theorem fM_62_188 : a_cx 62 188 0 = some (66, 0, 2) := by decide +kernel
theorem fM_62_191 : a_cx 62 191 0 = some (1, 0, 4) := by decide +kernel
theorem fM_62_195 : a_cx 62 195 0 = some (63, 0, 2) := by decide +kernel
theorem fM_62_198 : a_cx 62 198 0 = some (65, 0, 1) := by decide +kernel
theorem fM_63_150 : a_cx 63 150 0 = some (55, 0, 2) := by decide +kernel
theorem fM_63_160 : a_cx 63 160 0 = some (56, 0, 1) := by decide +kernel
theorem fM_63_204 : a_cx 63 204 0 = some (5, 0, 3) := by decide +kernel
theorem fM_63_211 : a_cx 63 211 0 = some (64, 0, 2) := by decide +kernel
theorem fM_64_217 : a_cx 64 217 0 = some (13, 0, 2) := by decide +kernel
theorem fM_64_226 : a_cx 64 226 0 = some (14, 0, 3) := by decide +kernel
theorem fM_64_232 : a_cx 64 232 0 = some (9, 0, 1) := by decide +kernel
theorem fM_65_150 : a_cx 65 150 0 = some (55, 0, 2) := by decide +kernel
theorem fM_65_160 : a_cx 65 160 0 = some (56, 0, 1) := by decide +kernel
theorem fM_65_188 : a_cx 65 188 0 = some (66, 0, 2) := by decide +kernel
theorem fM_65_204 : a_cx 65 204 0 = some (5, 0, 3) := by decide +kernel
theorem fM_66_226 : a_cx 66 226 0 = some (14, 0, 3) := by decide +kernel
theorem fM_67_241 : a_cx 67 241 0 = some (49, 0, 1) := by decide +kernel
theorem fM_67_244 : a_cx 67 244 0 = some (68, 0, 4) := by decide +kernel
theorem fM_68_248 : a_cx 68 248 0 = some (11, 0, 1) := by decide +kernel
theorem fM_68_251 : a_cx 68 251 0 = some (12, 0, 3) := by decide +kernel
theorem fM_68_254 : a_cx 68 254 0 = some (70, 0, 1) := by decide +kernel
theorem fM_68_260 : a_cx 68 260 0 = some (69, 0, 3) := by decide +kernel
theorem fM_69_232 : a_cx 69 232 0 = some (9, 0, 1) := by decide +kernel
theorem fM_73_35 : a_cx 73 35 0 = some (74, 0, 4) := by decide +kernel
theorem fM_73_39 : a_cx 73 39 0 = some (95, 0, 2) := by decide +kernel
theorem fM_76_43 : a_cx 76 43 0 = some (75, 0, 1) := by decide +kernel
theorem fM_76_68 : a_cx 76 68 1 = some (308, 1, 2) := by decide +kernel
theorem fM_76_74 : a_cx 76 74 0 = some (77, 0, 3) := by decide +kernel
theorem fM_7_25 : a_cx 7 25 0 = some (9, 0, 1) := by decide +kernel
theorem fM_7_47 : a_cx 7 47 1 = some (308, 1, 2) := by decide +kernel
theorem fM_82_88 : a_cx 82 88 0 = some (79, 0, 2) := by decide +kernel
theorem fM_82_91 : a_cx 82 91 0 = some (80, 0, 3) := by decide +kernel
theorem fM_82_95 : a_cx 82 95 0 = some (81, 0, 3) := by decide +kernel
theorem fM_83_98 : a_cx 83 98 0 = some (82, 0, 3) := by decide +kernel
theorem fM_84_101 : a_cx 84 101 0 = some (83, 0, 3) := by decide +kernel
theorem fM_85_98 : a_cx 85 98 0 = some (82, 0, 3) := by decide +kernel
theorem fM_86_105 : a_cx 86 105 0 = some (87, 0, 4) := by decide +kernel
theorem fM_86_109 : a_cx 86 109 0 = some (88, 0, 4) := by decide +kernel
theorem fM_86_88 : a_cx 86 88 0 = some (79, 0, 2) := by decide +kernel
theorem fM_87_91 : a_cx 87 91 0 = some (80, 0, 3) := by decide +kernel
theorem fM_87_95 : a_cx 87 95 0 = some (81, 0, 3) := by decide +kernel
theorem fM_88_91 : a_cx 88 91 0 = some (80, 0, 3) := by decide +kernel
theorem fM_88_95 : a_cx 88 95 0 = some (81, 0, 3) := by decide +kernel
theorem fM_89_105 : a_cx 89 105 0 = some (87, 0, 4) := by decide +kernel
theorem fM_89_88 : a_cx 89 88 0 = some (79, 0, 2) := by decide +kernel
theorem fM_89_91 : a_cx 89 91 0 = some (80, 0, 3) := by decide +kernel
theorem fM_90_101 : a_cx 90 101 0 = some (83, 0, 3) := by decide +kernel
theorem fM_91_113 : a_cx 91 113 0 = some (84, 0, 2) := by decide +kernel
theorem fM_92_113 : a_cx 92 113 0 = some (84, 0, 2) := by decide +kernel
theorem fM_93_120 : a_cx 93 120 0 = some (90, 0, 4) := by decide +kernel
theorem fM_97_34 : a_cx 97 34 1 = some (160, 1, 3) := by decide +kernel
theorem fM_97_48 : a_cx 97 48 0 = some (74, 0, 4) := by decide +kernel
theorem fM_98_34 : a_cx 98 34 1 = some (160, 1, 3) := by decide +kernel
theorem fM_98_51 : a_cx 98 51 0 = some (75, 0, 1) := by decide +kernel
theorem fM_98_62 : a_cx 98 62 0 = some (76, 0, 7) := by decide +kernel
theorem fR_100_30 : (Nat.beq (a_sk 30).1 0 && Nat.beq (a_sk 30).2.1 (a_own 100)) = true := by decide +kernel
theorem fR_101_30 : (Nat.beq (a_sk 30).1 0 && Nat.beq (a_sk 30).2.1 (a_own 101)) = true := by decide +kernel
theorem fR_102_30 : (Nat.beq (a_sk 30).1 0 && Nat.beq (a_sk 30).2.1 (a_own 102)) = true := by decide +kernel
theorem fR_103_30 : (Nat.beq (a_sk 30).1 0 && Nat.beq (a_sk 30).2.1 (a_own 103)) = true := by decide +kernel
theorem fR_104_30 : (Nat.beq (a_sk 30).1 0 && Nat.beq (a_sk 30).2.1 (a_own 104)) = true := by decide +kernel
theorem fR_105_30 : (Nat.beq (a_sk 30).1 0 && Nat.beq (a_sk 30).2.1 (a_own 105)) = true := by decide +kernel
theorem fR_106_30 : (Nat.beq (a_sk 30).1 0 && Nat.beq (a_sk 30).2.1 (a_own 106)) = true := by decide +kernel
theorem fR_107_30 : (Nat.beq (a_sk 30).1 0 && Nat.beq (a_sk 30).2.1 (a_own 107)) = true := by decide +kernel
theorem fR_108_30 : (Nat.beq (a_sk 30).1 0 && Nat.beq (a_sk 30).2.1 (a_own 108)) = true := by decide +kernel
theorem fR_109_30 : (Nat.beq (a_sk 30).1 0 && Nat.beq (a_sk 30).2.1 (a_own 109)) = true := by decide +kernel
theorem fR_10_14 : (Nat.beq (a_sk 14).1 0 && Nat.beq (a_sk 14).2.1 (a_own 10)) = true := by decide +kernel
theorem fR_110_30 : (Nat.beq (a_sk 30).1 0 && Nat.beq (a_sk 30).2.1 (a_own 110)) = true := by decide +kernel
theorem fR_111_30 : (Nat.beq (a_sk 30).1 0 && Nat.beq (a_sk 30).2.1 (a_own 111)) = true := by decide +kernel
theorem fR_112_30 : (Nat.beq (a_sk 30).1 0 && Nat.beq (a_sk 30).2.1 (a_own 112)) = true := by decide +kernel
theorem fR_113_30 : (Nat.beq (a_sk 30).1 0 && Nat.beq (a_sk 30).2.1 (a_own 113)) = true := by decide +kernel
theorem fR_114_30 : (Nat.beq (a_sk 30).1 0 && Nat.beq (a_sk 30).2.1 (a_own 114)) = true := by decide +kernel
theorem fR_115_30 : (Nat.beq (a_sk 30).1 0 && Nat.beq (a_sk 30).2.1 (a_own 115)) = true := by decide +kernel
theorem fR_116_30 : (Nat.beq (a_sk 30).1 0 && Nat.beq (a_sk 30).2.1 (a_own 116)) = true := by decide +kernel
theorem fR_117_30 : (Nat.beq (a_sk 30).1 0 && Nat.beq (a_sk 30).2.1 (a_own 117)) = true := by decide +kernel
theorem fR_118_30 : (Nat.beq (a_sk 30).1 0 && Nat.beq (a_sk 30).2.1 (a_own 118)) = true := by decide +kernel
theorem fR_119_30 : (Nat.beq (a_sk 30).1 0 && Nat.beq (a_sk 30).2.1 (a_own 119)) = true := by decide +kernel
theorem fR_11_14 : (Nat.beq (a_sk 14).1 0 && Nat.beq (a_sk 14).2.1 (a_own 11)) = true := by decide +kernel
theorem fR_120_30 : (Nat.beq (a_sk 30).1 0 && Nat.beq (a_sk 30).2.1 (a_own 120)) = true := by decide +kernel
theorem fR_121_30 : (Nat.beq (a_sk 30).1 0 && Nat.beq (a_sk 30).2.1 (a_own 121)) = true := by decide +kernel
theorem fR_122_30 : (Nat.beq (a_sk 30).1 0 && Nat.beq (a_sk 30).2.1 (a_own 122)) = true := by decide +kernel
theorem fR_123_30 : (Nat.beq (a_sk 30).1 0 && Nat.beq (a_sk 30).2.1 (a_own 123)) = true := by decide +kernel
theorem fR_124_30 : (Nat.beq (a_sk 30).1 0 && Nat.beq (a_sk 30).2.1 (a_own 124)) = true := by decide +kernel
theorem fR_125_30 : (Nat.beq (a_sk 30).1 0 && Nat.beq (a_sk 30).2.1 (a_own 125)) = true := by decide +kernel
theorem fR_126_30 : (Nat.beq (a_sk 30).1 0 && Nat.beq (a_sk 30).2.1 (a_own 126)) = true := by decide +kernel
theorem fR_127_30 : (Nat.beq (a_sk 30).1 0 && Nat.beq (a_sk 30).2.1 (a_own 127)) = true := by decide +kernel
theorem fR_128_30 : (Nat.beq (a_sk 30).1 0 && Nat.beq (a_sk 30).2.1 (a_own 128)) = true := by decide +kernel
theorem fR_129_30 : (Nat.beq (a_sk 30).1 0 && Nat.beq (a_sk 30).2.1 (a_own 129)) = true := by decide +kernel
theorem fR_12_14 : (Nat.beq (a_sk 14).1 0 && Nat.beq (a_sk 14).2.1 (a_own 12)) = true := by decide +kernel
theorem fR_130_30 : (Nat.beq (a_sk 30).1 0 && Nat.beq (a_sk 30).2.1 (a_own 130)) = true := by decide +kernel
theorem fR_131_30 : (Nat.beq (a_sk 30).1 0 && Nat.beq (a_sk 30).2.1 (a_own 131)) = true := by decide +kernel
theorem fR_132_30 : (Nat.beq (a_sk 30).1 0 && Nat.beq (a_sk 30).2.1 (a_own 132)) = true := by decide +kernel
theorem fR_133_30 : (Nat.beq (a_sk 30).1 0 && Nat.beq (a_sk 30).2.1 (a_own 133)) = true := by decide +kernel
theorem fR_134_30 : (Nat.beq (a_sk 30).1 0 && Nat.beq (a_sk 30).2.1 (a_own 134)) = true := by decide +kernel
theorem fR_135_30 : (Nat.beq (a_sk 30).1 0 && Nat.beq (a_sk 30).2.1 (a_own 135)) = true := by decide +kernel
theorem fR_136_30 : (Nat.beq (a_sk 30).1 0 && Nat.beq (a_sk 30).2.1 (a_own 136)) = true := by decide +kernel
theorem fR_137_30 : (Nat.beq (a_sk 30).1 0 && Nat.beq (a_sk 30).2.1 (a_own 137)) = true := by decide +kernel
theorem fR_138_30 : (Nat.beq (a_sk 30).1 0 && Nat.beq (a_sk 30).2.1 (a_own 138)) = true := by decide +kernel
theorem fR_139_30 : (Nat.beq (a_sk 30).1 0 && Nat.beq (a_sk 30).2.1 (a_own 139)) = true := by decide +kernel
theorem fR_13_14 : (Nat.beq (a_sk 14).1 0 && Nat.beq (a_sk 14).2.1 (a_own 13)) = true := by decide +kernel
theorem fR_140_30 : (Nat.beq (a_sk 30).1 0 && Nat.beq (a_sk 30).2.1 (a_own 140)) = true := by decide +kernel
theorem fR_141_30 : (Nat.beq (a_sk 30).1 0 && Nat.beq (a_sk 30).2.1 (a_own 141)) = true := by decide +kernel
theorem fR_142_30 : (Nat.beq (a_sk 30).1 0 && Nat.beq (a_sk 30).2.1 (a_own 142)) = true := by decide +kernel
theorem fR_143_30 : (Nat.beq (a_sk 30).1 0 && Nat.beq (a_sk 30).2.1 (a_own 143)) = true := by decide +kernel
theorem fR_144_30 : (Nat.beq (a_sk 30).1 0 && Nat.beq (a_sk 30).2.1 (a_own 144)) = true := by decide +kernel
theorem fR_145_30 : (Nat.beq (a_sk 30).1 0 && Nat.beq (a_sk 30).2.1 (a_own 145)) = true := by decide +kernel
theorem fR_146_30 : (Nat.beq (a_sk 30).1 0 && Nat.beq (a_sk 30).2.1 (a_own 146)) = true := by decide +kernel
theorem fR_147_30 : (Nat.beq (a_sk 30).1 0 && Nat.beq (a_sk 30).2.1 (a_own 147)) = true := by decide +kernel
theorem fR_148_30 : (Nat.beq (a_sk 30).1 0 && Nat.beq (a_sk 30).2.1 (a_own 148)) = true := by decide +kernel
theorem fR_149_30 : (Nat.beq (a_sk 30).1 0 && Nat.beq (a_sk 30).2.1 (a_own 149)) = true := by decide +kernel
theorem fR_14_14 : (Nat.beq (a_sk 14).1 0 && Nat.beq (a_sk 14).2.1 (a_own 14)) = true := by decide +kernel
theorem fR_150_30 : (Nat.beq (a_sk 30).1 0 && Nat.beq (a_sk 30).2.1 (a_own 150)) = true := by decide +kernel
theorem fR_151_30 : (Nat.beq (a_sk 30).1 0 && Nat.beq (a_sk 30).2.1 (a_own 151)) = true := by decide +kernel
theorem fR_152_30 : (Nat.beq (a_sk 30).1 0 && Nat.beq (a_sk 30).2.1 (a_own 152)) = true := by decide +kernel
theorem fR_153_30 : (Nat.beq (a_sk 30).1 0 && Nat.beq (a_sk 30).2.1 (a_own 153)) = true := by decide +kernel
theorem fR_154_30 : (Nat.beq (a_sk 30).1 0 && Nat.beq (a_sk 30).2.1 (a_own 154)) = true := by decide +kernel
theorem fR_155_30 : (Nat.beq (a_sk 30).1 0 && Nat.beq (a_sk 30).2.1 (a_own 155)) = true := by decide +kernel
theorem fR_156_30 : (Nat.beq (a_sk 30).1 0 && Nat.beq (a_sk 30).2.1 (a_own 156)) = true := by decide +kernel
theorem fR_157_30 : (Nat.beq (a_sk 30).1 0 && Nat.beq (a_sk 30).2.1 (a_own 157)) = true := by decide +kernel
theorem fR_158_30 : (Nat.beq (a_sk 30).1 0 && Nat.beq (a_sk 30).2.1 (a_own 158)) = true := by decide +kernel
theorem fR_162_30 : (Nat.beq (a_sk 30).1 0 && Nat.beq (a_sk 30).2.1 (a_own 162)) = true := by decide +kernel
theorem fR_163_30 : (Nat.beq (a_sk 30).1 0 && Nat.beq (a_sk 30).2.1 (a_own 163)) = true := by decide +kernel
theorem fR_164_30 : (Nat.beq (a_sk 30).1 0 && Nat.beq (a_sk 30).2.1 (a_own 164)) = true := by decide +kernel
theorem fR_165_30 : (Nat.beq (a_sk 30).1 0 && Nat.beq (a_sk 30).2.1 (a_own 165)) = true := by decide +kernel
theorem fR_166_30 : (Nat.beq (a_sk 30).1 0 && Nat.beq (a_sk 30).2.1 (a_own 166)) = true := by decide +kernel
theorem fR_167_30 : (Nat.beq (a_sk 30).1 0 && Nat.beq (a_sk 30).2.1 (a_own 167)) = true := by decide +kernel
theorem fR_16_10 : (Nat.beq (a_sk 10).1 0 && Nat.beq (a_sk 10).2.1 (a_own 16)) = true := by decide +kernel
theorem fR_171_31 : (Nat.beq (a_sk 31).1 0 && Nat.beq (a_sk 31).2.1 (a_own 171)) = true := by decide +kernel
theorem fR_172_31 : (Nat.beq (a_sk 31).1 0 && Nat.beq (a_sk 31).2.1 (a_own 172)) = true := by decide +kernel
theorem fR_177_31 : (Nat.beq (a_sk 31).1 0 && Nat.beq (a_sk 31).2.1 (a_own 177)) = true := by decide +kernel
theorem fR_178_31 : (Nat.beq (a_sk 31).1 0 && Nat.beq (a_sk 31).2.1 (a_own 178)) = true := by decide +kernel
theorem fR_179_31 : (Nat.beq (a_sk 31).1 0 && Nat.beq (a_sk 31).2.1 (a_own 179)) = true := by decide +kernel
theorem fR_17_10 : (Nat.beq (a_sk 10).1 0 && Nat.beq (a_sk 10).2.1 (a_own 17)) = true := by decide +kernel
theorem fR_180_31 : (Nat.beq (a_sk 31).1 0 && Nat.beq (a_sk 31).2.1 (a_own 180)) = true := by decide +kernel
theorem fR_181_31 : (Nat.beq (a_sk 31).1 0 && Nat.beq (a_sk 31).2.1 (a_own 181)) = true := by decide +kernel
theorem fR_182_31 : (Nat.beq (a_sk 31).1 0 && Nat.beq (a_sk 31).2.1 (a_own 182)) = true := by decide +kernel
theorem fR_184_31 : (Nat.beq (a_sk 31).1 0 && Nat.beq (a_sk 31).2.1 (a_own 184)) = true := by decide +kernel
theorem fR_186_31 : (Nat.beq (a_sk 31).1 0 && Nat.beq (a_sk 31).2.1 (a_own 186)) = true := by decide +kernel
theorem fR_187_31 : (Nat.beq (a_sk 31).1 0 && Nat.beq (a_sk 31).2.1 (a_own 187)) = true := by decide +kernel
theorem fR_188_31 : (Nat.beq (a_sk 31).1 0 && Nat.beq (a_sk 31).2.1 (a_own 188)) = true := by decide +kernel
theorem fR_189_31 : (Nat.beq (a_sk 31).1 0 && Nat.beq (a_sk 31).2.1 (a_own 189)) = true := by decide +kernel
theorem fR_190_31 : (Nat.beq (a_sk 31).1 0 && Nat.beq (a_sk 31).2.1 (a_own 190)) = true := by decide +kernel
theorem fR_191_31 : (Nat.beq (a_sk 31).1 0 && Nat.beq (a_sk 31).2.1 (a_own 191)) = true := by decide +kernel
theorem fR_192_31 : (Nat.beq (a_sk 31).1 0 && Nat.beq (a_sk 31).2.1 (a_own 192)) = true := by decide +kernel
theorem fR_193_31 : (Nat.beq (a_sk 31).1 0 && Nat.beq (a_sk 31).2.1 (a_own 193)) = true := by decide +kernel
theorem fR_194_31 : (Nat.beq (a_sk 31).1 0 && Nat.beq (a_sk 31).2.1 (a_own 194)) = true := by decide +kernel
theorem fR_195_31 : (Nat.beq (a_sk 31).1 0 && Nat.beq (a_sk 31).2.1 (a_own 195)) = true := by decide +kernel
theorem fR_196_31 : (Nat.beq (a_sk 31).1 0 && Nat.beq (a_sk 31).2.1 (a_own 196)) = true := by decide +kernel
theorem fR_197_31 : (Nat.beq (a_sk 31).1 0 && Nat.beq (a_sk 31).2.1 (a_own 197)) = true := by decide +kernel
theorem fR_198_31 : (Nat.beq (a_sk 31).1 0 && Nat.beq (a_sk 31).2.1 (a_own 198)) = true := by decide +kernel
theorem fR_199_31 : (Nat.beq (a_sk 31).1 0 && Nat.beq (a_sk 31).2.1 (a_own 199)) = true := by decide +kernel
theorem fR_19_21 : (Nat.beq (a_sk 21).1 0 && Nat.beq (a_sk 21).2.1 (a_own 19)) = true := by decide +kernel
theorem fR_1_15 : (Nat.beq (a_sk 15).1 0 && Nat.beq (a_sk 15).2.1 (a_own 1)) = true := by decide +kernel
theorem fR_200_31 : (Nat.beq (a_sk 31).1 0 && Nat.beq (a_sk 31).2.1 (a_own 200)) = true := by decide +kernel
theorem fR_201_31 : (Nat.beq (a_sk 31).1 0 && Nat.beq (a_sk 31).2.1 (a_own 201)) = true := by decide +kernel
theorem fR_202_31 : (Nat.beq (a_sk 31).1 0 && Nat.beq (a_sk 31).2.1 (a_own 202)) = true := by decide +kernel
theorem fR_203_31 : (Nat.beq (a_sk 31).1 0 && Nat.beq (a_sk 31).2.1 (a_own 203)) = true := by decide +kernel
theorem fR_204_31 : (Nat.beq (a_sk 31).1 0 && Nat.beq (a_sk 31).2.1 (a_own 204)) = true := by decide +kernel
theorem fR_205_31 : (Nat.beq (a_sk 31).1 0 && Nat.beq (a_sk 31).2.1 (a_own 205)) = true := by decide +kernel
theorem fR_206_31 : (Nat.beq (a_sk 31).1 0 && Nat.beq (a_sk 31).2.1 (a_own 206)) = true := by decide +kernel
theorem fR_207_31 : (Nat.beq (a_sk 31).1 0 && Nat.beq (a_sk 31).2.1 (a_own 207)) = true := by decide +kernel
theorem fR_208_31 : (Nat.beq (a_sk 31).1 0 && Nat.beq (a_sk 31).2.1 (a_own 208)) = true := by decide +kernel
theorem fR_209_31 : (Nat.beq (a_sk 31).1 0 && Nat.beq (a_sk 31).2.1 (a_own 209)) = true := by decide +kernel
theorem fR_20_21 : (Nat.beq (a_sk 21).1 0 && Nat.beq (a_sk 21).2.1 (a_own 20)) = true := by decide +kernel
theorem fR_210_31 : (Nat.beq (a_sk 31).1 0 && Nat.beq (a_sk 31).2.1 (a_own 210)) = true := by decide +kernel
theorem fR_211_31 : (Nat.beq (a_sk 31).1 0 && Nat.beq (a_sk 31).2.1 (a_own 211)) = true := by decide +kernel
theorem fR_212_31 : (Nat.beq (a_sk 31).1 0 && Nat.beq (a_sk 31).2.1 (a_own 212)) = true := by decide +kernel
theorem fR_213_31 : (Nat.beq (a_sk 31).1 0 && Nat.beq (a_sk 31).2.1 (a_own 213)) = true := by decide +kernel
theorem fR_214_31 : (Nat.beq (a_sk 31).1 0 && Nat.beq (a_sk 31).2.1 (a_own 214)) = true := by decide +kernel
theorem fR_215_31 : (Nat.beq (a_sk 31).1 0 && Nat.beq (a_sk 31).2.1 (a_own 215)) = true := by decide +kernel
theorem fR_216_31 : (Nat.beq (a_sk 31).1 0 && Nat.beq (a_sk 31).2.1 (a_own 216)) = true := by decide +kernel
theorem fR_217_31 : (Nat.beq (a_sk 31).1 0 && Nat.beq (a_sk 31).2.1 (a_own 217)) = true := by decide +kernel
theorem fR_218_31 : (Nat.beq (a_sk 31).1 0 && Nat.beq (a_sk 31).2.1 (a_own 218)) = true := by decide +kernel
theorem fR_219_31 : (Nat.beq (a_sk 31).1 0 && Nat.beq (a_sk 31).2.1 (a_own 219)) = true := by decide +kernel
theorem fR_21_21 : (Nat.beq (a_sk 21).1 0 && Nat.beq (a_sk 21).2.1 (a_own 21)) = true := by decide +kernel
theorem fR_220_31 : (Nat.beq (a_sk 31).1 0 && Nat.beq (a_sk 31).2.1 (a_own 220)) = true := by decide +kernel
theorem fR_221_31 : (Nat.beq (a_sk 31).1 0 && Nat.beq (a_sk 31).2.1 (a_own 221)) = true := by decide +kernel
theorem fR_222_31 : (Nat.beq (a_sk 31).1 0 && Nat.beq (a_sk 31).2.1 (a_own 222)) = true := by decide +kernel
theorem fR_223_31 : (Nat.beq (a_sk 31).1 0 && Nat.beq (a_sk 31).2.1 (a_own 223)) = true := by decide +kernel
theorem fR_224_31 : (Nat.beq (a_sk 31).1 0 && Nat.beq (a_sk 31).2.1 (a_own 224)) = true := by decide +kernel
theorem fR_225_31 : (Nat.beq (a_sk 31).1 0 && Nat.beq (a_sk 31).2.1 (a_own 225)) = true := by decide +kernel
theorem fR_226_31 : (Nat.beq (a_sk 31).1 0 && Nat.beq (a_sk 31).2.1 (a_own 226)) = true := by decide +kernel
theorem fR_227_31 : (Nat.beq (a_sk 31).1 0 && Nat.beq (a_sk 31).2.1 (a_own 227)) = true := by decide +kernel
theorem fR_228_31 : (Nat.beq (a_sk 31).1 0 && Nat.beq (a_sk 31).2.1 (a_own 228)) = true := by decide +kernel
theorem fR_229_31 : (Nat.beq (a_sk 31).1 0 && Nat.beq (a_sk 31).2.1 (a_own 229)) = true := by decide +kernel
theorem fR_22_21 : (Nat.beq (a_sk 21).1 0 && Nat.beq (a_sk 21).2.1 (a_own 22)) = true := by decide +kernel
theorem fR_230_31 : (Nat.beq (a_sk 31).1 0 && Nat.beq (a_sk 31).2.1 (a_own 230)) = true := by decide +kernel
theorem fR_231_31 : (Nat.beq (a_sk 31).1 0 && Nat.beq (a_sk 31).2.1 (a_own 231)) = true := by decide +kernel
theorem fR_232_31 : (Nat.beq (a_sk 31).1 0 && Nat.beq (a_sk 31).2.1 (a_own 232)) = true := by decide +kernel
theorem fR_233_31 : (Nat.beq (a_sk 31).1 0 && Nat.beq (a_sk 31).2.1 (a_own 233)) = true := by decide +kernel
theorem fR_234_31 : (Nat.beq (a_sk 31).1 0 && Nat.beq (a_sk 31).2.1 (a_own 234)) = true := by decide +kernel
theorem fR_235_31 : (Nat.beq (a_sk 31).1 0 && Nat.beq (a_sk 31).2.1 (a_own 235)) = true := by decide +kernel
theorem fR_236_31 : (Nat.beq (a_sk 31).1 0 && Nat.beq (a_sk 31).2.1 (a_own 236)) = true := by decide +kernel
theorem fR_237_31 : (Nat.beq (a_sk 31).1 0 && Nat.beq (a_sk 31).2.1 (a_own 237)) = true := by decide +kernel
theorem fR_238_31 : (Nat.beq (a_sk 31).1 0 && Nat.beq (a_sk 31).2.1 (a_own 238)) = true := by decide +kernel
theorem fR_239_31 : (Nat.beq (a_sk 31).1 0 && Nat.beq (a_sk 31).2.1 (a_own 239)) = true := by decide +kernel
theorem fR_23_21 : (Nat.beq (a_sk 21).1 0 && Nat.beq (a_sk 21).2.1 (a_own 23)) = true := by decide +kernel
theorem fR_240_31 : (Nat.beq (a_sk 31).1 0 && Nat.beq (a_sk 31).2.1 (a_own 240)) = true := by decide +kernel
theorem fR_241_31 : (Nat.beq (a_sk 31).1 0 && Nat.beq (a_sk 31).2.1 (a_own 241)) = true := by decide +kernel
theorem fR_242_31 : (Nat.beq (a_sk 31).1 0 && Nat.beq (a_sk 31).2.1 (a_own 242)) = true := by decide +kernel
theorem fR_243_31 : (Nat.beq (a_sk 31).1 0 && Nat.beq (a_sk 31).2.1 (a_own 243)) = true := by decide +kernel
theorem fR_244_31 : (Nat.beq (a_sk 31).1 0 && Nat.beq (a_sk 31).2.1 (a_own 244)) = true := by decide +kernel
theorem fR_245_31 : (Nat.beq (a_sk 31).1 0 && Nat.beq (a_sk 31).2.1 (a_own 245)) = true := by decide +kernel
theorem fR_246_31 : (Nat.beq (a_sk 31).1 0 && Nat.beq (a_sk 31).2.1 (a_own 246)) = true := by decide +kernel
theorem fR_247_31 : (Nat.beq (a_sk 31).1 0 && Nat.beq (a_sk 31).2.1 (a_own 247)) = true := by decide +kernel
theorem fR_248_31 : (Nat.beq (a_sk 31).1 0 && Nat.beq (a_sk 31).2.1 (a_own 248)) = true := by decide +kernel
theorem fR_249_31 : (Nat.beq (a_sk 31).1 0 && Nat.beq (a_sk 31).2.1 (a_own 249)) = true := by decide +kernel
theorem fR_24_21 : (Nat.beq (a_sk 21).1 0 && Nat.beq (a_sk 21).2.1 (a_own 24)) = true := by decide +kernel
theorem fR_250_31 : (Nat.beq (a_sk 31).1 0 && Nat.beq (a_sk 31).2.1 (a_own 250)) = true := by decide +kernel
theorem fR_251_31 : (Nat.beq (a_sk 31).1 0 && Nat.beq (a_sk 31).2.1 (a_own 251)) = true := by decide +kernel
theorem fR_252_31 : (Nat.beq (a_sk 31).1 0 && Nat.beq (a_sk 31).2.1 (a_own 252)) = true := by decide +kernel
theorem fR_253_31 : (Nat.beq (a_sk 31).1 0 && Nat.beq (a_sk 31).2.1 (a_own 253)) = true := by decide +kernel
theorem fR_254_31 : (Nat.beq (a_sk 31).1 0 && Nat.beq (a_sk 31).2.1 (a_own 254)) = true := by decide +kernel
theorem fR_255_31 : (Nat.beq (a_sk 31).1 0 && Nat.beq (a_sk 31).2.1 (a_own 255)) = true := by decide +kernel
theorem fR_256_31 : (Nat.beq (a_sk 31).1 0 && Nat.beq (a_sk 31).2.1 (a_own 256)) = true := by decide +kernel
theorem fR_257_31 : (Nat.beq (a_sk 31).1 0 && Nat.beq (a_sk 31).2.1 (a_own 257)) = true := by decide +kernel
theorem fR_258_31 : (Nat.beq (a_sk 31).1 0 && Nat.beq (a_sk 31).2.1 (a_own 258)) = true := by decide +kernel
theorem fR_259_31 : (Nat.beq (a_sk 31).1 0 && Nat.beq (a_sk 31).2.1 (a_own 259)) = true := by decide +kernel
theorem fR_25_21 : (Nat.beq (a_sk 21).1 0 && Nat.beq (a_sk 21).2.1 (a_own 25)) = true := by decide +kernel
theorem fR_260_31 : (Nat.beq (a_sk 31).1 0 && Nat.beq (a_sk 31).2.1 (a_own 260)) = true := by decide +kernel
theorem fR_261_31 : (Nat.beq (a_sk 31).1 0 && Nat.beq (a_sk 31).2.1 (a_own 261)) = true := by decide +kernel
theorem fR_262_31 : (Nat.beq (a_sk 31).1 0 && Nat.beq (a_sk 31).2.1 (a_own 262)) = true := by decide +kernel
theorem fR_264_31 : (Nat.beq (a_sk 31).1 0 && Nat.beq (a_sk 31).2.1 (a_own 264)) = true := by decide +kernel
theorem fR_265_31 : (Nat.beq (a_sk 31).1 0 && Nat.beq (a_sk 31).2.1 (a_own 265)) = true := by decide +kernel
theorem fR_266_31 : (Nat.beq (a_sk 31).1 0 && Nat.beq (a_sk 31).2.1 (a_own 266)) = true := by decide +kernel
theorem fR_267_31 : (Nat.beq (a_sk 31).1 0 && Nat.beq (a_sk 31).2.1 (a_own 267)) = true := by decide +kernel
theorem fR_268_31 : (Nat.beq (a_sk 31).1 0 && Nat.beq (a_sk 31).2.1 (a_own 268)) = true := by decide +kernel
theorem fR_269_31 : (Nat.beq (a_sk 31).1 0 && Nat.beq (a_sk 31).2.1 (a_own 269)) = true := by decide +kernel
theorem fR_26_21 : (Nat.beq (a_sk 21).1 0 && Nat.beq (a_sk 21).2.1 (a_own 26)) = true := by decide +kernel
theorem fR_270_31 : (Nat.beq (a_sk 31).1 0 && Nat.beq (a_sk 31).2.1 (a_own 270)) = true := by decide +kernel
theorem fR_271_31 : (Nat.beq (a_sk 31).1 0 && Nat.beq (a_sk 31).2.1 (a_own 271)) = true := by decide +kernel
theorem fR_273_31 : (Nat.beq (a_sk 31).1 0 && Nat.beq (a_sk 31).2.1 (a_own 273)) = true := by decide +kernel
theorem fR_274_31 : (Nat.beq (a_sk 31).1 0 && Nat.beq (a_sk 31).2.1 (a_own 274)) = true := by decide +kernel
theorem fR_275_31 : (Nat.beq (a_sk 31).1 0 && Nat.beq (a_sk 31).2.1 (a_own 275)) = true := by decide +kernel
theorem fR_276_31 : (Nat.beq (a_sk 31).1 0 && Nat.beq (a_sk 31).2.1 (a_own 276)) = true := by decide +kernel
theorem fR_277_31 : (Nat.beq (a_sk 31).1 0 && Nat.beq (a_sk 31).2.1 (a_own 277)) = true := by decide +kernel
theorem fR_278_31 : (Nat.beq (a_sk 31).1 0 && Nat.beq (a_sk 31).2.1 (a_own 278)) = true := by decide +kernel
theorem fR_279_31 : (Nat.beq (a_sk 31).1 0 && Nat.beq (a_sk 31).2.1 (a_own 279)) = true := by decide +kernel
theorem fR_27_21 : (Nat.beq (a_sk 21).1 0 && Nat.beq (a_sk 21).2.1 (a_own 27)) = true := by decide +kernel
theorem fR_280_31 : (Nat.beq (a_sk 31).1 0 && Nat.beq (a_sk 31).2.1 (a_own 280)) = true := by decide +kernel
theorem fR_281_31 : (Nat.beq (a_sk 31).1 0 && Nat.beq (a_sk 31).2.1 (a_own 281)) = true := by decide +kernel
theorem fR_282_31 : (Nat.beq (a_sk 31).1 0 && Nat.beq (a_sk 31).2.1 (a_own 282)) = true := by decide +kernel
theorem fR_283_31 : (Nat.beq (a_sk 31).1 0 && Nat.beq (a_sk 31).2.1 (a_own 283)) = true := by decide +kernel
theorem fR_284_31 : (Nat.beq (a_sk 31).1 0 && Nat.beq (a_sk 31).2.1 (a_own 284)) = true := by decide +kernel
theorem fR_285_31 : (Nat.beq (a_sk 31).1 0 && Nat.beq (a_sk 31).2.1 (a_own 285)) = true := by decide +kernel
theorem fR_286_31 : (Nat.beq (a_sk 31).1 0 && Nat.beq (a_sk 31).2.1 (a_own 286)) = true := by decide +kernel
theorem fR_287_31 : (Nat.beq (a_sk 31).1 0 && Nat.beq (a_sk 31).2.1 (a_own 287)) = true := by decide +kernel
theorem fR_288_31 : (Nat.beq (a_sk 31).1 0 && Nat.beq (a_sk 31).2.1 (a_own 288)) = true := by decide +kernel
theorem fR_289_31 : (Nat.beq (a_sk 31).1 0 && Nat.beq (a_sk 31).2.1 (a_own 289)) = true := by decide +kernel
theorem fR_28_21 : (Nat.beq (a_sk 21).1 0 && Nat.beq (a_sk 21).2.1 (a_own 28)) = true := by decide +kernel
theorem fR_290_31 : (Nat.beq (a_sk 31).1 0 && Nat.beq (a_sk 31).2.1 (a_own 290)) = true := by decide +kernel
theorem fR_291_31 : (Nat.beq (a_sk 31).1 0 && Nat.beq (a_sk 31).2.1 (a_own 291)) = true := by decide +kernel
theorem fR_292_31 : (Nat.beq (a_sk 31).1 0 && Nat.beq (a_sk 31).2.1 (a_own 292)) = true := by decide +kernel
theorem fR_293_31 : (Nat.beq (a_sk 31).1 0 && Nat.beq (a_sk 31).2.1 (a_own 293)) = true := by decide +kernel
theorem fR_294_31 : (Nat.beq (a_sk 31).1 0 && Nat.beq (a_sk 31).2.1 (a_own 294)) = true := by decide +kernel
theorem fR_295_31 : (Nat.beq (a_sk 31).1 0 && Nat.beq (a_sk 31).2.1 (a_own 295)) = true := by decide +kernel
theorem fR_296_31 : (Nat.beq (a_sk 31).1 0 && Nat.beq (a_sk 31).2.1 (a_own 296)) = true := by decide +kernel
theorem fR_297_31 : (Nat.beq (a_sk 31).1 0 && Nat.beq (a_sk 31).2.1 (a_own 297)) = true := by decide +kernel
theorem fR_29_21 : (Nat.beq (a_sk 21).1 0 && Nat.beq (a_sk 21).2.1 (a_own 29)) = true := by decide +kernel
theorem fR_2_15 : (Nat.beq (a_sk 15).1 0 && Nat.beq (a_sk 15).2.1 (a_own 2)) = true := by decide +kernel
theorem fR_302_1 : (Nat.beq (a_sk 1).1 0 && Nat.beq (a_sk 1).2.1 (a_own 302)) = true := by decide +kernel
theorem fR_303_1 : (Nat.beq (a_sk 1).1 0 && Nat.beq (a_sk 1).2.1 (a_own 303)) = true := by decide +kernel
theorem fR_304_1 : (Nat.beq (a_sk 1).1 0 && Nat.beq (a_sk 1).2.1 (a_own 304)) = true := by decide +kernel
theorem fR_305_1 : (Nat.beq (a_sk 1).1 0 && Nat.beq (a_sk 1).2.1 (a_own 305)) = true := by decide +kernel
theorem fR_30_21 : (Nat.beq (a_sk 21).1 0 && Nat.beq (a_sk 21).2.1 (a_own 30)) = true := by decide +kernel
theorem fR_31_21 : (Nat.beq (a_sk 21).1 0 && Nat.beq (a_sk 21).2.1 (a_own 31)) = true := by decide +kernel
theorem fR_32_21 : (Nat.beq (a_sk 21).1 0 && Nat.beq (a_sk 21).2.1 (a_own 32)) = true := by decide +kernel
theorem fR_33_21 : (Nat.beq (a_sk 21).1 0 && Nat.beq (a_sk 21).2.1 (a_own 33)) = true := by decide +kernel
theorem fR_34_21 : (Nat.beq (a_sk 21).1 0 && Nat.beq (a_sk 21).2.1 (a_own 34)) = true := by decide +kernel
theorem fR_35_21 : (Nat.beq (a_sk 21).1 0 && Nat.beq (a_sk 21).2.1 (a_own 35)) = true := by decide +kernel
theorem fR_36_21 : (Nat.beq (a_sk 21).1 0 && Nat.beq (a_sk 21).2.1 (a_own 36)) = true := by decide +kernel
theorem fR_3_15 : (Nat.beq (a_sk 15).1 0 && Nat.beq (a_sk 15).2.1 (a_own 3)) = true := by decide +kernel
theorem fR_40_20 : (Nat.beq (a_sk 20).1 0 && Nat.beq (a_sk 20).2.1 (a_own 40)) = true := by decide +kernel
theorem fR_41_20 : (Nat.beq (a_sk 20).1 0 && Nat.beq (a_sk 20).2.1 (a_own 41)) = true := by decide +kernel
theorem fR_42_20 : (Nat.beq (a_sk 20).1 0 && Nat.beq (a_sk 20).2.1 (a_own 42)) = true := by decide +kernel
theorem fR_43_20 : (Nat.beq (a_sk 20).1 0 && Nat.beq (a_sk 20).2.1 (a_own 43)) = true := by decide +kernel
theorem fR_44_20 : (Nat.beq (a_sk 20).1 0 && Nat.beq (a_sk 20).2.1 (a_own 44)) = true := by decide +kernel
theorem fR_45_20 : (Nat.beq (a_sk 20).1 0 && Nat.beq (a_sk 20).2.1 (a_own 45)) = true := by decide +kernel
theorem fR_46_20 : (Nat.beq (a_sk 20).1 0 && Nat.beq (a_sk 20).2.1 (a_own 46)) = true := by decide +kernel
theorem fR_47_20 : (Nat.beq (a_sk 20).1 0 && Nat.beq (a_sk 20).2.1 (a_own 47)) = true := by decide +kernel
theorem fR_48_20 : (Nat.beq (a_sk 20).1 0 && Nat.beq (a_sk 20).2.1 (a_own 48)) = true := by decide +kernel
theorem fR_49_20 : (Nat.beq (a_sk 20).1 0 && Nat.beq (a_sk 20).2.1 (a_own 49)) = true := by decide +kernel
theorem fR_4_15 : (Nat.beq (a_sk 15).1 0 && Nat.beq (a_sk 15).2.1 (a_own 4)) = true := by decide +kernel
theorem fR_50_20 : (Nat.beq (a_sk 20).1 0 && Nat.beq (a_sk 20).2.1 (a_own 50)) = true := by decide +kernel
theorem fR_51_20 : (Nat.beq (a_sk 20).1 0 && Nat.beq (a_sk 20).2.1 (a_own 51)) = true := by decide +kernel
theorem fR_52_20 : (Nat.beq (a_sk 20).1 0 && Nat.beq (a_sk 20).2.1 (a_own 52)) = true := by decide +kernel
theorem fR_54_20 : (Nat.beq (a_sk 20).1 0 && Nat.beq (a_sk 20).2.1 (a_own 54)) = true := by decide +kernel
theorem fR_55_20 : (Nat.beq (a_sk 20).1 0 && Nat.beq (a_sk 20).2.1 (a_own 55)) = true := by decide +kernel
theorem fR_56_20 : (Nat.beq (a_sk 20).1 0 && Nat.beq (a_sk 20).2.1 (a_own 56)) = true := by decide +kernel
theorem fR_57_20 : (Nat.beq (a_sk 20).1 0 && Nat.beq (a_sk 20).2.1 (a_own 57)) = true := by decide +kernel
theorem fR_58_20 : (Nat.beq (a_sk 20).1 0 && Nat.beq (a_sk 20).2.1 (a_own 58)) = true := by decide +kernel
theorem fR_59_20 : (Nat.beq (a_sk 20).1 0 && Nat.beq (a_sk 20).2.1 (a_own 59)) = true := by decide +kernel
theorem fR_5_15 : (Nat.beq (a_sk 15).1 0 && Nat.beq (a_sk 15).2.1 (a_own 5)) = true := by decide +kernel
theorem fR_60_20 : (Nat.beq (a_sk 20).1 0 && Nat.beq (a_sk 20).2.1 (a_own 60)) = true := by decide +kernel
theorem fR_61_20 : (Nat.beq (a_sk 20).1 0 && Nat.beq (a_sk 20).2.1 (a_own 61)) = true := by decide +kernel
theorem fR_62_20 : (Nat.beq (a_sk 20).1 0 && Nat.beq (a_sk 20).2.1 (a_own 62)) = true := by decide +kernel
theorem fR_63_20 : (Nat.beq (a_sk 20).1 0 && Nat.beq (a_sk 20).2.1 (a_own 63)) = true := by decide +kernel
theorem fR_64_20 : (Nat.beq (a_sk 20).1 0 && Nat.beq (a_sk 20).2.1 (a_own 64)) = true := by decide +kernel
theorem fR_65_20 : (Nat.beq (a_sk 20).1 0 && Nat.beq (a_sk 20).2.1 (a_own 65)) = true := by decide +kernel
theorem fR_66_20 : (Nat.beq (a_sk 20).1 0 && Nat.beq (a_sk 20).2.1 (a_own 66)) = true := by decide +kernel
theorem fR_67_20 : (Nat.beq (a_sk 20).1 0 && Nat.beq (a_sk 20).2.1 (a_own 67)) = true := by decide +kernel
theorem fR_68_20 : (Nat.beq (a_sk 20).1 0 && Nat.beq (a_sk 20).2.1 (a_own 68)) = true := by decide +kernel
theorem fR_69_20 : (Nat.beq (a_sk 20).1 0 && Nat.beq (a_sk 20).2.1 (a_own 69)) = true := by decide +kernel
theorem fR_70_20 : (Nat.beq (a_sk 20).1 0 && Nat.beq (a_sk 20).2.1 (a_own 70)) = true := by decide +kernel
theorem fR_72_9 : (Nat.beq (a_sk 9).1 0 && Nat.beq (a_sk 9).2.1 (a_own 72)) = true := by decide +kernel
theorem fR_73_9 : (Nat.beq (a_sk 9).1 0 && Nat.beq (a_sk 9).2.1 (a_own 73)) = true := by decide +kernel
theorem fR_74_9 : (Nat.beq (a_sk 9).1 0 && Nat.beq (a_sk 9).2.1 (a_own 74)) = true := by decide +kernel
theorem fR_75_9 : (Nat.beq (a_sk 9).1 0 && Nat.beq (a_sk 9).2.1 (a_own 75)) = true := by decide +kernel
theorem fR_76_9 : (Nat.beq (a_sk 9).1 0 && Nat.beq (a_sk 9).2.1 (a_own 76)) = true := by decide +kernel
theorem fR_77_9 : (Nat.beq (a_sk 9).1 0 && Nat.beq (a_sk 9).2.1 (a_own 77)) = true := by decide +kernel
theorem fR_78_9 : (Nat.beq (a_sk 9).1 0 && Nat.beq (a_sk 9).2.1 (a_own 78)) = true := by decide +kernel
theorem fR_79_9 : (Nat.beq (a_sk 9).1 0 && Nat.beq (a_sk 9).2.1 (a_own 79)) = true := by decide +kernel
theorem fR_7_14 : (Nat.beq (a_sk 14).1 0 && Nat.beq (a_sk 14).2.1 (a_own 7)) = true := by decide +kernel
theorem fR_80_9 : (Nat.beq (a_sk 9).1 0 && Nat.beq (a_sk 9).2.1 (a_own 80)) = true := by decide +kernel
theorem fR_81_9 : (Nat.beq (a_sk 9).1 0 && Nat.beq (a_sk 9).2.1 (a_own 81)) = true := by decide +kernel
theorem fR_82_9 : (Nat.beq (a_sk 9).1 0 && Nat.beq (a_sk 9).2.1 (a_own 82)) = true := by decide +kernel
theorem fR_83_9 : (Nat.beq (a_sk 9).1 0 && Nat.beq (a_sk 9).2.1 (a_own 83)) = true := by decide +kernel
theorem fR_84_9 : (Nat.beq (a_sk 9).1 0 && Nat.beq (a_sk 9).2.1 (a_own 84)) = true := by decide +kernel
theorem fR_85_9 : (Nat.beq (a_sk 9).1 0 && Nat.beq (a_sk 9).2.1 (a_own 85)) = true := by decide +kernel
theorem fR_86_9 : (Nat.beq (a_sk 9).1 0 && Nat.beq (a_sk 9).2.1 (a_own 86)) = true := by decide +kernel
theorem fR_87_9 : (Nat.beq (a_sk 9).1 0 && Nat.beq (a_sk 9).2.1 (a_own 87)) = true := by decide +kernel
theorem fR_88_9 : (Nat.beq (a_sk 9).1 0 && Nat.beq (a_sk 9).2.1 (a_own 88)) = true := by decide +kernel
theorem fR_89_9 : (Nat.beq (a_sk 9).1 0 && Nat.beq (a_sk 9).2.1 (a_own 89)) = true := by decide +kernel
theorem fR_8_14 : (Nat.beq (a_sk 14).1 0 && Nat.beq (a_sk 14).2.1 (a_own 8)) = true := by decide +kernel
theorem fR_90_9 : (Nat.beq (a_sk 9).1 0 && Nat.beq (a_sk 9).2.1 (a_own 90)) = true := by decide +kernel
theorem fR_91_9 : (Nat.beq (a_sk 9).1 0 && Nat.beq (a_sk 9).2.1 (a_own 91)) = true := by decide +kernel
theorem fR_92_9 : (Nat.beq (a_sk 9).1 0 && Nat.beq (a_sk 9).2.1 (a_own 92)) = true := by decide +kernel
theorem fR_93_9 : (Nat.beq (a_sk 9).1 0 && Nat.beq (a_sk 9).2.1 (a_own 93)) = true := by decide +kernel
theorem fR_95_18 : (Nat.beq (a_sk 18).1 0 && Nat.beq (a_sk 18).2.1 (a_own 95)) = true := by decide +kernel
theorem fR_97_30 : (Nat.beq (a_sk 30).1 0 && Nat.beq (a_sk 30).2.1 (a_own 97)) = true := by decide +kernel
theorem fR_98_30 : (Nat.beq (a_sk 30).1 0 && Nat.beq (a_sk 30).2.1 (a_own 98)) = true := by decide +kernel
theorem fR_99_30 : (Nat.beq (a_sk 30).1 0 && Nat.beq (a_sk 30).2.1 (a_own 99)) = true := by decide +kernel
theorem fR_9_14 : (Nat.beq (a_sk 14).1 0 && Nat.beq (a_sk 14).2.1 (a_own 9)) = true := by decide +kernel
theorem fT_1 : a_rt 1 = none := rfl
theorem fT_10 : a_rt 10 = (some .int) := rfl
theorem fT_100 : a_rt 100 = (some .int) := rfl
theorem fT_101 : a_rt 101 = (some .int) := rfl
theorem fT_102 : a_rt 102 = (some .int) := rfl
theorem fT_103 : a_rt 103 = (some .int) := rfl
theorem fT_104 : a_rt 104 = (some .int) := rfl
theorem fT_105 : a_rt 105 = (some .int) := rfl
theorem fT_106 : a_rt 106 = none := rfl
theorem fT_107 : a_rt 107 = (some .int) := rfl
theorem fT_108 : a_rt 108 = (some .int) := rfl
theorem fT_109 : a_rt 109 = (some .boolean) := rfl
theorem fT_11 : a_rt 11 = (some .int) := rfl
theorem fT_110 : a_rt 110 = (some .int) := rfl
theorem fT_111 : a_rt 111 = (some .int) := rfl
theorem fT_112 : a_rt 112 = (some .int) := rfl
theorem fT_113 : a_rt 113 = (some .int) := rfl
theorem fT_114 : a_rt 114 = (some .int) := rfl
theorem fT_115 : a_rt 115 = (some .int) := rfl
theorem fT_116 : a_rt 116 = (some .int) := rfl
theorem fT_117 : a_rt 117 = (some .int) := rfl
theorem fT_118 : a_rt 118 = (some .int) := rfl
theorem fT_119 : a_rt 119 = (some .int) := rfl
theorem fT_12 : a_rt 12 = none := rfl
theorem fT_120 : a_rt 120 = (some .int) := rfl
theorem fT_121 : a_rt 121 = (some .int) := rfl
theorem fT_122 : a_rt 122 = (some .int) := rfl
theorem fT_123 : a_rt 123 = (some .int) := rfl
theorem fT_124 : a_rt 124 = (some .int) := rfl
theorem fT_125 : a_rt 125 = (some .int) := rfl
theorem fT_126 : a_rt 126 = (some .int) := rfl
theorem fT_127 : a_rt 127 = (some .int) := rfl
theorem fT_128 : a_rt 128 = (some .int) := rfl
theorem fT_129 : a_rt 129 = (some .int) := rfl
theorem fT_13 : a_rt 13 = none := rfl
theorem fT_130 : a_rt 130 = (some .int) := rfl
theorem fT_131 : a_rt 131 = (some .int) := rfl
theorem fT_132 : a_rt 132 = (some .int) := rfl
theorem fT_133 : a_rt 133 = (some .int) := rfl
theorem fT_134 : a_rt 134 = (some .int) := rfl
theorem fT_135 : a_rt 135 = (some .int) := rfl
theorem fT_136 : a_rt 136 = (some .int) := rfl
theorem fT_137 : a_rt 137 = (some .int) := rfl
theorem fT_138 : a_rt 138 = (some .int) := rfl
theorem fT_139 : a_rt 139 = (some .int) := rfl
theorem fT_14 : a_rt 14 = none := rfl
theorem fT_140 : a_rt 140 = (some .int) := rfl
theorem fT_141 : a_rt 141 = (some .int) := rfl
theorem fT_142 : a_rt 142 = (some .int) := rfl
theorem fT_143 : a_rt 143 = (some .int) := rfl
theorem fT_144 : a_rt 144 = (some .int) := rfl
theorem fT_145 : a_rt 145 = (some .int) := rfl
theorem fT_146 : a_rt 146 = (some .int) := rfl
theorem fT_147 : a_rt 147 = (some .int) := rfl
theorem fT_148 : a_rt 148 = (some .int) := rfl
theorem fT_149 : a_rt 149 = (some .int) := rfl
theorem fT_15 : a_rt 15 = none := rfl
theorem fT_150 : a_rt 150 = (some .int) := rfl
theorem fT_151 : a_rt 151 = (some .int) := rfl
theorem fT_152 : a_rt 152 = (some .int) := rfl
theorem fT_153 : a_rt 153 = (some .int) := rfl
theorem fT_154 : a_rt 154 = (some .int) := rfl
theorem fT_155 : a_rt 155 = (some .int) := rfl
theorem fT_156 : a_rt 156 = (some .int) := rfl
theorem fT_159 : a_rt 159 = (some .boolean) := rfl
theorem fT_16 : a_rt 16 = none := rfl
theorem fT_160 : a_rt 160 = none := rfl
theorem fT_161 : a_rt 161 = none := rfl
theorem fT_162 : a_rt 162 = none := rfl
theorem fT_163 : a_rt 163 = none := rfl
theorem fT_164 : a_rt 164 = none := rfl
theorem fT_167 : a_rt 167 = (some .int) := rfl
theorem fT_168 : a_rt 168 = (some .int) := rfl
theorem fT_169 : a_rt 169 = (some .int) := rfl
theorem fT_17 : a_rt 17 = none := rfl
theorem fT_171 : a_rt 171 = (some .int) := rfl
theorem fT_172 : a_rt 172 = none := rfl
theorem fT_173 : a_rt 173 = (some .boolean) := rfl
theorem fT_174 : a_rt 174 = (some .boolean) := rfl
theorem fT_175 : a_rt 175 = (some .int) := rfl
theorem fT_176 : a_rt 176 = (some .int) := rfl
theorem fT_177 : a_rt 177 = (some .boolean) := rfl
theorem fT_178 : a_rt 178 = (some .boolean) := rfl
theorem fT_179 : a_rt 179 = (some .int) := rfl
theorem fT_180 : a_rt 180 = none := rfl
theorem fT_181 : a_rt 181 = (some .int) := rfl
theorem fT_182 : a_rt 182 = none := rfl
theorem fT_183 : a_rt 183 = (some .int) := rfl
theorem fT_184 : a_rt 184 = (some .int) := rfl
theorem fT_185 : a_rt 185 = (some .boolean) := rfl
theorem fT_186 : a_rt 186 = none := rfl
theorem fT_187 : a_rt 187 = (some .int) := rfl
theorem fT_188 : a_rt 188 = (some .int) := rfl
theorem fT_189 : a_rt 189 = (some .int) := rfl
theorem fT_19 : a_rt 19 = (some .boolean) := rfl
theorem fT_190 : a_rt 190 = (some .int) := rfl
theorem fT_191 : a_rt 191 = (some .int) := rfl
theorem fT_192 : a_rt 192 = (some .int) := rfl
theorem fT_193 : a_rt 193 = (some .int) := rfl
theorem fT_194 : a_rt 194 = (some .int) := rfl
theorem fT_195 : a_rt 195 = (some .int) := rfl
theorem fT_196 : a_rt 196 = (some .int) := rfl
theorem fT_197 : a_rt 197 = (some .int) := rfl
theorem fT_198 : a_rt 198 = (some .int) := rfl
theorem fT_199 : a_rt 199 = none := rfl
theorem fT_2 : a_rt 2 = none := rfl
theorem fT_20 : a_rt 20 = none := rfl
theorem fT_200 : a_rt 200 = (some .int) := rfl
theorem fT_201 : a_rt 201 = (some .int) := rfl
theorem fT_202 : a_rt 202 = (some .int) := rfl
theorem fT_203 : a_rt 203 = (some .boolean) := rfl
theorem fT_204 : a_rt 204 = (some .int) := rfl
theorem fT_205 : a_rt 205 = (some .int) := rfl
theorem fT_206 : a_rt 206 = (some .int) := rfl
theorem fT_207 : a_rt 207 = (some .boolean) := rfl
theorem fT_208 : a_rt 208 = (some .boolean) := rfl
theorem fT_209 : a_rt 209 = (some .int) := rfl
theorem fT_21 : a_rt 21 = (some .int) := rfl
theorem fT_210 : a_rt 210 = (some .int) := rfl
theorem fT_211 : a_rt 211 = (some .int) := rfl
theorem fT_212 : a_rt 212 = (some .int) := rfl
theorem fT_213 : a_rt 213 = (some .boolean) := rfl
theorem fT_214 : a_rt 214 = (some .int) := rfl
theorem fT_215 : a_rt 215 = (some .int) := rfl
theorem fT_216 : a_rt 216 = (some .int) := rfl
theorem fT_217 : a_rt 217 = (some .int) := rfl
theorem fT_218 : a_rt 218 = (some .int) := rfl
theorem fT_219 : a_rt 219 = (some .int) := rfl
theorem fT_22 : a_rt 22 = (some .boolean) := rfl
theorem fT_220 : a_rt 220 = (some .int) := rfl
theorem fT_221 : a_rt 221 = (some .int) := rfl
theorem fT_222 : a_rt 222 = (some .int) := rfl
theorem fT_223 : a_rt 223 = (some .int) := rfl
theorem fT_224 : a_rt 224 = (some .int) := rfl
theorem fT_225 : a_rt 225 = (some .int) := rfl
theorem fT_226 : a_rt 226 = (some .int) := rfl
theorem fT_227 : a_rt 227 = (some .int) := rfl
theorem fT_228 : a_rt 228 = (some .int) := rfl
theorem fT_229 : a_rt 229 = (some .int) := rfl
theorem fT_23 : a_rt 23 = (some .boolean) := rfl
theorem fT_230 : a_rt 230 = (some .int) := rfl
theorem fT_231 : a_rt 231 = (some .int) := rfl
theorem fT_232 : a_rt 232 = (some .int) := rfl
theorem fT_233 : a_rt 233 = (some .int) := rfl
theorem fT_234 : a_rt 234 = (some .int) := rfl
theorem fT_235 : a_rt 235 = (some .int) := rfl
theorem fT_236 : a_rt 236 = (some .int) := rfl
theorem fT_237 : a_rt 237 = (some .int) := rfl
theorem fT_238 : a_rt 238 = none := rfl
theorem fT_239 : a_rt 239 = none := rfl
theorem fT_24 : a_rt 24 = (some .boolean) := rfl
theorem fT_240 : a_rt 240 = none := rfl
theorem fT_241 : a_rt 241 = (some .int) := rfl
theorem fT_242 : a_rt 242 = none := rfl
theorem fT_243 : a_rt 243 = none := rfl
theorem fT_244 : a_rt 244 = none := rfl
theorem fT_245 : a_rt 245 = none := rfl
theorem fT_246 : a_rt 246 = (some .int) := rfl
theorem fT_247 : a_rt 247 = (some .int) := rfl
theorem fT_248 : a_rt 248 = (some .boolean) := rfl
theorem fT_249 : a_rt 249 = (some .int) := rfl
theorem fT_25 : a_rt 25 = (some .boolean) := rfl
theorem fT_250 : a_rt 250 = (some .int) := rfl
theorem fT_251 : a_rt 251 = (some .int) := rfl
theorem fT_252 : a_rt 252 = (some .int) := rfl
theorem fT_253 : a_rt 253 = (some .int) := rfl
theorem fT_254 : a_rt 254 = (some .int) := rfl
theorem fT_255 : a_rt 255 = (some .int) := rfl
theorem fT_256 : a_rt 256 = (some .int) := rfl
theorem fT_257 : a_rt 257 = (some .int) := rfl
theorem fT_258 : a_rt 258 = (some .int) := rfl
theorem fT_259 : a_rt 259 = (some .int) := rfl
theorem fT_26 : a_rt 26 = (some .boolean) := rfl
theorem fT_260 : a_rt 260 = (some .int) := rfl
theorem fT_261 : a_rt 261 = (some .int) := rfl
theorem fT_262 : a_rt 262 = (some .int) := rfl
theorem fT_263 : a_rt 263 = (some .int) := rfl
theorem fT_264 : a_rt 264 = (some .int) := rfl
theorem fT_265 : a_rt 265 = (some .int) := rfl
theorem fT_266 : a_rt 266 = (some .int) := rfl
theorem fT_267 : a_rt 267 = (some .int) := rfl
theorem fT_268 : a_rt 268 = (some .int) := rfl
theorem fT_269 : a_rt 269 = (some .int) := rfl
theorem fT_27 : a_rt 27 = (some .boolean) := rfl
theorem fT_270 : a_rt 270 = (some .int) := rfl
theorem fT_271 : a_rt 271 = (some .int) := rfl
theorem fT_272 : a_rt 272 = none := rfl
theorem fT_273 : a_rt 273 = (some .int) := rfl
theorem fT_274 : a_rt 274 = (some .int) := rfl
theorem fT_275 : a_rt 275 = (some .int) := rfl
theorem fT_276 : a_rt 276 = (some .int) := rfl
theorem fT_277 : a_rt 277 = (some .int) := rfl
theorem fT_278 : a_rt 278 = (some .int) := rfl
theorem fT_279 : a_rt 279 = (some .boolean) := rfl
theorem fT_28 : a_rt 28 = (some .boolean) := rfl
theorem fT_280 : a_rt 280 = (some .boolean) := rfl
theorem fT_281 : a_rt 281 = none := rfl
theorem fT_282 : a_rt 282 = none := rfl
theorem fT_283 : a_rt 283 = (some .boolean) := rfl
theorem fT_284 : a_rt 284 = (some .int) := rfl
theorem fT_285 : a_rt 285 = (some .int) := rfl
theorem fT_286 : a_rt 286 = (some .int) := rfl
theorem fT_287 : a_rt 287 = none := rfl
theorem fT_288 : a_rt 288 = none := rfl
theorem fT_289 : a_rt 289 = none := rfl
theorem fT_29 : a_rt 29 = (some .boolean) := rfl
theorem fT_290 : a_rt 290 = none := rfl
theorem fT_291 : a_rt 291 = none := rfl
theorem fT_292 : a_rt 292 = none := rfl
theorem fT_293 : a_rt 293 = (some .int) := rfl
theorem fT_294 : a_rt 294 = (some .int) := rfl
theorem fT_295 : a_rt 295 = (some .int) := rfl
theorem fT_296 : a_rt 296 = none := rfl
theorem fT_297 : a_rt 297 = none := rfl
theorem fT_298 : a_rt 298 = (some .int) := rfl
theorem fT_30 : a_rt 30 = (some .boolean) := rfl
theorem fT_302 : a_rt 302 = (some .int) := rfl
theorem fT_303 : a_rt 303 = (some .char) := rfl
theorem fT_304 : a_rt 304 = (some .byte) := rfl
theorem fT_305 : a_rt 305 = (some .boolean) := rfl
theorem fT_306 : a_rt 306 = none := rfl
theorem fT_307 : a_rt 307 = (some .char) := rfl
theorem fT_308 : a_rt 308 = none := rfl
theorem fT_309 : a_rt 309 = (some .int) := rfl
theorem fT_31 : a_rt 31 = (some .boolean) := rfl
theorem fT_310 : a_rt 310 = (some .int) := rfl
theorem fT_311 : a_rt 311 = (some .int) := rfl
theorem fT_312 : a_rt 312 = (some .int) := rfl
theorem fT_313 : a_rt 313 = (some .int) := rfl
theorem fT_314 : a_rt 314 = (some .int) := rfl
theorem fT_315 : a_rt 315 = (some .int) := rfl
theorem fT_316 : a_rt 316 = (some .int) := rfl
theorem fT_317 : a_rt 317 = (some .int) := rfl
theorem fT_318 : a_rt 318 = (some .int) := rfl
theorem fT_319 : a_rt 319 = (some .int) := rfl
theorem fT_32 : a_rt 32 = (some .boolean) := rfl
theorem fT_320 : a_rt 320 = (some .int) := rfl
theorem fT_321 : a_rt 321 = (some .int) := rfl
theorem fT_322 : a_rt 322 = (some .int) := rfl
theorem fT_323 : a_rt 323 = (some .int) := rfl
theorem fT_324 : a_rt 324 = (some .int) := rfl
theorem fT_325 : a_rt 325 = (some .int) := rfl
theorem fT_326 : a_rt 326 = (some .int) := rfl
theorem fT_327 : a_rt 327 = (some .int) := rfl
theorem fT_328 : a_rt 328 = (some .int) := rfl
theorem fT_329 : a_rt 329 = (some .int) := rfl
theorem fT_33 : a_rt 33 = (some .boolean) := rfl
theorem fT_330 : a_rt 330 = (some .int) := rfl
theorem fT_331 : a_rt 331 = (some .int) := rfl
theorem fT_332 : a_rt 332 = (some .int) := rfl
theorem fT_333 : a_rt 333 = (some .int) := rfl
theorem fT_334 : a_rt 334 = (some .int) := rfl
theorem fT_335 : a_rt 335 = (some .int) := rfl
theorem fT_336 : a_rt 336 = (some .int) := rfl
theorem fT_337 : a_rt 337 = (some .int) := rfl
theorem fT_338 : a_rt 338 = (some .int) := rfl
theorem fT_339 : a_rt 339 = (some .int) := rfl
theorem fT_34 : a_rt 34 = (some .int) := rfl
theorem fT_340 : a_rt 340 = (some .int) := rfl
theorem fT_341 : a_rt 341 = (some .int) := rfl
theorem fT_342 : a_rt 342 = (some .int) := rfl
theorem fT_343 : a_rt 343 = (some .int) := rfl
theorem fT_344 : a_rt 344 = (some .int) := rfl
theorem fT_345 : a_rt 345 = (some .int) := rfl
theorem fT_346 : a_rt 346 = (some .int) := rfl
theorem fT_347 : a_rt 347 = (some .int) := rfl
theorem fT_348 : a_rt 348 = (some .int) := rfl
theorem fT_349 : a_rt 349 = (some .int) := rfl
theorem fT_35 : a_rt 35 = (some .boolean) := rfl
theorem fT_350 : a_rt 350 = (some .int) := rfl
theorem fT_351 : a_rt 351 = (some .int) := rfl
theorem fT_352 : a_rt 352 = (some .int) := rfl
theorem fT_353 : a_rt 353 = (some .int) := rfl
theorem fT_354 : a_rt 354 = (some .boolean) := rfl
theorem fT_36 : a_rt 36 = none := rfl
theorem fT_37 : a_rt 37 = (some .boolean) := rfl
theorem fT_38 : a_rt 38 = (some .int) := rfl
theorem fT_4 : a_rt 4 = (some .int) := rfl
theorem fT_40 : a_rt 40 = none := rfl
theorem fT_41 : a_rt 41 = none := rfl
theorem fT_42 : a_rt 42 = (some .boolean) := rfl
theorem fT_43 : a_rt 43 = (some .boolean) := rfl
theorem fT_44 : a_rt 44 = (some .int) := rfl
theorem fT_45 : a_rt 45 = (some .int) := rfl
theorem fT_46 : a_rt 46 = (some .int) := rfl
theorem fT_47 : a_rt 47 = (some .int) := rfl
theorem fT_48 : a_rt 48 = (some .int) := rfl
theorem fT_49 : a_rt 49 = (some .int) := rfl
theorem fT_5 : a_rt 5 = (some .boolean) := rfl
theorem fT_50 : a_rt 50 = (some .int) := rfl
theorem fT_51 : a_rt 51 = (some .int) := rfl
theorem fT_52 : a_rt 52 = (some .int) := rfl
theorem fT_53 : a_rt 53 = none := rfl
theorem fT_54 : a_rt 54 = (some .boolean) := rfl
theorem fT_56 : a_rt 56 = (some .int) := rfl
theorem fT_57 : a_rt 57 = (some .int) := rfl
theorem fT_58 : a_rt 58 = (some .int) := rfl
theorem fT_59 : a_rt 59 = (some .int) := rfl
theorem fT_60 : a_rt 60 = (some .int) := rfl
theorem fT_61 : a_rt 61 = none := rfl
theorem fT_62 : a_rt 62 = none := rfl
theorem fT_63 : a_rt 63 = none := rfl
theorem fT_64 : a_rt 64 = none := rfl
theorem fT_65 : a_rt 65 = none := rfl
theorem fT_66 : a_rt 66 = none := rfl
theorem fT_67 : a_rt 67 = none := rfl
theorem fT_68 : a_rt 68 = none := rfl
theorem fT_69 : a_rt 69 = none := rfl
theorem fT_7 : a_rt 7 = none := rfl
theorem fT_70 : a_rt 70 = (some .int) := rfl
theorem fT_72 : a_rt 72 = none := rfl
theorem fT_73 : a_rt 73 = none := rfl
theorem fT_74 : a_rt 74 = none := rfl
theorem fT_75 : a_rt 75 = (some .boolean) := rfl
theorem fT_76 : a_rt 76 = (some .int) := rfl
theorem fT_77 : a_rt 77 = none := rfl
theorem fT_78 : a_rt 78 = none := rfl
theorem fT_79 : a_rt 79 = (some .int) := rfl
theorem fT_8 : a_rt 8 = none := rfl
theorem fT_80 : a_rt 80 = (some .int) := rfl
theorem fT_81 : a_rt 81 = (some .int) := rfl
theorem fT_82 : a_rt 82 = (some .int) := rfl
theorem fT_83 : a_rt 83 = (some .boolean) := rfl
theorem fT_84 : a_rt 84 = (some .boolean) := rfl
theorem fT_85 : a_rt 85 = (some .int) := rfl
theorem fT_86 : a_rt 86 = (some .int) := rfl
theorem fT_87 : a_rt 87 = (some .boolean) := rfl
theorem fT_88 : a_rt 88 = (some .int) := rfl
theorem fT_89 : a_rt 89 = (some .int) := rfl
theorem fT_9 : a_rt 9 = (some .int) := rfl
theorem fT_90 : a_rt 90 = (some .int) := rfl
theorem fT_91 : a_rt 91 = (some .int) := rfl
theorem fT_92 : a_rt 92 = (some .int) := rfl
theorem fT_93 : a_rt 93 = (some .int) := rfl
theorem fT_95 : a_rt 95 = none := rfl
theorem fT_97 : a_rt 97 = (some .int) := rfl
theorem fT_98 : a_rt 98 = (some .int) := rfl
theorem fT_99 : a_rt 99 = (some .int) := rfl
