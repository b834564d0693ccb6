/-! ===== the instructions of the tables are those of the code (by wip/whole/gen23.py) ===== -/
/-- the length of an instruction -/
def a_lok (i : Instr) (len : Nat) : Bool := match i with
  | .tableswitch _ _ _ _ => true
  | .aload _ => Nat.beq len 2
  | .anewarray _ => Nat.beq len 3
  | .astore _ => Nat.beq len 2
  | .bipush _ => Nat.beq len 2
  | .getfield _ => Nat.beq len 3
  | .getstatic _ => Nat.beq len 3
  | .goto _ => Nat.beq len 3
  | .if_icmp _ _ => Nat.beq len 3
  | .ifCond _ _ => Nat.beq len 3
  | .ifnonnull _ => Nat.beq len 3
  | .iinc _ _ => Nat.beq len 3
  | .iload _ => Nat.beq len 2
  | .invokespecial _ => Nat.beq len 3
  | .invokestatic _ => Nat.beq len 3
  | .invokevirtual _ => Nat.beq len 3
  | .istore _ => Nat.beq len 2
  | .ldc _ => Nat.beq len 2
  | .ldc_w _ => Nat.beq len 3
  | .ldc2_w _ => Nat.beq len 3
  | .new _ => Nat.beq len 3
  | .newarray _ => Nat.beq len 2
  | .putfield _ => Nat.beq len 3
  | .sipush _ => Nat.beq len 3
  | _ => Nat.beq len 1
def a_io (c : ByteArray) (l : List (Nat × Instr × Nat)) : Bool := l.all (fun e => decide (decode c e.1 = .ok e.2) && a_lok e.2.1 e.2.2)
theorem a_io_ok {c : ByteArray} {l : List (Nat × Instr × Nat)} (h : a_io c l = true) {pc : Nat} {i : Instr} {len : Nat} (hf : a_find l pc = some (i, len)) : decode c pc = .ok (i, len) ∧ a_lok i len = true := by
  obtain ⟨h1, h2⟩ := Bool.and_eq_true_iff.mp (List.all_eq_true.mp h _ (a_find_mem hf))
  exact ⟨of_decide_eq_true h1, h2⟩
def a_iq (f : Nat) : Prop := ∀ pc i len, a_ins f pc = some (i, len) → decode (a_c f) pc = .ok (i, len) ∧ a_lok i len = true
theorem a_spl {P : Nat → Prop} {a m b : Nat} (h1 : ∀ f, a ≤ f → f < m → P f) (h2 : ∀ f, m ≤ f → f < b → P f) : ∀ f, a ≤ f → f < b → P f := fun f ha hb => (Nat.lt_or_ge f m).elim (fun h => h1 f ha h) (fun h => h2 f h hb)
theorem a_sp1 {P : Nat → Prop} {a : Nat} (h : P a) : ∀ f, a ≤ f → f < a + 1 → P f := fun f ha hb => (show f = a by omega) ▸ h
theorem iq_0 : a_iq 0 := fun _ _ _ h => a_io_ok (l := ki_0) (by decide +kernel) h
theorem iq_1 : a_iq 1 := fun _ _ _ h => a_io_ok (l := ki_1) (by decide +kernel) h
theorem iq_2 : a_iq 2 := fun _ _ _ h => a_io_ok (l := ki_2) (by decide +kernel) h
theorem iq_3 : a_iq 3 := fun _ _ _ h => a_io_ok (l := ki_3) (by decide +kernel) h
theorem iq_4 : a_iq 4 := fun _ _ _ h => a_io_ok (l := ki_4) (by decide +kernel) h
theorem iq_5 : a_iq 5 := fun _ _ _ h => a_io_ok (l := ki_5) (by decide +kernel) h
theorem iq_6 : a_iq 6 := fun _ _ _ h => a_io_ok (l := ki_6) (by decide +kernel) h
theorem iq_7 : a_iq 7 := fun _ _ _ h => a_io_ok (l := ki_7) (by decide +kernel) h
theorem iq_8 : a_iq 8 := fun _ _ _ h => a_io_ok (l := ki_8) (by decide +kernel) h
theorem iq_9 : a_iq 9 := fun _ _ _ h => a_io_ok (l := ki_9) (by decide +kernel) h
theorem iq_10 : a_iq 10 := fun _ _ _ h => a_io_ok (l := ki_10) (by decide +kernel) h
theorem iq_11 : a_iq 11 := fun _ _ _ h => a_io_ok (l := ki_11) (by decide +kernel) h
theorem iq_12 : a_iq 12 := fun _ _ _ h => a_io_ok (l := ki_12) (by decide +kernel) h
theorem iq_13 : a_iq 13 := fun _ _ _ h => a_io_ok (l := ki_13) (by decide +kernel) h
theorem iq_14 : a_iq 14 := fun _ _ _ h => a_io_ok (l := ki_14) (by decide +kernel) h
theorem iq_15 : a_iq 15 := fun _ _ _ h => a_io_ok (l := ki_15) (by decide +kernel) h
theorem iq_16 : a_iq 16 := fun _ _ _ h => a_io_ok (l := ki_16) (by decide +kernel) h
theorem iq_17 : a_iq 17 := fun _ _ _ h => a_io_ok (l := ki_17) (by decide +kernel) h
theorem iq_18 : a_iq 18 := fun _ _ _ h => a_io_ok (l := ki_18) (by decide +kernel) h
theorem iq_19 : a_iq 19 := fun _ _ _ h => a_io_ok (l := ki_19) (by decide +kernel) h
theorem iq_20 : a_iq 20 := fun _ _ _ h => a_io_ok (l := ki_20) (by decide +kernel) h
theorem iq_21 : a_iq 21 := fun _ _ _ h => a_io_ok (l := ki_21) (by decide +kernel) h
theorem iq_22 : a_iq 22 := fun _ _ _ h => a_io_ok (l := ki_22) (by decide +kernel) h
theorem iq_23 : a_iq 23 := fun _ _ _ h => a_io_ok (l := ki_23) (by decide +kernel) h
theorem iq_24 : a_iq 24 := fun _ _ _ h => a_io_ok (l := ki_24) (by decide +kernel) h
theorem iq_25 : a_iq 25 := fun _ _ _ h => a_io_ok (l := ki_25) (by decide +kernel) h
theorem iq_26 : a_iq 26 := fun _ _ _ h => a_io_ok (l := ki_26) (by decide +kernel) h
theorem iq_27 : a_iq 27 := fun _ _ _ h => a_io_ok (l := ki_27) (by decide +kernel) h
theorem iq_28 : a_iq 28 := fun _ _ _ h => a_io_ok (l := ki_28) (by decide +kernel) h
theorem iq_29 : a_iq 29 := fun _ _ _ h => a_io_ok (l := ki_29) (by decide +kernel) h
theorem iq_30 : a_iq 30 := fun _ _ _ h => a_io_ok (l := ki_30) (by decide +kernel) h
theorem iq_31 : a_iq 31 := fun _ _ _ h => a_io_ok (l := ki_31) (by decide +kernel) h
theorem iq_32 : a_iq 32 := fun _ _ _ h => a_io_ok (l := ki_32) (by decide +kernel) h
theorem iq_33 : a_iq 33 := fun _ _ _ h => a_io_ok (l := ki_33) (by decide +kernel) h
theorem iq_34 : a_iq 34 := fun _ _ _ h => a_io_ok (l := ki_34) (by decide +kernel) h
theorem iq_35 : a_iq 35 := fun _ _ _ h => a_io_ok (l := ki_35) (by decide +kernel) h
theorem iq_36 : a_iq 36 := fun _ _ _ h => a_io_ok (l := ki_36) (by decide +kernel) h
theorem iq_37 : a_iq 37 := fun _ _ _ h => a_io_ok (l := ki_37) (by decide +kernel) h
theorem iq_38 : a_iq 38 := fun _ _ _ h => a_io_ok (l := ki_38) (by decide +kernel) h
theorem iq_39 : a_iq 39 := fun _ _ _ h => a_io_ok (l := ki_39) (by decide +kernel) h
theorem iq_40 : a_iq 40 := fun _ _ _ h => a_io_ok (l := ki_40) (by decide +kernel) h
theorem iq_41 : a_iq 41 := fun _ _ _ h => a_io_ok (l := ki_41) (by decide +kernel) h
theorem iq_42 : a_iq 42 := fun _ _ _ h => a_io_ok (l := ki_42) (by decide +kernel) h
theorem iq_43 : a_iq 43 := fun _ _ _ h => a_io_ok (l := ki_43) (by decide +kernel) h
theorem iq_44 : a_iq 44 := fun _ _ _ h => a_io_ok (l := ki_44) (by decide +kernel) h
theorem iq_45 : a_iq 45 := fun _ _ _ h => a_io_ok (l := ki_45) (by decide +kernel) h
theorem iq_46 : a_iq 46 := fun _ _ _ h => a_io_ok (l := ki_46) (by decide +kernel) h
theorem iq_47 : a_iq 47 := fun _ _ _ h => a_io_ok (l := ki_47) (by decide +kernel) h
theorem iq_48 : a_iq 48 := fun _ _ _ h => a_io_ok (l := ki_48) (by decide +kernel) h
theorem iq_49 : a_iq 49 := fun _ _ _ h => a_io_ok (l := ki_49) (by decide +kernel) h
theorem iq_50 : a_iq 50 := fun _ _ _ h => a_io_ok (l := ki_50) (by decide +kernel) h
theorem iq_51 : a_iq 51 := fun _ _ _ h => a_io_ok (l := ki_51) (by decide +kernel) h
theorem iq_52 : a_iq 52 := fun _ _ _ h => a_io_ok (l := ki_52) (by decide +kernel) h
theorem iq_53 : a_iq 53 := fun _ _ _ h => a_io_ok (l := ki_53) (by decide +kernel) h
theorem iq_54 : a_iq 54 := fun _ _ _ h => a_io_ok (l := ki_54) (by decide +kernel) h
theorem iq_55 : a_iq 55 := fun _ _ _ h => a_io_ok (l := ki_55) (by decide +kernel) h
theorem iq_56 : a_iq 56 := fun _ _ _ h => a_io_ok (l := ki_56) (by decide +kernel) h
theorem iq_57 : a_iq 57 := fun _ _ _ h => a_io_ok (l := ki_57) (by decide +kernel) h
theorem iq_58 : a_iq 58 := fun _ _ _ h => a_io_ok (l := ki_58) (by decide +kernel) h
theorem iq_59 : a_iq 59 := fun _ _ _ h => a_io_ok (l := ki_59) (by decide +kernel) h
theorem iq_60 : a_iq 60 := fun _ _ _ h => a_io_ok (l := ki_60) (by decide +kernel) h
theorem iq_61 : a_iq 61 := fun _ _ _ h => a_io_ok (l := ki_61) (by decide +kernel) h
theorem iq_62 : a_iq 62 := fun _ _ _ h => a_io_ok (l := ki_62) (by decide +kernel) h
theorem iq_63 : a_iq 63 := fun _ _ _ h => a_io_ok (l := ki_63) (by decide +kernel) h
theorem iq_64 : a_iq 64 := fun _ _ _ h => a_io_ok (l := ki_64) (by decide +kernel) h
theorem iq_65 : a_iq 65 := fun _ _ _ h => a_io_ok (l := ki_65) (by decide +kernel) h
theorem iq_66 : a_iq 66 := fun _ _ _ h => a_io_ok (l := ki_66) (by decide +kernel) h
theorem iq_67 : a_iq 67 := fun _ _ _ h => a_io_ok (l := ki_67) (by decide +kernel) h
theorem iq_68 : a_iq 68 := fun _ _ _ h => a_io_ok (l := ki_68) (by decide +kernel) h
theorem iq_69 : a_iq 69 := fun _ _ _ h => a_io_ok (l := ki_69) (by decide +kernel) h
theorem iq_70 : a_iq 70 := fun _ _ _ h => a_io_ok (l := ki_70) (by decide +kernel) h
theorem iq_71 : a_iq 71 := fun _ _ _ h => a_io_ok (l := ki_71) (by decide +kernel) h
theorem iq_72 : a_iq 72 := fun _ _ _ h => a_io_ok (l := ki_72) (by decide +kernel) h
theorem iq_73 : a_iq 73 := fun _ _ _ h => a_io_ok (l := ki_73) (by decide +kernel) h
theorem iq_74 : a_iq 74 := fun _ _ _ h => a_io_ok (l := ki_74) (by decide +kernel) h
theorem iq_75 : a_iq 75 := fun _ _ _ h => a_io_ok (l := ki_75) (by decide +kernel) h
theorem iq_76 : a_iq 76 := fun _ _ _ h => a_io_ok (l := ki_76) (by decide +kernel) h
theorem iq_77 : a_iq 77 := fun _ _ _ h => a_io_ok (l := ki_77) (by decide +kernel) h
theorem iq_78 : a_iq 78 := fun _ _ _ h => a_io_ok (l := ki_78) (by decide +kernel) h
theorem iq_79 : a_iq 79 := fun _ _ _ h => a_io_ok (l := ki_79) (by decide +kernel) h
theorem iq_80 : a_iq 80 := fun _ _ _ h => a_io_ok (l := ki_80) (by decide +kernel) h
theorem iq_81 : a_iq 81 := fun _ _ _ h => a_io_ok (l := ki_81) (by decide +kernel) h
theorem iq_82 : a_iq 82 := fun _ _ _ h => a_io_ok (l := ki_82) (by decide +kernel) h
theorem iq_83 : a_iq 83 := fun _ _ _ h => a_io_ok (l := ki_83) (by decide +kernel) h
theorem iq_84 : a_iq 84 := fun _ _ _ h => a_io_ok (l := ki_84) (by decide +kernel) h
theorem iq_85 : a_iq 85 := fun _ _ _ h => a_io_ok (l := ki_85) (by decide +kernel) h
theorem iq_86 : a_iq 86 := fun _ _ _ h => a_io_ok (l := ki_86) (by decide +kernel) h
theorem iq_87 : a_iq 87 := fun _ _ _ h => a_io_ok (l := ki_87) (by decide +kernel) h
theorem iq_88 : a_iq 88 := fun _ _ _ h => a_io_ok (l := ki_88) (by decide +kernel) h
theorem iq_89 : a_iq 89 := fun _ _ _ h => a_io_ok (l := ki_89) (by decide +kernel) h
theorem iq_90 : a_iq 90 := fun _ _ _ h => a_io_ok (l := ki_90) (by decide +kernel) h
theorem iq_91 : a_iq 91 := fun _ _ _ h => a_io_ok (l := ki_91) (by decide +kernel) h
theorem iq_92 : a_iq 92 := fun _ _ _ h => a_io_ok (l := ki_92) (by decide +kernel) h
theorem iq_93 : a_iq 93 := fun _ _ _ h => a_io_ok (l := ki_93) (by decide +kernel) h
theorem iq_94 : a_iq 94 := fun _ _ _ h => a_io_ok (l := ki_94) (by decide +kernel) h
theorem iq_95 : a_iq 95 := fun _ _ _ h => a_io_ok (l := ki_95) (by decide +kernel) h
theorem iq_96 : a_iq 96 := fun _ _ _ h => a_io_ok (l := ki_96) (by decide +kernel) h
theorem iq_97 : a_iq 97 := fun _ _ _ h => a_io_ok (l := ki_97) (by decide +kernel) h
theorem iq_98 : a_iq 98 := fun _ _ _ h => a_io_ok (l := ki_98) (by decide +kernel) h
theorem iq_99 : a_iq 99 := fun _ _ _ h => a_io_ok (l := ki_99) (by decide +kernel) h
theorem iq_100 : a_iq 100 := fun _ _ _ h => a_io_ok (l := ki_100) (by decide +kernel) h
theorem iq_101 : a_iq 101 := fun _ _ _ h => a_io_ok (l := ki_101) (by decide +kernel) h
theorem iq_102 : a_iq 102 := fun _ _ _ h => a_io_ok (l := ki_102) (by decide +kernel) h
theorem iq_103 : a_iq 103 := fun _ _ _ h => a_io_ok (l := ki_103) (by decide +kernel) h
theorem iq_104 : a_iq 104 := fun _ _ _ h => a_io_ok (l := ki_104) (by decide +kernel) h
theorem iq_105 : a_iq 105 := fun _ _ _ h => a_io_ok (l := ki_105) (by decide +kernel) h
theorem iq_106 : a_iq 106 := fun _ _ _ h => a_io_ok (l := ki_106) (by decide +kernel) h
theorem iq_107 : a_iq 107 := fun _ _ _ h => a_io_ok (l := ki_107) (by decide +kernel) h
theorem iq_108 : a_iq 108 := fun _ _ _ h => a_io_ok (l := ki_108) (by decide +kernel) h
theorem iq_109 : a_iq 109 := fun _ _ _ h => a_io_ok (l := ki_109) (by decide +kernel) h
theorem iq_110 : a_iq 110 := fun _ _ _ h => a_io_ok (l := ki_110) (by decide +kernel) h
theorem iq_111 : a_iq 111 := fun _ _ _ h => a_io_ok (l := ki_111) (by decide +kernel) h
theorem iq_112 : a_iq 112 := fun _ _ _ h => a_io_ok (l := ki_112) (by decide +kernel) h
theorem iq_113 : a_iq 113 := fun _ _ _ h => a_io_ok (l := ki_113) (by decide +kernel) h
theorem iq_114 : a_iq 114 := fun _ _ _ h => a_io_ok (l := ki_114) (by decide +kernel) h
theorem iq_115 : a_iq 115 := fun _ _ _ h => a_io_ok (l := ki_115) (by decide +kernel) h
theorem iq_116 : a_iq 116 := fun _ _ _ h => a_io_ok (l := ki_116) (by decide +kernel) h
theorem iq_117 : a_iq 117 := fun _ _ _ h => a_io_ok (l := ki_117) (by decide +kernel) h
theorem iq_118 : a_iq 118 := fun _ _ _ h => a_io_ok (l := ki_118) (by decide +kernel) h
theorem iq_119 : a_iq 119 := fun _ _ _ h => a_io_ok (l := ki_119) (by decide +kernel) h
theorem iq_120 : a_iq 120 := fun _ _ _ h => a_io_ok (l := ki_120) (by decide +kernel) h
theorem iq_121 : a_iq 121 := fun _ _ _ h => a_io_ok (l := ki_121) (by decide +kernel) h
theorem iq_122 : a_iq 122 := fun _ _ _ h => a_io_ok (l := ki_122) (by decide +kernel) h
theorem iq_123 : a_iq 123 := fun _ _ _ h => a_io_ok (l := ki_123) (by decide +kernel) h
theorem iq_124 : a_iq 124 := fun _ _ _ h => a_io_ok (l := ki_124) (by decide +kernel) h
theorem iq_125 : a_iq 125 := fun _ _ _ h => a_io_ok (l := ki_125) (by decide +kernel) h
theorem iq_126 : a_iq 126 := fun _ _ _ h => a_io_ok (l := ki_126) (by decide +kernel) h
theorem iq_127 : a_iq 127 := fun _ _ _ h => a_io_ok (l := ki_127) (by decide +kernel) h
theorem iq_128 : a_iq 128 := fun _ _ _ h => a_io_ok (l := ki_128) (by decide +kernel) h
theorem iq_129 : a_iq 129 := fun _ _ _ h => a_io_ok (l := ki_129) (by decide +kernel) h
theorem iq_130 : a_iq 130 := fun _ _ _ h => a_io_ok (l := ki_130) (by decide +kernel) h
theorem iq_131 : a_iq 131 := fun _ _ _ h => a_io_ok (l := ki_131) (by decide +kernel) h
theorem iq_132 : a_iq 132 := fun _ _ _ h => a_io_ok (l := ki_132) (by decide +kernel) h
theorem iq_133 : a_iq 133 := fun _ _ _ h => a_io_ok (l := ki_133) (by decide +kernel) h
theorem iq_134 : a_iq 134 := fun _ _ _ h => a_io_ok (l := ki_134) (by decide +kernel) h
theorem iq_135 : a_iq 135 := fun _ _ _ h => a_io_ok (l := ki_135) (by decide +kernel) h
theorem iq_136 : a_iq 136 := fun _ _ _ h => a_io_ok (l := ki_136) (by decide +kernel) h
theorem iq_137 : a_iq 137 := fun _ _ _ h => a_io_ok (l := ki_137) (by decide +kernel) h
theorem iq_138 : a_iq 138 := fun _ _ _ h => a_io_ok (l := ki_138) (by decide +kernel) h
theorem iq_139 : a_iq 139 := fun _ _ _ h => a_io_ok (l := ki_139) (by decide +kernel) h
theorem iq_140 : a_iq 140 := fun _ _ _ h => a_io_ok (l := ki_140) (by decide +kernel) h
theorem iq_141 : a_iq 141 := fun _ _ _ h => a_io_ok (l := ki_141) (by decide +kernel) h
theorem iq_142 : a_iq 142 := fun _ _ _ h => a_io_ok (l := ki_142) (by decide +kernel) h
theorem iq_143 : a_iq 143 := fun _ _ _ h => a_io_ok (l := ki_143) (by decide +kernel) h
theorem iq_144 : a_iq 144 := fun _ _ _ h => a_io_ok (l := ki_144) (by decide +kernel) h
theorem iq_145 : a_iq 145 := fun _ _ _ h => a_io_ok (l := ki_145) (by decide +kernel) h
theorem iq_146 : a_iq 146 := fun _ _ _ h => a_io_ok (l := ki_146) (by decide +kernel) h
theorem iq_147 : a_iq 147 := fun _ _ _ h => a_io_ok (l := ki_147) (by decide +kernel) h
theorem iq_148 : a_iq 148 := fun _ _ _ h => a_io_ok (l := ki_148) (by decide +kernel) h
theorem iq_149 : a_iq 149 := fun _ _ _ h => a_io_ok (l := ki_149) (by decide +kernel) h
theorem iq_150 : a_iq 150 := fun _ _ _ h => a_io_ok (l := ki_150) (by decide +kernel) h
theorem iq_151 : a_iq 151 := fun _ _ _ h => a_io_ok (l := ki_151) (by decide +kernel) h
theorem iq_152 : a_iq 152 := fun _ _ _ h => a_io_ok (l := ki_152) (by decide +kernel) h
theorem iq_153 : a_iq 153 := fun _ _ _ h => a_io_ok (l := ki_153) (by decide +kernel) h
theorem iq_154 : a_iq 154 := fun _ _ _ h => a_io_ok (l := ki_154) (by decide +kernel) h
theorem iq_155 : a_iq 155 := fun _ _ _ h => a_io_ok (l := ki_155) (by decide +kernel) h
theorem iq_156 : a_iq 156 := fun _ _ _ h => a_io_ok (l := ki_156) (by decide +kernel) h
theorem iq_157 : a_iq 157 := fun _ _ _ h => a_io_ok (l := ki_157) (by decide +kernel) h
theorem iq_158 : a_iq 158 := fun _ _ _ h => a_io_ok (l := ki_158) (by decide +kernel) h
theorem iq_159 : a_iq 159 := fun _ _ _ h => a_io_ok (l := ki_159) (by decide +kernel) h
theorem iq_160 : a_iq 160 := fun _ _ _ h => a_io_ok (l := ki_160) (by decide +kernel) h
theorem iq_161 : a_iq 161 := fun _ _ _ h => a_io_ok (l := ki_161) (by decide +kernel) h
theorem iq_162 : a_iq 162 := fun _ _ _ h => a_io_ok (l := ki_162) (by decide +kernel) h
theorem iq_163 : a_iq 163 := fun _ _ _ h => a_io_ok (l := ki_163) (by decide +kernel) h
theorem iq_164 : a_iq 164 := fun _ _ _ h => a_io_ok (l := ki_164) (by decide +kernel) h
theorem iq_165 : a_iq 165 := fun _ _ _ h => a_io_ok (l := ki_165) (by decide +kernel) h
theorem iq_166 : a_iq 166 := fun _ _ _ h => a_io_ok (l := ki_166) (by decide +kernel) h
theorem iq_167 : a_iq 167 := fun _ _ _ h => a_io_ok (l := ki_167) (by decide +kernel) h
theorem iq_168 : a_iq 168 := fun _ _ _ h => a_io_ok (l := ki_168) (by decide +kernel) h
theorem iq_169 : a_iq 169 := fun _ _ _ h => a_io_ok (l := ki_169) (by decide +kernel) h
theorem ih_170_0 : a_io (a_c 170) ki_170_0 = true := by decide +kernel
theorem ih_170_1 : a_io (a_c 170) ki_170_1 = true := by decide +kernel
theorem ih_170_2 : a_io (a_c 170) ki_170_2 = true := by decide +kernel
theorem ih_170_3 : a_io (a_c 170) ki_170_3 = true := by decide +kernel
theorem ih_170_4 : a_io (a_c 170) ki_170_4 = true := by decide +kernel
theorem ih_170_5 : a_io (a_c 170) ki_170_5 = true := by decide +kernel
theorem iq_170 : a_iq 170 := by
  intro pc i len h
  have h : (bif Nat.blt pc 279 then (bif Nat.blt pc 99 then (a_find ki_170_0 pc) else (bif Nat.blt pc 189 then (a_find ki_170_1 pc) else (a_find ki_170_2 pc))) else (bif Nat.blt pc 369 then (a_find ki_170_3 pc) else (bif Nat.blt pc 459 then (a_find ki_170_4 pc) else (a_find ki_170_5 pc)))) = some (i, len) := h
  cases hb : Nat.blt pc 279 with
  | true =>
    simp only [hb, cond_true] at h
    cases hb : Nat.blt pc 99 with
    | true =>
      simp only [hb, cond_true] at h
      exact a_io_ok ih_170_0 h
    | false =>
      simp only [hb, cond_false] at h
      cases hb : Nat.blt pc 189 with
      | true =>
        simp only [hb, cond_true] at h
        exact a_io_ok ih_170_1 h
      | false =>
        simp only [hb, cond_false] at h
        exact a_io_ok ih_170_2 h
  | false =>
    simp only [hb, cond_false] at h
    cases hb : Nat.blt pc 369 with
    | true =>
      simp only [hb, cond_true] at h
      exact a_io_ok ih_170_3 h
    | false =>
      simp only [hb, cond_false] at h
      cases hb : Nat.blt pc 459 with
      | true =>
        simp only [hb, cond_true] at h
        exact a_io_ok ih_170_4 h
      | false =>
        simp only [hb, cond_false] at h
        exact a_io_ok ih_170_5 h
theorem iq_171 : a_iq 171 := fun _ _ _ h => a_io_ok (l := ki_171) (by decide +kernel) h
theorem iq_172 : a_iq 172 := fun _ _ _ h => a_io_ok (l := ki_172) (by decide +kernel) h
theorem iq_173 : a_iq 173 := fun _ _ _ h => a_io_ok (l := ki_173) (by decide +kernel) h
theorem iq_174 : a_iq 174 := fun _ _ _ h => a_io_ok (l := ki_174) (by decide +kernel) h
theorem iq_175 : a_iq 175 := fun _ _ _ h => a_io_ok (l := ki_175) (by decide +kernel) h
theorem iq_176 : a_iq 176 := fun _ _ _ h => a_io_ok (l := ki_176) (by decide +kernel) h
theorem iq_177 : a_iq 177 := fun _ _ _ h => a_io_ok (l := ki_177) (by decide +kernel) h
theorem iq_178 : a_iq 178 := fun _ _ _ h => a_io_ok (l := ki_178) (by decide +kernel) h
theorem iq_179 : a_iq 179 := fun _ _ _ h => a_io_ok (l := ki_179) (by decide +kernel) h
theorem iq_180 : a_iq 180 := fun _ _ _ h => a_io_ok (l := ki_180) (by decide +kernel) h
theorem iq_181 : a_iq 181 := fun _ _ _ h => a_io_ok (l := ki_181) (by decide +kernel) h
theorem iq_182 : a_iq 182 := fun _ _ _ h => a_io_ok (l := ki_182) (by decide +kernel) h
theorem iq_183 : a_iq 183 := fun _ _ _ h => a_io_ok (l := ki_183) (by decide +kernel) h
theorem iq_184 : a_iq 184 := fun _ _ _ h => a_io_ok (l := ki_184) (by decide +kernel) h
theorem iq_185 : a_iq 185 := fun _ _ _ h => a_io_ok (l := ki_185) (by decide +kernel) h
theorem iq_186 : a_iq 186 := fun _ _ _ h => a_io_ok (l := ki_186) (by decide +kernel) h
theorem iq_187 : a_iq 187 := fun _ _ _ h => a_io_ok (l := ki_187) (by decide +kernel) h
theorem iq_188 : a_iq 188 := fun _ _ _ h => a_io_ok (l := ki_188) (by decide +kernel) h
theorem iq_189 : a_iq 189 := fun _ _ _ h => a_io_ok (l := ki_189) (by decide +kernel) h
theorem iq_190 : a_iq 190 := fun _ _ _ h => a_io_ok (l := ki_190) (by decide +kernel) h
theorem iq_191 : a_iq 191 := fun _ _ _ h => a_io_ok (l := ki_191) (by decide +kernel) h
theorem iq_192 : a_iq 192 := fun _ _ _ h => a_io_ok (l := ki_192) (by decide +kernel) h
theorem iq_193 : a_iq 193 := fun _ _ _ h => a_io_ok (l := ki_193) (by decide +kernel) h
theorem iq_194 : a_iq 194 := fun _ _ _ h => a_io_ok (l := ki_194) (by decide +kernel) h
theorem iq_195 : a_iq 195 := fun _ _ _ h => a_io_ok (l := ki_195) (by decide +kernel) h
theorem iq_196 : a_iq 196 := fun _ _ _ h => a_io_ok (l := ki_196) (by decide +kernel) h
theorem iq_197 : a_iq 197 := fun _ _ _ h => a_io_ok (l := ki_197) (by decide +kernel) h
theorem iq_198 : a_iq 198 := fun _ _ _ h => a_io_ok (l := ki_198) (by decide +kernel) h
theorem iq_199 : a_iq 199 := fun _ _ _ h => a_io_ok (l := ki_199) (by decide +kernel) h
theorem iq_200 : a_iq 200 := fun _ _ _ h => a_io_ok (l := ki_200) (by decide +kernel) h
theorem iq_201 : a_iq 201 := fun _ _ _ h => a_io_ok (l := ki_201) (by decide +kernel) h
theorem iq_202 : a_iq 202 := fun _ _ _ h => a_io_ok (l := ki_202) (by decide +kernel) h
theorem iq_203 : a_iq 203 := fun _ _ _ h => a_io_ok (l := ki_203) (by decide +kernel) h
theorem iq_204 : a_iq 204 := fun _ _ _ h => a_io_ok (l := ki_204) (by decide +kernel) h
theorem iq_205 : a_iq 205 := fun _ _ _ h => a_io_ok (l := ki_205) (by decide +kernel) h
theorem iq_206 : a_iq 206 := fun _ _ _ h => a_io_ok (l := ki_206) (by decide +kernel) h
theorem iq_207 : a_iq 207 := fun _ _ _ h => a_io_ok (l := ki_207) (by decide +kernel) h
theorem iq_208 : a_iq 208 := fun _ _ _ h => a_io_ok (l := ki_208) (by decide +kernel) h
theorem iq_209 : a_iq 209 := fun _ _ _ h => a_io_ok (l := ki_209) (by decide +kernel) h
theorem iq_210 : a_iq 210 := fun _ _ _ h => a_io_ok (l := ki_210) (by decide +kernel) h
theorem iq_211 : a_iq 211 := fun _ _ _ h => a_io_ok (l := ki_211) (by decide +kernel) h
theorem iq_212 : a_iq 212 := fun _ _ _ h => a_io_ok (l := ki_212) (by decide +kernel) h
theorem iq_213 : a_iq 213 := fun _ _ _ h => a_io_ok (l := ki_213) (by decide +kernel) h
theorem iq_214 : a_iq 214 := fun _ _ _ h => a_io_ok (l := ki_214) (by decide +kernel) h
theorem iq_215 : a_iq 215 := fun _ _ _ h => a_io_ok (l := ki_215) (by decide +kernel) h
theorem iq_216 : a_iq 216 := fun _ _ _ h => a_io_ok (l := ki_216) (by decide +kernel) h
theorem iq_217 : a_iq 217 := fun _ _ _ h => a_io_ok (l := ki_217) (by decide +kernel) h
theorem iq_218 : a_iq 218 := fun _ _ _ h => a_io_ok (l := ki_218) (by decide +kernel) h
theorem iq_219 : a_iq 219 := fun _ _ _ h => a_io_ok (l := ki_219) (by decide +kernel) h
theorem iq_220 : a_iq 220 := fun _ _ _ h => a_io_ok (l := ki_220) (by decide +kernel) h
theorem iq_221 : a_iq 221 := fun _ _ _ h => a_io_ok (l := ki_221) (by decide +kernel) h
theorem iq_222 : a_iq 222 := fun _ _ _ h => a_io_ok (l := ki_222) (by decide +kernel) h
theorem iq_223 : a_iq 223 := fun _ _ _ h => a_io_ok (l := ki_223) (by decide +kernel) h
theorem iq_224 : a_iq 224 := fun _ _ _ h => a_io_ok (l := ki_224) (by decide +kernel) h
theorem iq_225 : a_iq 225 := fun _ _ _ h => a_io_ok (l := ki_225) (by decide +kernel) h
theorem iq_226 : a_iq 226 := fun _ _ _ h => a_io_ok (l := ki_226) (by decide +kernel) h
theorem iq_227 : a_iq 227 := fun _ _ _ h => a_io_ok (l := ki_227) (by decide +kernel) h
theorem iq_228 : a_iq 228 := fun _ _ _ h => a_io_ok (l := ki_228) (by decide +kernel) h
theorem iq_229 : a_iq 229 := fun _ _ _ h => a_io_ok (l := ki_229) (by decide +kernel) h
theorem iq_230 : a_iq 230 := fun _ _ _ h => a_io_ok (l := ki_230) (by decide +kernel) h
theorem iq_231 : a_iq 231 := fun _ _ _ h => a_io_ok (l := ki_231) (by decide +kernel) h
theorem iq_232 : a_iq 232 := fun _ _ _ h => a_io_ok (l := ki_232) (by decide +kernel) h
theorem iq_233 : a_iq 233 := fun _ _ _ h => a_io_ok (l := ki_233) (by decide +kernel) h
theorem iq_234 : a_iq 234 := fun _ _ _ h => a_io_ok (l := ki_234) (by decide +kernel) h
theorem iq_235 : a_iq 235 := fun _ _ _ h => a_io_ok (l := ki_235) (by decide +kernel) h
theorem iq_236 : a_iq 236 := fun _ _ _ h => a_io_ok (l := ki_236) (by decide +kernel) h
theorem iq_237 : a_iq 237 := fun _ _ _ h => a_io_ok (l := ki_237) (by decide +kernel) h
theorem iq_238 : a_iq 238 := fun _ _ _ h => a_io_ok (l := ki_238) (by decide +kernel) h
theorem iq_239 : a_iq 239 := fun _ _ _ h => a_io_ok (l := ki_239) (by decide +kernel) h
theorem iq_240 : a_iq 240 := fun _ _ _ h => a_io_ok (l := ki_240) (by decide +kernel) h
theorem iq_241 : a_iq 241 := fun _ _ _ h => a_io_ok (l := ki_241) (by decide +kernel) h
theorem ih_242_0 : a_io (a_c 242) ki_242_0 = true := by decide +kernel
theorem ih_242_1 : a_io (a_c 242) ki_242_1 = true := by decide +kernel
theorem ih_242_2 : a_io (a_c 242) ki_242_2 = true := by decide +kernel
theorem iq_242 : a_iq 242 := by
  intro pc i len h
  have h : (bif Nat.blt pc 98 then (a_find ki_242_0 pc) else (bif Nat.blt pc 207 then (a_find ki_242_1 pc) else (a_find ki_242_2 pc))) = some (i, len) := h
  cases hb : Nat.blt pc 98 with
  | true =>
    simp only [hb, cond_true] at h
    exact a_io_ok ih_242_0 h
  | false =>
    simp only [hb, cond_false] at h
    cases hb : Nat.blt pc 207 with
    | true =>
      simp only [hb, cond_true] at h
      exact a_io_ok ih_242_1 h
    | false =>
      simp only [hb, cond_false] at h
      exact a_io_ok ih_242_2 h
theorem iq_243 : a_iq 243 := fun _ _ _ h => a_io_ok (l := ki_243) (by decide +kernel) h
theorem iq_244 : a_iq 244 := fun _ _ _ h => a_io_ok (l := ki_244) (by decide +kernel) h
theorem iq_245 : a_iq 245 := fun _ _ _ h => a_io_ok (l := ki_245) (by decide +kernel) h
theorem iq_246 : a_iq 246 := fun _ _ _ h => a_io_ok (l := ki_246) (by decide +kernel) h
theorem iq_247 : a_iq 247 := fun _ _ _ h => a_io_ok (l := ki_247) (by decide +kernel) h
theorem iq_248 : a_iq 248 := fun _ _ _ h => a_io_ok (l := ki_248) (by decide +kernel) h
theorem iq_249 : a_iq 249 := fun _ _ _ h => a_io_ok (l := ki_249) (by decide +kernel) h
theorem iq_250 : a_iq 250 := fun _ _ _ h => a_io_ok (l := ki_250) (by decide +kernel) h
theorem iq_251 : a_iq 251 := fun _ _ _ h => a_io_ok (l := ki_251) (by decide +kernel) h
theorem iq_252 : a_iq 252 := fun _ _ _ h => a_io_ok (l := ki_252) (by decide +kernel) h
theorem iq_253 : a_iq 253 := fun _ _ _ h => a_io_ok (l := ki_253) (by decide +kernel) h
theorem iq_254 : a_iq 254 := fun _ _ _ h => a_io_ok (l := ki_254) (by decide +kernel) h
theorem iq_255 : a_iq 255 := fun _ _ _ h => a_io_ok (l := ki_255) (by decide +kernel) h
theorem iq_256 : a_iq 256 := fun _ _ _ h => a_io_ok (l := ki_256) (by decide +kernel) h
theorem iq_257 : a_iq 257 := fun _ _ _ h => a_io_ok (l := ki_257) (by decide +kernel) h
theorem iq_258 : a_iq 258 := fun _ _ _ h => a_io_ok (l := ki_258) (by decide +kernel) h
theorem iq_259 : a_iq 259 := fun _ _ _ h => a_io_ok (l := ki_259) (by decide +kernel) h
theorem iq_260 : a_iq 260 := fun _ _ _ h => a_io_ok (l := ki_260) (by decide +kernel) h
theorem iq_261 : a_iq 261 := fun _ _ _ h => a_io_ok (l := ki_261) (by decide +kernel) h
theorem iq_262 : a_iq 262 := fun _ _ _ h => a_io_ok (l := ki_262) (by decide +kernel) h
theorem iq_263 : a_iq 263 := fun _ _ _ h => a_io_ok (l := ki_263) (by decide +kernel) h
theorem iq_264 : a_iq 264 := fun _ _ _ h => a_io_ok (l := ki_264) (by decide +kernel) h
theorem iq_265 : a_iq 265 := fun _ _ _ h => a_io_ok (l := ki_265) (by decide +kernel) h
theorem iq_266 : a_iq 266 := fun _ _ _ h => a_io_ok (l := ki_266) (by decide +kernel) h
theorem iq_267 : a_iq 267 := fun _ _ _ h => a_io_ok (l := ki_267) (by decide +kernel) h
theorem iq_268 : a_iq 268 := fun _ _ _ h => a_io_ok (l := ki_268) (by decide +kernel) h
theorem iq_269 : a_iq 269 := fun _ _ _ h => a_io_ok (l := ki_269) (by decide +kernel) h
theorem iq_270 : a_iq 270 := fun _ _ _ h => a_io_ok (l := ki_270) (by decide +kernel) h
theorem iq_271 : a_iq 271 := fun _ _ _ h => a_io_ok (l := ki_271) (by decide +kernel) h
theorem iq_272 : a_iq 272 := fun _ _ _ h => a_io_ok (l := ki_272) (by decide +kernel) h
theorem iq_273 : a_iq 273 := fun _ _ _ h => a_io_ok (l := ki_273) (by decide +kernel) h
theorem iq_274 : a_iq 274 := fun _ _ _ h => a_io_ok (l := ki_274) (by decide +kernel) h
theorem iq_275 : a_iq 275 := fun _ _ _ h => a_io_ok (l := ki_275) (by decide +kernel) h
theorem iq_276 : a_iq 276 := fun _ _ _ h => a_io_ok (l := ki_276) (by decide +kernel) h
theorem iq_277 : a_iq 277 := fun _ _ _ h => a_io_ok (l := ki_277) (by decide +kernel) h
theorem iq_278 : a_iq 278 := fun _ _ _ h => a_io_ok (l := ki_278) (by decide +kernel) h
theorem iq_279 : a_iq 279 := fun _ _ _ h => a_io_ok (l := ki_279) (by decide +kernel) h
theorem iq_280 : a_iq 280 := fun _ _ _ h => a_io_ok (l := ki_280) (by decide +kernel) h
theorem iq_281 : a_iq 281 := fun _ _ _ h => a_io_ok (l := ki_281) (by decide +kernel) h
theorem iq_282 : a_iq 282 := fun _ _ _ h => a_io_ok (l := ki_282) (by decide +kernel) h
theorem iq_283 : a_iq 283 := fun _ _ _ h => a_io_ok (l := ki_283) (by decide +kernel) h
theorem iq_284 : a_iq 284 := fun _ _ _ h => a_io_ok (l := ki_284) (by decide +kernel) h
theorem iq_285 : a_iq 285 := fun _ _ _ h => a_io_ok (l := ki_285) (by decide +kernel) h
theorem iq_286 : a_iq 286 := fun _ _ _ h => a_io_ok (l := ki_286) (by decide +kernel) h
theorem iq_287 : a_iq 287 := fun _ _ _ h => a_io_ok (l := ki_287) (by decide +kernel) h
theorem iq_288 : a_iq 288 := fun _ _ _ h => a_io_ok (l := ki_288) (by decide +kernel) h
theorem iq_289 : a_iq 289 := fun _ _ _ h => a_io_ok (l := ki_289) (by decide +kernel) h
theorem iq_290 : a_iq 290 := fun _ _ _ h => a_io_ok (l := ki_290) (by decide +kernel) h
theorem iq_291 : a_iq 291 := fun _ _ _ h => a_io_ok (l := ki_291) (by decide +kernel) h
theorem iq_292 : a_iq 292 := fun _ _ _ h => a_io_ok (l := ki_292) (by decide +kernel) h
theorem iq_293 : a_iq 293 := fun _ _ _ h => a_io_ok (l := ki_293) (by decide +kernel) h
theorem iq_294 : a_iq 294 := fun _ _ _ h => a_io_ok (l := ki_294) (by decide +kernel) h
theorem iq_295 : a_iq 295 := fun _ _ _ h => a_io_ok (l := ki_295) (by decide +kernel) h
theorem iq_296 : a_iq 296 := fun _ _ _ h => a_io_ok (l := ki_296) (by decide +kernel) h
theorem iq_297 : a_iq 297 := fun _ _ _ h => a_io_ok (l := ki_297) (by decide +kernel) h
theorem iq_298 : a_iq 298 := fun _ _ _ h => a_io_ok (l := ki_298) (by decide +kernel) h
theorem iq_299 : a_iq 299 := fun _ _ _ h => a_io_ok (l := ki_299) (by decide +kernel) h
theorem iq_300 : a_iq 300 := fun _ _ _ h => a_io_ok (l := ki_300) (by decide +kernel) h
theorem iq_301 : a_iq 301 := fun _ _ _ h => a_io_ok (l := ki_301) (by decide +kernel) h
theorem iq_302 : a_iq 302 := fun _ _ _ h => a_io_ok (l := ki_302) (by decide +kernel) h
theorem iq_303 : a_iq 303 := fun _ _ _ h => a_io_ok (l := ki_303) (by decide +kernel) h
theorem iq_304 : a_iq 304 := fun _ _ _ h => a_io_ok (l := ki_304) (by decide +kernel) h
theorem iq_305 : a_iq 305 := fun _ _ _ h => a_io_ok (l := ki_305) (by decide +kernel) h
theorem iq_306 : a_iq 306 := fun _ _ _ h => a_io_ok (l := ki_306) (by decide +kernel) h
theorem iq_307 : a_iq 307 := fun _ _ _ h => a_io_ok (l := ki_307) (by decide +kernel) h
theorem iq_308 : a_iq 308 := fun _ _ _ h => a_io_ok (l := ki_308) (by decide +kernel) h
theorem iq_309 : a_iq 309 := fun _ _ _ h => a_io_ok (l := ki_309) (by decide +kernel) h
theorem iq_310 : a_iq 310 := fun _ _ _ h => a_io_ok (l := ki_310) (by decide +kernel) h
theorem iq_311 : a_iq 311 := fun _ _ _ h => a_io_ok (l := ki_311) (by decide +kernel) h
theorem iq_312 : a_iq 312 := fun _ _ _ h => a_io_ok (l := ki_312) (by decide +kernel) h
theorem iq_313 : a_iq 313 := fun _ _ _ h => a_io_ok (l := ki_313) (by decide +kernel) h
theorem iq_314 : a_iq 314 := fun _ _ _ h => a_io_ok (l := ki_314) (by decide +kernel) h
theorem iq_315 : a_iq 315 := fun _ _ _ h => a_io_ok (l := ki_315) (by decide +kernel) h
theorem iq_316 : a_iq 316 := fun _ _ _ h => a_io_ok (l := ki_316) (by decide +kernel) h
theorem iq_317 : a_iq 317 := fun _ _ _ h => a_io_ok (l := ki_317) (by decide +kernel) h
theorem iq_318 : a_iq 318 := fun _ _ _ h => a_io_ok (l := ki_318) (by decide +kernel) h
theorem iq_319 : a_iq 319 := fun _ _ _ h => a_io_ok (l := ki_319) (by decide +kernel) h
theorem iq_320 : a_iq 320 := fun _ _ _ h => a_io_ok (l := ki_320) (by decide +kernel) h
theorem iq_321 : a_iq 321 := fun _ _ _ h => a_io_ok (l := ki_321) (by decide +kernel) h
theorem iq_322 : a_iq 322 := fun _ _ _ h => a_io_ok (l := ki_322) (by decide +kernel) h
theorem iq_323 : a_iq 323 := fun _ _ _ h => a_io_ok (l := ki_323) (by decide +kernel) h
theorem iq_324 : a_iq 324 := fun _ _ _ h => a_io_ok (l := ki_324) (by decide +kernel) h
theorem iq_325 : a_iq 325 := fun _ _ _ h => a_io_ok (l := ki_325) (by decide +kernel) h
theorem iq_326 : a_iq 326 := fun _ _ _ h => a_io_ok (l := ki_326) (by decide +kernel) h
theorem iq_327 : a_iq 327 := fun _ _ _ h => a_io_ok (l := ki_327) (by decide +kernel) h
theorem iq_328 : a_iq 328 := fun _ _ _ h => a_io_ok (l := ki_328) (by decide +kernel) h
theorem iq_329 : a_iq 329 := fun _ _ _ h => a_io_ok (l := ki_329) (by decide +kernel) h
theorem iq_330 : a_iq 330 := fun _ _ _ h => a_io_ok (l := ki_330) (by decide +kernel) h
theorem iq_331 : a_iq 331 := fun _ _ _ h => a_io_ok (l := ki_331) (by decide +kernel) h
theorem iq_332 : a_iq 332 := fun _ _ _ h => a_io_ok (l := ki_332) (by decide +kernel) h
theorem iq_333 : a_iq 333 := fun _ _ _ h => a_io_ok (l := ki_333) (by decide +kernel) h
theorem iq_334 : a_iq 334 := fun _ _ _ h => a_io_ok (l := ki_334) (by decide +kernel) h
theorem iq_335 : a_iq 335 := fun _ _ _ h => a_io_ok (l := ki_335) (by decide +kernel) h
theorem iq_336 : a_iq 336 := fun _ _ _ h => a_io_ok (l := ki_336) (by decide +kernel) h
theorem iq_337 : a_iq 337 := fun _ _ _ h => a_io_ok (l := ki_337) (by decide +kernel) h
theorem iq_338 : a_iq 338 := fun _ _ _ h => a_io_ok (l := ki_338) (by decide +kernel) h
theorem iq_339 : a_iq 339 := fun _ _ _ h => a_io_ok (l := ki_339) (by decide +kernel) h
theorem iq_340 : a_iq 340 := fun _ _ _ h => a_io_ok (l := ki_340) (by decide +kernel) h
theorem iq_341 : a_iq 341 := fun _ _ _ h => a_io_ok (l := ki_341) (by decide +kernel) h
theorem iq_342 : a_iq 342 := fun _ _ _ h => a_io_ok (l := ki_342) (by decide +kernel) h
theorem iq_343 : a_iq 343 := fun _ _ _ h => a_io_ok (l := ki_343) (by decide +kernel) h
theorem iq_344 : a_iq 344 := fun _ _ _ h => a_io_ok (l := ki_344) (by decide +kernel) h
theorem iq_345 : a_iq 345 := fun _ _ _ h => a_io_ok (l := ki_345) (by decide +kernel) h
theorem iq_346 : a_iq 346 := fun _ _ _ h => a_io_ok (l := ki_346) (by decide +kernel) h
theorem iq_347 : a_iq 347 := fun _ _ _ h => a_io_ok (l := ki_347) (by decide +kernel) h
theorem iq_348 : a_iq 348 := fun _ _ _ h => a_io_ok (l := ki_348) (by decide +kernel) h
theorem iq_349 : a_iq 349 := fun _ _ _ h => a_io_ok (l := ki_349) (by decide +kernel) h
theorem iq_350 : a_iq 350 := fun _ _ _ h => a_io_ok (l := ki_350) (by decide +kernel) h
theorem iq_351 : a_iq 351 := fun _ _ _ h => a_io_ok (l := ki_351) (by decide +kernel) h
theorem iq_352 : a_iq 352 := fun _ _ _ h => a_io_ok (l := ki_352) (by decide +kernel) h
theorem iq_353 : a_iq 353 := fun _ _ _ h => a_io_ok (l := ki_353) (by decide +kernel) h
