def PC (k : Nat) : Prop := lw_tbl[(mP k).1]? = some (.code (mY k) (mC k) (gNl k).1 (rT k)) ∧ chkM k = true
set_option maxRecDepth 100000 in
theorem mc_0 : PC 0 := ⟨by rfl, by decide +kernel⟩
set_option maxRecDepth 100000 in
theorem mc_1 : PC 1 := ⟨by rfl, by decide +kernel⟩
set_option maxRecDepth 100000 in
theorem mc_2 : PC 2 := ⟨by rfl, by decide +kernel⟩
set_option maxRecDepth 100000 in
theorem mc_3 : PC 3 := ⟨by rfl, by decide +kernel⟩
set_option maxRecDepth 100000 in
theorem mc_4 : PC 4 := ⟨by rfl, by decide +kernel⟩
set_option maxRecDepth 100000 in
theorem mc_5 : PC 5 := ⟨by rfl, by decide +kernel⟩
set_option maxRecDepth 100000 in
theorem mc_6 : PC 6 := ⟨by rfl, by decide +kernel⟩
set_option maxRecDepth 100000 in
theorem mc_7 : PC 7 := ⟨by rfl, by decide +kernel⟩
set_option maxRecDepth 100000 in
theorem mc_8 : PC 8 := ⟨by rfl, by decide +kernel⟩
set_option maxRecDepth 100000 in
theorem mc_9 : PC 9 := ⟨by rfl, by decide +kernel⟩
set_option maxRecDepth 100000 in
theorem mc_10 : PC 10 := ⟨by rfl, by decide +kernel⟩
set_option maxRecDepth 100000 in
theorem mc_11 : PC 11 := ⟨by rfl, by decide +kernel⟩
set_option maxRecDepth 100000 in
theorem mc_12 : PC 12 := ⟨by rfl, by decide +kernel⟩
set_option maxRecDepth 100000 in
theorem mc_13 : PC 13 := ⟨by rfl, by decide +kernel⟩
set_option maxRecDepth 100000 in
theorem mc_14 : PC 14 := ⟨by rfl, by decide +kernel⟩
set_option maxRecDepth 100000 in
theorem mc_15 : PC 15 := ⟨by rfl, by decide +kernel⟩
theorem mcA_16 : ∀ a, a < 16 → PC a := lt_s (lt_s (lt_s (lt_s (lt_s (lt_s (lt_s (lt_s (lt_s (lt_s (lt_s (lt_s (lt_s (lt_s (lt_s (lt_s (lt_0) mc_0) mc_1) mc_2) mc_3) mc_4) mc_5) mc_6) mc_7) mc_8) mc_9) mc_10) mc_11) mc_12) mc_13) mc_14) mc_15
set_option maxRecDepth 100000 in
theorem mc_16 : PC 16 := ⟨by rfl, by decide +kernel⟩
set_option maxRecDepth 100000 in
theorem mc_17 : PC 17 := ⟨by rfl, by decide +kernel⟩
set_option maxRecDepth 100000 in
theorem mc_18 : PC 18 := ⟨by rfl, by decide +kernel⟩
set_option maxRecDepth 100000 in
theorem mc_19 : PC 19 := ⟨by rfl, by decide +kernel⟩
set_option maxRecDepth 100000 in
theorem mc_20 : PC 20 := ⟨by rfl, by decide +kernel⟩
set_option maxRecDepth 100000 in
theorem mc_21 : PC 21 := ⟨by rfl, by decide +kernel⟩
set_option maxRecDepth 100000 in
theorem mc_22 : PC 22 := ⟨by rfl, by decide +kernel⟩
set_option maxRecDepth 100000 in
theorem mc_23 : PC 23 := ⟨by rfl, by decide +kernel⟩
set_option maxRecDepth 100000 in
theorem mc_24 : PC 24 := ⟨by rfl, by decide +kernel⟩
set_option maxRecDepth 100000 in
theorem mc_25 : PC 25 := ⟨by rfl, by decide +kernel⟩
set_option maxRecDepth 100000 in
theorem mc_26 : PC 26 := ⟨by rfl, by decide +kernel⟩
set_option maxRecDepth 100000 in
theorem mc_27 : PC 27 := ⟨by rfl, by decide +kernel⟩
set_option maxRecDepth 100000 in
theorem mc_28 : PC 28 := ⟨by rfl, by decide +kernel⟩
set_option maxRecDepth 100000 in
theorem mc_29 : PC 29 := ⟨by rfl, by decide +kernel⟩
set_option maxRecDepth 100000 in
theorem mc_30 : PC 30 := ⟨by rfl, by decide +kernel⟩
set_option maxRecDepth 100000 in
theorem mc_31 : PC 31 := ⟨by rfl, by decide +kernel⟩
theorem mcA_32 : ∀ a, a < 32 → PC a := lt_s (lt_s (lt_s (lt_s (lt_s (lt_s (lt_s (lt_s (lt_s (lt_s (lt_s (lt_s (lt_s (lt_s (lt_s (lt_s (mcA_16) mc_16) mc_17) mc_18) mc_19) mc_20) mc_21) mc_22) mc_23) mc_24) mc_25) mc_26) mc_27) mc_28) mc_29) mc_30) mc_31
set_option maxRecDepth 100000 in
theorem mc_32 : PC 32 := ⟨by rfl, by decide +kernel⟩
set_option maxRecDepth 100000 in
theorem mc_33 : PC 33 := ⟨by rfl, by decide +kernel⟩
set_option maxRecDepth 100000 in
theorem mc_34 : PC 34 := ⟨by rfl, by decide +kernel⟩
set_option maxRecDepth 100000 in
theorem mc_35 : PC 35 := ⟨by rfl, by decide +kernel⟩
set_option maxRecDepth 100000 in
theorem mc_36 : PC 36 := ⟨by rfl, by decide +kernel⟩
set_option maxRecDepth 100000 in
theorem mc_37 : PC 37 := ⟨by rfl, by decide +kernel⟩
set_option maxRecDepth 100000 in
theorem mc_38 : PC 38 := ⟨by rfl, by decide +kernel⟩
set_option maxRecDepth 100000 in
theorem mc_39 : PC 39 := ⟨by rfl, by decide +kernel⟩
set_option maxRecDepth 100000 in
theorem mc_40 : PC 40 := ⟨by rfl, by decide +kernel⟩
set_option maxRecDepth 100000 in
theorem mc_41 : PC 41 := ⟨by rfl, by decide +kernel⟩
set_option maxRecDepth 100000 in
theorem mc_42 : PC 42 := ⟨by rfl, by decide +kernel⟩
set_option maxRecDepth 100000 in
theorem mc_43 : PC 43 := ⟨by rfl, by decide +kernel⟩
set_option maxRecDepth 100000 in
theorem mc_44 : PC 44 := ⟨by rfl, by decide +kernel⟩
set_option maxRecDepth 100000 in
theorem mc_45 : PC 45 := ⟨by rfl, by decide +kernel⟩
set_option maxRecDepth 100000 in
theorem mc_46 : PC 46 := ⟨by rfl, by decide +kernel⟩
set_option maxRecDepth 100000 in
theorem mc_47 : PC 47 := ⟨by rfl, by decide +kernel⟩
theorem mcA_48 : ∀ a, a < 48 → PC a := lt_s (lt_s (lt_s (lt_s (lt_s (lt_s (lt_s (lt_s (lt_s (lt_s (lt_s (lt_s (lt_s (lt_s (lt_s (lt_s (mcA_32) mc_32) mc_33) mc_34) mc_35) mc_36) mc_37) mc_38) mc_39) mc_40) mc_41) mc_42) mc_43) mc_44) mc_45) mc_46) mc_47
set_option maxRecDepth 100000 in
theorem mc_48 : PC 48 := ⟨by rfl, by decide +kernel⟩
set_option maxRecDepth 100000 in
theorem mc_49 : PC 49 := ⟨by rfl, by decide +kernel⟩
set_option maxRecDepth 100000 in
theorem mc_50 : PC 50 := ⟨by rfl, by decide +kernel⟩
set_option maxRecDepth 100000 in
theorem mc_51 : PC 51 := ⟨by rfl, by decide +kernel⟩
set_option maxRecDepth 100000 in
theorem mc_52 : PC 52 := ⟨by rfl, by decide +kernel⟩
set_option maxRecDepth 100000 in
theorem mc_53 : PC 53 := ⟨by rfl, by decide +kernel⟩
set_option maxRecDepth 100000 in
theorem mc_54 : PC 54 := ⟨by rfl, by decide +kernel⟩
set_option maxRecDepth 100000 in
theorem mc_55 : PC 55 := ⟨by rfl, by decide +kernel⟩
set_option maxRecDepth 100000 in
theorem mc_56 : PC 56 := ⟨by rfl, by decide +kernel⟩
set_option maxRecDepth 100000 in
theorem mc_57 : PC 57 := ⟨by rfl, by decide +kernel⟩
set_option maxRecDepth 100000 in
theorem mc_58 : PC 58 := ⟨by rfl, by decide +kernel⟩
set_option maxRecDepth 100000 in
theorem mc_59 : PC 59 := ⟨by rfl, by decide +kernel⟩
set_option maxRecDepth 100000 in
theorem mc_60 : PC 60 := ⟨by rfl, by decide +kernel⟩
set_option maxRecDepth 100000 in
theorem mc_61 : PC 61 := ⟨by rfl, by decide +kernel⟩
set_option maxRecDepth 100000 in
theorem mc_62 : PC 62 := ⟨by rfl, by decide +kernel⟩
set_option maxRecDepth 100000 in
theorem mc_63 : PC 63 := ⟨by rfl, by decide +kernel⟩
theorem mcA_64 : ∀ a, a < 64 → PC a := lt_s (lt_s (lt_s (lt_s (lt_s (lt_s (lt_s (lt_s (lt_s (lt_s (lt_s (lt_s (lt_s (lt_s (lt_s (lt_s (mcA_48) mc_48) mc_49) mc_50) mc_51) mc_52) mc_53) mc_54) mc_55) mc_56) mc_57) mc_58) mc_59) mc_60) mc_61) mc_62) mc_63
set_option maxRecDepth 100000 in
theorem mc_64 : PC 64 := ⟨by rfl, by decide +kernel⟩
set_option maxRecDepth 100000 in
theorem mc_65 : PC 65 := ⟨by rfl, by decide +kernel⟩
set_option maxRecDepth 100000 in
theorem mc_66 : PC 66 := ⟨by rfl, by decide +kernel⟩
set_option maxRecDepth 100000 in
theorem mc_67 : PC 67 := ⟨by rfl, by decide +kernel⟩
set_option maxRecDepth 100000 in
theorem mc_68 : PC 68 := ⟨by rfl, by decide +kernel⟩
set_option maxRecDepth 100000 in
theorem mc_69 : PC 69 := ⟨by rfl, by decide +kernel⟩
set_option maxRecDepth 100000 in
theorem mc_70 : PC 70 := ⟨by rfl, by decide +kernel⟩
set_option maxRecDepth 100000 in
theorem mc_71 : PC 71 := ⟨by rfl, by decide +kernel⟩
set_option maxRecDepth 100000 in
theorem mc_72 : PC 72 := ⟨by rfl, by decide +kernel⟩
set_option maxRecDepth 100000 in
theorem mc_73 : PC 73 := ⟨by rfl, by decide +kernel⟩
set_option maxRecDepth 100000 in
theorem mc_74 : PC 74 := ⟨by rfl, by decide +kernel⟩
set_option maxRecDepth 100000 in
theorem mc_75 : PC 75 := ⟨by rfl, by decide +kernel⟩
set_option maxRecDepth 100000 in
theorem mc_76 : PC 76 := ⟨by rfl, by decide +kernel⟩
set_option maxRecDepth 100000 in
theorem mc_77 : PC 77 := ⟨by rfl, by decide +kernel⟩
set_option maxRecDepth 100000 in
theorem mc_78 : PC 78 := ⟨by rfl, by decide +kernel⟩
set_option maxRecDepth 100000 in
theorem mc_79 : PC 79 := ⟨by rfl, by decide +kernel⟩
theorem mcA_80 : ∀ a, a < 80 → PC a := lt_s (lt_s (lt_s (lt_s (lt_s (lt_s (lt_s (lt_s (lt_s (lt_s (lt_s (lt_s (lt_s (lt_s (lt_s (lt_s (mcA_64) mc_64) mc_65) mc_66) mc_67) mc_68) mc_69) mc_70) mc_71) mc_72) mc_73) mc_74) mc_75) mc_76) mc_77) mc_78) mc_79
set_option maxRecDepth 100000 in
theorem mc_80 : PC 80 := ⟨by rfl, by decide +kernel⟩
set_option maxRecDepth 100000 in
theorem mc_81 : PC 81 := ⟨by rfl, by decide +kernel⟩
set_option maxRecDepth 100000 in
theorem mc_82 : PC 82 := ⟨by rfl, by decide +kernel⟩
set_option maxRecDepth 100000 in
theorem mc_83 : PC 83 := ⟨by rfl, by decide +kernel⟩
set_option maxRecDepth 100000 in
theorem mc_84 : PC 84 := ⟨by rfl, by decide +kernel⟩
set_option maxRecDepth 100000 in
theorem mc_85 : PC 85 := ⟨by rfl, by decide +kernel⟩
set_option maxRecDepth 100000 in
theorem mc_86 : PC 86 := ⟨by rfl, by decide +kernel⟩
set_option maxRecDepth 100000 in
theorem mc_87 : PC 87 := ⟨by rfl, by decide +kernel⟩
set_option maxRecDepth 100000 in
theorem mc_88 : PC 88 := ⟨by rfl, by decide +kernel⟩
set_option maxRecDepth 100000 in
theorem mc_89 : PC 89 := ⟨by rfl, by decide +kernel⟩
set_option maxRecDepth 100000 in
theorem mc_90 : PC 90 := ⟨by rfl, by decide +kernel⟩
set_option maxRecDepth 100000 in
theorem mc_91 : PC 91 := ⟨by rfl, by decide +kernel⟩
set_option maxRecDepth 100000 in
theorem mc_92 : PC 92 := ⟨by rfl, by decide +kernel⟩
set_option maxRecDepth 100000 in
theorem mc_93 : PC 93 := ⟨by rfl, by decide +kernel⟩
set_option maxRecDepth 100000 in
theorem mc_94 : PC 94 := ⟨by rfl, by decide +kernel⟩
set_option maxRecDepth 100000 in
theorem mc_95 : PC 95 := ⟨by rfl, by decide +kernel⟩
theorem mcA_96 : ∀ a, a < 96 → PC a := lt_s (lt_s (lt_s (lt_s (lt_s (lt_s (lt_s (lt_s (lt_s (lt_s (lt_s (lt_s (lt_s (lt_s (lt_s (lt_s (mcA_80) mc_80) mc_81) mc_82) mc_83) mc_84) mc_85) mc_86) mc_87) mc_88) mc_89) mc_90) mc_91) mc_92) mc_93) mc_94) mc_95
set_option maxRecDepth 100000 in
theorem mc_96 : PC 96 := ⟨by rfl, by decide +kernel⟩
set_option maxRecDepth 100000 in
theorem mc_97 : PC 97 := ⟨by rfl, by decide +kernel⟩
set_option maxRecDepth 100000 in
theorem mc_98 : PC 98 := ⟨by rfl, by decide +kernel⟩
set_option maxRecDepth 100000 in
theorem mc_99 : PC 99 := ⟨by rfl, by decide +kernel⟩
set_option maxRecDepth 100000 in
theorem mc_100 : PC 100 := ⟨by rfl, by decide +kernel⟩
set_option maxRecDepth 100000 in
theorem mc_101 : PC 101 := ⟨by rfl, by decide +kernel⟩
set_option maxRecDepth 100000 in
theorem mc_102 : PC 102 := ⟨by rfl, by decide +kernel⟩
set_option maxRecDepth 100000 in
theorem mc_103 : PC 103 := ⟨by rfl, by decide +kernel⟩
set_option maxRecDepth 100000 in
theorem mc_104 : PC 104 := ⟨by rfl, by decide +kernel⟩
set_option maxRecDepth 100000 in
theorem mc_105 : PC 105 := ⟨by rfl, by decide +kernel⟩
set_option maxRecDepth 100000 in
theorem mc_106 : PC 106 := ⟨by rfl, by decide +kernel⟩
set_option maxRecDepth 100000 in
theorem mc_107 : PC 107 := ⟨by rfl, by decide +kernel⟩
set_option maxRecDepth 100000 in
theorem mc_108 : PC 108 := ⟨by rfl, by decide +kernel⟩
set_option maxRecDepth 100000 in
theorem mc_109 : PC 109 := ⟨by rfl, by decide +kernel⟩
set_option maxRecDepth 100000 in
theorem mc_110 : PC 110 := ⟨by rfl, by decide +kernel⟩
set_option maxRecDepth 100000 in
theorem mc_111 : PC 111 := ⟨by rfl, by decide +kernel⟩
theorem mcA_112 : ∀ a, a < 112 → PC a := lt_s (lt_s (lt_s (lt_s (lt_s (lt_s (lt_s (lt_s (lt_s (lt_s (lt_s (lt_s (lt_s (lt_s (lt_s (lt_s (mcA_96) mc_96) mc_97) mc_98) mc_99) mc_100) mc_101) mc_102) mc_103) mc_104) mc_105) mc_106) mc_107) mc_108) mc_109) mc_110) mc_111
set_option maxRecDepth 100000 in
theorem mc_112 : PC 112 := ⟨by rfl, by decide +kernel⟩
set_option maxRecDepth 100000 in
theorem mc_113 : PC 113 := ⟨by rfl, by decide +kernel⟩
set_option maxRecDepth 100000 in
theorem mc_114 : PC 114 := ⟨by rfl, by decide +kernel⟩
set_option maxRecDepth 100000 in
theorem mc_115 : PC 115 := ⟨by rfl, by decide +kernel⟩
set_option maxRecDepth 100000 in
theorem mc_116 : PC 116 := ⟨by rfl, by decide +kernel⟩
set_option maxRecDepth 100000 in
theorem mc_117 : PC 117 := ⟨by rfl, by decide +kernel⟩
set_option maxRecDepth 100000 in
theorem mc_118 : PC 118 := ⟨by rfl, by decide +kernel⟩
set_option maxRecDepth 100000 in
theorem mc_119 : PC 119 := ⟨by rfl, by decide +kernel⟩
set_option maxRecDepth 100000 in
theorem mc_120 : PC 120 := ⟨by rfl, by decide +kernel⟩
set_option maxRecDepth 100000 in
theorem mc_121 : PC 121 := ⟨by rfl, by decide +kernel⟩
set_option maxRecDepth 100000 in
theorem mc_122 : PC 122 := ⟨by rfl, by decide +kernel⟩
set_option maxRecDepth 100000 in
theorem mc_123 : PC 123 := ⟨by rfl, by decide +kernel⟩
set_option maxRecDepth 100000 in
theorem mc_124 : PC 124 := ⟨by rfl, by decide +kernel⟩
set_option maxRecDepth 100000 in
theorem mc_125 : PC 125 := ⟨by rfl, by decide +kernel⟩
set_option maxRecDepth 100000 in
theorem mc_126 : PC 126 := ⟨by rfl, by decide +kernel⟩
set_option maxRecDepth 100000 in
theorem mc_127 : PC 127 := ⟨by rfl, by decide +kernel⟩
theorem mcA_128 : ∀ a, a < 128 → PC a := lt_s (lt_s (lt_s (lt_s (lt_s (lt_s (lt_s (lt_s (lt_s (lt_s (lt_s (lt_s (lt_s (lt_s (lt_s (lt_s (mcA_112) mc_112) mc_113) mc_114) mc_115) mc_116) mc_117) mc_118) mc_119) mc_120) mc_121) mc_122) mc_123) mc_124) mc_125) mc_126) mc_127
set_option maxRecDepth 100000 in
theorem mc_128 : PC 128 := ⟨by rfl, by decide +kernel⟩
set_option maxRecDepth 100000 in
theorem mc_129 : PC 129 := ⟨by rfl, by decide +kernel⟩
set_option maxRecDepth 100000 in
theorem mc_130 : PC 130 := ⟨by rfl, by decide +kernel⟩
set_option maxRecDepth 100000 in
theorem mc_131 : PC 131 := ⟨by rfl, by decide +kernel⟩
set_option maxRecDepth 100000 in
theorem mc_132 : PC 132 := ⟨by rfl, by decide +kernel⟩
set_option maxRecDepth 100000 in
theorem mc_133 : PC 133 := ⟨by rfl, by decide +kernel⟩
set_option maxRecDepth 100000 in
theorem mc_134 : PC 134 := ⟨by rfl, by decide +kernel⟩
set_option maxRecDepth 100000 in
theorem mc_135 : PC 135 := ⟨by rfl, by decide +kernel⟩
set_option maxRecDepth 100000 in
theorem mc_136 : PC 136 := ⟨by rfl, by decide +kernel⟩
set_option maxRecDepth 100000 in
theorem mc_137 : PC 137 := ⟨by rfl, by decide +kernel⟩
set_option maxRecDepth 100000 in
theorem mc_138 : PC 138 := ⟨by rfl, by decide +kernel⟩
set_option maxRecDepth 100000 in
theorem mc_139 : PC 139 := ⟨by rfl, by decide +kernel⟩
set_option maxRecDepth 100000 in
theorem mc_140 : PC 140 := ⟨by rfl, by decide +kernel⟩
set_option maxRecDepth 100000 in
theorem mc_141 : PC 141 := ⟨by rfl, by decide +kernel⟩
set_option maxRecDepth 100000 in
theorem mc_142 : PC 142 := ⟨by rfl, by decide +kernel⟩
set_option maxRecDepth 100000 in
theorem mc_143 : PC 143 := ⟨by rfl, by decide +kernel⟩
theorem mcA_144 : ∀ a, a < 144 → PC a := lt_s (lt_s (lt_s (lt_s (lt_s (lt_s (lt_s (lt_s (lt_s (lt_s (lt_s (lt_s (lt_s (lt_s (lt_s (lt_s (mcA_128) mc_128) mc_129) mc_130) mc_131) mc_132) mc_133) mc_134) mc_135) mc_136) mc_137) mc_138) mc_139) mc_140) mc_141) mc_142) mc_143
set_option maxRecDepth 100000 in
theorem mc_144 : PC 144 := ⟨by rfl, by decide +kernel⟩
set_option maxRecDepth 100000 in
theorem mc_145 : PC 145 := ⟨by rfl, by decide +kernel⟩
set_option maxRecDepth 100000 in
theorem mc_146 : PC 146 := ⟨by rfl, by decide +kernel⟩
set_option maxRecDepth 100000 in
theorem mc_147 : PC 147 := ⟨by rfl, by decide +kernel⟩
set_option maxRecDepth 100000 in
theorem mc_148 : PC 148 := ⟨by rfl, by decide +kernel⟩
set_option maxRecDepth 100000 in
theorem mc_149 : PC 149 := ⟨by rfl, by decide +kernel⟩
set_option maxRecDepth 100000 in
theorem mc_150 : PC 150 := ⟨by rfl, by decide +kernel⟩
set_option maxRecDepth 100000 in
theorem mc_151 : PC 151 := ⟨by rfl, by decide +kernel⟩
set_option maxRecDepth 100000 in
theorem mc_152 : PC 152 := ⟨by rfl, by decide +kernel⟩
set_option maxRecDepth 100000 in
theorem mc_153 : PC 153 := ⟨by rfl, by decide +kernel⟩
set_option maxRecDepth 100000 in
theorem mc_154 : PC 154 := ⟨by rfl, by decide +kernel⟩
set_option maxRecDepth 100000 in
theorem mc_155 : PC 155 := ⟨by rfl, by decide +kernel⟩
set_option maxRecDepth 100000 in
theorem mc_156 : PC 156 := ⟨by rfl, by decide +kernel⟩
set_option maxRecDepth 100000 in
theorem mc_157 : PC 157 := ⟨by rfl, by decide +kernel⟩
set_option maxRecDepth 100000 in
theorem mc_158 : PC 158 := ⟨by rfl, by decide +kernel⟩
set_option maxRecDepth 100000 in
theorem mc_159 : PC 159 := ⟨by rfl, by decide +kernel⟩
theorem mcA_160 : ∀ a, a < 160 → PC a := lt_s (lt_s (lt_s (lt_s (lt_s (lt_s (lt_s (lt_s (lt_s (lt_s (lt_s (lt_s (lt_s (lt_s (lt_s (lt_s (mcA_144) mc_144) mc_145) mc_146) mc_147) mc_148) mc_149) mc_150) mc_151) mc_152) mc_153) mc_154) mc_155) mc_156) mc_157) mc_158) mc_159
set_option maxRecDepth 100000 in
theorem mc_160 : PC 160 := ⟨by rfl, by decide +kernel⟩
set_option maxRecDepth 100000 in
theorem mc_161 : PC 161 := ⟨by rfl, by decide +kernel⟩
set_option maxRecDepth 100000 in
theorem mc_162 : PC 162 := ⟨by rfl, by decide +kernel⟩
set_option maxRecDepth 100000 in
theorem mc_163 : PC 163 := ⟨by rfl, by decide +kernel⟩
set_option maxRecDepth 100000 in
theorem mc_164 : PC 164 := ⟨by rfl, by decide +kernel⟩
set_option maxRecDepth 100000 in
theorem mc_165 : PC 165 := ⟨by rfl, by decide +kernel⟩
set_option maxRecDepth 100000 in
theorem mc_166 : PC 166 := ⟨by rfl, by decide +kernel⟩
set_option maxRecDepth 100000 in
theorem mc_167 : PC 167 := ⟨by rfl, by decide +kernel⟩
set_option maxRecDepth 100000 in
theorem mc_168 : PC 168 := ⟨by rfl, by decide +kernel⟩
set_option maxRecDepth 100000 in
theorem mc_169 : PC 169 := ⟨by rfl, by decide +kernel⟩
set_option maxRecDepth 100000 in
theorem mc_170 : PC 170 := ⟨by rfl, by decide +kernel⟩
set_option maxRecDepth 100000 in
theorem mc_171 : PC 171 := ⟨by rfl, by decide +kernel⟩
set_option maxRecDepth 100000 in
theorem mc_172 : PC 172 := ⟨by rfl, by decide +kernel⟩
set_option maxRecDepth 100000 in
theorem mc_173 : PC 173 := ⟨by rfl, by decide +kernel⟩
set_option maxRecDepth 100000 in
theorem mc_174 : PC 174 := ⟨by rfl, by decide +kernel⟩
set_option maxRecDepth 100000 in
theorem mc_175 : PC 175 := ⟨by rfl, by decide +kernel⟩
theorem mcA_176 : ∀ a, a < 176 → PC a := lt_s (lt_s (lt_s (lt_s (lt_s (lt_s (lt_s (lt_s (lt_s (lt_s (lt_s (lt_s (lt_s (lt_s (lt_s (lt_s (mcA_160) mc_160) mc_161) mc_162) mc_163) mc_164) mc_165) mc_166) mc_167) mc_168) mc_169) mc_170) mc_171) mc_172) mc_173) mc_174) mc_175
set_option maxRecDepth 100000 in
theorem mc_176 : PC 176 := ⟨by rfl, by decide +kernel⟩
set_option maxRecDepth 100000 in
theorem mc_177 : PC 177 := ⟨by rfl, by decide +kernel⟩
set_option maxRecDepth 100000 in
theorem mc_178 : PC 178 := ⟨by rfl, by decide +kernel⟩
set_option maxRecDepth 100000 in
theorem mc_179 : PC 179 := ⟨by rfl, by decide +kernel⟩
set_option maxRecDepth 100000 in
theorem mc_180 : PC 180 := ⟨by rfl, by decide +kernel⟩
set_option maxRecDepth 100000 in
theorem mc_181 : PC 181 := ⟨by rfl, by decide +kernel⟩
set_option maxRecDepth 100000 in
theorem mc_182 : PC 182 := ⟨by rfl, by decide +kernel⟩
set_option maxRecDepth 100000 in
theorem mc_183 : PC 183 := ⟨by rfl, by decide +kernel⟩
set_option maxRecDepth 100000 in
theorem mc_184 : PC 184 := ⟨by rfl, by decide +kernel⟩
set_option maxRecDepth 100000 in
theorem mc_185 : PC 185 := ⟨by rfl, by decide +kernel⟩
set_option maxRecDepth 100000 in
theorem mc_186 : PC 186 := ⟨by rfl, by decide +kernel⟩
set_option maxRecDepth 100000 in
theorem mc_187 : PC 187 := ⟨by rfl, by decide +kernel⟩
set_option maxRecDepth 100000 in
theorem mc_188 : PC 188 := ⟨by rfl, by decide +kernel⟩
set_option maxRecDepth 100000 in
theorem mc_189 : PC 189 := ⟨by rfl, by decide +kernel⟩
set_option maxRecDepth 100000 in
theorem mc_190 : PC 190 := ⟨by rfl, by decide +kernel⟩
set_option maxRecDepth 100000 in
theorem mc_191 : PC 191 := ⟨by rfl, by decide +kernel⟩
theorem mcA_192 : ∀ a, a < 192 → PC a := lt_s (lt_s (lt_s (lt_s (lt_s (lt_s (lt_s (lt_s (lt_s (lt_s (lt_s (lt_s (lt_s (lt_s (lt_s (lt_s (mcA_176) mc_176) mc_177) mc_178) mc_179) mc_180) mc_181) mc_182) mc_183) mc_184) mc_185) mc_186) mc_187) mc_188) mc_189) mc_190) mc_191
set_option maxRecDepth 100000 in
theorem mc_192 : PC 192 := ⟨by rfl, by decide +kernel⟩
set_option maxRecDepth 100000 in
theorem mc_193 : PC 193 := ⟨by rfl, by decide +kernel⟩
set_option maxRecDepth 100000 in
theorem mc_194 : PC 194 := ⟨by rfl, by decide +kernel⟩
set_option maxRecDepth 100000 in
theorem mc_195 : PC 195 := ⟨by rfl, by decide +kernel⟩
set_option maxRecDepth 100000 in
theorem mc_196 : PC 196 := ⟨by rfl, by decide +kernel⟩
set_option maxRecDepth 100000 in
theorem mc_197 : PC 197 := ⟨by rfl, by decide +kernel⟩
set_option maxRecDepth 100000 in
theorem mc_198 : PC 198 := ⟨by rfl, by decide +kernel⟩
set_option maxRecDepth 100000 in
theorem mc_199 : PC 199 := ⟨by rfl, by decide +kernel⟩
set_option maxRecDepth 100000 in
theorem mc_200 : PC 200 := ⟨by rfl, by decide +kernel⟩
set_option maxRecDepth 100000 in
theorem mc_201 : PC 201 := ⟨by rfl, by decide +kernel⟩
set_option maxRecDepth 100000 in
theorem mc_202 : PC 202 := ⟨by rfl, by decide +kernel⟩
set_option maxRecDepth 100000 in
theorem mc_203 : PC 203 := ⟨by rfl, by decide +kernel⟩
set_option maxRecDepth 100000 in
theorem mc_204 : PC 204 := ⟨by rfl, by decide +kernel⟩
set_option maxRecDepth 100000 in
theorem mc_205 : PC 205 := ⟨by rfl, by decide +kernel⟩
set_option maxRecDepth 100000 in
theorem mc_206 : PC 206 := ⟨by rfl, by decide +kernel⟩
set_option maxRecDepth 100000 in
theorem mc_207 : PC 207 := ⟨by rfl, by decide +kernel⟩
theorem mcA_208 : ∀ a, a < 208 → PC a := lt_s (lt_s (lt_s (lt_s (lt_s (lt_s (lt_s (lt_s (lt_s (lt_s (lt_s (lt_s (lt_s (lt_s (lt_s (lt_s (mcA_192) mc_192) mc_193) mc_194) mc_195) mc_196) mc_197) mc_198) mc_199) mc_200) mc_201) mc_202) mc_203) mc_204) mc_205) mc_206) mc_207
set_option maxRecDepth 100000 in
theorem mc_208 : PC 208 := ⟨by rfl, by decide +kernel⟩
set_option maxRecDepth 100000 in
theorem mc_209 : PC 209 := ⟨by rfl, by decide +kernel⟩
set_option maxRecDepth 100000 in
theorem mc_210 : PC 210 := ⟨by rfl, by decide +kernel⟩
set_option maxRecDepth 100000 in
theorem mc_211 : PC 211 := ⟨by rfl, by decide +kernel⟩
set_option maxRecDepth 100000 in
theorem mc_212 : PC 212 := ⟨by rfl, by decide +kernel⟩
set_option maxRecDepth 100000 in
theorem mc_213 : PC 213 := ⟨by rfl, by decide +kernel⟩
set_option maxRecDepth 100000 in
theorem mc_214 : PC 214 := ⟨by rfl, by decide +kernel⟩
set_option maxRecDepth 100000 in
theorem mc_215 : PC 215 := ⟨by rfl, by decide +kernel⟩
set_option maxRecDepth 100000 in
theorem mc_216 : PC 216 := ⟨by rfl, by decide +kernel⟩
set_option maxRecDepth 100000 in
theorem mc_217 : PC 217 := ⟨by rfl, by decide +kernel⟩
set_option maxRecDepth 100000 in
theorem mc_218 : PC 218 := ⟨by rfl, by decide +kernel⟩
set_option maxRecDepth 100000 in
theorem mc_219 : PC 219 := ⟨by rfl, by decide +kernel⟩
set_option maxRecDepth 100000 in
theorem mc_220 : PC 220 := ⟨by rfl, by decide +kernel⟩
set_option maxRecDepth 100000 in
theorem mc_221 : PC 221 := ⟨by rfl, by decide +kernel⟩
set_option maxRecDepth 100000 in
theorem mc_222 : PC 222 := ⟨by rfl, by decide +kernel⟩
set_option maxRecDepth 100000 in
theorem mc_223 : PC 223 := ⟨by rfl, by decide +kernel⟩
theorem mcA_224 : ∀ a, a < 224 → PC a := lt_s (lt_s (lt_s (lt_s (lt_s (lt_s (lt_s (lt_s (lt_s (lt_s (lt_s (lt_s (lt_s (lt_s (lt_s (lt_s (mcA_208) mc_208) mc_209) mc_210) mc_211) mc_212) mc_213) mc_214) mc_215) mc_216) mc_217) mc_218) mc_219) mc_220) mc_221) mc_222) mc_223
set_option maxRecDepth 100000 in
theorem mc_224 : PC 224 := ⟨by rfl, by decide +kernel⟩
set_option maxRecDepth 100000 in
theorem mc_225 : PC 225 := ⟨by rfl, by decide +kernel⟩
set_option maxRecDepth 100000 in
theorem mc_226 : PC 226 := ⟨by rfl, by decide +kernel⟩
set_option maxRecDepth 100000 in
theorem mc_227 : PC 227 := ⟨by rfl, by decide +kernel⟩
set_option maxRecDepth 100000 in
theorem mc_228 : PC 228 := ⟨by rfl, by decide +kernel⟩
set_option maxRecDepth 100000 in
theorem mc_229 : PC 229 := ⟨by rfl, by decide +kernel⟩
set_option maxRecDepth 100000 in
theorem mc_230 : PC 230 := ⟨by rfl, by decide +kernel⟩
set_option maxRecDepth 100000 in
theorem mc_231 : PC 231 := ⟨by rfl, by decide +kernel⟩
set_option maxRecDepth 100000 in
theorem mc_232 : PC 232 := ⟨by rfl, by decide +kernel⟩
set_option maxRecDepth 100000 in
theorem mc_233 : PC 233 := ⟨by rfl, by decide +kernel⟩
set_option maxRecDepth 100000 in
theorem mc_234 : PC 234 := ⟨by rfl, by decide +kernel⟩
set_option maxRecDepth 100000 in
theorem mc_235 : PC 235 := ⟨by rfl, by decide +kernel⟩
set_option maxRecDepth 100000 in
theorem mc_236 : PC 236 := ⟨by rfl, by decide +kernel⟩
set_option maxRecDepth 100000 in
theorem mc_237 : PC 237 := ⟨by rfl, by decide +kernel⟩
set_option maxRecDepth 100000 in
theorem mc_238 : PC 238 := ⟨by rfl, by decide +kernel⟩
set_option maxRecDepth 100000 in
theorem mc_239 : PC 239 := ⟨by rfl, by decide +kernel⟩
theorem mcA_240 : ∀ a, a < 240 → PC a := lt_s (lt_s (lt_s (lt_s (lt_s (lt_s (lt_s (lt_s (lt_s (lt_s (lt_s (lt_s (lt_s (lt_s (lt_s (lt_s (mcA_224) mc_224) mc_225) mc_226) mc_227) mc_228) mc_229) mc_230) mc_231) mc_232) mc_233) mc_234) mc_235) mc_236) mc_237) mc_238) mc_239
set_option maxRecDepth 100000 in
theorem mc_240 : PC 240 := ⟨by rfl, by decide +kernel⟩
set_option maxRecDepth 100000 in
theorem mc_241 : PC 241 := ⟨by rfl, by decide +kernel⟩
set_option maxRecDepth 100000 in
theorem mc_242 : PC 242 := ⟨by rfl, by decide +kernel⟩
set_option maxRecDepth 100000 in
theorem mc_243 : PC 243 := ⟨by rfl, by decide +kernel⟩
set_option maxRecDepth 100000 in
theorem mc_244 : PC 244 := ⟨by rfl, by decide +kernel⟩
set_option maxRecDepth 100000 in
theorem mc_245 : PC 245 := ⟨by rfl, by decide +kernel⟩
set_option maxRecDepth 100000 in
theorem mc_246 : PC 246 := ⟨by rfl, by decide +kernel⟩
set_option maxRecDepth 100000 in
theorem mc_247 : PC 247 := ⟨by rfl, by decide +kernel⟩
set_option maxRecDepth 100000 in
theorem mc_248 : PC 248 := ⟨by rfl, by decide +kernel⟩
set_option maxRecDepth 100000 in
theorem mc_249 : PC 249 := ⟨by rfl, by decide +kernel⟩
set_option maxRecDepth 100000 in
theorem mc_250 : PC 250 := ⟨by rfl, by decide +kernel⟩
set_option maxRecDepth 100000 in
theorem mc_251 : PC 251 := ⟨by rfl, by decide +kernel⟩
set_option maxRecDepth 100000 in
theorem mc_252 : PC 252 := ⟨by rfl, by decide +kernel⟩
set_option maxRecDepth 100000 in
theorem mc_253 : PC 253 := ⟨by rfl, by decide +kernel⟩
set_option maxRecDepth 100000 in
theorem mc_254 : PC 254 := ⟨by rfl, by decide +kernel⟩
set_option maxRecDepth 100000 in
theorem mc_255 : PC 255 := ⟨by rfl, by decide +kernel⟩
theorem mcA_256 : ∀ a, a < 256 → PC a := lt_s (lt_s (lt_s (lt_s (lt_s (lt_s (lt_s (lt_s (lt_s (lt_s (lt_s (lt_s (lt_s (lt_s (lt_s (lt_s (mcA_240) mc_240) mc_241) mc_242) mc_243) mc_244) mc_245) mc_246) mc_247) mc_248) mc_249) mc_250) mc_251) mc_252) mc_253) mc_254) mc_255
set_option maxRecDepth 100000 in
theorem mc_256 : PC 256 := ⟨by rfl, by decide +kernel⟩
set_option maxRecDepth 100000 in
theorem mc_257 : PC 257 := ⟨by rfl, by decide +kernel⟩
set_option maxRecDepth 100000 in
theorem mc_258 : PC 258 := ⟨by rfl, by decide +kernel⟩
set_option maxRecDepth 100000 in
theorem mc_259 : PC 259 := ⟨by rfl, by decide +kernel⟩
set_option maxRecDepth 100000 in
theorem mc_260 : PC 260 := ⟨by rfl, by decide +kernel⟩
set_option maxRecDepth 100000 in
theorem mc_261 : PC 261 := ⟨by rfl, by decide +kernel⟩
set_option maxRecDepth 100000 in
theorem mc_262 : PC 262 := ⟨by rfl, by decide +kernel⟩
set_option maxRecDepth 100000 in
theorem mc_263 : PC 263 := ⟨by rfl, by decide +kernel⟩
set_option maxRecDepth 100000 in
theorem mc_264 : PC 264 := ⟨by rfl, by decide +kernel⟩
set_option maxRecDepth 100000 in
theorem mc_265 : PC 265 := ⟨by rfl, by decide +kernel⟩
set_option maxRecDepth 100000 in
theorem mc_266 : PC 266 := ⟨by rfl, by decide +kernel⟩
set_option maxRecDepth 100000 in
theorem mc_267 : PC 267 := ⟨by rfl, by decide +kernel⟩
set_option maxRecDepth 100000 in
theorem mc_268 : PC 268 := ⟨by rfl, by decide +kernel⟩
set_option maxRecDepth 100000 in
theorem mc_269 : PC 269 := ⟨by rfl, by decide +kernel⟩
set_option maxRecDepth 100000 in
theorem mc_270 : PC 270 := ⟨by rfl, by decide +kernel⟩
set_option maxRecDepth 100000 in
theorem mc_271 : PC 271 := ⟨by rfl, by decide +kernel⟩
theorem mcA_272 : ∀ a, a < 272 → PC a := lt_s (lt_s (lt_s (lt_s (lt_s (lt_s (lt_s (lt_s (lt_s (lt_s (lt_s (lt_s (lt_s (lt_s (lt_s (lt_s (mcA_256) mc_256) mc_257) mc_258) mc_259) mc_260) mc_261) mc_262) mc_263) mc_264) mc_265) mc_266) mc_267) mc_268) mc_269) mc_270) mc_271
set_option maxRecDepth 100000 in
theorem mc_272 : PC 272 := ⟨by rfl, by decide +kernel⟩
set_option maxRecDepth 100000 in
theorem mc_273 : PC 273 := ⟨by rfl, by decide +kernel⟩
set_option maxRecDepth 100000 in
theorem mc_274 : PC 274 := ⟨by rfl, by decide +kernel⟩
set_option maxRecDepth 100000 in
theorem mc_275 : PC 275 := ⟨by rfl, by decide +kernel⟩
set_option maxRecDepth 100000 in
theorem mc_276 : PC 276 := ⟨by rfl, by decide +kernel⟩
set_option maxRecDepth 100000 in
theorem mc_277 : PC 277 := ⟨by rfl, by decide +kernel⟩
set_option maxRecDepth 100000 in
theorem mc_278 : PC 278 := ⟨by rfl, by decide +kernel⟩
set_option maxRecDepth 100000 in
theorem mc_279 : PC 279 := ⟨by rfl, by decide +kernel⟩
set_option maxRecDepth 100000 in
theorem mc_280 : PC 280 := ⟨by rfl, by decide +kernel⟩
set_option maxRecDepth 100000 in
theorem mc_281 : PC 281 := ⟨by rfl, by decide +kernel⟩
set_option maxRecDepth 100000 in
theorem mc_282 : PC 282 := ⟨by rfl, by decide +kernel⟩
set_option maxRecDepth 100000 in
theorem mc_283 : PC 283 := ⟨by rfl, by decide +kernel⟩
set_option maxRecDepth 100000 in
theorem mc_284 : PC 284 := ⟨by rfl, by decide +kernel⟩
set_option maxRecDepth 100000 in
theorem mc_285 : PC 285 := ⟨by rfl, by decide +kernel⟩
set_option maxRecDepth 100000 in
theorem mc_286 : PC 286 := ⟨by rfl, by decide +kernel⟩
set_option maxRecDepth 100000 in
theorem mc_287 : PC 287 := ⟨by rfl, by decide +kernel⟩
theorem mcA_288 : ∀ a, a < 288 → PC a := lt_s (lt_s (lt_s (lt_s (lt_s (lt_s (lt_s (lt_s (lt_s (lt_s (lt_s (lt_s (lt_s (lt_s (lt_s (lt_s (mcA_272) mc_272) mc_273) mc_274) mc_275) mc_276) mc_277) mc_278) mc_279) mc_280) mc_281) mc_282) mc_283) mc_284) mc_285) mc_286) mc_287
set_option maxRecDepth 100000 in
theorem mc_288 : PC 288 := ⟨by rfl, by decide +kernel⟩
set_option maxRecDepth 100000 in
theorem mc_289 : PC 289 := ⟨by rfl, by decide +kernel⟩
set_option maxRecDepth 100000 in
theorem mc_290 : PC 290 := ⟨by rfl, by decide +kernel⟩
set_option maxRecDepth 100000 in
theorem mc_291 : PC 291 := ⟨by rfl, by decide +kernel⟩
set_option maxRecDepth 100000 in
theorem mc_292 : PC 292 := ⟨by rfl, by decide +kernel⟩
set_option maxRecDepth 100000 in
theorem mc_293 : PC 293 := ⟨by rfl, by decide +kernel⟩
set_option maxRecDepth 100000 in
theorem mc_294 : PC 294 := ⟨by rfl, by decide +kernel⟩
set_option maxRecDepth 100000 in
theorem mc_295 : PC 295 := ⟨by rfl, by decide +kernel⟩
set_option maxRecDepth 100000 in
theorem mc_296 : PC 296 := ⟨by rfl, by decide +kernel⟩
set_option maxRecDepth 100000 in
theorem mc_297 : PC 297 := ⟨by rfl, by decide +kernel⟩
set_option maxRecDepth 100000 in
theorem mc_298 : PC 298 := ⟨by rfl, by decide +kernel⟩
set_option maxRecDepth 100000 in
theorem mc_299 : PC 299 := ⟨by rfl, by decide +kernel⟩
set_option maxRecDepth 100000 in
theorem mc_300 : PC 300 := ⟨by rfl, by decide +kernel⟩
set_option maxRecDepth 100000 in
theorem mc_301 : PC 301 := ⟨by rfl, by decide +kernel⟩
theorem mcA_302 : ∀ a, a < 302 → PC a := lt_s (lt_s (lt_s (lt_s (lt_s (lt_s (lt_s (lt_s (lt_s (lt_s (lt_s (lt_s (lt_s (lt_s (mcA_288) mc_288) mc_289) mc_290) mc_291) mc_292) mc_293) mc_294) mc_295) mc_296) mc_297) mc_298) mc_299) mc_300) mc_301
