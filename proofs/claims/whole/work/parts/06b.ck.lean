set_option maxRecDepth 100000 in
theorem ck_62 : chkMid 62 = true := by decide +kernel
set_option maxRecDepth 100000 in
theorem ck_63 : chkMid 63 = true := by decide +kernel
set_option maxRecDepth 100000 in
theorem ck_64 : chkMid 64 = true := by decide +kernel
set_option maxRecDepth 100000 in
theorem ck_65 : chkMid 65 = true := by decide +kernel
set_option maxRecDepth 100000 in
theorem ck_66 : chkMid 66 = true := by decide +kernel
set_option maxRecDepth 100000 in
theorem ck_67 : chkMid 67 = true := by decide +kernel
set_option maxRecDepth 100000 in
theorem ck_68 : chkMid 68 = true := by decide +kernel
set_option maxRecDepth 100000 in
theorem ck_69 : chkMid 69 = true := by decide +kernel
set_option maxRecDepth 100000 in
theorem ck_70 : chkMid 70 = true := by decide +kernel
set_option maxRecDepth 100000 in
theorem ck_71 : chkMid 71 = true := by decide +kernel
set_option maxRecDepth 100000 in
theorem ck_72 : chkMid 72 = true := by decide +kernel
set_option maxRecDepth 100000 in
theorem ck_73 : chkMid 73 = true := by decide +kernel
set_option maxRecDepth 100000 in
theorem ck_74 : chkMid 74 = true := by decide +kernel
set_option maxRecDepth 100000 in
theorem ck_75 : chkMid 75 = true := by decide +kernel
set_option maxRecDepth 100000 in
theorem ck_76 : chkMid 76 = true := by decide +kernel
set_option maxRecDepth 100000 in
theorem ck_77 : chkMid 77 = true := by decide +kernel
set_option maxRecDepth 100000 in
theorem ck_78 : chkMid 78 = true := by decide +kernel
set_option maxRecDepth 100000 in
theorem ck_79 : chkMid 79 = true := by decide +kernel
set_option maxRecDepth 100000 in
theorem ck_80 : chkMid 80 = true := by decide +kernel
set_option maxRecDepth 100000 in
theorem ck_81 : chkMid 81 = true := by decide +kernel
set_option maxRecDepth 100000 in
theorem ck_82 : chkMid 82 = true := by decide +kernel
set_option maxRecDepth 100000 in
theorem ck_83 : chkMid 83 = true := by decide +kernel
set_option maxRecDepth 100000 in
theorem ck_84 : chkMid 84 = true := by decide +kernel
set_option maxRecDepth 100000 in
theorem ck_85 : chkMid 85 = true := by decide +kernel
set_option maxRecDepth 100000 in
theorem ck_86 : chkMid 86 = true := by decide +kernel
set_option maxRecDepth 100000 in
theorem ck_87 : chkMid 87 = true := by decide +kernel
set_option maxRecDepth 100000 in
theorem ck_88 : chkMid 88 = true := by decide +kernel
set_option maxRecDepth 100000 in
theorem ck_89 : chkMid 89 = true := by decide +kernel
set_option maxRecDepth 100000 in
theorem ck_90 : chkMid 90 = true := by decide +kernel
set_option maxRecDepth 100000 in
theorem ck_91 : chkMid 91 = true := by decide +kernel
set_option maxRecDepth 100000 in
theorem ck_92 : chkMid 92 = true := by decide +kernel
set_option maxRecDepth 100000 in
theorem ck_93 : chkMid 93 = true := by decide +kernel
set_option maxRecDepth 100000 in
theorem ck_94 : chkMid 94 = true := by decide +kernel
set_option maxRecDepth 100000 in
theorem ck_95 : chkMid 95 = true := by decide +kernel
set_option maxRecDepth 100000 in
theorem ck_96 : chkMid 96 = true := by decide +kernel
set_option maxRecDepth 100000 in
theorem ck_97 : chkMid 97 = true := by decide +kernel
set_option maxRecDepth 100000 in
theorem ck_98 : chkMid 98 = true := by decide +kernel
set_option maxRecDepth 100000 in
theorem ck_99 : chkMid 99 = true := by decide +kernel
set_option maxRecDepth 100000 in
theorem ck_100 : chkMid 100 = true := by decide +kernel
set_option maxRecDepth 100000 in
theorem ck_101 : chkMid 101 = true := by decide +kernel
set_option maxRecDepth 100000 in
theorem ck_102 : chkMid 102 = true := by decide +kernel
set_option maxRecDepth 100000 in
theorem ck_103 : chkMid 103 = true := by decide +kernel
set_option maxRecDepth 100000 in
theorem ck_104 : chkMid 104 = true := by decide +kernel
set_option maxRecDepth 100000 in
theorem ck_105 : chkMid 105 = true := by decide +kernel
set_option maxRecDepth 100000 in
theorem ck_106 : chkMid 106 = true := by decide +kernel
set_option maxRecDepth 100000 in
theorem ck_107 : chkMid 107 = true := by decide +kernel
set_option maxRecDepth 100000 in
theorem ck_108 : chkMid 108 = true := by decide +kernel
set_option maxRecDepth 100000 in
theorem ck_109 : chkMid 109 = true := by decide +kernel
set_option maxRecDepth 100000 in
theorem ck_110 : chkMid 110 = true := by decide +kernel
set_option maxRecDepth 100000 in
theorem ck_111 : chkMid 111 = true := by decide +kernel
set_option maxRecDepth 100000 in
theorem ck_112 : chkMid 112 = true := by decide +kernel
set_option maxRecDepth 100000 in
theorem ck_113 : chkMid 113 = true := by decide +kernel
set_option maxRecDepth 100000 in
theorem ck_114 : chkMid 114 = true := by decide +kernel
set_option maxRecDepth 100000 in
theorem ck_115 : chkMid 115 = true := by decide +kernel
set_option maxRecDepth 100000 in
theorem ck_116 : chkMid 116 = true := by decide +kernel
set_option maxRecDepth 100000 in
theorem ck_117 : chkMid 117 = true := by decide +kernel
set_option maxRecDepth 100000 in
theorem ck_118 : chkMid 118 = true := by decide +kernel
set_option maxRecDepth 100000 in
theorem ck_119 : chkMid 119 = true := by decide +kernel
set_option maxRecDepth 100000 in
theorem ck_120 : chkMid 120 = true := by decide +kernel
set_option maxRecDepth 100000 in
theorem ck_121 : chkMid 121 = true := by decide +kernel
theorem ckA_78 : ∀ a, a < 78 → chkMid a = true := lt_s (lt_s (lt_s (lt_s (lt_s (lt_s (lt_s (lt_s (lt_s (lt_s (lt_s (lt_s (lt_s (lt_s (lt_s (lt_s (ckA_62) ck_62) ck_63) ck_64) ck_65) ck_66) ck_67) ck_68) ck_69) ck_70) ck_71) ck_72) ck_73) ck_74) ck_75) ck_76) ck_77
theorem ckA_94 : ∀ a, a < 94 → chkMid a = true := lt_s (lt_s (lt_s (lt_s (lt_s (lt_s (lt_s (lt_s (lt_s (lt_s (lt_s (lt_s (lt_s (lt_s (lt_s (lt_s (ckA_78) ck_78) ck_79) ck_80) ck_81) ck_82) ck_83) ck_84) ck_85) ck_86) ck_87) ck_88) ck_89) ck_90) ck_91) ck_92) ck_93
theorem ckA_110 : ∀ a, a < 110 → chkMid a = true := lt_s (lt_s (lt_s (lt_s (lt_s (lt_s (lt_s (lt_s (lt_s (lt_s (lt_s (lt_s (lt_s (lt_s (lt_s (lt_s (ckA_94) ck_94) ck_95) ck_96) ck_97) ck_98) ck_99) ck_100) ck_101) ck_102) ck_103) ck_104) ck_105) ck_106) ck_107) ck_108) ck_109
theorem ckA_122 : ∀ a, a < 122 → chkMid a = true := lt_s (lt_s (lt_s (lt_s (lt_s (lt_s (lt_s (lt_s (lt_s (lt_s (lt_s (lt_s (ckA_110) ck_110) ck_111) ck_112) ck_113) ck_114) ck_115) ck_116) ck_117) ck_118) ck_119) ck_120) ck_121
