set_option maxRecDepth 100000 in
theorem ckl_120 : pl_120.all (chk 302) = true := by decide +kernel
set_option maxRecDepth 100000 in
theorem ckl_121 : pl_121.all (chk 302) = true := by decide +kernel
set_option maxRecDepth 100000 in
theorem ckl_122 : pl_122.all (chk 302) = true := by decide +kernel
set_option maxRecDepth 100000 in
theorem ckl_123 : pl_123.all (chk 302) = true := by decide +kernel
set_option maxRecDepth 100000 in
theorem ckl_124 : pl_124.all (chk 302) = true := by decide +kernel
set_option maxRecDepth 100000 in
theorem ckl_125 : pl_125.all (chk 302) = true := by decide +kernel
set_option maxRecDepth 100000 in
theorem ckl_126 : pl_126.all (chk 302) = true := by decide +kernel
set_option maxRecDepth 100000 in
theorem ckl_127 : pl_127.all (chk 302) = true := by decide +kernel
set_option maxRecDepth 100000 in
theorem ckl_128 : pl_128.all (chk 302) = true := by decide +kernel
set_option maxRecDepth 100000 in
theorem ckl_129 : pl_129.all (chk 302) = true := by decide +kernel
set_option maxRecDepth 100000 in
theorem ckl_130 : pl_130.all (chk 302) = true := by decide +kernel
set_option maxRecDepth 100000 in
theorem ckl_131 : pl_131.all (chk 302) = true := by decide +kernel
set_option maxRecDepth 100000 in
theorem ckl_132 : pl_132.all (chk 302) = true := by decide +kernel
set_option maxRecDepth 100000 in
theorem ckl_133 : pl_133.all (chk 302) = true := by decide +kernel
set_option maxRecDepth 100000 in
theorem ckl_134 : pl_134.all (chk 302) = true := by decide +kernel
set_option maxRecDepth 100000 in
theorem ckl_135 : pl_135.all (chk 302) = true := by decide +kernel
set_option maxRecDepth 100000 in
theorem ckl_136 : pl_136.all (chk 302) = true := by decide +kernel
set_option maxRecDepth 100000 in
theorem ckl_137 : pl_137.all (chk 302) = true := by decide +kernel
set_option maxRecDepth 100000 in
theorem ckl_138 : pl_138.all (chk 302) = true := by decide +kernel
set_option maxRecDepth 100000 in
theorem ckl_139 : pl_139.all (chk 302) = true := by decide +kernel
set_option maxRecDepth 100000 in
theorem ckl_140 : pl_140.all (chk 302) = true := by decide +kernel
set_option maxRecDepth 100000 in
theorem ckl_141 : pl_141.all (chk 302) = true := by decide +kernel
theorem ck_302 : chkMid 302 = true := by
  show List.all pm_302 (fun c => c.2.all (chk 302)) = true
  simp only [pm_302, List.all_cons, List.all_nil, ckl_0, ckl_1, ckl_2, ckl_3, ckl_4, ckl_5, ckl_6, ckl_7, ckl_8, ckl_9, ckl_10, ckl_11, ckl_12, ckl_13, ckl_14, ckl_15, ckl_16, ckl_17, ckl_18, ckl_19, ckl_20, ckl_21, ckl_22, ckl_23, ckl_24, ckl_25, ckl_26, ckl_27, ckl_28, ckl_29, ckl_30, ckl_31, ckl_32, ckl_33, ckl_34, ckl_35, ckl_36, ckl_37, ckl_38, ckl_39, ckl_40, ckl_41, ckl_42, ckl_43, ckl_44, ckl_45, ckl_46, ckl_47, ckl_48, ckl_49, ckl_50, ckl_51, ckl_52, ckl_53, ckl_54, ckl_55, ckl_56, ckl_57, ckl_58, ckl_59, ckl_60, ckl_61, ckl_62, ckl_63, ckl_64, ckl_65, ckl_66, ckl_67, ckl_68, ckl_69, ckl_70, ckl_71, ckl_72, ckl_73, ckl_74, ckl_75, ckl_76, ckl_77, ckl_78, ckl_79, ckl_80, ckl_81, ckl_82, ckl_83, ckl_84, ckl_85, ckl_86, ckl_87, ckl_88, ckl_89, ckl_90, ckl_91, ckl_92, ckl_93, ckl_94, ckl_95, ckl_96, ckl_97, ckl_98, ckl_99, ckl_100, ckl_101, ckl_102, ckl_103, ckl_104, ckl_105, ckl_106, ckl_107, ckl_108, ckl_109, ckl_110, ckl_111, ckl_112, ckl_113, ckl_114, ckl_115, ckl_116, ckl_117, ckl_118, ckl_119, ckl_120, ckl_121, ckl_122, ckl_123, ckl_124, ckl_125, ckl_126, ckl_127, ckl_128, ckl_129, ckl_130, ckl_131, ckl_132, ckl_133, ckl_134, ckl_135, ckl_136, ckl_137, ckl_138, ckl_139, ckl_140, ckl_141, Bool.and_self]
theorem ckA_303 : ∀ a, a < 303 → chkMid a = true := lt_s (ckA_302) ck_302
