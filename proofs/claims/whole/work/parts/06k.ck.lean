set_option maxRecDepth 100000 in
theorem ckl_96 : pl_96.all (chk 302) = true := by decide +kernel
set_option maxRecDepth 100000 in
theorem ckl_97 : pl_97.all (chk 302) = true := by decide +kernel
set_option maxRecDepth 100000 in
theorem ckl_98 : pl_98.all (chk 302) = true := by decide +kernel
set_option maxRecDepth 100000 in
theorem ckl_99 : pl_99.all (chk 302) = true := by decide +kernel
set_option maxRecDepth 100000 in
theorem ckl_100 : pl_100.all (chk 302) = true := by decide +kernel
set_option maxRecDepth 100000 in
theorem ckl_101 : pl_101.all (chk 302) = true := by decide +kernel
set_option maxRecDepth 100000 in
theorem ckl_102 : pl_102.all (chk 302) = true := by decide +kernel
set_option maxRecDepth 100000 in
theorem ckl_103 : pl_103.all (chk 302) = true := by decide +kernel
set_option maxRecDepth 100000 in
theorem ckl_104 : pl_104.all (chk 302) = true := by decide +kernel
set_option maxRecDepth 100000 in
theorem ckl_105 : pl_105.all (chk 302) = true := by decide +kernel
set_option maxRecDepth 100000 in
theorem ckl_106 : pl_106.all (chk 302) = true := by decide +kernel
set_option maxRecDepth 100000 in
theorem ckl_107 : pl_107.all (chk 302) = true := by decide +kernel
set_option maxRecDepth 100000 in
theorem ckl_108 : pl_108.all (chk 302) = true := by decide +kernel
set_option maxRecDepth 100000 in
theorem ckl_109 : pl_109.all (chk 302) = true := by decide +kernel
set_option maxRecDepth 100000 in
theorem ckl_110 : pl_110.all (chk 302) = true := by decide +kernel
set_option maxRecDepth 100000 in
theorem ckl_111 : pl_111.all (chk 302) = true := by decide +kernel
set_option maxRecDepth 100000 in
theorem ckl_112 : pl_112.all (chk 302) = true := by decide +kernel
set_option maxRecDepth 100000 in
theorem ckl_113 : pl_113.all (chk 302) = true := by decide +kernel
set_option maxRecDepth 100000 in
theorem ckl_114 : pl_114.all (chk 302) = true := by decide +kernel
set_option maxRecDepth 100000 in
theorem ckl_115 : pl_115.all (chk 302) = true := by decide +kernel
set_option maxRecDepth 100000 in
theorem ckl_116 : pl_116.all (chk 302) = true := by decide +kernel
set_option maxRecDepth 100000 in
theorem ckl_117 : pl_117.all (chk 302) = true := by decide +kernel
set_option maxRecDepth 100000 in
theorem ckl_118 : pl_118.all (chk 302) = true := by decide +kernel
set_option maxRecDepth 100000 in
theorem ckl_119 : pl_119.all (chk 302) = true := by decide +kernel
