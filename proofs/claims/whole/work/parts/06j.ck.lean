set_option maxRecDepth 100000 in
theorem ckl_72 : pl_72.all (chk 302) = true := by decide +kernel
set_option maxRecDepth 100000 in
theorem ckl_73 : pl_73.all (chk 302) = true := by decide +kernel
set_option maxRecDepth 100000 in
theorem ckl_74 : pl_74.all (chk 302) = true := by decide +kernel
set_option maxRecDepth 100000 in
theorem ckl_75 : pl_75.all (chk 302) = true := by decide +kernel
set_option maxRecDepth 100000 in
theorem ckl_76 : pl_76.all (chk 302) = true := by decide +kernel
set_option maxRecDepth 100000 in
theorem ckl_77 : pl_77.all (chk 302) = true := by decide +kernel
set_option maxRecDepth 100000 in
theorem ckl_78 : pl_78.all (chk 302) = true := by decide +kernel
set_option maxRecDepth 100000 in
theorem ckl_79 : pl_79.all (chk 302) = true := by decide +kernel
set_option maxRecDepth 100000 in
theorem ckl_80 : pl_80.all (chk 302) = true := by decide +kernel
set_option maxRecDepth 100000 in
theorem ckl_81 : pl_81.all (chk 302) = true := by decide +kernel
set_option maxRecDepth 100000 in
theorem ckl_82 : pl_82.all (chk 302) = true := by decide +kernel
set_option maxRecDepth 100000 in
theorem ckl_83 : pl_83.all (chk 302) = true := by decide +kernel
set_option maxRecDepth 100000 in
theorem ckl_84 : pl_84.all (chk 302) = true := by decide +kernel
set_option maxRecDepth 100000 in
theorem ckl_85 : pl_85.all (chk 302) = true := by decide +kernel
set_option maxRecDepth 100000 in
theorem ckl_86 : pl_86.all (chk 302) = true := by decide +kernel
set_option maxRecDepth 100000 in
theorem ckl_87 : pl_87.all (chk 302) = true := by decide +kernel
set_option maxRecDepth 100000 in
theorem ckl_88 : pl_88.all (chk 302) = true := by decide +kernel
set_option maxRecDepth 100000 in
theorem ckl_89 : pl_89.all (chk 302) = true := by decide +kernel
set_option maxRecDepth 100000 in
theorem ckl_90 : pl_90.all (chk 302) = true := by decide +kernel
set_option maxRecDepth 100000 in
theorem ckl_91 : pl_91.all (chk 302) = true := by decide +kernel
set_option maxRecDepth 100000 in
theorem ckl_92 : pl_92.all (chk 302) = true := by decide +kernel
set_option maxRecDepth 100000 in
theorem ckl_93 : pl_93.all (chk 302) = true := by decide +kernel
set_option maxRecDepth 100000 in
theorem ckl_94 : pl_94.all (chk 302) = true := by decide +kernel
set_option maxRecDepth 100000 in
theorem ckl_95 : pl_95.all (chk 302) = true := by decide +kernel
