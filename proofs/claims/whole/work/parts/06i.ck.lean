set_option maxRecDepth 100000 in
theorem ckl_48 : pl_48.all (chk 302) = true := by decide +kernel
set_option maxRecDepth 100000 in
theorem ckl_49 : pl_49.all (chk 302) = true := by decide +kernel
set_option maxRecDepth 100000 in
theorem ckl_50 : pl_50.all (chk 302) = true := by decide +kernel
set_option maxRecDepth 100000 in
theorem ckl_51 : pl_51.all (chk 302) = true := by decide +kernel
set_option maxRecDepth 100000 in
theorem ckl_52 : pl_52.all (chk 302) = true := by decide +kernel
set_option maxRecDepth 100000 in
theorem ckl_53 : pl_53.all (chk 302) = true := by decide +kernel
set_option maxRecDepth 100000 in
theorem ckl_54 : pl_54.all (chk 302) = true := by decide +kernel
set_option maxRecDepth 100000 in
theorem ckl_55 : pl_55.all (chk 302) = true := by decide +kernel
set_option maxRecDepth 100000 in
theorem ckl_56 : pl_56.all (chk 302) = true := by decide +kernel
set_option maxRecDepth 100000 in
theorem ckl_57 : pl_57.all (chk 302) = true := by decide +kernel
set_option maxRecDepth 100000 in
theorem ckl_58 : pl_58.all (chk 302) = true := by decide +kernel
set_option maxRecDepth 100000 in
theorem ckl_59 : pl_59.all (chk 302) = true := by decide +kernel
set_option maxRecDepth 100000 in
theorem ckl_60 : pl_60.all (chk 302) = true := by decide +kernel
set_option maxRecDepth 100000 in
theorem ckl_61 : pl_61.all (chk 302) = true := by decide +kernel
set_option maxRecDepth 100000 in
theorem ckl_62 : pl_62.all (chk 302) = true := by decide +kernel
set_option maxRecDepth 100000 in
theorem ckl_63 : pl_63.all (chk 302) = true := by decide +kernel
set_option maxRecDepth 100000 in
theorem ckl_64 : pl_64.all (chk 302) = true := by decide +kernel
set_option maxRecDepth 100000 in
theorem ckl_65 : pl_65.all (chk 302) = true := by decide +kernel
set_option maxRecDepth 100000 in
theorem ckl_66 : pl_66.all (chk 302) = true := by decide +kernel
set_option maxRecDepth 100000 in
theorem ckl_67 : pl_67.all (chk 302) = true := by decide +kernel
set_option maxRecDepth 100000 in
theorem ckl_68 : pl_68.all (chk 302) = true := by decide +kernel
set_option maxRecDepth 100000 in
theorem ckl_69 : pl_69.all (chk 302) = true := by decide +kernel
set_option maxRecDepth 100000 in
theorem ckl_70 : pl_70.all (chk 302) = true := by decide +kernel
set_option maxRecDepth 100000 in
theorem ckl_71 : pl_71.all (chk 302) = true := by decide +kernel
