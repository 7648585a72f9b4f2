set_option maxRecDepth 100000 in
theorem ckl_0 : pl_0.all (chk 302) = true := by decide +kernel
set_option maxRecDepth 100000 in
theorem ckl_1 : pl_1.all (chk 302) = true := by decide +kernel
set_option maxRecDepth 100000 in
theorem ckl_2 : pl_2.all (chk 302) = true := by decide +kernel
set_option maxRecDepth 100000 in
theorem ckl_3 : pl_3.all (chk 302) = true := by decide +kernel
set_option maxRecDepth 100000 in
theorem ckl_4 : pl_4.all (chk 302) = true := by decide +kernel
set_option maxRecDepth 100000 in
theorem ckl_5 : pl_5.all (chk 302) = true := by decide +kernel
set_option maxRecDepth 100000 in
theorem ckl_6 : pl_6.all (chk 302) = true := by decide +kernel
set_option maxRecDepth 100000 in
theorem ckl_7 : pl_7.all (chk 302) = true := by decide +kernel
set_option maxRecDepth 100000 in
theorem ckl_8 : pl_8.all (chk 302) = true := by decide +kernel
set_option maxRecDepth 100000 in
theorem ckl_9 : pl_9.all (chk 302) = true := by decide +kernel
set_option maxRecDepth 100000 in
theorem ckl_10 : pl_10.all (chk 302) = true := by decide +kernel
set_option maxRecDepth 100000 in
theorem ckl_11 : pl_11.all (chk 302) = true := by decide +kernel
set_option maxRecDepth 100000 in
theorem ckl_12 : pl_12.all (chk 302) = true := by decide +kernel
set_option maxRecDepth 100000 in
theorem ckl_13 : pl_13.all (chk 302) = true := by decide +kernel
set_option maxRecDepth 100000 in
theorem ckl_14 : pl_14.all (chk 302) = true := by decide +kernel
set_option maxRecDepth 100000 in
theorem ckl_15 : pl_15.all (chk 302) = true := by decide +kernel
set_option maxRecDepth 100000 in
theorem ckl_16 : pl_16.all (chk 302) = true := by decide +kernel
set_option maxRecDepth 100000 in
theorem ckl_17 : pl_17.all (chk 302) = true := by decide +kernel
set_option maxRecDepth 100000 in
theorem ckl_18 : pl_18.all (chk 302) = true := by decide +kernel
set_option maxRecDepth 100000 in
theorem ckl_19 : pl_19.all (chk 302) = true := by decide +kernel
set_option maxRecDepth 100000 in
theorem ckl_20 : pl_20.all (chk 302) = true := by decide +kernel
set_option maxRecDepth 100000 in
theorem ckl_21 : pl_21.all (chk 302) = true := by decide +kernel
set_option maxRecDepth 100000 in
theorem ckl_22 : pl_22.all (chk 302) = true := by decide +kernel
set_option maxRecDepth 100000 in
theorem ckl_23 : pl_23.all (chk 302) = true := by decide +kernel
