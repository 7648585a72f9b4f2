set_option maxRecDepth 100000 in
theorem ckl_24 : pl_24.all (chk 302) = true := by decide +kernel
set_option maxRecDepth 100000 in
theorem ckl_25 : pl_25.all (chk 302) = true := by decide +kernel
set_option maxRecDepth 100000 in
theorem ckl_26 : pl_26.all (chk 302) = true := by decide +kernel
set_option maxRecDepth 100000 in
theorem ckl_27 : pl_27.all (chk 302) = true := by decide +kernel
set_option maxRecDepth 100000 in
theorem ckl_28 : pl_28.all (chk 302) = true := by decide +kernel
set_option maxRecDepth 100000 in
theorem ckl_29 : pl_29.all (chk 302) = true := by decide +kernel
set_option maxRecDepth 100000 in
theorem ckl_30 : pl_30.all (chk 302) = true := by decide +kernel
set_option maxRecDepth 100000 in
theorem ckl_31 : pl_31.all (chk 302) = true := by decide +kernel
set_option maxRecDepth 100000 in
theorem ckl_32 : pl_32.all (chk 302) = true := by decide +kernel
set_option maxRecDepth 100000 in
theorem ckl_33 : pl_33.all (chk 302) = true := by decide +kernel
set_option maxRecDepth 100000 in
theorem ckl_34 : pl_34.all (chk 302) = true := by decide +kernel
set_option maxRecDepth 100000 in
theorem ckl_35 : pl_35.all (chk 302) = true := by decide +kernel
set_option maxRecDepth 100000 in
theorem ckl_36 : pl_36.all (chk 302) = true := by decide +kernel
set_option maxRecDepth 100000 in
theorem ckl_37 : pl_37.all (chk 302) = true := by decide +kernel
set_option maxRecDepth 100000 in
theorem ckl_38 : pl_38.all (chk 302) = true := by decide +kernel
set_option maxRecDepth 100000 in
theorem ckl_39 : pl_39.all (chk 302) = true := by decide +kernel
set_option maxRecDepth 100000 in
theorem ckl_40 : pl_40.all (chk 302) = true := by decide +kernel
set_option maxRecDepth 100000 in
theorem ckl_41 : pl_41.all (chk 302) = true := by decide +kernel
set_option maxRecDepth 100000 in
theorem ckl_42 : pl_42.all (chk 302) = true := by decide +kernel
set_option maxRecDepth 100000 in
theorem ckl_43 : pl_43.all (chk 302) = true := by decide +kernel
set_option maxRecDepth 100000 in
theorem ckl_44 : pl_44.all (chk 302) = true := by decide +kernel
set_option maxRecDepth 100000 in
theorem ckl_45 : pl_45.all (chk 302) = true := by decide +kernel
set_option maxRecDepth 100000 in
theorem ckl_46 : pl_46.all (chk 302) = true := by decide +kernel
set_option maxRecDepth 100000 in
theorem ckl_47 : pl_47.all (chk 302) = true := by decide +kernel
