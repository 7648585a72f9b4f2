set_option maxRecDepth 100000 in
theorem ck_0 : chkMid 0 = true := by decide +kernel
set_option maxRecDepth 100000 in
theorem ck_1 : chkMid 1 = true := by decide +kernel
set_option maxRecDepth 100000 in
theorem ck_2 : chkMid 2 = true := by decide +kernel
set_option maxRecDepth 100000 in
theorem ck_3 : chkMid 3 = true := by decide +kernel
set_option maxRecDepth 100000 in
theorem ck_4 : chkMid 4 = true := by decide +kernel
set_option maxRecDepth 100000 in
theorem ck_5 : chkMid 5 = true := by decide +kernel
set_option maxRecDepth 100000 in
theorem ck_6 : chkMid 6 = true := by decide +kernel
set_option maxRecDepth 100000 in
theorem ck_7 : chkMid 7 = true := by decide +kernel
set_option maxRecDepth 100000 in
theorem ck_8 : chkMid 8 = true := by decide +kernel
set_option maxRecDepth 100000 in
theorem ck_9 : chkMid 9 = true := by decide +kernel
set_option maxRecDepth 100000 in
theorem ck_10 : chkMid 10 = true := by decide +kernel
set_option maxRecDepth 100000 in
theorem ck_11 : chkMid 11 = true := by decide +kernel
set_option maxRecDepth 100000 in
theorem ck_12 : chkMid 12 = true := by decide +kernel
set_option maxRecDepth 100000 in
theorem ck_13 : chkMid 13 = true := by decide +kernel
set_option maxRecDepth 100000 in
theorem ck_14 : chkMid 14 = true := by decide +kernel
set_option maxRecDepth 100000 in
theorem ck_15 : chkMid 15 = true := by decide +kernel
set_option maxRecDepth 100000 in
theorem ck_16 : chkMid 16 = true := by decide +kernel
set_option maxRecDepth 100000 in
theorem ck_17 : chkMid 17 = true := by decide +kernel
set_option maxRecDepth 100000 in
theorem ck_18 : chkMid 18 = true := by decide +kernel
set_option maxRecDepth 100000 in
theorem ck_19 : chkMid 19 = true := by decide +kernel
set_option maxRecDepth 100000 in
theorem ck_20 : chkMid 20 = true := by decide +kernel
set_option maxRecDepth 100000 in
theorem ck_21 : chkMid 21 = true := by decide +kernel
set_option maxRecDepth 100000 in
theorem ck_22 : chkMid 22 = true := by decide +kernel
set_option maxRecDepth 100000 in
theorem ck_23 : chkMid 23 = true := by decide +kernel
set_option maxRecDepth 100000 in
theorem ck_24 : chkMid 24 = true := by decide +kernel
set_option maxRecDepth 100000 in
theorem ck_25 : chkMid 25 = true := by decide +kernel
set_option maxRecDepth 100000 in
theorem ck_26 : chkMid 26 = true := by decide +kernel
set_option maxRecDepth 100000 in
theorem ck_27 : chkMid 27 = true := by decide +kernel
set_option maxRecDepth 100000 in
theorem ck_28 : chkMid 28 = true := by decide +kernel
set_option maxRecDepth 100000 in
theorem ck_29 : chkMid 29 = true := by decide +kernel
set_option maxRecDepth 100000 in
theorem ck_30 : chkMid 30 = true := by decide +kernel
set_option maxRecDepth 100000 in
theorem ck_31 : chkMid 31 = true := by decide +kernel
set_option maxRecDepth 100000 in
theorem ck_32 : chkMid 32 = true := by decide +kernel
set_option maxRecDepth 100000 in
theorem ck_33 : chkMid 33 = true := by decide +kernel
set_option maxRecDepth 100000 in
theorem ck_34 : chkMid 34 = true := by decide +kernel
set_option maxRecDepth 100000 in
theorem ck_35 : chkMid 35 = true := by decide +kernel
set_option maxRecDepth 100000 in
theorem ck_36 : chkMid 36 = true := by decide +kernel
set_option maxRecDepth 100000 in
theorem ck_37 : chkMid 37 = true := by decide +kernel
set_option maxRecDepth 100000 in
theorem ck_38 : chkMid 38 = true := by decide +kernel
set_option maxRecDepth 100000 in
theorem ck_39 : chkMid 39 = true := by decide +kernel
set_option maxRecDepth 100000 in
theorem ck_40 : chkMid 40 = true := by decide +kernel
set_option maxRecDepth 100000 in
theorem ck_41 : chkMid 41 = true := by decide +kernel
set_option maxRecDepth 100000 in
theorem ck_42 : chkMid 42 = true := by decide +kernel
set_option maxRecDepth 100000 in
theorem ck_43 : chkMid 43 = true := by decide +kernel
set_option maxRecDepth 100000 in
theorem ck_44 : chkMid 44 = true := by decide +kernel
set_option maxRecDepth 100000 in
theorem ck_45 : chkMid 45 = true := by decide +kernel
set_option maxRecDepth 100000 in
theorem ck_46 : chkMid 46 = true := by decide +kernel
set_option maxRecDepth 100000 in
theorem ck_47 : chkMid 47 = true := by decide +kernel
set_option maxRecDepth 100000 in
theorem ck_48 : chkMid 48 = true := by decide +kernel
set_option maxRecDepth 100000 in
theorem ck_49 : chkMid 49 = true := by decide +kernel
set_option maxRecDepth 100000 in
theorem ck_50 : chkMid 50 = true := by decide +kernel
set_option maxRecDepth 100000 in
theorem ck_51 : chkMid 51 = true := by decide +kernel
set_option maxRecDepth 100000 in
theorem ck_52 : chkMid 52 = true := by decide +kernel
set_option maxRecDepth 100000 in
theorem ck_53 : chkMid 53 = true := by decide +kernel
set_option maxRecDepth 100000 in
theorem ck_54 : chkMid 54 = true := by decide +kernel
set_option maxRecDepth 100000 in
theorem ck_55 : chkMid 55 = true := by decide +kernel
set_option maxRecDepth 100000 in
theorem ck_56 : chkMid 56 = true := by decide +kernel
set_option maxRecDepth 100000 in
theorem ck_57 : chkMid 57 = true := by decide +kernel
set_option maxRecDepth 100000 in
theorem ck_58 : chkMid 58 = true := by decide +kernel
set_option maxRecDepth 100000 in
theorem ck_59 : chkMid 59 = true := by decide +kernel
set_option maxRecDepth 100000 in
theorem ck_60 : chkMid 60 = true := by decide +kernel
set_option maxRecDepth 100000 in
theorem ck_61 : chkMid 61 = true := by decide +kernel
theorem ckA_16 : ∀ a, a < 16 → chkMid a = true := lt_s (lt_s (lt_s (lt_s (lt_s (lt_s (lt_s (lt_s (lt_s (lt_s (lt_s (lt_s (lt_s (lt_s (lt_s (lt_s (lt_0) ck_0) ck_1) ck_2) ck_3) ck_4) ck_5) ck_6) ck_7) ck_8) ck_9) ck_10) ck_11) ck_12) ck_13) ck_14) ck_15
theorem ckA_32 : ∀ a, a < 32 → chkMid a = true := lt_s (lt_s (lt_s (lt_s (lt_s (lt_s (lt_s (lt_s (lt_s (lt_s (lt_s (lt_s (lt_s (lt_s (lt_s (lt_s (ckA_16) ck_16) ck_17) ck_18) ck_19) ck_20) ck_21) ck_22) ck_23) ck_24) ck_25) ck_26) ck_27) ck_28) ck_29) ck_30) ck_31
theorem ckA_48 : ∀ a, a < 48 → chkMid a = true := lt_s (lt_s (lt_s (lt_s (lt_s (lt_s (lt_s (lt_s (lt_s (lt_s (lt_s (lt_s (lt_s (lt_s (lt_s (lt_s (ckA_32) ck_32) ck_33) ck_34) ck_35) ck_36) ck_37) ck_38) ck_39) ck_40) ck_41) ck_42) ck_43) ck_44) ck_45) ck_46) ck_47
theorem ckA_62 : ∀ a, a < 62 → chkMid a = true := lt_s (lt_s (lt_s (lt_s (lt_s (lt_s (lt_s (lt_s (lt_s (lt_s (lt_s (lt_s (lt_s (lt_s (ckA_48) ck_48) ck_49) ck_50) ck_51) ck_52) ck_53) ck_54) ck_55) ck_56) ck_57) ck_58) ck_59) ck_60) ck_61
