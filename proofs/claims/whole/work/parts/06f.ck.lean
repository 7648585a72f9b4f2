set_option maxRecDepth 100000 in
theorem ck_294 : chkMid 294 = true := by decide +kernel
set_option maxRecDepth 100000 in
theorem ck_295 : chkMid 295 = true := by decide +kernel
set_option maxRecDepth 100000 in
theorem ck_296 : chkMid 296 = true := by decide +kernel
set_option maxRecDepth 100000 in
theorem ck_297 : chkMid 297 = true := by decide +kernel
set_option maxRecDepth 100000 in
theorem ck_298 : chkMid 298 = true := by decide +kernel
set_option maxRecDepth 100000 in
theorem ck_299 : chkMid 299 = true := by decide +kernel
set_option maxRecDepth 100000 in
theorem ck_300 : chkMid 300 = true := by decide +kernel
set_option maxRecDepth 100000 in
theorem ck_301 : chkMid 301 = true := by decide +kernel
theorem ckA_302 : ∀ a, a < 302 → chkMid a = true := lt_s (lt_s (lt_s (lt_s (lt_s (lt_s (lt_s (lt_s (ckA_294) ck_294) ck_295) ck_296) ck_297) ck_298) ck_299) ck_300) ck_301
