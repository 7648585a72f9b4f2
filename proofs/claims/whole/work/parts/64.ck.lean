set_option maxRecDepth 100000 in
theorem ckm_0 : ∀ k, k < 16 → chkM k = true := by decide +kernel
set_option maxRecDepth 100000 in
theorem ck_0 : ∀ k, k < 4 → chkMid k = true := by decide +kernel
