set_option maxRecDepth 100000 in
theorem ck_247 : chkMid 247 = true := by decide +kernel
set_option maxRecDepth 100000 in
theorem ck_248 : chkMid 248 = true := by decide +kernel
set_option maxRecDepth 100000 in
theorem ck_249 : chkMid 249 = true := by decide +kernel
set_option maxRecDepth 100000 in
theorem ck_250 : chkMid 250 = true := by decide +kernel
set_option maxRecDepth 100000 in
theorem ck_251 : chkMid 251 = true := by decide +kernel
set_option maxRecDepth 100000 in
theorem ck_252 : chkMid 252 = true := by decide +kernel
set_option maxRecDepth 100000 in
theorem ck_253 : chkMid 253 = true := by decide +kernel
set_option maxRecDepth 100000 in
theorem ck_254 : chkMid 254 = true := by decide +kernel
set_option maxRecDepth 100000 in
theorem ck_255 : chkMid 255 = true := by decide +kernel
set_option maxRecDepth 100000 in
theorem ck_256 : chkMid 256 = true := by decide +kernel
set_option maxRecDepth 100000 in
theorem ck_257 : chkMid 257 = true := by decide +kernel
set_option maxRecDepth 100000 in
theorem ck_258 : chkMid 258 = true := by decide +kernel
set_option maxRecDepth 100000 in
theorem ck_259 : chkMid 259 = true := by decide +kernel
set_option maxRecDepth 100000 in
theorem ck_260 : chkMid 260 = true := by decide +kernel
set_option maxRecDepth 100000 in
theorem ck_261 : chkMid 261 = true := by decide +kernel
set_option maxRecDepth 100000 in
theorem ck_262 : chkMid 262 = true := by decide +kernel
set_option maxRecDepth 100000 in
theorem ck_263 : chkMid 263 = true := by decide +kernel
set_option maxRecDepth 100000 in
theorem ck_264 : chkMid 264 = true := by decide +kernel
set_option maxRecDepth 100000 in
theorem ck_265 : chkMid 265 = true := by decide +kernel
set_option maxRecDepth 100000 in
theorem ck_266 : chkMid 266 = true := by decide +kernel
set_option maxRecDepth 100000 in
theorem ck_267 : chkMid 267 = true := by decide +kernel
set_option maxRecDepth 100000 in
theorem ck_268 : chkMid 268 = true := by decide +kernel
set_option maxRecDepth 100000 in
theorem ck_269 : chkMid 269 = true := by decide +kernel
set_option maxRecDepth 100000 in
theorem ck_270 : chkMid 270 = true := by decide +kernel
set_option maxRecDepth 100000 in
theorem ck_271 : chkMid 271 = true := by decide +kernel
set_option maxRecDepth 100000 in
theorem ck_272 : chkMid 272 = true := by decide +kernel
set_option maxRecDepth 100000 in
theorem ck_273 : chkMid 273 = true := by decide +kernel
set_option maxRecDepth 100000 in
theorem ck_274 : chkMid 274 = true := by decide +kernel
set_option maxRecDepth 100000 in
theorem ck_275 : chkMid 275 = true := by decide +kernel
set_option maxRecDepth 100000 in
theorem ck_276 : chkMid 276 = true := by decide +kernel
set_option maxRecDepth 100000 in
theorem ck_277 : chkMid 277 = true := by decide +kernel
set_option maxRecDepth 100000 in
theorem ck_278 : chkMid 278 = true := by decide +kernel
set_option maxRecDepth 100000 in
theorem ck_279 : chkMid 279 = true := by decide +kernel
set_option maxRecDepth 100000 in
theorem ck_280 : chkMid 280 = true := by decide +kernel
set_option maxRecDepth 100000 in
theorem ck_281 : chkMid 281 = true := by decide +kernel
set_option maxRecDepth 100000 in
theorem ck_282 : chkMid 282 = true := by decide +kernel
set_option maxRecDepth 100000 in
theorem ck_283 : chkMid 283 = true := by decide +kernel
set_option maxRecDepth 100000 in
theorem ck_284 : chkMid 284 = true := by decide +kernel
set_option maxRecDepth 100000 in
theorem ck_285 : chkMid 285 = true := by decide +kernel
set_option maxRecDepth 100000 in
theorem ck_286 : chkMid 286 = true := by decide +kernel
set_option maxRecDepth 100000 in
theorem ck_287 : chkMid 287 = true := by decide +kernel
set_option maxRecDepth 100000 in
theorem ck_288 : chkMid 288 = true := by decide +kernel
set_option maxRecDepth 100000 in
theorem ck_289 : chkMid 289 = true := by decide +kernel
set_option maxRecDepth 100000 in
theorem ck_290 : chkMid 290 = true := by decide +kernel
set_option maxRecDepth 100000 in
theorem ck_291 : chkMid 291 = true := by decide +kernel
set_option maxRecDepth 100000 in
theorem ck_292 : chkMid 292 = true := by decide +kernel
set_option maxRecDepth 100000 in
theorem ck_293 : chkMid 293 = true := by decide +kernel
theorem ckA_263 : ∀ a, a < 263 → chkMid a = true := lt_s (lt_s (lt_s (lt_s (lt_s (lt_s (lt_s (lt_s (lt_s (lt_s (lt_s (lt_s (lt_s (lt_s (lt_s (lt_s (ckA_247) ck_247) ck_248) ck_249) ck_250) ck_251) ck_252) ck_253) ck_254) ck_255) ck_256) ck_257) ck_258) ck_259) ck_260) ck_261) ck_262
theorem ckA_279 : ∀ a, a < 279 → chkMid a = true := lt_s (lt_s (lt_s (lt_s (lt_s (lt_s (lt_s (lt_s (lt_s (lt_s (lt_s (lt_s (lt_s (lt_s (lt_s (lt_s (ckA_263) ck_263) ck_264) ck_265) ck_266) ck_267) ck_268) ck_269) ck_270) ck_271) ck_272) ck_273) ck_274) ck_275) ck_276) ck_277) ck_278
theorem ckA_294 : ∀ a, a < 294 → chkMid a = true := lt_s (lt_s (lt_s (lt_s (lt_s (lt_s (lt_s (lt_s (lt_s (lt_s (lt_s (lt_s (lt_s (lt_s (lt_s (ckA_279) ck_279) ck_280) ck_281) ck_282) ck_283) ck_284) ck_285) ck_286) ck_287) ck_288) ck_289) ck_290) ck_291) ck_292) ck_293
