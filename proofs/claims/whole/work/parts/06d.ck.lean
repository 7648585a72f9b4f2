set_option maxRecDepth 100000 in
theorem ck_197 : chkMid 197 = true := by decide +kernel
set_option maxRecDepth 100000 in
theorem ck_198 : chkMid 198 = true := by decide +kernel
set_option maxRecDepth 100000 in
theorem ck_199 : chkMid 199 = true := by decide +kernel
set_option maxRecDepth 100000 in
theorem ck_200 : chkMid 200 = true := by decide +kernel
set_option maxRecDepth 100000 in
theorem ck_201 : chkMid 201 = true := by decide +kernel
set_option maxRecDepth 100000 in
theorem ck_202 : chkMid 202 = true := by decide +kernel
set_option maxRecDepth 100000 in
theorem ck_203 : chkMid 203 = true := by decide +kernel
set_option maxRecDepth 100000 in
theorem ck_204 : chkMid 204 = true := by decide +kernel
set_option maxRecDepth 100000 in
theorem ck_205 : chkMid 205 = true := by decide +kernel
set_option maxRecDepth 100000 in
theorem ck_206 : chkMid 206 = true := by decide +kernel
set_option maxRecDepth 100000 in
theorem ck_207 : chkMid 207 = true := by decide +kernel
set_option maxRecDepth 100000 in
theorem ck_208 : chkMid 208 = true := by decide +kernel
set_option maxRecDepth 100000 in
theorem ck_209 : chkMid 209 = true := by decide +kernel
set_option maxRecDepth 100000 in
theorem ck_210 : chkMid 210 = true := by decide +kernel
set_option maxRecDepth 100000 in
theorem ck_211 : chkMid 211 = true := by decide +kernel
set_option maxRecDepth 100000 in
theorem ck_212 : chkMid 212 = true := by decide +kernel
set_option maxRecDepth 100000 in
theorem ck_213 : chkMid 213 = true := by decide +kernel
set_option maxRecDepth 100000 in
theorem ck_214 : chkMid 214 = true := by decide +kernel
set_option maxRecDepth 100000 in
theorem ck_215 : chkMid 215 = true := by decide +kernel
set_option maxRecDepth 100000 in
theorem ck_216 : chkMid 216 = true := by decide +kernel
set_option maxRecDepth 100000 in
theorem ck_217 : chkMid 217 = true := by decide +kernel
set_option maxRecDepth 100000 in
theorem ck_218 : chkMid 218 = true := by decide +kernel
set_option maxRecDepth 100000 in
theorem ck_219 : chkMid 219 = true := by decide +kernel
set_option maxRecDepth 100000 in
theorem ck_220 : chkMid 220 = true := by decide +kernel
set_option maxRecDepth 100000 in
theorem ck_221 : chkMid 221 = true := by decide +kernel
set_option maxRecDepth 100000 in
theorem ck_222 : chkMid 222 = true := by decide +kernel
set_option maxRecDepth 100000 in
theorem ck_223 : chkMid 223 = true := by decide +kernel
set_option maxRecDepth 100000 in
theorem ck_224 : chkMid 224 = true := by decide +kernel
set_option maxRecDepth 100000 in
theorem ck_225 : chkMid 225 = true := by decide +kernel
set_option maxRecDepth 100000 in
theorem ck_226 : chkMid 226 = true := by decide +kernel
set_option maxRecDepth 100000 in
theorem ck_227 : chkMid 227 = true := by decide +kernel
set_option maxRecDepth 100000 in
theorem ck_228 : chkMid 228 = true := by decide +kernel
set_option maxRecDepth 100000 in
theorem ck_229 : chkMid 229 = true := by decide +kernel
set_option maxRecDepth 100000 in
theorem ck_230 : chkMid 230 = true := by decide +kernel
set_option maxRecDepth 100000 in
theorem ck_231 : chkMid 231 = true := by decide +kernel
set_option maxRecDepth 100000 in
theorem ck_232 : chkMid 232 = true := by decide +kernel
set_option maxRecDepth 100000 in
theorem ck_233 : chkMid 233 = true := by decide +kernel
set_option maxRecDepth 100000 in
theorem ck_234 : chkMid 234 = true := by decide +kernel
set_option maxRecDepth 100000 in
theorem ck_235 : chkMid 235 = true := by decide +kernel
set_option maxRecDepth 100000 in
theorem ck_236 : chkMid 236 = true := by decide +kernel
set_option maxRecDepth 100000 in
theorem ck_237 : chkMid 237 = true := by decide +kernel
set_option maxRecDepth 100000 in
theorem ck_238 : chkMid 238 = true := by decide +kernel
set_option maxRecDepth 100000 in
theorem ck_239 : chkMid 239 = true := by decide +kernel
set_option maxRecDepth 100000 in
theorem ck_240 : chkMid 240 = true := by decide +kernel
set_option maxRecDepth 100000 in
theorem ck_241 : chkMid 241 = true := by decide +kernel
set_option maxRecDepth 100000 in
theorem ck_242 : chkMid 242 = true := by decide +kernel
set_option maxRecDepth 100000 in
theorem ck_243 : chkMid 243 = true := by decide +kernel
set_option maxRecDepth 100000 in
theorem ck_244 : chkMid 244 = true := by decide +kernel
set_option maxRecDepth 100000 in
theorem ck_245 : chkMid 245 = true := by decide +kernel
set_option maxRecDepth 100000 in
theorem ck_246 : chkMid 246 = true := by decide +kernel
theorem ckA_213 : ∀ a, a < 213 → chkMid a = true := lt_s (lt_s (lt_s (lt_s (lt_s (lt_s (lt_s (lt_s (lt_s (lt_s (lt_s (lt_s (lt_s (lt_s (lt_s (lt_s (ckA_197) ck_197) ck_198) ck_199) ck_200) ck_201) ck_202) ck_203) ck_204) ck_205) ck_206) ck_207) ck_208) ck_209) ck_210) ck_211) ck_212
theorem ckA_229 : ∀ a, a < 229 → chkMid a = true := lt_s (lt_s (lt_s (lt_s (lt_s (lt_s (lt_s (lt_s (lt_s (lt_s (lt_s (lt_s (lt_s (lt_s (lt_s (lt_s (ckA_213) ck_213) ck_214) ck_215) ck_216) ck_217) ck_218) ck_219) ck_220) ck_221) ck_222) ck_223) ck_224) ck_225) ck_226) ck_227) ck_228
theorem ckA_245 : ∀ a, a < 245 → chkMid a = true := lt_s (lt_s (lt_s (lt_s (lt_s (lt_s (lt_s (lt_s (lt_s (lt_s (lt_s (lt_s (lt_s (lt_s (lt_s (lt_s (ckA_229) ck_229) ck_230) ck_231) ck_232) ck_233) ck_234) ck_235) ck_236) ck_237) ck_238) ck_239) ck_240) ck_241) ck_242) ck_243) ck_244
theorem ckA_247 : ∀ a, a < 247 → chkMid a = true := lt_s (lt_s (ckA_245) ck_245) ck_246
