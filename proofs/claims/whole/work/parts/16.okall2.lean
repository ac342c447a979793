/-! 16: each method passes the check -/
set_option maxRecDepth 100000 in
theorem ok_200 : gj_okM gj_mt mt_200 := gj_ckM_s (oi := 11) rfl (by decide +kernel)
set_option maxRecDepth 100000 in
theorem ok_201 : gj_okM gj_mt mt_201 := gj_ckM_s (oi := 11) rfl (by decide +kernel)
set_option maxRecDepth 100000 in
theorem ok_202 : gj_okM gj_mt mt_202 := gj_ckM_s (oi := 11) rfl (by decide +kernel)
set_option maxRecDepth 100000 in
theorem ok_203 : gj_okM gj_mt mt_203 := gj_ckM_s (oi := 11) rfl (by decide +kernel)
set_option maxRecDepth 100000 in
theorem ok_204 : gj_okM gj_mt mt_204 := gj_ckM_s (oi := 11) rfl (by decide +kernel)
set_option maxRecDepth 100000 in
theorem ok_205 : gj_okM gj_mt mt_205 := gj_ckM_s (oi := 11) rfl (by decide +kernel)
set_option maxRecDepth 100000 in
theorem ok_206 : gj_okM gj_mt mt_206 := gj_ckM_s (oi := 11) rfl (by decide +kernel)
set_option maxRecDepth 100000 in
theorem ok_207 : gj_okM gj_mt mt_207 := gj_ckM_s (oi := 11) rfl (by decide +kernel)
set_option maxRecDepth 100000 in
theorem ok_208 : gj_okM gj_mt mt_208 := gj_ckM_s (oi := 11) rfl (by decide +kernel)
set_option maxRecDepth 100000 in
theorem ok_209 : gj_okM gj_mt mt_209 := gj_ckM_s (oi := 11) rfl (by decide +kernel)
set_option maxRecDepth 100000 in
theorem ok_210 : gj_okM gj_mt mt_210 := gj_ckM_s (oi := 11) rfl (by decide +kernel)
set_option maxRecDepth 100000 in
theorem ok_211 : gj_okM gj_mt mt_211 := gj_ckM_s (oi := 11) rfl (by decide +kernel)
set_option maxRecDepth 100000 in
theorem ok_212 : gj_okM gj_mt mt_212 := gj_ckM_s (oi := 11) rfl (by decide +kernel)
set_option maxRecDepth 100000 in
theorem ok_213 : gj_okM gj_mt mt_213 := gj_ckM_s (oi := 11) rfl (by decide +kernel)
set_option maxRecDepth 100000 in
theorem ok_214 : gj_okM gj_mt mt_214 := gj_ckM_s (oi := 11) rfl (by decide +kernel)
set_option maxRecDepth 100000 in
theorem ok_215 : gj_okM gj_mt mt_215 := gj_ckM_s (oi := 11) rfl (by decide +kernel)
set_option maxRecDepth 100000 in
theorem ok_216 : gj_okM gj_mt mt_216 := gj_ckM_s (oi := 11) rfl (by decide +kernel)
set_option maxRecDepth 100000 in
theorem ok_217 : gj_okM gj_mt mt_217 := gj_ckM_s (oi := 11) rfl (by decide +kernel)
set_option maxRecDepth 100000 in
theorem ok_218 : gj_okM gj_mt mt_218 := gj_ckM_s (oi := 11) rfl (by decide +kernel)
set_option maxRecDepth 100000 in
theorem ok_219 : gj_okM gj_mt mt_219 := gj_ckM_s (oi := 11) rfl (by decide +kernel)
set_option maxRecDepth 100000 in
theorem ok_220 : gj_okM gj_mt mt_220 := gj_ckM_s (oi := 11) rfl (by decide +kernel)
set_option maxRecDepth 100000 in
theorem ok_221 : gj_okM gj_mt mt_221 := gj_ckM_s (oi := 11) rfl (by decide +kernel)
set_option maxRecDepth 100000 in
theorem ok_222 : gj_okM gj_mt mt_222 := gj_ckM_s (oi := 11) rfl (by decide +kernel)
set_option maxRecDepth 100000 in
theorem ok_223 : gj_okM gj_mt mt_223 := gj_ckM_s (oi := 11) rfl (by decide +kernel)
set_option maxRecDepth 100000 in
theorem ok_224 : gj_okM gj_mt mt_224 := gj_ckM_s (oi := 11) rfl (by decide +kernel)
set_option maxRecDepth 100000 in
theorem ok_225 : gj_okM gj_mt mt_225 := gj_ckM_s (oi := 11) rfl (by decide +kernel)
set_option maxRecDepth 100000 in
theorem ok_226 : gj_okM gj_mt mt_226 := gj_ckM_s (oi := 11) rfl (by decide +kernel)
set_option maxRecDepth 100000 in
theorem ok_227 : gj_okM gj_mt mt_227 := gj_ckM_s (oi := 11) rfl (by decide +kernel)
set_option maxRecDepth 100000 in
theorem ok_228 : gj_okM gj_mt mt_228 := gj_ckM_s (oi := 11) rfl (by decide +kernel)
set_option maxRecDepth 100000 in
theorem ok_229 : gj_okM gj_mt mt_229 := gj_ckM_s (oi := 11) rfl (by decide +kernel)
set_option maxRecDepth 100000 in
theorem ok_230 : gj_okM gj_mt mt_230 := gj_ckM_s (oi := 11) rfl (by decide +kernel)
set_option maxRecDepth 100000 in
theorem ok_231 : gj_okM gj_mt mt_231 := gj_ckM_s (oi := 11) rfl (by decide +kernel)
set_option maxRecDepth 100000 in
theorem ok_232 : gj_okM gj_mt mt_232 := gj_ckM_s (oi := 11) rfl (by decide +kernel)
set_option maxRecDepth 100000 in
theorem ok_233 : gj_okM gj_mt mt_233 := gj_ckM_s (oi := 11) rfl (by decide +kernel)
set_option maxRecDepth 100000 in
theorem ok_234 : gj_okM gj_mt mt_234 := gj_ckM_s (oi := 11) rfl (by decide +kernel)
set_option maxRecDepth 100000 in
theorem ok_235 : gj_okM gj_mt mt_235 := gj_ckM_s (oi := 11) rfl (by decide +kernel)
set_option maxRecDepth 100000 in
theorem ok_236 : gj_okM gj_mt mt_236 := gj_ckM_s (oi := 11) rfl (by decide +kernel)
set_option maxRecDepth 100000 in
theorem ok_237 : gj_okM gj_mt mt_237 := gj_ckM_s (oi := 11) rfl (by decide +kernel)
set_option maxRecDepth 100000 in
theorem ok_238 : gj_okM gj_mt mt_238 := gj_ckM_s (oi := 11) rfl (by decide +kernel)
set_option maxRecDepth 100000 in
theorem ok_239 : gj_okM gj_mt mt_239 := gj_ckM_s (oi := 11) rfl (by decide +kernel)
set_option maxRecDepth 100000 in
theorem ok_240 : gj_okM gj_mt mt_240 := gj_ckM_s (oi := 11) rfl (by decide +kernel)
set_option maxRecDepth 100000 in
theorem ok_241 : gj_okM gj_mt mt_241 := gj_ckM_s (oi := 11) rfl (by decide +kernel)
set_option maxRecDepth 100000 in
theorem ok_242 : gj_okM gj_mt mt_242 := gj_ckM_s (oi := 11) rfl (by decide +kernel)
set_option maxRecDepth 100000 in
theorem ok_243 : gj_okM gj_mt mt_243 := gj_ckM_s (oi := 11) rfl (by decide +kernel)
set_option maxRecDepth 100000 in
theorem ok_244 : gj_okM gj_mt mt_244 := gj_ckM_s (oi := 11) rfl (by decide +kernel)
set_option maxRecDepth 100000 in
theorem ok_245 : gj_okM gj_mt mt_245 := gj_ckM_s (oi := 11) rfl (by decide +kernel)
set_option maxRecDepth 100000 in
theorem ok_246 : gj_okM gj_mt mt_246 := gj_ckM_s (oi := 11) rfl (by decide +kernel)
set_option maxRecDepth 100000 in
theorem ok_247 : gj_okM gj_mt mt_247 := gj_ckM_s (oi := 11) rfl (by decide +kernel)
set_option maxRecDepth 100000 in
theorem ok_248 : gj_okM gj_mt mt_248 := gj_ckM_s (oi := 11) rfl (by decide +kernel)
set_option maxRecDepth 100000 in
theorem ok_249 : gj_okM gj_mt mt_249 := gj_ckM_s (oi := 11) rfl (by decide +kernel)
set_option maxRecDepth 100000 in
theorem ok_250 : gj_okM gj_mt mt_250 := gj_ckM_s (oi := 11) rfl (by decide +kernel)
set_option maxRecDepth 100000 in
theorem ok_251 : gj_okM gj_mt mt_251 := gj_ckM_s (oi := 11) rfl (by decide +kernel)
set_option maxRecDepth 100000 in
theorem ok_252 : gj_okM gj_mt mt_252 := gj_ckM_s (oi := 11) rfl (by decide +kernel)
set_option maxRecDepth 100000 in
theorem ok_253 : gj_okM gj_mt mt_253 := gj_ckM_s (oi := 11) rfl (by decide +kernel)
set_option maxRecDepth 100000 in
theorem ok_254 : gj_okM gj_mt mt_254 := gj_ckM_s (oi := 11) rfl (by decide +kernel)
set_option maxRecDepth 100000 in
theorem ok_255 : gj_okM gj_mt mt_255 := gj_ckM_s (oi := 11) rfl (by decide +kernel)
set_option maxRecDepth 100000 in
theorem ok_256 : gj_okM gj_mt mt_256 := gj_ckM_s (oi := 11) rfl (by decide +kernel)
set_option maxRecDepth 100000 in
theorem ok_257 : gj_okM gj_mt mt_257 := gj_ckM_s (oi := 11) rfl (by decide +kernel)
set_option maxRecDepth 100000 in
theorem ok_258 : gj_okM gj_mt mt_258 := gj_ckM_s (oi := 11) rfl (by decide +kernel)
set_option maxRecDepth 100000 in
theorem ok_259 : gj_okM gj_mt mt_259 := gj_ckM_s (oi := 11) rfl (by decide +kernel)
set_option maxRecDepth 100000 in
theorem ok_260 : gj_okM gj_mt mt_260 := gj_ckM_s (oi := 11) rfl (by decide +kernel)
set_option maxRecDepth 100000 in
theorem ok_261 : gj_okM gj_mt mt_261 := gj_ckM_s (oi := 11) rfl (by decide +kernel)
set_option maxRecDepth 100000 in
theorem ok_262 : gj_okM gj_mt mt_262 := gj_ckM_s (oi := 11) rfl (by decide +kernel)
set_option maxRecDepth 100000 in
theorem ok_263 : gj_okM gj_mt mt_263 := gj_ckM_s (oi := 11) rfl (by decide +kernel)
set_option maxRecDepth 100000 in
theorem ok_264 : gj_okM gj_mt mt_264 := gj_ckM_s (oi := 11) rfl (by decide +kernel)
set_option maxRecDepth 100000 in
theorem ok_265 : gj_okM gj_mt mt_265 := gj_ckM_s (oi := 11) rfl (by decide +kernel)
set_option maxRecDepth 100000 in
theorem ok_266 : gj_okM gj_mt mt_266 := gj_ckM_s (oi := 11) rfl (by decide +kernel)
set_option maxRecDepth 100000 in
theorem ok_267 : gj_okM gj_mt mt_267 := gj_ckM_s (oi := 11) rfl (by decide +kernel)
set_option maxRecDepth 100000 in
theorem ok_268 : gj_okM gj_mt mt_268 := gj_ckM_s (oi := 11) rfl (by decide +kernel)
set_option maxRecDepth 100000 in
theorem ok_269 : gj_okM gj_mt mt_269 := gj_ckM_s (oi := 11) rfl (by decide +kernel)
set_option maxRecDepth 100000 in
theorem ok_270 : gj_okM gj_mt mt_270 := gj_ckM_s (oi := 11) rfl (by decide +kernel)
set_option maxRecDepth 100000 in
theorem ok_271 : gj_okM gj_mt mt_271 := gj_ckM_s (oi := 11) rfl (by decide +kernel)
set_option maxRecDepth 100000 in
theorem ok_272 : gj_okM gj_mt mt_272 := gj_ckM_s (oi := 11) rfl (by decide +kernel)
set_option maxRecDepth 100000 in
theorem ok_273 : gj_okM gj_mt mt_273 := gj_ckM_s (oi := 11) rfl (by decide +kernel)
set_option maxRecDepth 100000 in
theorem ok_274 : gj_okM gj_mt mt_274 := gj_ckM_s (oi := 11) rfl (by decide +kernel)
set_option maxRecDepth 100000 in
theorem ok_275 : gj_okM gj_mt mt_275 := gj_ckM_s (oi := 11) rfl (by decide +kernel)
set_option maxRecDepth 100000 in
theorem ok_276 : gj_okM gj_mt mt_276 := gj_ckM_s (oi := 11) rfl (by decide +kernel)
set_option maxRecDepth 100000 in
theorem ok_277 : gj_okM gj_mt mt_277 := gj_ckM_s (oi := 11) rfl (by decide +kernel)
set_option maxRecDepth 100000 in
theorem ok_278 : gj_okM gj_mt mt_278 := gj_ckM_s (oi := 11) rfl (by decide +kernel)
set_option maxRecDepth 100000 in
theorem ok_279 : gj_okM gj_mt mt_279 := gj_ckM_s (oi := 11) rfl (by decide +kernel)
set_option maxRecDepth 100000 in
theorem ok_280 : gj_okM gj_mt mt_280 := gj_ckM_s (oi := 11) rfl (by decide +kernel)
set_option maxRecDepth 100000 in
theorem ok_281 : gj_okM gj_mt mt_281 := gj_ckM_s (oi := 11) rfl (by decide +kernel)
set_option maxRecDepth 100000 in
theorem ok_282 : gj_okM gj_mt mt_282 := gj_ckM_s (oi := 11) rfl (by decide +kernel)
set_option maxRecDepth 100000 in
theorem ok_283 : gj_okM gj_mt mt_283 := gj_ckM_s (oi := 11) rfl (by decide +kernel)
set_option maxRecDepth 100000 in
theorem ok_284 : gj_okM gj_mt mt_284 := gj_ckM_s (oi := 13) rfl (by decide +kernel)
set_option maxRecDepth 100000 in
theorem ok_285 : gj_okM gj_mt mt_285 := gj_ckM_s (oi := 13) rfl (by decide +kernel)
set_option maxRecDepth 100000 in
theorem ok_286 : gj_okM gj_mt mt_286 := gj_ckM_s (oi := 14) rfl (by decide +kernel)
set_option maxRecDepth 100000 in
theorem ok_287 : gj_okM gj_mt mt_287 := gj_ckM_s (oi := 14) rfl (by decide +kernel)
set_option maxRecDepth 100000 in
theorem ok_288 : gj_okM gj_mt mt_288 := gj_ckM_s (oi := 15) rfl (by decide +kernel)
set_option maxRecDepth 100000 in
theorem ok_289 : gj_okM gj_mt mt_289 := gj_ckM_s (oi := 15) rfl (by decide +kernel)
set_option maxRecDepth 100000 in
theorem ok_290 : gj_okM gj_mt mt_290 := gj_ckM_s (oi := 15) rfl (by decide +kernel)
set_option maxRecDepth 100000 in
theorem ok_291 : gj_okM gj_mt mt_291 := gj_ckM_s (oi := 15) rfl (by decide +kernel)
set_option maxRecDepth 100000 in
theorem ok_292 : gj_okM gj_mt mt_292 := gj_ckM_s (oi := 15) rfl (by decide +kernel)
set_option maxRecDepth 100000 in
theorem ok_293 : gj_okM gj_mt mt_293 := gj_ckM_s (oi := 16) rfl (by decide +kernel)
set_option maxRecDepth 100000 in
theorem ok_294 : gj_okM gj_mt mt_294 := gj_ckM_s (oi := 17) rfl (by decide +kernel)
