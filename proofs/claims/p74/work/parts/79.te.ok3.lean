set_option maxRecDepth 100000 in
theorem zzh_240 : q_okH q_D q_m240 = true := by decide +kernel
set_option maxRecDepth 100000 in
theorem zzc_240 : z_okC q_D q_m240 = true := by decide +kernel
set_option maxRecDepth 100000 in
theorem zzh_241 : q_okH q_D q_m241 = true := by decide +kernel
set_option maxRecDepth 100000 in
theorem zzc_241 : z_okC q_D q_m241 = true := by decide +kernel
set_option maxRecDepth 100000 in
theorem zzh_242 : q_okH q_D q_m242 = true := by decide +kernel
set_option maxRecDepth 100000 in
theorem zzc_242 : z_okC q_D q_m242 = true := by decide +kernel
set_option maxRecDepth 100000 in
theorem zzh_243 : q_okH q_D q_m243 = true := by decide +kernel
set_option maxRecDepth 100000 in
theorem zzc_243 : z_okC q_D q_m243 = true := by decide +kernel
set_option maxRecDepth 100000 in
theorem zzh_244 : q_okH q_D q_m244 = true := by decide +kernel
set_option maxRecDepth 100000 in
theorem zzc_244 : z_okC q_D q_m244 = true := by decide +kernel
set_option maxRecDepth 100000 in
theorem zzh_245 : q_okH q_D q_m245 = true := by decide +kernel
set_option maxRecDepth 100000 in
theorem zzc_245 : z_okC q_D q_m245 = true := by decide +kernel
set_option maxRecDepth 100000 in
theorem zzh_246 : q_okH q_D q_m246 = true := by decide +kernel
set_option maxRecDepth 100000 in
theorem zzc_246 : z_okC q_D q_m246 = true := by decide +kernel
set_option maxRecDepth 100000 in
theorem zzh_247 : q_okH q_D q_m247 = true := by decide +kernel
set_option maxRecDepth 100000 in
theorem zzc_247 : z_okC q_D q_m247 = true := by decide +kernel
set_option maxRecDepth 100000 in
theorem zzh_248 : q_okH q_D q_m248 = true := by decide +kernel
set_option maxRecDepth 100000 in
theorem zzc_248 : z_okC q_D q_m248 = true := by decide +kernel
set_option maxRecDepth 100000 in
theorem zzh_249 : q_okH q_D q_m249 = true := by decide +kernel
set_option maxRecDepth 100000 in
theorem zzc_249 : z_okC q_D q_m249 = true := by decide +kernel
set_option maxRecDepth 100000 in
theorem zzh_250 : q_okH q_D q_m250 = true := by decide +kernel
set_option maxRecDepth 100000 in
theorem zzc_250 : z_okC q_D q_m250 = true := by decide +kernel
set_option maxRecDepth 100000 in
theorem zzh_251 : q_okH q_D q_m251 = true := by decide +kernel
set_option maxRecDepth 100000 in
theorem zzc_251 : z_okC q_D q_m251 = true := by decide +kernel
set_option maxRecDepth 100000 in
theorem zzh_252 : q_okH q_D q_m252 = true := by decide +kernel
set_option maxRecDepth 100000 in
theorem zzc_252 : z_okC q_D q_m252 = true := by decide +kernel
set_option maxRecDepth 100000 in
theorem zzh_253 : q_okH q_D q_m253 = true := by decide +kernel
set_option maxRecDepth 100000 in
theorem zzc_253 : z_okC q_D q_m253 = true := by decide +kernel
set_option maxRecDepth 100000 in
theorem zzh_254 : q_okH q_D q_m254 = true := by decide +kernel
set_option maxRecDepth 100000 in
theorem zzc_254 : z_okC q_D q_m254 = true := by decide +kernel
set_option maxRecDepth 100000 in
theorem zzh_255 : q_okH q_D q_m255 = true := by decide +kernel
set_option maxRecDepth 100000 in
theorem zzc_255 : z_okC q_D q_m255 = true := by decide +kernel
set_option maxRecDepth 100000 in
theorem zzh_256 : q_okH q_D q_m256 = true := by decide +kernel
set_option maxRecDepth 100000 in
theorem zzc_256 : z_okC q_D q_m256 = true := by decide +kernel
set_option maxRecDepth 100000 in
theorem zzh_257 : q_okH q_D q_m257 = true := by decide +kernel
set_option maxRecDepth 100000 in
theorem zzc_257 : z_okC q_D q_m257 = true := by decide +kernel
set_option maxRecDepth 100000 in
theorem zzh_258 : q_okH q_D q_m258 = true := by decide +kernel
set_option maxRecDepth 100000 in
theorem zzc_258 : z_okC q_D q_m258 = true := by decide +kernel
set_option maxRecDepth 100000 in
theorem zzh_259 : q_okH q_D q_m259 = true := by decide +kernel
set_option maxRecDepth 100000 in
theorem zzc_259 : z_okC q_D q_m259 = true := by decide +kernel
set_option maxRecDepth 100000 in
theorem zzh_260 : q_okH q_D q_m260 = true := by decide +kernel
set_option maxRecDepth 100000 in
theorem zzc_260 : z_okC q_D q_m260 = true := by decide +kernel
set_option maxRecDepth 100000 in
theorem zzh_261 : q_okH q_D q_m261 = true := by decide +kernel
set_option maxRecDepth 100000 in
theorem zzc_261 : z_okC q_D q_m261 = true := by decide +kernel
set_option maxRecDepth 100000 in
theorem zzh_262 : q_okH q_D q_m262 = true := by decide +kernel
set_option maxRecDepth 100000 in
theorem zzc_262 : z_okC q_D q_m262 = true := by decide +kernel
set_option maxRecDepth 100000 in
theorem zzh_263 : q_okH q_D q_m263 = true := by decide +kernel
set_option maxRecDepth 100000 in
theorem zzc_263 : z_okC q_D q_m263 = true := by decide +kernel
set_option maxRecDepth 100000 in
theorem zzh_264 : q_okH q_D q_m264 = true := by decide +kernel
set_option maxRecDepth 100000 in
theorem zzc_264 : z_okC q_D q_m264 = true := by decide +kernel
set_option maxRecDepth 100000 in
theorem zzh_265 : q_okH q_D q_m265 = true := by decide +kernel
set_option maxRecDepth 100000 in
theorem zzc_265 : z_okC q_D q_m265 = true := by decide +kernel
set_option maxRecDepth 100000 in
theorem zzh_266 : q_okH q_D q_m266 = true := by decide +kernel
set_option maxRecDepth 100000 in
theorem zzc_266 : z_okC q_D q_m266 = true := by decide +kernel
set_option maxRecDepth 100000 in
theorem zzh_267 : q_okH q_D q_m267 = true := by decide +kernel
set_option maxRecDepth 100000 in
theorem zzc_267 : z_okC q_D q_m267 = true := by decide +kernel
set_option maxRecDepth 100000 in
theorem zzh_268 : q_okH q_D q_m268 = true := by decide +kernel
set_option maxRecDepth 100000 in
theorem zzc_268 : z_okC q_D q_m268 = true := by decide +kernel
set_option maxRecDepth 100000 in
theorem zzh_269 : q_okH q_D q_m269 = true := by decide +kernel
set_option maxRecDepth 100000 in
theorem zzc_269 : z_okC q_D q_m269 = true := by decide +kernel
set_option maxRecDepth 100000 in
theorem zzh_270 : q_okH q_D q_m270 = true := by decide +kernel
set_option maxRecDepth 100000 in
theorem zzc_270 : z_okC q_D q_m270 = true := by decide +kernel
set_option maxRecDepth 100000 in
theorem zzh_271 : q_okH q_D q_m271 = true := by decide +kernel
set_option maxRecDepth 100000 in
theorem zzc_271 : z_okC q_D q_m271 = true := by decide +kernel
set_option maxRecDepth 100000 in
theorem zzh_272 : q_okH q_D q_m272 = true := by decide +kernel
set_option maxRecDepth 100000 in
theorem zzc_272 : z_okC q_D q_m272 = true := by decide +kernel
set_option maxRecDepth 100000 in
theorem zzh_273 : q_okH q_D q_m273 = true := by decide +kernel
set_option maxRecDepth 100000 in
theorem zzc_273 : z_okC q_D q_m273 = true := by decide +kernel
set_option maxRecDepth 100000 in
theorem zzh_274 : q_okH q_D q_m274 = true := by decide +kernel
set_option maxRecDepth 100000 in
theorem zzc_274 : z_okC q_D q_m274 = true := by decide +kernel
set_option maxRecDepth 100000 in
theorem zzh_275 : q_okH q_D q_m275 = true := by decide +kernel
set_option maxRecDepth 100000 in
theorem zzc_275 : z_okC q_D q_m275 = true := by decide +kernel
set_option maxRecDepth 100000 in
theorem zzh_276 : q_okH q_D q_m276 = true := by decide +kernel
set_option maxRecDepth 100000 in
theorem zzc_276 : z_okC q_D q_m276 = true := by decide +kernel
set_option maxRecDepth 100000 in
theorem zzh_277 : q_okH q_D q_m277 = true := by decide +kernel
set_option maxRecDepth 100000 in
theorem zzc_277 : z_okC q_D q_m277 = true := by decide +kernel
set_option maxRecDepth 100000 in
theorem zzh_278 : q_okH q_D q_m278 = true := by decide +kernel
set_option maxRecDepth 100000 in
theorem zzc_278 : z_okC q_D q_m278 = true := by decide +kernel
set_option maxRecDepth 100000 in
theorem zzh_279 : q_okH q_D q_m279 = true := by decide +kernel
set_option maxRecDepth 100000 in
theorem zzc_279 : z_okC q_D q_m279 = true := by decide +kernel
set_option maxRecDepth 100000 in
theorem zzh_280 : q_okH q_D q_m280 = true := by decide +kernel
set_option maxRecDepth 100000 in
theorem zzc_280 : z_okC q_D q_m280 = true := by decide +kernel
set_option maxRecDepth 100000 in
theorem zzh_281 : q_okH q_D q_m281 = true := by decide +kernel
set_option maxRecDepth 100000 in
theorem zzc_281 : z_okC q_D q_m281 = true := by decide +kernel
set_option maxRecDepth 100000 in
theorem zzh_282 : q_okH q_D q_m282 = true := by decide +kernel
set_option maxRecDepth 100000 in
theorem zzc_282 : z_okC q_D q_m282 = true := by decide +kernel
set_option maxRecDepth 100000 in
theorem zzh_283 : q_okH q_D q_m283 = true := by decide +kernel
set_option maxRecDepth 100000 in
theorem zzc_283 : z_okC q_D q_m283 = true := by decide +kernel
set_option maxRecDepth 100000 in
theorem zzh_284 : q_okH q_D q_m284 = true := by decide +kernel
set_option maxRecDepth 100000 in
theorem zzc_284 : z_okC q_D q_m284 = true := by decide +kernel
set_option maxRecDepth 100000 in
theorem zzh_285 : q_okH q_D q_m285 = true := by decide +kernel
set_option maxRecDepth 100000 in
theorem zzc_285 : z_okC q_D q_m285 = true := by decide +kernel
set_option maxRecDepth 100000 in
theorem zzh_286 : q_okH q_D q_m286 = true := by decide +kernel
set_option maxRecDepth 100000 in
theorem zzc_286 : z_okC q_D q_m286 = true := by decide +kernel
set_option maxRecDepth 100000 in
theorem zzh_287 : q_okH q_D q_m287 = true := by decide +kernel
set_option maxRecDepth 100000 in
theorem zzc_287 : z_okC q_D q_m287 = true := by decide +kernel
set_option maxRecDepth 100000 in
theorem zzh_288 : q_okH q_D q_m288 = true := by decide +kernel
set_option maxRecDepth 100000 in
theorem zzc_288 : z_okC q_D q_m288 = true := by decide +kernel
set_option maxRecDepth 100000 in
theorem zzh_289 : q_okH q_D q_m289 = true := by decide +kernel
set_option maxRecDepth 100000 in
theorem zzc_289 : z_okC q_D q_m289 = true := by decide +kernel
set_option maxRecDepth 100000 in
theorem zzh_290 : q_okH q_D q_m290 = true := by decide +kernel
set_option maxRecDepth 100000 in
theorem zzc_290 : z_okC q_D q_m290 = true := by decide +kernel
set_option maxRecDepth 100000 in
theorem zzh_291 : q_okH q_D q_m291 = true := by decide +kernel
set_option maxRecDepth 100000 in
theorem zzc_291 : z_okC q_D q_m291 = true := by decide +kernel
set_option maxRecDepth 100000 in
theorem zzh_292 : q_okH q_D q_m292 = true := by decide +kernel
set_option maxRecDepth 100000 in
theorem zzc_292 : z_okC q_D q_m292 = true := by decide +kernel
set_option maxRecDepth 100000 in
theorem zzh_293 : q_okH q_D q_m293 = true := by decide +kernel
set_option maxRecDepth 100000 in
theorem zzc_293 : z_okC q_D q_m293 = true := by decide +kernel
set_option maxRecDepth 100000 in
theorem zzh_294 : q_okH q_D q_m294 = true := by decide +kernel
set_option maxRecDepth 100000 in
theorem zzc_294 : z_okC q_D q_m294 = true := by decide +kernel
set_option maxRecDepth 100000 in
theorem zzh_295 : q_okH q_D q_m295 = true := by decide +kernel
set_option maxRecDepth 100000 in
theorem zzc_295 : z_okC q_D q_m295 = true := by decide +kernel
set_option maxRecDepth 100000 in
theorem zzh_296 : q_okH q_D q_m296 = true := by decide +kernel
set_option maxRecDepth 100000 in
theorem zzc_296 : z_okC q_D q_m296 = true := by decide +kernel
set_option maxRecDepth 100000 in
theorem zzh_297 : q_okH q_D q_m297 = true := by decide +kernel
set_option maxRecDepth 100000 in
theorem zzc_297 : z_okC q_D q_m297 = true := by decide +kernel
set_option maxRecDepth 100000 in
theorem zzh_298 : q_okH q_D q_m298 = true := by decide +kernel
set_option maxRecDepth 100000 in
theorem zzc_298 : z_okC q_D q_m298 = true := by decide +kernel
set_option maxRecDepth 100000 in
theorem zzh_299 : q_okH q_D q_m299 = true := by decide +kernel
set_option maxRecDepth 100000 in
theorem zzc_299 : z_okC q_D q_m299 = true := by decide +kernel
set_option maxRecDepth 100000 in
theorem zzh_300 : q_okH q_D q_m300 = true := by decide +kernel
set_option maxRecDepth 100000 in
theorem zzc_300 : z_okC q_D q_m300 = true := by decide +kernel
set_option maxRecDepth 100000 in
theorem zzh_301 : q_okH q_D q_m301 = true := by decide +kernel
set_option maxRecDepth 100000 in
theorem zzc_301 : z_okC q_D q_m301 = true := by decide +kernel
set_option maxRecDepth 100000 in
theorem zzh_302 : q_okH q_D q_m302 = true := by decide +kernel
set_option maxRecDepth 100000 in
theorem zzc_302 : z_okC q_D q_m302 = true := by decide +kernel
set_option maxRecDepth 100000 in
theorem zzh_303 : q_okH q_D q_m303 = true := by decide +kernel
set_option maxRecDepth 100000 in
theorem zzc_303 : z_okC q_D q_m303 = true := by decide +kernel
set_option maxRecDepth 100000 in
theorem zzh_304 : q_okH q_D q_m304 = true := by decide +kernel
set_option maxRecDepth 100000 in
theorem zzc_304 : z_okC q_D q_m304 = true := by decide +kernel
set_option maxRecDepth 100000 in
theorem zzh_305 : q_okH q_D q_m305 = true := by decide +kernel
set_option maxRecDepth 100000 in
theorem zzc_305 : z_okC q_D q_m305 = true := by decide +kernel
set_option maxRecDepth 100000 in
theorem zzh_306 : q_okH q_D q_m306 = true := by decide +kernel
set_option maxRecDepth 100000 in
theorem zzc_306 : z_okC q_D q_m306 = true := by decide +kernel
set_option maxRecDepth 100000 in
theorem zzh_307 : q_okH q_D q_m307 = true := by decide +kernel
set_option maxRecDepth 100000 in
theorem zzc_307 : z_okC q_D q_m307 = true := by decide +kernel
set_option maxRecDepth 100000 in
theorem zzh_308 : q_okH q_D q_m308 = true := by decide +kernel
set_option maxRecDepth 100000 in
theorem zzc_308 : z_okC q_D q_m308 = true := by decide +kernel
set_option maxRecDepth 100000 in
theorem zzh_309 : q_okH q_D q_m309 = true := by decide +kernel
set_option maxRecDepth 100000 in
theorem zzc_309 : z_okC q_D q_m309 = true := by decide +kernel
set_option maxRecDepth 100000 in
theorem zzh_310 : q_okH q_D q_m310 = true := by decide +kernel
set_option maxRecDepth 100000 in
theorem zzc_310 : z_okC q_D q_m310 = true := by decide +kernel
set_option maxRecDepth 100000 in
theorem zzh_311 : q_okH q_D q_m311 = true := by decide +kernel
set_option maxRecDepth 100000 in
theorem zzc_311 : z_okC q_D q_m311 = true := by decide +kernel
set_option maxRecDepth 100000 in
theorem zzh_312 : q_okH q_D q_m312 = true := by decide +kernel
set_option maxRecDepth 100000 in
theorem zzc_312 : z_okC q_D q_m312 = true := by decide +kernel
set_option maxRecDepth 100000 in
theorem zzh_313 : q_okH q_D q_m313 = true := by decide +kernel
set_option maxRecDepth 100000 in
theorem zzc_313 : z_okC q_D q_m313 = true := by decide +kernel
set_option maxRecDepth 100000 in
theorem zzh_314 : q_okH q_D q_m314 = true := by decide +kernel
set_option maxRecDepth 100000 in
theorem zzc_314 : z_okC q_D q_m314 = true := by decide +kernel
set_option maxRecDepth 100000 in
theorem zzh_315 : q_okH q_D q_m315 = true := by decide +kernel
set_option maxRecDepth 100000 in
theorem zzc_315 : z_okC q_D q_m315 = true := by decide +kernel
set_option maxRecDepth 100000 in
theorem zzh_316 : q_okH q_D q_m316 = true := by decide +kernel
set_option maxRecDepth 100000 in
theorem zzc_316 : z_okC q_D q_m316 = true := by decide +kernel
set_option maxRecDepth 100000 in
theorem zzh_317 : q_okH q_D q_m317 = true := by decide +kernel
set_option maxRecDepth 100000 in
theorem zzc_317 : z_okC q_D q_m317 = true := by decide +kernel
set_option maxRecDepth 100000 in
theorem zzh_318 : q_okH q_D q_m318 = true := by decide +kernel
set_option maxRecDepth 100000 in
theorem zzc_318 : z_okC q_D q_m318 = true := by decide +kernel
set_option maxRecDepth 100000 in
theorem zzh_319 : q_okH q_D q_m319 = true := by decide +kernel
set_option maxRecDepth 100000 in
theorem zzc_319 : z_okC q_D q_m319 = true := by decide +kernel
