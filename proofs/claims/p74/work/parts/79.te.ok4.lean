set_option maxRecDepth 100000 in
theorem zzh_320 : q_okH q_D q_m320 = true := by decide +kernel
set_option maxRecDepth 100000 in
theorem zzc_320 : z_okC q_D q_m320 = true := by decide +kernel
set_option maxRecDepth 100000 in
theorem zzh_321 : q_okH q_D q_m321 = true := by decide +kernel
set_option maxRecDepth 100000 in
theorem zzc_321 : z_okC q_D q_m321 = true := by decide +kernel
set_option maxRecDepth 100000 in
theorem zzh_322 : q_okH q_D q_m322 = true := by decide +kernel
set_option maxRecDepth 100000 in
theorem zzc_322 : z_okC q_D q_m322 = true := by decide +kernel
set_option maxRecDepth 100000 in
theorem zzh_323 : q_okH q_D q_m323 = true := by decide +kernel
set_option maxRecDepth 100000 in
theorem zzc_323 : z_okC q_D q_m323 = true := by decide +kernel
set_option maxRecDepth 100000 in
theorem zzh_324 : q_okH q_D q_m324 = true := by decide +kernel
set_option maxRecDepth 100000 in
theorem zzc_324 : z_okC q_D q_m324 = true := by decide +kernel
set_option maxRecDepth 100000 in
theorem zzh_325 : q_okH q_D q_m325 = true := by decide +kernel
set_option maxRecDepth 100000 in
theorem zzc_325 : z_okC q_D q_m325 = true := by decide +kernel
set_option maxRecDepth 100000 in
theorem zzh_326 : q_okH q_D q_m326 = true := by decide +kernel
set_option maxRecDepth 100000 in
theorem zzc_326 : z_okC q_D q_m326 = true := by decide +kernel
set_option maxRecDepth 100000 in
theorem zzh_327 : q_okH q_D q_m327 = true := by decide +kernel
set_option maxRecDepth 100000 in
theorem zzc_327 : z_okC q_D q_m327 = true := by decide +kernel
set_option maxRecDepth 100000 in
theorem zzh_328 : q_okH q_D q_m328 = true := by decide +kernel
set_option maxRecDepth 100000 in
theorem zzc_328 : z_okC q_D q_m328 = true := by decide +kernel
set_option maxRecDepth 100000 in
theorem zzh_329 : q_okH q_D q_m329 = true := by decide +kernel
set_option maxRecDepth 100000 in
theorem zzc_329 : z_okC q_D q_m329 = true := by decide +kernel
set_option maxRecDepth 100000 in
theorem zzh_330 : q_okH q_D q_m330 = true := by decide +kernel
set_option maxRecDepth 100000 in
theorem zzc_330 : z_okC q_D q_m330 = true := by decide +kernel
set_option maxRecDepth 100000 in
theorem zzh_331 : q_okH q_D q_m331 = true := by decide +kernel
set_option maxRecDepth 100000 in
theorem zzc_331 : z_okC q_D q_m331 = true := by decide +kernel
set_option maxRecDepth 100000 in
theorem zzh_332 : q_okH q_D q_m332 = true := by decide +kernel
set_option maxRecDepth 100000 in
theorem zzc_332 : z_okC q_D q_m332 = true := by decide +kernel
set_option maxRecDepth 100000 in
theorem zzh_333 : q_okH q_D q_m333 = true := by decide +kernel
set_option maxRecDepth 100000 in
theorem zzc_333 : z_okC q_D q_m333 = true := by decide +kernel
set_option maxRecDepth 100000 in
theorem zzh_334 : q_okH q_D q_m334 = true := by decide +kernel
set_option maxRecDepth 100000 in
theorem zzc_334 : z_okC q_D q_m334 = true := by decide +kernel
set_option maxRecDepth 100000 in
theorem zzh_335 : q_okH q_D q_m335 = true := by decide +kernel
set_option maxRecDepth 100000 in
theorem zzc_335 : z_okC q_D q_m335 = true := by decide +kernel
set_option maxRecDepth 100000 in
theorem zzh_336 : q_okH q_D q_m336 = true := by decide +kernel
set_option maxRecDepth 100000 in
theorem zzc_336 : z_okC q_D q_m336 = true := by decide +kernel
set_option maxRecDepth 100000 in
theorem zzh_337 : q_okH q_D q_m337 = true := by decide +kernel
set_option maxRecDepth 100000 in
theorem zzc_337 : z_okC q_D q_m337 = true := by decide +kernel
set_option maxRecDepth 100000 in
theorem zzh_338 : q_okH q_D q_m338 = true := by decide +kernel
set_option maxRecDepth 100000 in
theorem zzc_338 : z_okC q_D q_m338 = true := by decide +kernel
set_option maxRecDepth 100000 in
theorem zzh_339 : q_okH q_D q_m339 = true := by decide +kernel
set_option maxRecDepth 100000 in
theorem zzc_339 : z_okC q_D q_m339 = true := by decide +kernel
set_option maxRecDepth 100000 in
theorem zzh_340 : q_okH q_D q_m340 = true := by decide +kernel
set_option maxRecDepth 100000 in
theorem zzc_340 : z_okC q_D q_m340 = true := by decide +kernel
set_option maxRecDepth 100000 in
theorem zzh_341 : q_okH q_D q_m341 = true := by decide +kernel
set_option maxRecDepth 100000 in
theorem zzc_341 : z_okC q_D q_m341 = true := by decide +kernel
set_option maxRecDepth 100000 in
theorem zzh_342 : q_okH q_D q_m342 = true := by decide +kernel
set_option maxRecDepth 100000 in
theorem zzc_342 : z_okC q_D q_m342 = true := by decide +kernel
set_option maxRecDepth 100000 in
theorem zzh_343 : q_okH q_D q_m343 = true := by decide +kernel
set_option maxRecDepth 100000 in
theorem zzc_343 : z_okC q_D q_m343 = true := by decide +kernel
set_option maxRecDepth 100000 in
theorem zzh_344 : q_okH q_D q_m344 = true := by decide +kernel
set_option maxRecDepth 100000 in
theorem zzc_344 : z_okC q_D q_m344 = true := by decide +kernel
set_option maxRecDepth 100000 in
theorem zzh_345 : q_okH q_D q_m345 = true := by decide +kernel
set_option maxRecDepth 100000 in
theorem zzc_345 : z_okC q_D q_m345 = true := by decide +kernel
set_option maxRecDepth 100000 in
theorem zzh_346 : q_okH q_D q_m346 = true := by decide +kernel
set_option maxRecDepth 100000 in
theorem zzc_346 : z_okC q_D q_m346 = true := by decide +kernel
set_option maxRecDepth 100000 in
theorem zzh_347 : q_okH q_D q_m347 = true := by decide +kernel
set_option maxRecDepth 100000 in
theorem zzc_347 : z_okC q_D q_m347 = true := by decide +kernel
set_option maxRecDepth 100000 in
theorem zzh_348 : q_okH q_D q_m348 = true := by decide +kernel
set_option maxRecDepth 100000 in
theorem zzc_348 : z_okC q_D q_m348 = true := by decide +kernel
set_option maxRecDepth 100000 in
theorem zzh_349 : q_okH q_D q_m349 = true := by decide +kernel
set_option maxRecDepth 100000 in
theorem zzc_349 : z_okC q_D q_m349 = true := by decide +kernel
set_option maxRecDepth 100000 in
theorem zzh_350 : q_okH q_D q_m350 = true := by decide +kernel
set_option maxRecDepth 100000 in
theorem zzc_350 : z_okC q_D q_m350 = true := by decide +kernel
set_option maxRecDepth 100000 in
theorem zzh_351 : q_okH q_D q_m351 = true := by decide +kernel
set_option maxRecDepth 100000 in
theorem zzc_351 : z_okC q_D q_m351 = true := by decide +kernel
set_option maxRecDepth 100000 in
theorem zzh_352 : q_okH q_D q_m352 = true := by decide +kernel
set_option maxRecDepth 100000 in
theorem zzc_352 : z_okC q_D q_m352 = true := by decide +kernel
set_option maxRecDepth 100000 in
theorem zzh_353 : q_okH q_D q_m353 = true := by decide +kernel
set_option maxRecDepth 100000 in
theorem zzc_353 : z_okC q_D q_m353 = true := by decide +kernel
set_option maxRecDepth 100000 in
theorem zzh_354 : q_okH q_D q_m354 = true := by decide +kernel
set_option maxRecDepth 100000 in
theorem zzc_354 : z_okC q_D q_m354 = true := by decide +kernel
set_option maxRecDepth 100000 in
theorem zzh_355 : q_okH q_D q_m355 = true := by decide +kernel
set_option maxRecDepth 100000 in
theorem zzc_355 : z_okC q_D q_m355 = true := by decide +kernel
set_option maxRecDepth 100000 in
theorem zzh_356 : q_okH q_D q_m356 = true := by decide +kernel
set_option maxRecDepth 100000 in
theorem zzc_356 : z_okC q_D q_m356 = true := by decide +kernel
set_option maxRecDepth 100000 in
theorem zzh_357 : q_okH q_D q_m357 = true := by decide +kernel
set_option maxRecDepth 100000 in
theorem zzc_357 : z_okC q_D q_m357 = true := by decide +kernel
set_option maxRecDepth 100000 in
theorem zzh_358 : q_okH q_D q_m358 = true := by decide +kernel
set_option maxRecDepth 100000 in
theorem zzc_358 : z_okC q_D q_m358 = true := by decide +kernel
set_option maxRecDepth 100000 in
theorem zzh_359 : q_okH q_D q_m359 = true := by decide +kernel
set_option maxRecDepth 100000 in
theorem zzc_359 : z_okC q_D q_m359 = true := by decide +kernel
set_option maxRecDepth 100000 in
theorem zzh_360 : q_okH q_D q_m360 = true := by decide +kernel
set_option maxRecDepth 100000 in
theorem zzc_360 : z_okC q_D q_m360 = true := by decide +kernel
set_option maxRecDepth 100000 in
theorem zzh_361 : q_okH q_D q_m361 = true := by decide +kernel
set_option maxRecDepth 100000 in
theorem zzc_361 : z_okC q_D q_m361 = true := by decide +kernel
set_option maxRecDepth 100000 in
theorem zzh_362 : q_okH q_D q_m362 = true := by decide +kernel
set_option maxRecDepth 100000 in
theorem zzc_362 : z_okC q_D q_m362 = true := by decide +kernel
set_option maxRecDepth 100000 in
theorem zzh_363 : q_okH q_D q_m363 = true := by decide +kernel
set_option maxRecDepth 100000 in
theorem zzc_363 : z_okC q_D q_m363 = true := by decide +kernel
set_option maxRecDepth 100000 in
theorem zzh_364 : q_okH q_D q_m364 = true := by decide +kernel
set_option maxRecDepth 100000 in
theorem zzc_364 : z_okC q_D q_m364 = true := by decide +kernel
set_option maxRecDepth 100000 in
theorem zzh_365 : q_okH q_D q_m365 = true := by decide +kernel
set_option maxRecDepth 100000 in
theorem zzc_365 : z_okC q_D q_m365 = true := by decide +kernel
set_option maxRecDepth 100000 in
theorem zzh_366 : q_okH q_D q_m366 = true := by decide +kernel
set_option maxRecDepth 100000 in
theorem zzc_366 : z_okC q_D q_m366 = true := by decide +kernel
set_option maxRecDepth 100000 in
theorem zzh_367 : q_okH q_D q_m367 = true := by decide +kernel
set_option maxRecDepth 100000 in
theorem zzc_367 : z_okC q_D q_m367 = true := by decide +kernel
set_option maxRecDepth 100000 in
theorem zzh_368 : q_okH q_D q_m368 = true := by decide +kernel
set_option maxRecDepth 100000 in
theorem zzc_368 : z_okC q_D q_m368 = true := by decide +kernel
set_option maxRecDepth 100000 in
theorem zzh_369 : q_okH q_D q_m369 = true := by decide +kernel
set_option maxRecDepth 100000 in
theorem zzc_369 : z_okC q_D q_m369 = true := by decide +kernel
