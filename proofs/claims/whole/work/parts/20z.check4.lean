theorem ck_311_0 : cl_311_0.all (fun q => mchk 311 q.1 q.2) = true := by decide +kernel
theorem cdok_311 (pc : Nat) (I : mI) : cd_311 pc = some I → mchk 311 pc I = true := (fun h => chunk_ok ck_311_0 h)
theorem ck_312_0 : cl_312_0.all (fun q => mchk 312 q.1 q.2) = true := by decide +kernel
theorem ck_312_1 : cl_312_1.all (fun q => mchk 312 q.1 q.2) = true := by decide +kernel
theorem cdok_312 (pc : Nat) (I : mI) : cd_312 pc = some I → mchk 312 pc I = true := (fun h => bif_ok h (fun h => chunk_ok ck_312_0 h) (fun h => chunk_ok ck_312_1 h))
theorem ck_313_0 : cl_313_0.all (fun q => mchk 313 q.1 q.2) = true := by decide +kernel
theorem cdok_313 (pc : Nat) (I : mI) : cd_313 pc = some I → mchk 313 pc I = true := (fun h => chunk_ok ck_313_0 h)
theorem ck_314_0 : cl_314_0.all (fun q => mchk 314 q.1 q.2) = true := by decide +kernel
theorem ck_314_1 : cl_314_1.all (fun q => mchk 314 q.1 q.2) = true := by decide +kernel
theorem ck_314_2 : cl_314_2.all (fun q => mchk 314 q.1 q.2) = true := by decide +kernel
theorem ck_314_3 : cl_314_3.all (fun q => mchk 314 q.1 q.2) = true := by decide +kernel
theorem cdok_314 (pc : Nat) (I : mI) : cd_314 pc = some I → mchk 314 pc I = true := (fun h => bif_ok h (fun h => bif_ok h (fun h => chunk_ok ck_314_0 h) (fun h => chunk_ok ck_314_1 h)) (fun h => bif_ok h (fun h => chunk_ok ck_314_2 h) (fun h => chunk_ok ck_314_3 h)))
theorem ck_315_0 : cl_315_0.all (fun q => mchk 315 q.1 q.2) = true := by decide +kernel
theorem ck_315_1 : cl_315_1.all (fun q => mchk 315 q.1 q.2) = true := by decide +kernel
theorem ck_315_2 : cl_315_2.all (fun q => mchk 315 q.1 q.2) = true := by decide +kernel
theorem ck_315_3 : cl_315_3.all (fun q => mchk 315 q.1 q.2) = true := by decide +kernel
theorem ck_315_4 : cl_315_4.all (fun q => mchk 315 q.1 q.2) = true := by decide +kernel
theorem cdok_315 (pc : Nat) (I : mI) : cd_315 pc = some I → mchk 315 pc I = true := (fun h => bif_ok h (fun h => bif_ok h (fun h => chunk_ok ck_315_0 h) (fun h => chunk_ok ck_315_1 h)) (fun h => bif_ok h (fun h => chunk_ok ck_315_2 h) (fun h => bif_ok h (fun h => chunk_ok ck_315_3 h) (fun h => chunk_ok ck_315_4 h))))
theorem ck_316_0 : cl_316_0.all (fun q => mchk 316 q.1 q.2) = true := by decide +kernel
theorem ck_316_1 : cl_316_1.all (fun q => mchk 316 q.1 q.2) = true := by decide +kernel
theorem ck_316_2 : cl_316_2.all (fun q => mchk 316 q.1 q.2) = true := by decide +kernel
theorem cdok_316 (pc : Nat) (I : mI) : cd_316 pc = some I → mchk 316 pc I = true := (fun h => bif_ok h (fun h => chunk_ok ck_316_0 h) (fun h => bif_ok h (fun h => chunk_ok ck_316_1 h) (fun h => chunk_ok ck_316_2 h)))
theorem ck_317_0 : cl_317_0.all (fun q => mchk 317 q.1 q.2) = true := by decide +kernel
theorem ck_317_1 : cl_317_1.all (fun q => mchk 317 q.1 q.2) = true := by decide +kernel
theorem cdok_317 (pc : Nat) (I : mI) : cd_317 pc = some I → mchk 317 pc I = true := (fun h => bif_ok h (fun h => chunk_ok ck_317_0 h) (fun h => chunk_ok ck_317_1 h))
theorem ck_318_0 : cl_318_0.all (fun q => mchk 318 q.1 q.2) = true := by decide +kernel
theorem ck_318_1 : cl_318_1.all (fun q => mchk 318 q.1 q.2) = true := by decide +kernel
theorem cdok_318 (pc : Nat) (I : mI) : cd_318 pc = some I → mchk 318 pc I = true := (fun h => bif_ok h (fun h => chunk_ok ck_318_0 h) (fun h => chunk_ok ck_318_1 h))
theorem ck_319_0 : cl_319_0.all (fun q => mchk 319 q.1 q.2) = true := by decide +kernel
theorem cdok_319 (pc : Nat) (I : mI) : cd_319 pc = some I → mchk 319 pc I = true := (fun h => chunk_ok ck_319_0 h)
theorem ck_320_0 : cl_320_0.all (fun q => mchk 320 q.1 q.2) = true := by decide +kernel
theorem cdok_320 (pc : Nat) (I : mI) : cd_320 pc = some I → mchk 320 pc I = true := (fun h => chunk_ok ck_320_0 h)
theorem ck_321_0 : cl_321_0.all (fun q => mchk 321 q.1 q.2) = true := by decide +kernel
theorem cdok_321 (pc : Nat) (I : mI) : cd_321 pc = some I → mchk 321 pc I = true := (fun h => chunk_ok ck_321_0 h)
theorem ck_322_0 : cl_322_0.all (fun q => mchk 322 q.1 q.2) = true := by decide +kernel
theorem cdok_322 (pc : Nat) (I : mI) : cd_322 pc = some I → mchk 322 pc I = true := (fun h => chunk_ok ck_322_0 h)
theorem ck_323_0 : cl_323_0.all (fun q => mchk 323 q.1 q.2) = true := by decide +kernel
theorem cdok_323 (pc : Nat) (I : mI) : cd_323 pc = some I → mchk 323 pc I = true := (fun h => chunk_ok ck_323_0 h)
theorem ck_324_0 : cl_324_0.all (fun q => mchk 324 q.1 q.2) = true := by decide +kernel
theorem cdok_324 (pc : Nat) (I : mI) : cd_324 pc = some I → mchk 324 pc I = true := (fun h => chunk_ok ck_324_0 h)
theorem ck_325_0 : cl_325_0.all (fun q => mchk 325 q.1 q.2) = true := by decide +kernel
theorem cdok_325 (pc : Nat) (I : mI) : cd_325 pc = some I → mchk 325 pc I = true := (fun h => chunk_ok ck_325_0 h)
theorem ck_326_0 : cl_326_0.all (fun q => mchk 326 q.1 q.2) = true := by decide +kernel
theorem cdok_326 (pc : Nat) (I : mI) : cd_326 pc = some I → mchk 326 pc I = true := (fun h => chunk_ok ck_326_0 h)
theorem ck_327_0 : cl_327_0.all (fun q => mchk 327 q.1 q.2) = true := by decide +kernel
theorem ck_327_1 : cl_327_1.all (fun q => mchk 327 q.1 q.2) = true := by decide +kernel
theorem ck_327_2 : cl_327_2.all (fun q => mchk 327 q.1 q.2) = true := by decide +kernel
theorem ck_327_3 : cl_327_3.all (fun q => mchk 327 q.1 q.2) = true := by decide +kernel
theorem ck_327_4 : cl_327_4.all (fun q => mchk 327 q.1 q.2) = true := by decide +kernel
theorem ck_327_5 : cl_327_5.all (fun q => mchk 327 q.1 q.2) = true := by decide +kernel
theorem ck_327_6 : cl_327_6.all (fun q => mchk 327 q.1 q.2) = true := by decide +kernel
theorem cdok_327 (pc : Nat) (I : mI) : cd_327 pc = some I → mchk 327 pc I = true := (fun h => bif_ok h (fun h => bif_ok h (fun h => chunk_ok ck_327_0 h) (fun h => bif_ok h (fun h => chunk_ok ck_327_1 h) (fun h => chunk_ok ck_327_2 h))) (fun h => bif_ok h (fun h => bif_ok h (fun h => chunk_ok ck_327_3 h) (fun h => chunk_ok ck_327_4 h)) (fun h => bif_ok h (fun h => chunk_ok ck_327_5 h) (fun h => chunk_ok ck_327_6 h))))
theorem ck_328_0 : cl_328_0.all (fun q => mchk 328 q.1 q.2) = true := by decide +kernel
theorem ck_328_1 : cl_328_1.all (fun q => mchk 328 q.1 q.2) = true := by decide +kernel
theorem ck_328_2 : cl_328_2.all (fun q => mchk 328 q.1 q.2) = true := by decide +kernel
theorem ck_328_3 : cl_328_3.all (fun q => mchk 328 q.1 q.2) = true := by decide +kernel
theorem ck_328_4 : cl_328_4.all (fun q => mchk 328 q.1 q.2) = true := by decide +kernel
theorem ck_328_5 : cl_328_5.all (fun q => mchk 328 q.1 q.2) = true := by decide +kernel
theorem cdok_328 (pc : Nat) (I : mI) : cd_328 pc = some I → mchk 328 pc I = true := (fun h => bif_ok h (fun h => bif_ok h (fun h => chunk_ok ck_328_0 h) (fun h => bif_ok h (fun h => chunk_ok ck_328_1 h) (fun h => chunk_ok ck_328_2 h))) (fun h => bif_ok h (fun h => chunk_ok ck_328_3 h) (fun h => bif_ok h (fun h => chunk_ok ck_328_4 h) (fun h => chunk_ok ck_328_5 h))))
theorem ck_329_0 : cl_329_0.all (fun q => mchk 329 q.1 q.2) = true := by decide +kernel
theorem ck_329_1 : cl_329_1.all (fun q => mchk 329 q.1 q.2) = true := by decide +kernel
theorem ck_329_2 : cl_329_2.all (fun q => mchk 329 q.1 q.2) = true := by decide +kernel
theorem ck_329_3 : cl_329_3.all (fun q => mchk 329 q.1 q.2) = true := by decide +kernel
theorem ck_329_4 : cl_329_4.all (fun q => mchk 329 q.1 q.2) = true := by decide +kernel
theorem cdok_329 (pc : Nat) (I : mI) : cd_329 pc = some I → mchk 329 pc I = true := (fun h => bif_ok h (fun h => bif_ok h (fun h => chunk_ok ck_329_0 h) (fun h => chunk_ok ck_329_1 h)) (fun h => bif_ok h (fun h => chunk_ok ck_329_2 h) (fun h => bif_ok h (fun h => chunk_ok ck_329_3 h) (fun h => chunk_ok ck_329_4 h))))
theorem ck_330_0 : cl_330_0.all (fun q => mchk 330 q.1 q.2) = true := by decide +kernel
theorem ck_330_1 : cl_330_1.all (fun q => mchk 330 q.1 q.2) = true := by decide +kernel
theorem ck_330_2 : cl_330_2.all (fun q => mchk 330 q.1 q.2) = true := by decide +kernel
theorem ck_330_3 : cl_330_3.all (fun q => mchk 330 q.1 q.2) = true := by decide +kernel
theorem cdok_330 (pc : Nat) (I : mI) : cd_330 pc = some I → mchk 330 pc I = true := (fun h => bif_ok h (fun h => bif_ok h (fun h => chunk_ok ck_330_0 h) (fun h => chunk_ok ck_330_1 h)) (fun h => bif_ok h (fun h => chunk_ok ck_330_2 h) (fun h => chunk_ok ck_330_3 h)))
theorem ck_331_0 : cl_331_0.all (fun q => mchk 331 q.1 q.2) = true := by decide +kernel
theorem ck_331_1 : cl_331_1.all (fun q => mchk 331 q.1 q.2) = true := by decide +kernel
theorem ck_331_2 : cl_331_2.all (fun q => mchk 331 q.1 q.2) = true := by decide +kernel
theorem ck_331_3 : cl_331_3.all (fun q => mchk 331 q.1 q.2) = true := by decide +kernel
theorem cdok_331 (pc : Nat) (I : mI) : cd_331 pc = some I → mchk 331 pc I = true := (fun h => bif_ok h (fun h => bif_ok h (fun h => chunk_ok ck_331_0 h) (fun h => chunk_ok ck_331_1 h)) (fun h => bif_ok h (fun h => chunk_ok ck_331_2 h) (fun h => chunk_ok ck_331_3 h)))
theorem ck_332_0 : cl_332_0.all (fun q => mchk 332 q.1 q.2) = true := by decide +kernel
theorem ck_332_1 : cl_332_1.all (fun q => mchk 332 q.1 q.2) = true := by decide +kernel
theorem ck_332_2 : cl_332_2.all (fun q => mchk 332 q.1 q.2) = true := by decide +kernel
theorem cdok_332 (pc : Nat) (I : mI) : cd_332 pc = some I → mchk 332 pc I = true := (fun h => bif_ok h (fun h => chunk_ok ck_332_0 h) (fun h => bif_ok h (fun h => chunk_ok ck_332_1 h) (fun h => chunk_ok ck_332_2 h)))
theorem ck_333_0 : cl_333_0.all (fun q => mchk 333 q.1 q.2) = true := by decide +kernel
theorem cdok_333 (pc : Nat) (I : mI) : cd_333 pc = some I → mchk 333 pc I = true := (fun h => chunk_ok ck_333_0 h)
theorem ck_334_0 : cl_334_0.all (fun q => mchk 334 q.1 q.2) = true := by decide +kernel
theorem ck_334_1 : cl_334_1.all (fun q => mchk 334 q.1 q.2) = true := by decide +kernel
theorem cdok_334 (pc : Nat) (I : mI) : cd_334 pc = some I → mchk 334 pc I = true := (fun h => bif_ok h (fun h => chunk_ok ck_334_0 h) (fun h => chunk_ok ck_334_1 h))
theorem ck_335_0 : cl_335_0.all (fun q => mchk 335 q.1 q.2) = true := by decide +kernel
theorem ck_335_1 : cl_335_1.all (fun q => mchk 335 q.1 q.2) = true := by decide +kernel
theorem ck_335_2 : cl_335_2.all (fun q => mchk 335 q.1 q.2) = true := by decide +kernel
theorem cdok_335 (pc : Nat) (I : mI) : cd_335 pc = some I → mchk 335 pc I = true := (fun h => bif_ok h (fun h => chunk_ok ck_335_0 h) (fun h => bif_ok h (fun h => chunk_ok ck_335_1 h) (fun h => chunk_ok ck_335_2 h)))
theorem ck_336_0 : cl_336_0.all (fun q => mchk 336 q.1 q.2) = true := by decide +kernel
theorem ck_336_1 : cl_336_1.all (fun q => mchk 336 q.1 q.2) = true := by decide +kernel
theorem ck_336_2 : cl_336_2.all (fun q => mchk 336 q.1 q.2) = true := by decide +kernel
theorem cdok_336 (pc : Nat) (I : mI) : cd_336 pc = some I → mchk 336 pc I = true := (fun h => bif_ok h (fun h => chunk_ok ck_336_0 h) (fun h => bif_ok h (fun h => chunk_ok ck_336_1 h) (fun h => chunk_ok ck_336_2 h)))
theorem ck_337_0 : cl_337_0.all (fun q => mchk 337 q.1 q.2) = true := by decide +kernel
theorem ck_337_1 : cl_337_1.all (fun q => mchk 337 q.1 q.2) = true := by decide +kernel
theorem cdok_337 (pc : Nat) (I : mI) : cd_337 pc = some I → mchk 337 pc I = true := (fun h => bif_ok h (fun h => chunk_ok ck_337_0 h) (fun h => chunk_ok ck_337_1 h))
theorem ck_338_0 : cl_338_0.all (fun q => mchk 338 q.1 q.2) = true := by decide +kernel
theorem cdok_338 (pc : Nat) (I : mI) : cd_338 pc = some I → mchk 338 pc I = true := (fun h => chunk_ok ck_338_0 h)
theorem ck_339_0 : cl_339_0.all (fun q => mchk 339 q.1 q.2) = true := by decide +kernel
theorem ck_339_1 : cl_339_1.all (fun q => mchk 339 q.1 q.2) = true := by decide +kernel
theorem ck_339_2 : cl_339_2.all (fun q => mchk 339 q.1 q.2) = true := by decide +kernel
theorem ck_339_3 : cl_339_3.all (fun q => mchk 339 q.1 q.2) = true := by decide +kernel
theorem cdok_339 (pc : Nat) (I : mI) : cd_339 pc = some I → mchk 339 pc I = true := (fun h => bif_ok h (fun h => bif_ok h (fun h => chunk_ok ck_339_0 h) (fun h => chunk_ok ck_339_1 h)) (fun h => bif_ok h (fun h => chunk_ok ck_339_2 h) (fun h => chunk_ok ck_339_3 h)))
theorem ck_340_0 : cl_340_0.all (fun q => mchk 340 q.1 q.2) = true := by decide +kernel
theorem ck_340_1 : cl_340_1.all (fun q => mchk 340 q.1 q.2) = true := by decide +kernel
theorem cdok_340 (pc : Nat) (I : mI) : cd_340 pc = some I → mchk 340 pc I = true := (fun h => bif_ok h (fun h => chunk_ok ck_340_0 h) (fun h => chunk_ok ck_340_1 h))
theorem ck_341_0 : cl_341_0.all (fun q => mchk 341 q.1 q.2) = true := by decide +kernel
theorem ck_341_1 : cl_341_1.all (fun q => mchk 341 q.1 q.2) = true := by decide +kernel
theorem ck_341_2 : cl_341_2.all (fun q => mchk 341 q.1 q.2) = true := by decide +kernel
theorem ck_341_3 : cl_341_3.all (fun q => mchk 341 q.1 q.2) = true := by decide +kernel
theorem ck_341_4 : cl_341_4.all (fun q => mchk 341 q.1 q.2) = true := by decide +kernel
theorem cdok_341 (pc : Nat) (I : mI) : cd_341 pc = some I → mchk 341 pc I = true := (fun h => bif_ok h (fun h => bif_ok h (fun h => chunk_ok ck_341_0 h) (fun h => chunk_ok ck_341_1 h)) (fun h => bif_ok h (fun h => chunk_ok ck_341_2 h) (fun h => bif_ok h (fun h => chunk_ok ck_341_3 h) (fun h => chunk_ok ck_341_4 h))))
theorem ck_342_0 : cl_342_0.all (fun q => mchk 342 q.1 q.2) = true := by decide +kernel
theorem ck_342_1 : cl_342_1.all (fun q => mchk 342 q.1 q.2) = true := by decide +kernel
theorem ck_342_2 : cl_342_2.all (fun q => mchk 342 q.1 q.2) = true := by decide +kernel
theorem ck_342_3 : cl_342_3.all (fun q => mchk 342 q.1 q.2) = true := by decide +kernel
theorem ck_342_4 : cl_342_4.all (fun q => mchk 342 q.1 q.2) = true := by decide +kernel
theorem ck_342_5 : cl_342_5.all (fun q => mchk 342 q.1 q.2) = true := by decide +kernel
theorem cdok_342 (pc : Nat) (I : mI) : cd_342 pc = some I → mchk 342 pc I = true := (fun h => bif_ok h (fun h => bif_ok h (fun h => chunk_ok ck_342_0 h) (fun h => bif_ok h (fun h => chunk_ok ck_342_1 h) (fun h => chunk_ok ck_342_2 h))) (fun h => bif_ok h (fun h => chunk_ok ck_342_3 h) (fun h => bif_ok h (fun h => chunk_ok ck_342_4 h) (fun h => chunk_ok ck_342_5 h))))
theorem ck_343_0 : cl_343_0.all (fun q => mchk 343 q.1 q.2) = true := by decide +kernel
theorem ck_343_1 : cl_343_1.all (fun q => mchk 343 q.1 q.2) = true := by decide +kernel
theorem ck_343_2 : cl_343_2.all (fun q => mchk 343 q.1 q.2) = true := by decide +kernel
theorem ck_343_3 : cl_343_3.all (fun q => mchk 343 q.1 q.2) = true := by decide +kernel
theorem ck_343_4 : cl_343_4.all (fun q => mchk 343 q.1 q.2) = true := by decide +kernel
theorem ck_343_5 : cl_343_5.all (fun q => mchk 343 q.1 q.2) = true := by decide +kernel
theorem ck_343_6 : cl_343_6.all (fun q => mchk 343 q.1 q.2) = true := by decide +kernel
theorem ck_343_7 : cl_343_7.all (fun q => mchk 343 q.1 q.2) = true := by decide +kernel
theorem ck_343_8 : cl_343_8.all (fun q => mchk 343 q.1 q.2) = true := by decide +kernel
theorem cdok_343 (pc : Nat) (I : mI) : cd_343 pc = some I → mchk 343 pc I = true := (fun h => bif_ok h (fun h => bif_ok h (fun h => bif_ok h (fun h => chunk_ok ck_343_0 h) (fun h => chunk_ok ck_343_1 h)) (fun h => bif_ok h (fun h => chunk_ok ck_343_2 h) (fun h => chunk_ok ck_343_3 h))) (fun h => bif_ok h (fun h => bif_ok h (fun h => chunk_ok ck_343_4 h) (fun h => chunk_ok ck_343_5 h)) (fun h => bif_ok h (fun h => chunk_ok ck_343_6 h) (fun h => bif_ok h (fun h => chunk_ok ck_343_7 h) (fun h => chunk_ok ck_343_8 h)))))
theorem ck_344_0 : cl_344_0.all (fun q => mchk 344 q.1 q.2) = true := by decide +kernel
theorem ck_344_1 : cl_344_1.all (fun q => mchk 344 q.1 q.2) = true := by decide +kernel
theorem ck_344_2 : cl_344_2.all (fun q => mchk 344 q.1 q.2) = true := by decide +kernel
theorem ck_344_3 : cl_344_3.all (fun q => mchk 344 q.1 q.2) = true := by decide +kernel
theorem ck_344_4 : cl_344_4.all (fun q => mchk 344 q.1 q.2) = true := by decide +kernel
theorem cdok_344 (pc : Nat) (I : mI) : cd_344 pc = some I → mchk 344 pc I = true := (fun h => bif_ok h (fun h => bif_ok h (fun h => chunk_ok ck_344_0 h) (fun h => chunk_ok ck_344_1 h)) (fun h => bif_ok h (fun h => chunk_ok ck_344_2 h) (fun h => bif_ok h (fun h => chunk_ok ck_344_3 h) (fun h => chunk_ok ck_344_4 h))))
theorem ck_345_0 : cl_345_0.all (fun q => mchk 345 q.1 q.2) = true := by decide +kernel
theorem ck_345_1 : cl_345_1.all (fun q => mchk 345 q.1 q.2) = true := by decide +kernel
theorem cdok_345 (pc : Nat) (I : mI) : cd_345 pc = some I → mchk 345 pc I = true := (fun h => bif_ok h (fun h => chunk_ok ck_345_0 h) (fun h => chunk_ok ck_345_1 h))
theorem ck_346_0 : cl_346_0.all (fun q => mchk 346 q.1 q.2) = true := by decide +kernel
theorem ck_346_1 : cl_346_1.all (fun q => mchk 346 q.1 q.2) = true := by decide +kernel
theorem ck_346_2 : cl_346_2.all (fun q => mchk 346 q.1 q.2) = true := by decide +kernel
theorem cdok_346 (pc : Nat) (I : mI) : cd_346 pc = some I → mchk 346 pc I = true := (fun h => bif_ok h (fun h => chunk_ok ck_346_0 h) (fun h => bif_ok h (fun h => chunk_ok ck_346_1 h) (fun h => chunk_ok ck_346_2 h)))
theorem ck_347_0 : cl_347_0.all (fun q => mchk 347 q.1 q.2) = true := by decide +kernel
theorem ck_347_1 : cl_347_1.all (fun q => mchk 347 q.1 q.2) = true := by decide +kernel
theorem cdok_347 (pc : Nat) (I : mI) : cd_347 pc = some I → mchk 347 pc I = true := (fun h => bif_ok h (fun h => chunk_ok ck_347_0 h) (fun h => chunk_ok ck_347_1 h))
theorem ck_348_0 : cl_348_0.all (fun q => mchk 348 q.1 q.2) = true := by decide +kernel
theorem ck_348_1 : cl_348_1.all (fun q => mchk 348 q.1 q.2) = true := by decide +kernel
theorem ck_348_2 : cl_348_2.all (fun q => mchk 348 q.1 q.2) = true := by decide +kernel
theorem cdok_348 (pc : Nat) (I : mI) : cd_348 pc = some I → mchk 348 pc I = true := (fun h => bif_ok h (fun h => chunk_ok ck_348_0 h) (fun h => bif_ok h (fun h => chunk_ok ck_348_1 h) (fun h => chunk_ok ck_348_2 h)))
theorem ck_349_0 : cl_349_0.all (fun q => mchk 349 q.1 q.2) = true := by decide +kernel
theorem ck_349_1 : cl_349_1.all (fun q => mchk 349 q.1 q.2) = true := by decide +kernel
theorem ck_349_2 : cl_349_2.all (fun q => mchk 349 q.1 q.2) = true := by decide +kernel
theorem cdok_349 (pc : Nat) (I : mI) : cd_349 pc = some I → mchk 349 pc I = true := (fun h => bif_ok h (fun h => chunk_ok ck_349_0 h) (fun h => bif_ok h (fun h => chunk_ok ck_349_1 h) (fun h => chunk_ok ck_349_2 h)))
theorem ck_350_0 : cl_350_0.all (fun q => mchk 350 q.1 q.2) = true := by decide +kernel
theorem ck_350_1 : cl_350_1.all (fun q => mchk 350 q.1 q.2) = true := by decide +kernel
theorem ck_350_2 : cl_350_2.all (fun q => mchk 350 q.1 q.2) = true := by decide +kernel
theorem ck_350_3 : cl_350_3.all (fun q => mchk 350 q.1 q.2) = true := by decide +kernel
theorem cdok_350 (pc : Nat) (I : mI) : cd_350 pc = some I → mchk 350 pc I = true := (fun h => bif_ok h (fun h => bif_ok h (fun h => chunk_ok ck_350_0 h) (fun h => chunk_ok ck_350_1 h)) (fun h => bif_ok h (fun h => chunk_ok ck_350_2 h) (fun h => chunk_ok ck_350_3 h)))
theorem ck_351_0 : cl_351_0.all (fun q => mchk 351 q.1 q.2) = true := by decide +kernel
theorem ck_351_1 : cl_351_1.all (fun q => mchk 351 q.1 q.2) = true := by decide +kernel
theorem ck_351_2 : cl_351_2.all (fun q => mchk 351 q.1 q.2) = true := by decide +kernel
theorem cdok_351 (pc : Nat) (I : mI) : cd_351 pc = some I → mchk 351 pc I = true := (fun h => bif_ok h (fun h => chunk_ok ck_351_0 h) (fun h => bif_ok h (fun h => chunk_ok ck_351_1 h) (fun h => chunk_ok ck_351_2 h)))
theorem ck_352_0 : cl_352_0.all (fun q => mchk 352 q.1 q.2) = true := by decide +kernel
theorem ck_352_1 : cl_352_1.all (fun q => mchk 352 q.1 q.2) = true := by decide +kernel
theorem ck_352_2 : cl_352_2.all (fun q => mchk 352 q.1 q.2) = true := by decide +kernel
theorem cdok_352 (pc : Nat) (I : mI) : cd_352 pc = some I → mchk 352 pc I = true := (fun h => bif_ok h (fun h => chunk_ok ck_352_0 h) (fun h => bif_ok h (fun h => chunk_ok ck_352_1 h) (fun h => chunk_ok ck_352_2 h)))
theorem ck_353_0 : cl_353_0.all (fun q => mchk 353 q.1 q.2) = true := by decide +kernel
theorem cdok_353 (pc : Nat) (I : mI) : cd_353 pc = some I → mchk 353 pc I = true := (fun h => chunk_ok ck_353_0 h)
theorem ck_354_0 : cl_354_0.all (fun q => mchk 354 q.1 q.2) = true := by decide +kernel
theorem cdok_354 (pc : Nat) (I : mI) : cd_354 pc = some I → mchk 354 pc I = true := (fun h => chunk_ok ck_354_0 h)
theorem ck_355_0 : cl_355_0.all (fun q => mchk 355 q.1 q.2) = true := by decide +kernel
theorem cdok_355 (pc : Nat) (I : mI) : cd_355 pc = some I → mchk 355 pc I = true := (fun h => chunk_ok ck_355_0 h)
theorem ck_356_0 : cl_356_0.all (fun q => mchk 356 q.1 q.2) = true := by decide +kernel
theorem ck_356_1 : cl_356_1.all (fun q => mchk 356 q.1 q.2) = true := by decide +kernel
theorem cdok_356 (pc : Nat) (I : mI) : cd_356 pc = some I → mchk 356 pc I = true := (fun h => bif_ok h (fun h => chunk_ok ck_356_0 h) (fun h => chunk_ok ck_356_1 h))
theorem ck_357_0 : cl_357_0.all (fun q => mchk 357 q.1 q.2) = true := by decide +kernel
theorem ck_357_1 : cl_357_1.all (fun q => mchk 357 q.1 q.2) = true := by decide +kernel
theorem cdok_357 (pc : Nat) (I : mI) : cd_357 pc = some I → mchk 357 pc I = true := (fun h => bif_ok h (fun h => chunk_ok ck_357_0 h) (fun h => chunk_ok ck_357_1 h))
theorem ck_358_0 : cl_358_0.all (fun q => mchk 358 q.1 q.2) = true := by decide +kernel
theorem ck_358_1 : cl_358_1.all (fun q => mchk 358 q.1 q.2) = true := by decide +kernel
theorem ck_358_2 : cl_358_2.all (fun q => mchk 358 q.1 q.2) = true := by decide +kernel
theorem ck_358_3 : cl_358_3.all (fun q => mchk 358 q.1 q.2) = true := by decide +kernel
theorem ck_358_4 : cl_358_4.all (fun q => mchk 358 q.1 q.2) = true := by decide +kernel
theorem ck_358_5 : cl_358_5.all (fun q => mchk 358 q.1 q.2) = true := by decide +kernel
theorem ck_358_6 : cl_358_6.all (fun q => mchk 358 q.1 q.2) = true := by decide +kernel
theorem ck_358_7 : cl_358_7.all (fun q => mchk 358 q.1 q.2) = true := by decide +kernel
theorem ck_358_8 : cl_358_8.all (fun q => mchk 358 q.1 q.2) = true := by decide +kernel
theorem ck_358_9 : cl_358_9.all (fun q => mchk 358 q.1 q.2) = true := by decide +kernel
theorem ck_358_10 : cl_358_10.all (fun q => mchk 358 q.1 q.2) = true := by decide +kernel
theorem ck_358_11 : cl_358_11.all (fun q => mchk 358 q.1 q.2) = true := by decide +kernel
theorem ck_358_12 : cl_358_12.all (fun q => mchk 358 q.1 q.2) = true := by decide +kernel
theorem ck_358_13 : cl_358_13.all (fun q => mchk 358 q.1 q.2) = true := by decide +kernel
theorem ck_358_14 : cl_358_14.all (fun q => mchk 358 q.1 q.2) = true := by decide +kernel
theorem ck_358_15 : cl_358_15.all (fun q => mchk 358 q.1 q.2) = true := by decide +kernel
theorem ck_358_16 : cl_358_16.all (fun q => mchk 358 q.1 q.2) = true := by decide +kernel
theorem ck_358_17 : cl_358_17.all (fun q => mchk 358 q.1 q.2) = true := by decide +kernel
theorem ck_358_18 : cl_358_18.all (fun q => mchk 358 q.1 q.2) = true := by decide +kernel
theorem ck_358_19 : cl_358_19.all (fun q => mchk 358 q.1 q.2) = true := by decide +kernel
theorem ck_358_20 : cl_358_20.all (fun q => mchk 358 q.1 q.2) = true := by decide +kernel
theorem ck_358_21 : cl_358_21.all (fun q => mchk 358 q.1 q.2) = true := by decide +kernel
theorem ck_358_22 : cl_358_22.all (fun q => mchk 358 q.1 q.2) = true := by decide +kernel
theorem ck_358_23 : cl_358_23.all (fun q => mchk 358 q.1 q.2) = true := by decide +kernel
theorem ck_358_24 : cl_358_24.all (fun q => mchk 358 q.1 q.2) = true := by decide +kernel
theorem ck_358_25 : cl_358_25.all (fun q => mchk 358 q.1 q.2) = true := by decide +kernel
theorem ck_358_26 : cl_358_26.all (fun q => mchk 358 q.1 q.2) = true := by decide +kernel
theorem ck_358_27 : cl_358_27.all (fun q => mchk 358 q.1 q.2) = true := by decide +kernel
theorem ck_358_28 : cl_358_28.all (fun q => mchk 358 q.1 q.2) = true := by decide +kernel
theorem ck_358_29 : cl_358_29.all (fun q => mchk 358 q.1 q.2) = true := by decide +kernel
theorem ck_358_30 : cl_358_30.all (fun q => mchk 358 q.1 q.2) = true := by decide +kernel
theorem ck_358_31 : cl_358_31.all (fun q => mchk 358 q.1 q.2) = true := by decide +kernel
theorem ck_358_32 : cl_358_32.all (fun q => mchk 358 q.1 q.2) = true := by decide +kernel
theorem ck_358_33 : cl_358_33.all (fun q => mchk 358 q.1 q.2) = true := by decide +kernel
theorem ck_358_34 : cl_358_34.all (fun q => mchk 358 q.1 q.2) = true := by decide +kernel
theorem ck_358_35 : cl_358_35.all (fun q => mchk 358 q.1 q.2) = true := by decide +kernel
theorem ck_358_36 : cl_358_36.all (fun q => mchk 358 q.1 q.2) = true := by decide +kernel
theorem ck_358_37 : cl_358_37.all (fun q => mchk 358 q.1 q.2) = true := by decide +kernel
theorem ck_358_38 : cl_358_38.all (fun q => mchk 358 q.1 q.2) = true := by decide +kernel
theorem ck_358_39 : cl_358_39.all (fun q => mchk 358 q.1 q.2) = true := by decide +kernel
theorem ck_358_40 : cl_358_40.all (fun q => mchk 358 q.1 q.2) = true := by decide +kernel
theorem ck_358_41 : cl_358_41.all (fun q => mchk 358 q.1 q.2) = true := by decide +kernel
theorem ck_358_42 : cl_358_42.all (fun q => mchk 358 q.1 q.2) = true := by decide +kernel
theorem ck_358_43 : cl_358_43.all (fun q => mchk 358 q.1 q.2) = true := by decide +kernel
theorem ck_358_44 : cl_358_44.all (fun q => mchk 358 q.1 q.2) = true := by decide +kernel
theorem ck_358_45 : cl_358_45.all (fun q => mchk 358 q.1 q.2) = true := by decide +kernel
theorem ck_358_46 : cl_358_46.all (fun q => mchk 358 q.1 q.2) = true := by decide +kernel
theorem ck_358_47 : cl_358_47.all (fun q => mchk 358 q.1 q.2) = true := by decide +kernel
theorem ck_358_48 : cl_358_48.all (fun q => mchk 358 q.1 q.2) = true := by decide +kernel
theorem ck_358_49 : cl_358_49.all (fun q => mchk 358 q.1 q.2) = true := by decide +kernel
theorem ck_358_50 : cl_358_50.all (fun q => mchk 358 q.1 q.2) = true := by decide +kernel
theorem ck_358_51 : cl_358_51.all (fun q => mchk 358 q.1 q.2) = true := by decide +kernel
theorem ck_358_52 : cl_358_52.all (fun q => mchk 358 q.1 q.2) = true := by decide +kernel
theorem ck_358_53 : cl_358_53.all (fun q => mchk 358 q.1 q.2) = true := by decide +kernel
theorem ck_358_54 : cl_358_54.all (fun q => mchk 358 q.1 q.2) = true := by decide +kernel
theorem ck_358_55 : cl_358_55.all (fun q => mchk 358 q.1 q.2) = true := by decide +kernel
theorem ck_358_56 : cl_358_56.all (fun q => mchk 358 q.1 q.2) = true := by decide +kernel
theorem ck_358_57 : cl_358_57.all (fun q => mchk 358 q.1 q.2) = true := by decide +kernel
theorem ck_358_58 : cl_358_58.all (fun q => mchk 358 q.1 q.2) = true := by decide +kernel
theorem ck_358_59 : cl_358_59.all (fun q => mchk 358 q.1 q.2) = true := by decide +kernel
theorem ck_358_60 : cl_358_60.all (fun q => mchk 358 q.1 q.2) = true := by decide +kernel
theorem ck_358_61 : cl_358_61.all (fun q => mchk 358 q.1 q.2) = true := by decide +kernel
theorem ck_358_62 : cl_358_62.all (fun q => mchk 358 q.1 q.2) = true := by decide +kernel
theorem ck_358_63 : cl_358_63.all (fun q => mchk 358 q.1 q.2) = true := by decide +kernel
theorem ck_358_64 : cl_358_64.all (fun q => mchk 358 q.1 q.2) = true := by decide +kernel
theorem ck_358_65 : cl_358_65.all (fun q => mchk 358 q.1 q.2) = true := by decide +kernel
theorem ck_358_66 : cl_358_66.all (fun q => mchk 358 q.1 q.2) = true := by decide +kernel
theorem ck_358_67 : cl_358_67.all (fun q => mchk 358 q.1 q.2) = true := by decide +kernel
theorem ck_358_68 : cl_358_68.all (fun q => mchk 358 q.1 q.2) = true := by decide +kernel
theorem ck_358_69 : cl_358_69.all (fun q => mchk 358 q.1 q.2) = true := by decide +kernel
theorem ck_358_70 : cl_358_70.all (fun q => mchk 358 q.1 q.2) = true := by decide +kernel
theorem ck_358_71 : cl_358_71.all (fun q => mchk 358 q.1 q.2) = true := by decide +kernel
theorem ck_358_72 : cl_358_72.all (fun q => mchk 358 q.1 q.2) = true := by decide +kernel
theorem ck_358_73 : cl_358_73.all (fun q => mchk 358 q.1 q.2) = true := by decide +kernel
theorem ck_358_74 : cl_358_74.all (fun q => mchk 358 q.1 q.2) = true := by decide +kernel
theorem ck_358_75 : cl_358_75.all (fun q => mchk 358 q.1 q.2) = true := by decide +kernel
theorem ck_358_76 : cl_358_76.all (fun q => mchk 358 q.1 q.2) = true := by decide +kernel
theorem ck_358_77 : cl_358_77.all (fun q => mchk 358 q.1 q.2) = true := by decide +kernel
theorem ck_358_78 : cl_358_78.all (fun q => mchk 358 q.1 q.2) = true := by decide +kernel
theorem ck_358_79 : cl_358_79.all (fun q => mchk 358 q.1 q.2) = true := by decide +kernel
theorem ck_358_80 : cl_358_80.all (fun q => mchk 358 q.1 q.2) = true := by decide +kernel
theorem ck_358_81 : cl_358_81.all (fun q => mchk 358 q.1 q.2) = true := by decide +kernel
theorem ck_358_82 : cl_358_82.all (fun q => mchk 358 q.1 q.2) = true := by decide +kernel
theorem ck_358_83 : cl_358_83.all (fun q => mchk 358 q.1 q.2) = true := by decide +kernel
theorem ck_358_84 : cl_358_84.all (fun q => mchk 358 q.1 q.2) = true := by decide +kernel
theorem ck_358_85 : cl_358_85.all (fun q => mchk 358 q.1 q.2) = true := by decide +kernel
theorem ck_358_86 : cl_358_86.all (fun q => mchk 358 q.1 q.2) = true := by decide +kernel
theorem ck_358_87 : cl_358_87.all (fun q => mchk 358 q.1 q.2) = true := by decide +kernel
theorem ck_358_88 : cl_358_88.all (fun q => mchk 358 q.1 q.2) = true := by decide +kernel
theorem ck_358_89 : cl_358_89.all (fun q => mchk 358 q.1 q.2) = true := by decide +kernel
theorem ck_358_90 : cl_358_90.all (fun q => mchk 358 q.1 q.2) = true := by decide +kernel
theorem ck_358_91 : cl_358_91.all (fun q => mchk 358 q.1 q.2) = true := by decide +kernel
theorem ck_358_92 : cl_358_92.all (fun q => mchk 358 q.1 q.2) = true := by decide +kernel
theorem ck_358_93 : cl_358_93.all (fun q => mchk 358 q.1 q.2) = true := by decide +kernel
theorem ck_358_94 : cl_358_94.all (fun q => mchk 358 q.1 q.2) = true := by decide +kernel
theorem ck_358_95 : cl_358_95.all (fun q => mchk 358 q.1 q.2) = true := by decide +kernel
theorem ck_358_96 : cl_358_96.all (fun q => mchk 358 q.1 q.2) = true := by decide +kernel
theorem ck_358_97 : cl_358_97.all (fun q => mchk 358 q.1 q.2) = true := by decide +kernel
theorem ck_358_98 : cl_358_98.all (fun q => mchk 358 q.1 q.2) = true := by decide +kernel
theorem ck_358_99 : cl_358_99.all (fun q => mchk 358 q.1 q.2) = true := by decide +kernel
theorem ck_358_100 : cl_358_100.all (fun q => mchk 358 q.1 q.2) = true := by decide +kernel
theorem ck_358_101 : cl_358_101.all (fun q => mchk 358 q.1 q.2) = true := by decide +kernel
theorem ck_358_102 : cl_358_102.all (fun q => mchk 358 q.1 q.2) = true := by decide +kernel
theorem ck_358_103 : cl_358_103.all (fun q => mchk 358 q.1 q.2) = true := by decide +kernel
theorem ck_358_104 : cl_358_104.all (fun q => mchk 358 q.1 q.2) = true := by decide +kernel
theorem ck_358_105 : cl_358_105.all (fun q => mchk 358 q.1 q.2) = true := by decide +kernel
theorem ck_358_106 : cl_358_106.all (fun q => mchk 358 q.1 q.2) = true := by decide +kernel
theorem ck_358_107 : cl_358_107.all (fun q => mchk 358 q.1 q.2) = true := by decide +kernel
theorem ck_358_108 : cl_358_108.all (fun q => mchk 358 q.1 q.2) = true := by decide +kernel
theorem ck_358_109 : cl_358_109.all (fun q => mchk 358 q.1 q.2) = true := by decide +kernel
theorem ck_358_110 : cl_358_110.all (fun q => mchk 358 q.1 q.2) = true := by decide +kernel
theorem ck_358_111 : cl_358_111.all (fun q => mchk 358 q.1 q.2) = true := by decide +kernel
theorem ck_358_112 : cl_358_112.all (fun q => mchk 358 q.1 q.2) = true := by decide +kernel
theorem ck_358_113 : cl_358_113.all (fun q => mchk 358 q.1 q.2) = true := by decide +kernel
theorem ck_358_114 : cl_358_114.all (fun q => mchk 358 q.1 q.2) = true := by decide +kernel
theorem ck_358_115 : cl_358_115.all (fun q => mchk 358 q.1 q.2) = true := by decide +kernel
theorem ck_358_116 : cl_358_116.all (fun q => mchk 358 q.1 q.2) = true := by decide +kernel
theorem ck_358_117 : cl_358_117.all (fun q => mchk 358 q.1 q.2) = true := by decide +kernel
theorem ck_358_118 : cl_358_118.all (fun q => mchk 358 q.1 q.2) = true := by decide +kernel
theorem ck_358_119 : cl_358_119.all (fun q => mchk 358 q.1 q.2) = true := by decide +kernel
theorem ck_358_120 : cl_358_120.all (fun q => mchk 358 q.1 q.2) = true := by decide +kernel
theorem ck_358_121 : cl_358_121.all (fun q => mchk 358 q.1 q.2) = true := by decide +kernel
theorem ck_358_122 : cl_358_122.all (fun q => mchk 358 q.1 q.2) = true := by decide +kernel
theorem ck_358_123 : cl_358_123.all (fun q => mchk 358 q.1 q.2) = true := by decide +kernel
theorem ck_358_124 : cl_358_124.all (fun q => mchk 358 q.1 q.2) = true := by decide +kernel
theorem ck_358_125 : cl_358_125.all (fun q => mchk 358 q.1 q.2) = true := by decide +kernel
theorem ck_358_126 : cl_358_126.all (fun q => mchk 358 q.1 q.2) = true := by decide +kernel
theorem ck_358_127 : cl_358_127.all (fun q => mchk 358 q.1 q.2) = true := by decide +kernel
theorem ck_358_128 : cl_358_128.all (fun q => mchk 358 q.1 q.2) = true := by decide +kernel
theorem ck_358_129 : cl_358_129.all (fun q => mchk 358 q.1 q.2) = true := by decide +kernel
theorem ck_358_130 : cl_358_130.all (fun q => mchk 358 q.1 q.2) = true := by decide +kernel
theorem ck_358_131 : cl_358_131.all (fun q => mchk 358 q.1 q.2) = true := by decide +kernel
theorem ck_358_132 : cl_358_132.all (fun q => mchk 358 q.1 q.2) = true := by decide +kernel
theorem ck_358_133 : cl_358_133.all (fun q => mchk 358 q.1 q.2) = true := by decide +kernel
theorem ck_358_134 : cl_358_134.all (fun q => mchk 358 q.1 q.2) = true := by decide +kernel
theorem ck_358_135 : cl_358_135.all (fun q => mchk 358 q.1 q.2) = true := by decide +kernel
theorem ck_358_136 : cl_358_136.all (fun q => mchk 358 q.1 q.2) = true := by decide +kernel
theorem ck_358_137 : cl_358_137.all (fun q => mchk 358 q.1 q.2) = true := by decide +kernel
theorem ck_358_138 : cl_358_138.all (fun q => mchk 358 q.1 q.2) = true := by decide +kernel
theorem ck_358_139 : cl_358_139.all (fun q => mchk 358 q.1 q.2) = true := by decide +kernel
theorem ck_358_140 : cl_358_140.all (fun q => mchk 358 q.1 q.2) = true := by decide +kernel
theorem ck_358_141 : cl_358_141.all (fun q => mchk 358 q.1 q.2) = true := by decide +kernel
theorem ck_358_142 : cl_358_142.all (fun q => mchk 358 q.1 q.2) = true := by decide +kernel
theorem ck_358_143 : cl_358_143.all (fun q => mchk 358 q.1 q.2) = true := by decide +kernel
theorem ck_358_144 : cl_358_144.all (fun q => mchk 358 q.1 q.2) = true := by decide +kernel
theorem ck_358_145 : cl_358_145.all (fun q => mchk 358 q.1 q.2) = true := by decide +kernel
theorem ck_358_146 : cl_358_146.all (fun q => mchk 358 q.1 q.2) = true := by decide +kernel
theorem ck_358_147 : cl_358_147.all (fun q => mchk 358 q.1 q.2) = true := by decide +kernel
theorem ck_358_148 : cl_358_148.all (fun q => mchk 358 q.1 q.2) = true := by decide +kernel
theorem ck_358_149 : cl_358_149.all (fun q => mchk 358 q.1 q.2) = true := by decide +kernel
theorem ck_358_150 : cl_358_150.all (fun q => mchk 358 q.1 q.2) = true := by decide +kernel
theorem ck_358_151 : cl_358_151.all (fun q => mchk 358 q.1 q.2) = true := by decide +kernel
theorem ck_358_152 : cl_358_152.all (fun q => mchk 358 q.1 q.2) = true := by decide +kernel
theorem ck_358_153 : cl_358_153.all (fun q => mchk 358 q.1 q.2) = true := by decide +kernel
theorem ck_358_154 : cl_358_154.all (fun q => mchk 358 q.1 q.2) = true := by decide +kernel
theorem ck_358_155 : cl_358_155.all (fun q => mchk 358 q.1 q.2) = true := by decide +kernel
theorem ck_358_156 : cl_358_156.all (fun q => mchk 358 q.1 q.2) = true := by decide +kernel
theorem ck_358_157 : cl_358_157.all (fun q => mchk 358 q.1 q.2) = true := by decide +kernel
theorem ck_358_158 : cl_358_158.all (fun q => mchk 358 q.1 q.2) = true := by decide +kernel
theorem ck_358_159 : cl_358_159.all (fun q => mchk 358 q.1 q.2) = true := by decide +kernel
theorem ck_358_160 : cl_358_160.all (fun q => mchk 358 q.1 q.2) = true := by decide +kernel
theorem ck_358_161 : cl_358_161.all (fun q => mchk 358 q.1 q.2) = true := by decide +kernel
theorem ck_358_162 : cl_358_162.all (fun q => mchk 358 q.1 q.2) = true := by decide +kernel
theorem ck_358_163 : cl_358_163.all (fun q => mchk 358 q.1 q.2) = true := by decide +kernel
theorem ck_358_164 : cl_358_164.all (fun q => mchk 358 q.1 q.2) = true := by decide +kernel
theorem ck_358_165 : cl_358_165.all (fun q => mchk 358 q.1 q.2) = true := by decide +kernel
theorem ck_358_166 : cl_358_166.all (fun q => mchk 358 q.1 q.2) = true := by decide +kernel
theorem ck_358_167 : cl_358_167.all (fun q => mchk 358 q.1 q.2) = true := by decide +kernel
theorem ck_358_168 : cl_358_168.all (fun q => mchk 358 q.1 q.2) = true := by decide +kernel
theorem ck_358_169 : cl_358_169.all (fun q => mchk 358 q.1 q.2) = true := by decide +kernel
theorem ck_358_170 : cl_358_170.all (fun q => mchk 358 q.1 q.2) = true := by decide +kernel
theorem ck_358_171 : cl_358_171.all (fun q => mchk 358 q.1 q.2) = true := by decide +kernel
theorem ck_358_172 : cl_358_172.all (fun q => mchk 358 q.1 q.2) = true := by decide +kernel
theorem ck_358_173 : cl_358_173.all (fun q => mchk 358 q.1 q.2) = true := by decide +kernel
theorem ck_358_174 : cl_358_174.all (fun q => mchk 358 q.1 q.2) = true := by decide +kernel
theorem ck_358_175 : cl_358_175.all (fun q => mchk 358 q.1 q.2) = true := by decide +kernel
theorem ck_358_176 : cl_358_176.all (fun q => mchk 358 q.1 q.2) = true := by decide +kernel
theorem ck_358_177 : cl_358_177.all (fun q => mchk 358 q.1 q.2) = true := by decide +kernel
theorem cdok_358 (pc : Nat) (I : mI) : cd_358 pc = some I → mchk 358 pc I = true := (fun h => bif_ok h (fun h => bif_ok h (fun h => bif_ok h (fun h => bif_ok h (fun h => bif_ok h (fun h => bif_ok h (fun h => bif_ok h (fun h => chunk_ok ck_358_0 h) (fun h => chunk_ok ck_358_1 h)) (fun h => bif_ok h (fun h => chunk_ok ck_358_2 h) (fun h => bif_ok h (fun h => chunk_ok ck_358_3 h) (fun h => chunk_ok ck_358_4 h)))) (fun h => bif_ok h (fun h => bif_ok h (fun h => chunk_ok ck_358_5 h) (fun h => bif_ok h (fun h => chunk_ok ck_358_6 h) (fun h => chunk_ok ck_358_7 h))) (fun h => bif_ok h (fun h => chunk_ok ck_358_8 h) (fun h => bif_ok h (fun h => chunk_ok ck_358_9 h) (fun h => chunk_ok ck_358_10 h))))) (fun h => bif_ok h (fun h => bif_ok h (fun h => bif_ok h (fun h => chunk_ok ck_358_11 h) (fun h => chunk_ok ck_358_12 h)) (fun h => bif_ok h (fun h => chunk_ok ck_358_13 h) (fun h => bif_ok h (fun h => chunk_ok ck_358_14 h) (fun h => chunk_ok ck_358_15 h)))) (fun h => bif_ok h (fun h => bif_ok h (fun h => chunk_ok ck_358_16 h) (fun h => bif_ok h (fun h => chunk_ok ck_358_17 h) (fun h => chunk_ok ck_358_18 h))) (fun h => bif_ok h (fun h => chunk_ok ck_358_19 h) (fun h => bif_ok h (fun h => chunk_ok ck_358_20 h) (fun h => chunk_ok ck_358_21 h)))))) (fun h => bif_ok h (fun h => bif_ok h (fun h => bif_ok h (fun h => bif_ok h (fun h => chunk_ok ck_358_22 h) (fun h => chunk_ok ck_358_23 h)) (fun h => bif_ok h (fun h => chunk_ok ck_358_24 h) (fun h => bif_ok h (fun h => chunk_ok ck_358_25 h) (fun h => chunk_ok ck_358_26 h)))) (fun h => bif_ok h (fun h => bif_ok h (fun h => chunk_ok ck_358_27 h) (fun h => bif_ok h (fun h => chunk_ok ck_358_28 h) (fun h => chunk_ok ck_358_29 h))) (fun h => bif_ok h (fun h => chunk_ok ck_358_30 h) (fun h => bif_ok h (fun h => chunk_ok ck_358_31 h) (fun h => chunk_ok ck_358_32 h))))) (fun h => bif_ok h (fun h => bif_ok h (fun h => bif_ok h (fun h => chunk_ok ck_358_33 h) (fun h => chunk_ok ck_358_34 h)) (fun h => bif_ok h (fun h => chunk_ok ck_358_35 h) (fun h => bif_ok h (fun h => chunk_ok ck_358_36 h) (fun h => chunk_ok ck_358_37 h)))) (fun h => bif_ok h (fun h => bif_ok h (fun h => chunk_ok ck_358_38 h) (fun h => bif_ok h (fun h => chunk_ok ck_358_39 h) (fun h => chunk_ok ck_358_40 h))) (fun h => bif_ok h (fun h => chunk_ok ck_358_41 h) (fun h => bif_ok h (fun h => chunk_ok ck_358_42 h) (fun h => chunk_ok ck_358_43 h))))))) (fun h => bif_ok h (fun h => bif_ok h (fun h => bif_ok h (fun h => bif_ok h (fun h => bif_ok h (fun h => chunk_ok ck_358_44 h) (fun h => chunk_ok ck_358_45 h)) (fun h => bif_ok h (fun h => chunk_ok ck_358_46 h) (fun h => bif_ok h (fun h => chunk_ok ck_358_47 h) (fun h => chunk_ok ck_358_48 h)))) (fun h => bif_ok h (fun h => bif_ok h (fun h => chunk_ok ck_358_49 h) (fun h => bif_ok h (fun h => chunk_ok ck_358_50 h) (fun h => chunk_ok ck_358_51 h))) (fun h => bif_ok h (fun h => chunk_ok ck_358_52 h) (fun h => bif_ok h (fun h => chunk_ok ck_358_53 h) (fun h => chunk_ok ck_358_54 h))))) (fun h => bif_ok h (fun h => bif_ok h (fun h => bif_ok h (fun h => chunk_ok ck_358_55 h) (fun h => chunk_ok ck_358_56 h)) (fun h => bif_ok h (fun h => chunk_ok ck_358_57 h) (fun h => bif_ok h (fun h => chunk_ok ck_358_58 h) (fun h => chunk_ok ck_358_59 h)))) (fun h => bif_ok h (fun h => bif_ok h (fun h => chunk_ok ck_358_60 h) (fun h => bif_ok h (fun h => chunk_ok ck_358_61 h) (fun h => chunk_ok ck_358_62 h))) (fun h => bif_ok h (fun h => chunk_ok ck_358_63 h) (fun h => bif_ok h (fun h => chunk_ok ck_358_64 h) (fun h => chunk_ok ck_358_65 h)))))) (fun h => bif_ok h (fun h => bif_ok h (fun h => bif_ok h (fun h => bif_ok h (fun h => chunk_ok ck_358_66 h) (fun h => chunk_ok ck_358_67 h)) (fun h => bif_ok h (fun h => chunk_ok ck_358_68 h) (fun h => bif_ok h (fun h => chunk_ok ck_358_69 h) (fun h => chunk_ok ck_358_70 h)))) (fun h => bif_ok h (fun h => bif_ok h (fun h => chunk_ok ck_358_71 h) (fun h => bif_ok h (fun h => chunk_ok ck_358_72 h) (fun h => chunk_ok ck_358_73 h))) (fun h => bif_ok h (fun h => chunk_ok ck_358_74 h) (fun h => bif_ok h (fun h => chunk_ok ck_358_75 h) (fun h => chunk_ok ck_358_76 h))))) (fun h => bif_ok h (fun h => bif_ok h (fun h => bif_ok h (fun h => chunk_ok ck_358_77 h) (fun h => bif_ok h (fun h => chunk_ok ck_358_78 h) (fun h => chunk_ok ck_358_79 h))) (fun h => bif_ok h (fun h => chunk_ok ck_358_80 h) (fun h => bif_ok h (fun h => chunk_ok ck_358_81 h) (fun h => chunk_ok ck_358_82 h)))) (fun h => bif_ok h (fun h => bif_ok h (fun h => chunk_ok ck_358_83 h) (fun h => bif_ok h (fun h => chunk_ok ck_358_84 h) (fun h => chunk_ok ck_358_85 h))) (fun h => bif_ok h (fun h => chunk_ok ck_358_86 h) (fun h => bif_ok h (fun h => chunk_ok ck_358_87 h) (fun h => chunk_ok ck_358_88 h)))))))) (fun h => bif_ok h (fun h => bif_ok h (fun h => bif_ok h (fun h => bif_ok h (fun h => bif_ok h (fun h => bif_ok h (fun h => chunk_ok ck_358_89 h) (fun h => chunk_ok ck_358_90 h)) (fun h => bif_ok h (fun h => chunk_ok ck_358_91 h) (fun h => bif_ok h (fun h => chunk_ok ck_358_92 h) (fun h => chunk_ok ck_358_93 h)))) (fun h => bif_ok h (fun h => bif_ok h (fun h => chunk_ok ck_358_94 h) (fun h => bif_ok h (fun h => chunk_ok ck_358_95 h) (fun h => chunk_ok ck_358_96 h))) (fun h => bif_ok h (fun h => chunk_ok ck_358_97 h) (fun h => bif_ok h (fun h => chunk_ok ck_358_98 h) (fun h => chunk_ok ck_358_99 h))))) (fun h => bif_ok h (fun h => bif_ok h (fun h => bif_ok h (fun h => chunk_ok ck_358_100 h) (fun h => chunk_ok ck_358_101 h)) (fun h => bif_ok h (fun h => chunk_ok ck_358_102 h) (fun h => bif_ok h (fun h => chunk_ok ck_358_103 h) (fun h => chunk_ok ck_358_104 h)))) (fun h => bif_ok h (fun h => bif_ok h (fun h => chunk_ok ck_358_105 h) (fun h => bif_ok h (fun h => chunk_ok ck_358_106 h) (fun h => chunk_ok ck_358_107 h))) (fun h => bif_ok h (fun h => chunk_ok ck_358_108 h) (fun h => bif_ok h (fun h => chunk_ok ck_358_109 h) (fun h => chunk_ok ck_358_110 h)))))) (fun h => bif_ok h (fun h => bif_ok h (fun h => bif_ok h (fun h => bif_ok h (fun h => chunk_ok ck_358_111 h) (fun h => chunk_ok ck_358_112 h)) (fun h => bif_ok h (fun h => chunk_ok ck_358_113 h) (fun h => bif_ok h (fun h => chunk_ok ck_358_114 h) (fun h => chunk_ok ck_358_115 h)))) (fun h => bif_ok h (fun h => bif_ok h (fun h => chunk_ok ck_358_116 h) (fun h => bif_ok h (fun h => chunk_ok ck_358_117 h) (fun h => chunk_ok ck_358_118 h))) (fun h => bif_ok h (fun h => chunk_ok ck_358_119 h) (fun h => bif_ok h (fun h => chunk_ok ck_358_120 h) (fun h => chunk_ok ck_358_121 h))))) (fun h => bif_ok h (fun h => bif_ok h (fun h => bif_ok h (fun h => chunk_ok ck_358_122 h) (fun h => chunk_ok ck_358_123 h)) (fun h => bif_ok h (fun h => chunk_ok ck_358_124 h) (fun h => bif_ok h (fun h => chunk_ok ck_358_125 h) (fun h => chunk_ok ck_358_126 h)))) (fun h => bif_ok h (fun h => bif_ok h (fun h => chunk_ok ck_358_127 h) (fun h => bif_ok h (fun h => chunk_ok ck_358_128 h) (fun h => chunk_ok ck_358_129 h))) (fun h => bif_ok h (fun h => chunk_ok ck_358_130 h) (fun h => bif_ok h (fun h => chunk_ok ck_358_131 h) (fun h => chunk_ok ck_358_132 h))))))) (fun h => bif_ok h (fun h => bif_ok h (fun h => bif_ok h (fun h => bif_ok h (fun h => bif_ok h (fun h => chunk_ok ck_358_133 h) (fun h => chunk_ok ck_358_134 h)) (fun h => bif_ok h (fun h => chunk_ok ck_358_135 h) (fun h => bif_ok h (fun h => chunk_ok ck_358_136 h) (fun h => chunk_ok ck_358_137 h)))) (fun h => bif_ok h (fun h => bif_ok h (fun h => chunk_ok ck_358_138 h) (fun h => bif_ok h (fun h => chunk_ok ck_358_139 h) (fun h => chunk_ok ck_358_140 h))) (fun h => bif_ok h (fun h => chunk_ok ck_358_141 h) (fun h => bif_ok h (fun h => chunk_ok ck_358_142 h) (fun h => chunk_ok ck_358_143 h))))) (fun h => bif_ok h (fun h => bif_ok h (fun h => bif_ok h (fun h => chunk_ok ck_358_144 h) (fun h => chunk_ok ck_358_145 h)) (fun h => bif_ok h (fun h => chunk_ok ck_358_146 h) (fun h => bif_ok h (fun h => chunk_ok ck_358_147 h) (fun h => chunk_ok ck_358_148 h)))) (fun h => bif_ok h (fun h => bif_ok h (fun h => chunk_ok ck_358_149 h) (fun h => bif_ok h (fun h => chunk_ok ck_358_150 h) (fun h => chunk_ok ck_358_151 h))) (fun h => bif_ok h (fun h => chunk_ok ck_358_152 h) (fun h => bif_ok h (fun h => chunk_ok ck_358_153 h) (fun h => chunk_ok ck_358_154 h)))))) (fun h => bif_ok h (fun h => bif_ok h (fun h => bif_ok h (fun h => bif_ok h (fun h => chunk_ok ck_358_155 h) (fun h => chunk_ok ck_358_156 h)) (fun h => bif_ok h (fun h => chunk_ok ck_358_157 h) (fun h => bif_ok h (fun h => chunk_ok ck_358_158 h) (fun h => chunk_ok ck_358_159 h)))) (fun h => bif_ok h (fun h => bif_ok h (fun h => chunk_ok ck_358_160 h) (fun h => bif_ok h (fun h => chunk_ok ck_358_161 h) (fun h => chunk_ok ck_358_162 h))) (fun h => bif_ok h (fun h => chunk_ok ck_358_163 h) (fun h => bif_ok h (fun h => chunk_ok ck_358_164 h) (fun h => chunk_ok ck_358_165 h))))) (fun h => bif_ok h (fun h => bif_ok h (fun h => bif_ok h (fun h => chunk_ok ck_358_166 h) (fun h => bif_ok h (fun h => chunk_ok ck_358_167 h) (fun h => chunk_ok ck_358_168 h))) (fun h => bif_ok h (fun h => chunk_ok ck_358_169 h) (fun h => bif_ok h (fun h => chunk_ok ck_358_170 h) (fun h => chunk_ok ck_358_171 h)))) (fun h => bif_ok h (fun h => bif_ok h (fun h => chunk_ok ck_358_172 h) (fun h => bif_ok h (fun h => chunk_ok ck_358_173 h) (fun h => chunk_ok ck_358_174 h))) (fun h => bif_ok h (fun h => chunk_ok ck_358_175 h) (fun h => bif_ok h (fun h => chunk_ok ck_358_176 h) (fun h => chunk_ok ck_358_177 h)))))))))
