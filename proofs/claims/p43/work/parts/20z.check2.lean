theorem ck_344_0 : cl_344_0.all (fun q => mchk 344 q.1 q.2) = true := by decide +kernel
theorem ck_344_1 : cl_344_1.all (fun q => mchk 344 q.1 q.2) = true := by decide +kernel
theorem ck_344_2 : cl_344_2.all (fun q => mchk 344 q.1 q.2) = true := by decide +kernel
theorem ck_344_3 : cl_344_3.all (fun q => mchk 344 q.1 q.2) = true := by decide +kernel
theorem ck_344_4 : cl_344_4.all (fun q => mchk 344 q.1 q.2) = true := by decide +kernel
theorem cdok_344 (pc : Nat) (I : mI) : cd_344 pc = some I → mchk 344 pc I = true := (fun h => bif_ok h (fun h => bif_ok h (fun h => chunk_ok ck_344_0 h) (fun h => chunk_ok ck_344_1 h)) (fun h => bif_ok h (fun h => chunk_ok ck_344_2 h) (fun h => bif_ok h (fun h => chunk_ok ck_344_3 h) (fun h => chunk_ok ck_344_4 h))))
theorem ck_345_0 : cl_345_0.all (fun q => mchk 345 q.1 q.2) = true := by decide +kernel
theorem ck_345_1 : cl_345_1.all (fun q => mchk 345 q.1 q.2) = true := by decide +kernel
theorem cdok_345 (pc : Nat) (I : mI) : cd_345 pc = some I → mchk 345 pc I = true := (fun h => bif_ok h (fun h => chunk_ok ck_345_0 h) (fun h => chunk_ok ck_345_1 h))
theorem ck_346_0 : cl_346_0.all (fun q => mchk 346 q.1 q.2) = true := by decide +kernel
theorem ck_346_1 : cl_346_1.all (fun q => mchk 346 q.1 q.2) = true := by decide +kernel
theorem ck_346_2 : cl_346_2.all (fun q => mchk 346 q.1 q.2) = true := by decide +kernel
theorem cdok_346 (pc : Nat) (I : mI) : cd_346 pc = some I → mchk 346 pc I = true := (fun h => bif_ok h (fun h => chunk_ok ck_346_0 h) (fun h => bif_ok h (fun h => chunk_ok ck_346_1 h) (fun h => chunk_ok ck_346_2 h)))
theorem ck_347_0 : cl_347_0.all (fun q => mchk 347 q.1 q.2) = true := by decide +kernel
theorem ck_347_1 : cl_347_1.all (fun q => mchk 347 q.1 q.2) = true := by decide +kernel
theorem cdok_347 (pc : Nat) (I : mI) : cd_347 pc = some I → mchk 347 pc I = true := (fun h => bif_ok h (fun h => chunk_ok ck_347_0 h) (fun h => chunk_ok ck_347_1 h))
theorem ck_348_0 : cl_348_0.all (fun q => mchk 348 q.1 q.2) = true := by decide +kernel
theorem ck_348_1 : cl_348_1.all (fun q => mchk 348 q.1 q.2) = true := by decide +kernel
theorem ck_348_2 : cl_348_2.all (fun q => mchk 348 q.1 q.2) = true := by decide +kernel
theorem cdok_348 (pc : Nat) (I : mI) : cd_348 pc = some I → mchk 348 pc I = true := (fun h => bif_ok h (fun h => chunk_ok ck_348_0 h) (fun h => bif_ok h (fun h => chunk_ok ck_348_1 h) (fun h => chunk_ok ck_348_2 h)))
theorem ck_351_0 : cl_351_0.all (fun q => mchk 351 q.1 q.2) = true := by decide +kernel
theorem ck_351_1 : cl_351_1.all (fun q => mchk 351 q.1 q.2) = true := by decide +kernel
theorem ck_351_2 : cl_351_2.all (fun q => mchk 351 q.1 q.2) = true := by decide +kernel
theorem cdok_351 (pc : Nat) (I : mI) : cd_351 pc = some I → mchk 351 pc I = true := (fun h => bif_ok h (fun h => chunk_ok ck_351_0 h) (fun h => bif_ok h (fun h => chunk_ok ck_351_1 h) (fun h => chunk_ok ck_351_2 h)))
theorem ck_352_0 : cl_352_0.all (fun q => mchk 352 q.1 q.2) = true := by decide +kernel
theorem ck_352_1 : cl_352_1.all (fun q => mchk 352 q.1 q.2) = true := by decide +kernel
theorem ck_352_2 : cl_352_2.all (fun q => mchk 352 q.1 q.2) = true := by decide +kernel
theorem cdok_352 (pc : Nat) (I : mI) : cd_352 pc = some I → mchk 352 pc I = true := (fun h => bif_ok h (fun h => chunk_ok ck_352_0 h) (fun h => bif_ok h (fun h => chunk_ok ck_352_1 h) (fun h => chunk_ok ck_352_2 h)))
theorem ck_353_0 : cl_353_0.all (fun q => mchk 353 q.1 q.2) = true := by decide +kernel
theorem ck_353_1 : cl_353_1.all (fun q => mchk 353 q.1 q.2) = true := by decide +kernel
theorem ck_353_2 : cl_353_2.all (fun q => mchk 353 q.1 q.2) = true := by decide +kernel
theorem ck_353_3 : cl_353_3.all (fun q => mchk 353 q.1 q.2) = true := by decide +kernel
theorem ck_353_4 : cl_353_4.all (fun q => mchk 353 q.1 q.2) = true := by decide +kernel
theorem ck_353_5 : cl_353_5.all (fun q => mchk 353 q.1 q.2) = true := by decide +kernel
theorem ck_353_6 : cl_353_6.all (fun q => mchk 353 q.1 q.2) = true := by decide +kernel
theorem ck_353_7 : cl_353_7.all (fun q => mchk 353 q.1 q.2) = true := by decide +kernel
theorem ck_353_8 : cl_353_8.all (fun q => mchk 353 q.1 q.2) = true := by decide +kernel
theorem ck_353_9 : cl_353_9.all (fun q => mchk 353 q.1 q.2) = true := by decide +kernel
theorem ck_353_10 : cl_353_10.all (fun q => mchk 353 q.1 q.2) = true := by decide +kernel
theorem ck_353_11 : cl_353_11.all (fun q => mchk 353 q.1 q.2) = true := by decide +kernel
theorem ck_353_12 : cl_353_12.all (fun q => mchk 353 q.1 q.2) = true := by decide +kernel
theorem ck_353_13 : cl_353_13.all (fun q => mchk 353 q.1 q.2) = true := by decide +kernel
theorem ck_353_14 : cl_353_14.all (fun q => mchk 353 q.1 q.2) = true := by decide +kernel
theorem ck_353_15 : cl_353_15.all (fun q => mchk 353 q.1 q.2) = true := by decide +kernel
theorem ck_353_16 : cl_353_16.all (fun q => mchk 353 q.1 q.2) = true := by decide +kernel
theorem ck_353_17 : cl_353_17.all (fun q => mchk 353 q.1 q.2) = true := by decide +kernel
theorem ck_353_18 : cl_353_18.all (fun q => mchk 353 q.1 q.2) = true := by decide +kernel
theorem ck_353_19 : cl_353_19.all (fun q => mchk 353 q.1 q.2) = true := by decide +kernel
theorem ck_353_20 : cl_353_20.all (fun q => mchk 353 q.1 q.2) = true := by decide +kernel
theorem ck_353_21 : cl_353_21.all (fun q => mchk 353 q.1 q.2) = true := by decide +kernel
theorem ck_353_22 : cl_353_22.all (fun q => mchk 353 q.1 q.2) = true := by decide +kernel
theorem ck_353_23 : cl_353_23.all (fun q => mchk 353 q.1 q.2) = true := by decide +kernel
theorem ck_353_24 : cl_353_24.all (fun q => mchk 353 q.1 q.2) = true := by decide +kernel
theorem ck_353_25 : cl_353_25.all (fun q => mchk 353 q.1 q.2) = true := by decide +kernel
theorem ck_353_26 : cl_353_26.all (fun q => mchk 353 q.1 q.2) = true := by decide +kernel
theorem ck_353_27 : cl_353_27.all (fun q => mchk 353 q.1 q.2) = true := by decide +kernel
theorem ck_353_28 : cl_353_28.all (fun q => mchk 353 q.1 q.2) = true := by decide +kernel
theorem ck_353_29 : cl_353_29.all (fun q => mchk 353 q.1 q.2) = true := by decide +kernel
theorem ck_353_30 : cl_353_30.all (fun q => mchk 353 q.1 q.2) = true := by decide +kernel
theorem ck_353_31 : cl_353_31.all (fun q => mchk 353 q.1 q.2) = true := by decide +kernel
theorem ck_353_32 : cl_353_32.all (fun q => mchk 353 q.1 q.2) = true := by decide +kernel
theorem ck_353_33 : cl_353_33.all (fun q => mchk 353 q.1 q.2) = true := by decide +kernel
theorem ck_353_34 : cl_353_34.all (fun q => mchk 353 q.1 q.2) = true := by decide +kernel
theorem ck_353_35 : cl_353_35.all (fun q => mchk 353 q.1 q.2) = true := by decide +kernel
theorem ck_353_36 : cl_353_36.all (fun q => mchk 353 q.1 q.2) = true := by decide +kernel
theorem ck_353_37 : cl_353_37.all (fun q => mchk 353 q.1 q.2) = true := by decide +kernel
theorem ck_353_38 : cl_353_38.all (fun q => mchk 353 q.1 q.2) = true := by decide +kernel
theorem ck_353_39 : cl_353_39.all (fun q => mchk 353 q.1 q.2) = true := by decide +kernel
theorem ck_353_40 : cl_353_40.all (fun q => mchk 353 q.1 q.2) = true := by decide +kernel
theorem ck_353_41 : cl_353_41.all (fun q => mchk 353 q.1 q.2) = true := by decide +kernel
theorem ck_353_42 : cl_353_42.all (fun q => mchk 353 q.1 q.2) = true := by decide +kernel
theorem ck_353_43 : cl_353_43.all (fun q => mchk 353 q.1 q.2) = true := by decide +kernel
theorem ck_353_44 : cl_353_44.all (fun q => mchk 353 q.1 q.2) = true := by decide +kernel
theorem ck_353_45 : cl_353_45.all (fun q => mchk 353 q.1 q.2) = true := by decide +kernel
theorem ck_353_46 : cl_353_46.all (fun q => mchk 353 q.1 q.2) = true := by decide +kernel
theorem ck_353_47 : cl_353_47.all (fun q => mchk 353 q.1 q.2) = true := by decide +kernel
theorem ck_353_48 : cl_353_48.all (fun q => mchk 353 q.1 q.2) = true := by decide +kernel
theorem ck_353_49 : cl_353_49.all (fun q => mchk 353 q.1 q.2) = true := by decide +kernel
theorem ck_353_50 : cl_353_50.all (fun q => mchk 353 q.1 q.2) = true := by decide +kernel
theorem ck_353_51 : cl_353_51.all (fun q => mchk 353 q.1 q.2) = true := by decide +kernel
theorem ck_353_52 : cl_353_52.all (fun q => mchk 353 q.1 q.2) = true := by decide +kernel
theorem ck_353_53 : cl_353_53.all (fun q => mchk 353 q.1 q.2) = true := by decide +kernel
theorem ck_353_54 : cl_353_54.all (fun q => mchk 353 q.1 q.2) = true := by decide +kernel
theorem ck_353_55 : cl_353_55.all (fun q => mchk 353 q.1 q.2) = true := by decide +kernel
theorem ck_353_56 : cl_353_56.all (fun q => mchk 353 q.1 q.2) = true := by decide +kernel
theorem ck_353_57 : cl_353_57.all (fun q => mchk 353 q.1 q.2) = true := by decide +kernel
theorem ck_353_58 : cl_353_58.all (fun q => mchk 353 q.1 q.2) = true := by decide +kernel
theorem ck_353_59 : cl_353_59.all (fun q => mchk 353 q.1 q.2) = true := by decide +kernel
theorem ck_353_60 : cl_353_60.all (fun q => mchk 353 q.1 q.2) = true := by decide +kernel
theorem ck_353_61 : cl_353_61.all (fun q => mchk 353 q.1 q.2) = true := by decide +kernel
theorem ck_353_62 : cl_353_62.all (fun q => mchk 353 q.1 q.2) = true := by decide +kernel
theorem ck_353_63 : cl_353_63.all (fun q => mchk 353 q.1 q.2) = true := by decide +kernel
theorem cdok_353 (pc : Nat) (I : mI) : cd_353 pc = some I → mchk 353 pc I = true := (fun h => bif_ok h (fun h => bif_ok h (fun h => bif_ok h (fun h => bif_ok h (fun h => bif_ok h (fun h => bif_ok h (fun h => chunk_ok ck_353_0 h) (fun h => chunk_ok ck_353_1 h)) (fun h => bif_ok h (fun h => chunk_ok ck_353_2 h) (fun h => chunk_ok ck_353_3 h))) (fun h => bif_ok h (fun h => bif_ok h (fun h => chunk_ok ck_353_4 h) (fun h => chunk_ok ck_353_5 h)) (fun h => bif_ok h (fun h => chunk_ok ck_353_6 h) (fun h => chunk_ok ck_353_7 h)))) (fun h => bif_ok h (fun h => bif_ok h (fun h => bif_ok h (fun h => chunk_ok ck_353_8 h) (fun h => chunk_ok ck_353_9 h)) (fun h => bif_ok h (fun h => chunk_ok ck_353_10 h) (fun h => chunk_ok ck_353_11 h))) (fun h => bif_ok h (fun h => bif_ok h (fun h => chunk_ok ck_353_12 h) (fun h => chunk_ok ck_353_13 h)) (fun h => bif_ok h (fun h => chunk_ok ck_353_14 h) (fun h => chunk_ok ck_353_15 h))))) (fun h => bif_ok h (fun h => bif_ok h (fun h => bif_ok h (fun h => bif_ok h (fun h => chunk_ok ck_353_16 h) (fun h => chunk_ok ck_353_17 h)) (fun h => bif_ok h (fun h => chunk_ok ck_353_18 h) (fun h => chunk_ok ck_353_19 h))) (fun h => bif_ok h (fun h => bif_ok h (fun h => chunk_ok ck_353_20 h) (fun h => chunk_ok ck_353_21 h)) (fun h => bif_ok h (fun h => chunk_ok ck_353_22 h) (fun h => chunk_ok ck_353_23 h)))) (fun h => bif_ok h (fun h => bif_ok h (fun h => bif_ok h (fun h => chunk_ok ck_353_24 h) (fun h => chunk_ok ck_353_25 h)) (fun h => bif_ok h (fun h => chunk_ok ck_353_26 h) (fun h => chunk_ok ck_353_27 h))) (fun h => bif_ok h (fun h => bif_ok h (fun h => chunk_ok ck_353_28 h) (fun h => chunk_ok ck_353_29 h)) (fun h => bif_ok h (fun h => chunk_ok ck_353_30 h) (fun h => chunk_ok ck_353_31 h)))))) (fun h => bif_ok h (fun h => bif_ok h (fun h => bif_ok h (fun h => bif_ok h (fun h => bif_ok h (fun h => chunk_ok ck_353_32 h) (fun h => chunk_ok ck_353_33 h)) (fun h => bif_ok h (fun h => chunk_ok ck_353_34 h) (fun h => chunk_ok ck_353_35 h))) (fun h => bif_ok h (fun h => bif_ok h (fun h => chunk_ok ck_353_36 h) (fun h => chunk_ok ck_353_37 h)) (fun h => bif_ok h (fun h => chunk_ok ck_353_38 h) (fun h => chunk_ok ck_353_39 h)))) (fun h => bif_ok h (fun h => bif_ok h (fun h => bif_ok h (fun h => chunk_ok ck_353_40 h) (fun h => chunk_ok ck_353_41 h)) (fun h => bif_ok h (fun h => chunk_ok ck_353_42 h) (fun h => chunk_ok ck_353_43 h))) (fun h => bif_ok h (fun h => bif_ok h (fun h => chunk_ok ck_353_44 h) (fun h => chunk_ok ck_353_45 h)) (fun h => bif_ok h (fun h => chunk_ok ck_353_46 h) (fun h => chunk_ok ck_353_47 h))))) (fun h => bif_ok h (fun h => bif_ok h (fun h => bif_ok h (fun h => bif_ok h (fun h => chunk_ok ck_353_48 h) (fun h => chunk_ok ck_353_49 h)) (fun h => bif_ok h (fun h => chunk_ok ck_353_50 h) (fun h => chunk_ok ck_353_51 h))) (fun h => bif_ok h (fun h => bif_ok h (fun h => chunk_ok ck_353_52 h) (fun h => chunk_ok ck_353_53 h)) (fun h => bif_ok h (fun h => chunk_ok ck_353_54 h) (fun h => chunk_ok ck_353_55 h)))) (fun h => bif_ok h (fun h => bif_ok h (fun h => bif_ok h (fun h => chunk_ok ck_353_56 h) (fun h => chunk_ok ck_353_57 h)) (fun h => bif_ok h (fun h => chunk_ok ck_353_58 h) (fun h => chunk_ok ck_353_59 h))) (fun h => bif_ok h (fun h => bif_ok h (fun h => chunk_ok ck_353_60 h) (fun h => chunk_ok ck_353_61 h)) (fun h => bif_ok h (fun h => chunk_ok ck_353_62 h) (fun h => chunk_ok ck_353_63 h)))))))
theorem ck_354_0 : cl_354_0.all (fun q => mchk 354 q.1 q.2) = true := by decide +kernel
theorem ck_354_1 : cl_354_1.all (fun q => mchk 354 q.1 q.2) = true := by decide +kernel
theorem cdok_354 (pc : Nat) (I : mI) : cd_354 pc = some I → mchk 354 pc I = true := (fun h => bif_ok h (fun h => chunk_ok ck_354_0 h) (fun h => chunk_ok ck_354_1 h))
theorem ck_355_0 : cl_355_0.all (fun q => mchk 355 q.1 q.2) = true := by decide +kernel
theorem cdok_355 (pc : Nat) (I : mI) : cd_355 pc = some I → mchk 355 pc I = true := (fun h => chunk_ok ck_355_0 h)
theorem ck_356_0 : cl_356_0.all (fun q => mchk 356 q.1 q.2) = true := by decide +kernel
theorem cdok_356 (pc : Nat) (I : mI) : cd_356 pc = some I → mchk 356 pc I = true := (fun h => chunk_ok ck_356_0 h)
theorem ck_357_0 : cl_357_0.all (fun q => mchk 357 q.1 q.2) = true := by decide +kernel
theorem ck_357_1 : cl_357_1.all (fun q => mchk 357 q.1 q.2) = true := by decide +kernel
theorem cdok_357 (pc : Nat) (I : mI) : cd_357 pc = some I → mchk 357 pc I = true := (fun h => bif_ok h (fun h => chunk_ok ck_357_0 h) (fun h => chunk_ok ck_357_1 h))
theorem ck_358_0 : cl_358_0.all (fun q => mchk 358 q.1 q.2) = true := by decide +kernel
theorem ck_358_1 : cl_358_1.all (fun q => mchk 358 q.1 q.2) = true := by decide +kernel
theorem ck_358_2 : cl_358_2.all (fun q => mchk 358 q.1 q.2) = true := by decide +kernel
theorem ck_358_3 : cl_358_3.all (fun q => mchk 358 q.1 q.2) = true := by decide +kernel
theorem ck_358_4 : cl_358_4.all (fun q => mchk 358 q.1 q.2) = true := by decide +kernel
theorem ck_358_5 : cl_358_5.all (fun q => mchk 358 q.1 q.2) = true := by decide +kernel
theorem ck_358_6 : cl_358_6.all (fun q => mchk 358 q.1 q.2) = true := by decide +kernel
theorem ck_358_7 : cl_358_7.all (fun q => mchk 358 q.1 q.2) = true := by decide +kernel
theorem ck_358_8 : cl_358_8.all (fun q => mchk 358 q.1 q.2) = true := by decide +kernel
theorem ck_358_9 : cl_358_9.all (fun q => mchk 358 q.1 q.2) = true := by decide +kernel
theorem ck_358_10 : cl_358_10.all (fun q => mchk 358 q.1 q.2) = true := by decide +kernel
theorem ck_358_11 : cl_358_11.all (fun q => mchk 358 q.1 q.2) = true := by decide +kernel
theorem ck_358_12 : cl_358_12.all (fun q => mchk 358 q.1 q.2) = true := by decide +kernel
theorem ck_358_13 : cl_358_13.all (fun q => mchk 358 q.1 q.2) = true := by decide +kernel
theorem ck_358_14 : cl_358_14.all (fun q => mchk 358 q.1 q.2) = true := by decide +kernel
theorem ck_358_15 : cl_358_15.all (fun q => mchk 358 q.1 q.2) = true := by decide +kernel
theorem ck_358_16 : cl_358_16.all (fun q => mchk 358 q.1 q.2) = true := by decide +kernel
theorem ck_358_17 : cl_358_17.all (fun q => mchk 358 q.1 q.2) = true := by decide +kernel
theorem ck_358_18 : cl_358_18.all (fun q => mchk 358 q.1 q.2) = true := by decide +kernel
theorem ck_358_19 : cl_358_19.all (fun q => mchk 358 q.1 q.2) = true := by decide +kernel
theorem ck_358_20 : cl_358_20.all (fun q => mchk 358 q.1 q.2) = true := by decide +kernel
theorem ck_358_21 : cl_358_21.all (fun q => mchk 358 q.1 q.2) = true := by decide +kernel
theorem ck_358_22 : cl_358_22.all (fun q => mchk 358 q.1 q.2) = true := by decide +kernel
theorem ck_358_23 : cl_358_23.all (fun q => mchk 358 q.1 q.2) = true := by decide +kernel
theorem ck_358_24 : cl_358_24.all (fun q => mchk 358 q.1 q.2) = true := by decide +kernel
theorem ck_358_25 : cl_358_25.all (fun q => mchk 358 q.1 q.2) = true := by decide +kernel
theorem ck_358_26 : cl_358_26.all (fun q => mchk 358 q.1 q.2) = true := by decide +kernel
theorem ck_358_27 : cl_358_27.all (fun q => mchk 358 q.1 q.2) = true := by decide +kernel
theorem ck_358_28 : cl_358_28.all (fun q => mchk 358 q.1 q.2) = true := by decide +kernel
theorem ck_358_29 : cl_358_29.all (fun q => mchk 358 q.1 q.2) = true := by decide +kernel
theorem ck_358_30 : cl_358_30.all (fun q => mchk 358 q.1 q.2) = true := by decide +kernel
theorem ck_358_31 : cl_358_31.all (fun q => mchk 358 q.1 q.2) = true := by decide +kernel
theorem ck_358_32 : cl_358_32.all (fun q => mchk 358 q.1 q.2) = true := by decide +kernel
theorem ck_358_33 : cl_358_33.all (fun q => mchk 358 q.1 q.2) = true := by decide +kernel
theorem ck_358_34 : cl_358_34.all (fun q => mchk 358 q.1 q.2) = true := by decide +kernel
theorem ck_358_35 : cl_358_35.all (fun q => mchk 358 q.1 q.2) = true := by decide +kernel
theorem ck_358_36 : cl_358_36.all (fun q => mchk 358 q.1 q.2) = true := by decide +kernel
theorem ck_358_37 : cl_358_37.all (fun q => mchk 358 q.1 q.2) = true := by decide +kernel
theorem ck_358_38 : cl_358_38.all (fun q => mchk 358 q.1 q.2) = true := by decide +kernel
theorem ck_358_39 : cl_358_39.all (fun q => mchk 358 q.1 q.2) = true := by decide +kernel
theorem ck_358_40 : cl_358_40.all (fun q => mchk 358 q.1 q.2) = true := by decide +kernel
theorem ck_358_41 : cl_358_41.all (fun q => mchk 358 q.1 q.2) = true := by decide +kernel
theorem ck_358_42 : cl_358_42.all (fun q => mchk 358 q.1 q.2) = true := by decide +kernel
theorem ck_358_43 : cl_358_43.all (fun q => mchk 358 q.1 q.2) = true := by decide +kernel
theorem ck_358_44 : cl_358_44.all (fun q => mchk 358 q.1 q.2) = true := by decide +kernel
theorem ck_358_45 : cl_358_45.all (fun q => mchk 358 q.1 q.2) = true := by decide +kernel
theorem ck_358_46 : cl_358_46.all (fun q => mchk 358 q.1 q.2) = true := by decide +kernel
theorem ck_358_47 : cl_358_47.all (fun q => mchk 358 q.1 q.2) = true := by decide +kernel
theorem ck_358_48 : cl_358_48.all (fun q => mchk 358 q.1 q.2) = true := by decide +kernel
theorem ck_358_49 : cl_358_49.all (fun q => mchk 358 q.1 q.2) = true := by decide +kernel
theorem ck_358_50 : cl_358_50.all (fun q => mchk 358 q.1 q.2) = true := by decide +kernel
theorem ck_358_51 : cl_358_51.all (fun q => mchk 358 q.1 q.2) = true := by decide +kernel
theorem ck_358_52 : cl_358_52.all (fun q => mchk 358 q.1 q.2) = true := by decide +kernel
theorem ck_358_53 : cl_358_53.all (fun q => mchk 358 q.1 q.2) = true := by decide +kernel
theorem ck_358_54 : cl_358_54.all (fun q => mchk 358 q.1 q.2) = true := by decide +kernel
theorem cdok_358 (pc : Nat) (I : mI) : cd_358 pc = some I → mchk 358 pc I = true := (fun h => bif_ok h (fun h => bif_ok h (fun h => bif_ok h (fun h => bif_ok h (fun h => bif_ok h (fun h => chunk_ok ck_358_0 h) (fun h => bif_ok h (fun h => chunk_ok ck_358_1 h) (fun h => chunk_ok ck_358_2 h))) (fun h => bif_ok h (fun h => chunk_ok ck_358_3 h) (fun h => bif_ok h (fun h => chunk_ok ck_358_4 h) (fun h => chunk_ok ck_358_5 h)))) (fun h => bif_ok h (fun h => bif_ok h (fun h => chunk_ok ck_358_6 h) (fun h => bif_ok h (fun h => chunk_ok ck_358_7 h) (fun h => chunk_ok ck_358_8 h))) (fun h => bif_ok h (fun h => bif_ok h (fun h => chunk_ok ck_358_9 h) (fun h => chunk_ok ck_358_10 h)) (fun h => bif_ok h (fun h => chunk_ok ck_358_11 h) (fun h => chunk_ok ck_358_12 h))))) (fun h => bif_ok h (fun h => bif_ok h (fun h => bif_ok h (fun h => chunk_ok ck_358_13 h) (fun h => bif_ok h (fun h => chunk_ok ck_358_14 h) (fun h => chunk_ok ck_358_15 h))) (fun h => bif_ok h (fun h => bif_ok h (fun h => chunk_ok ck_358_16 h) (fun h => chunk_ok ck_358_17 h)) (fun h => bif_ok h (fun h => chunk_ok ck_358_18 h) (fun h => chunk_ok ck_358_19 h)))) (fun h => bif_ok h (fun h => bif_ok h (fun h => chunk_ok ck_358_20 h) (fun h => bif_ok h (fun h => chunk_ok ck_358_21 h) (fun h => chunk_ok ck_358_22 h))) (fun h => bif_ok h (fun h => bif_ok h (fun h => chunk_ok ck_358_23 h) (fun h => chunk_ok ck_358_24 h)) (fun h => bif_ok h (fun h => chunk_ok ck_358_25 h) (fun h => chunk_ok ck_358_26 h)))))) (fun h => bif_ok h (fun h => bif_ok h (fun h => bif_ok h (fun h => bif_ok h (fun h => chunk_ok ck_358_27 h) (fun h => bif_ok h (fun h => chunk_ok ck_358_28 h) (fun h => chunk_ok ck_358_29 h))) (fun h => bif_ok h (fun h => bif_ok h (fun h => chunk_ok ck_358_30 h) (fun h => chunk_ok ck_358_31 h)) (fun h => bif_ok h (fun h => chunk_ok ck_358_32 h) (fun h => chunk_ok ck_358_33 h)))) (fun h => bif_ok h (fun h => bif_ok h (fun h => chunk_ok ck_358_34 h) (fun h => bif_ok h (fun h => chunk_ok ck_358_35 h) (fun h => chunk_ok ck_358_36 h))) (fun h => bif_ok h (fun h => bif_ok h (fun h => chunk_ok ck_358_37 h) (fun h => chunk_ok ck_358_38 h)) (fun h => bif_ok h (fun h => chunk_ok ck_358_39 h) (fun h => chunk_ok ck_358_40 h))))) (fun h => bif_ok h (fun h => bif_ok h (fun h => bif_ok h (fun h => chunk_ok ck_358_41 h) (fun h => bif_ok h (fun h => chunk_ok ck_358_42 h) (fun h => chunk_ok ck_358_43 h))) (fun h => bif_ok h (fun h => bif_ok h (fun h => chunk_ok ck_358_44 h) (fun h => chunk_ok ck_358_45 h)) (fun h => bif_ok h (fun h => chunk_ok ck_358_46 h) (fun h => chunk_ok ck_358_47 h)))) (fun h => bif_ok h (fun h => bif_ok h (fun h => chunk_ok ck_358_48 h) (fun h => bif_ok h (fun h => chunk_ok ck_358_49 h) (fun h => chunk_ok ck_358_50 h))) (fun h => bif_ok h (fun h => bif_ok h (fun h => chunk_ok ck_358_51 h) (fun h => chunk_ok ck_358_52 h)) (fun h => bif_ok h (fun h => chunk_ok ck_358_53 h) (fun h => chunk_ok ck_358_54 h)))))))
theorem ck_359_0 : cl_359_0.all (fun q => mchk 359 q.1 q.2) = true := by decide +kernel
theorem ck_359_1 : cl_359_1.all (fun q => mchk 359 q.1 q.2) = true := by decide +kernel
theorem ck_359_2 : cl_359_2.all (fun q => mchk 359 q.1 q.2) = true := by decide +kernel
theorem ck_359_3 : cl_359_3.all (fun q => mchk 359 q.1 q.2) = true := by decide +kernel
theorem cdok_359 (pc : Nat) (I : mI) : cd_359 pc = some I → mchk 359 pc I = true := (fun h => bif_ok h (fun h => bif_ok h (fun h => chunk_ok ck_359_0 h) (fun h => chunk_ok ck_359_1 h)) (fun h => bif_ok h (fun h => chunk_ok ck_359_2 h) (fun h => chunk_ok ck_359_3 h)))
theorem ck_360_0 : cl_360_0.all (fun q => mchk 360 q.1 q.2) = true := by decide +kernel
theorem ck_360_1 : cl_360_1.all (fun q => mchk 360 q.1 q.2) = true := by decide +kernel
theorem cdok_360 (pc : Nat) (I : mI) : cd_360 pc = some I → mchk 360 pc I = true := (fun h => bif_ok h (fun h => chunk_ok ck_360_0 h) (fun h => chunk_ok ck_360_1 h))
theorem ck_361_0 : cl_361_0.all (fun q => mchk 361 q.1 q.2) = true := by decide +kernel
theorem ck_361_1 : cl_361_1.all (fun q => mchk 361 q.1 q.2) = true := by decide +kernel
theorem cdok_361 (pc : Nat) (I : mI) : cd_361 pc = some I → mchk 361 pc I = true := (fun h => bif_ok h (fun h => chunk_ok ck_361_0 h) (fun h => chunk_ok ck_361_1 h))
theorem ck_362_0 : cl_362_0.all (fun q => mchk 362 q.1 q.2) = true := by decide +kernel
theorem ck_362_1 : cl_362_1.all (fun q => mchk 362 q.1 q.2) = true := by decide +kernel
theorem ck_362_2 : cl_362_2.all (fun q => mchk 362 q.1 q.2) = true := by decide +kernel
theorem ck_362_3 : cl_362_3.all (fun q => mchk 362 q.1 q.2) = true := by decide +kernel
theorem ck_362_4 : cl_362_4.all (fun q => mchk 362 q.1 q.2) = true := by decide +kernel
theorem ck_362_5 : cl_362_5.all (fun q => mchk 362 q.1 q.2) = true := by decide +kernel
theorem ck_362_6 : cl_362_6.all (fun q => mchk 362 q.1 q.2) = true := by decide +kernel
theorem ck_362_7 : cl_362_7.all (fun q => mchk 362 q.1 q.2) = true := by decide +kernel
theorem ck_362_8 : cl_362_8.all (fun q => mchk 362 q.1 q.2) = true := by decide +kernel
theorem ck_362_9 : cl_362_9.all (fun q => mchk 362 q.1 q.2) = true := by decide +kernel
theorem ck_362_10 : cl_362_10.all (fun q => mchk 362 q.1 q.2) = true := by decide +kernel
theorem ck_362_11 : cl_362_11.all (fun q => mchk 362 q.1 q.2) = true := by decide +kernel
theorem ck_362_12 : cl_362_12.all (fun q => mchk 362 q.1 q.2) = true := by decide +kernel
theorem ck_362_13 : cl_362_13.all (fun q => mchk 362 q.1 q.2) = true := by decide +kernel
theorem ck_362_14 : cl_362_14.all (fun q => mchk 362 q.1 q.2) = true := by decide +kernel
theorem ck_362_15 : cl_362_15.all (fun q => mchk 362 q.1 q.2) = true := by decide +kernel
theorem ck_362_16 : cl_362_16.all (fun q => mchk 362 q.1 q.2) = true := by decide +kernel
theorem ck_362_17 : cl_362_17.all (fun q => mchk 362 q.1 q.2) = true := by decide +kernel
theorem ck_362_18 : cl_362_18.all (fun q => mchk 362 q.1 q.2) = true := by decide +kernel
theorem ck_362_19 : cl_362_19.all (fun q => mchk 362 q.1 q.2) = true := by decide +kernel
theorem ck_362_20 : cl_362_20.all (fun q => mchk 362 q.1 q.2) = true := by decide +kernel
theorem ck_362_21 : cl_362_21.all (fun q => mchk 362 q.1 q.2) = true := by decide +kernel
theorem ck_362_22 : cl_362_22.all (fun q => mchk 362 q.1 q.2) = true := by decide +kernel
theorem cdok_362 (pc : Nat) (I : mI) : cd_362 pc = some I → mchk 362 pc I = true := (fun h => bif_ok h (fun h => bif_ok h (fun h => bif_ok h (fun h => bif_ok h (fun h => chunk_ok ck_362_0 h) (fun h => chunk_ok ck_362_1 h)) (fun h => bif_ok h (fun h => chunk_ok ck_362_2 h) (fun h => bif_ok h (fun h => chunk_ok ck_362_3 h) (fun h => chunk_ok ck_362_4 h)))) (fun h => bif_ok h (fun h => bif_ok h (fun h => chunk_ok ck_362_5 h) (fun h => bif_ok h (fun h => chunk_ok ck_362_6 h) (fun h => chunk_ok ck_362_7 h))) (fun h => bif_ok h (fun h => chunk_ok ck_362_8 h) (fun h => bif_ok h (fun h => chunk_ok ck_362_9 h) (fun h => chunk_ok ck_362_10 h))))) (fun h => bif_ok h (fun h => bif_ok h (fun h => bif_ok h (fun h => chunk_ok ck_362_11 h) (fun h => bif_ok h (fun h => chunk_ok ck_362_12 h) (fun h => chunk_ok ck_362_13 h))) (fun h => bif_ok h (fun h => chunk_ok ck_362_14 h) (fun h => bif_ok h (fun h => chunk_ok ck_362_15 h) (fun h => chunk_ok ck_362_16 h)))) (fun h => bif_ok h (fun h => bif_ok h (fun h => chunk_ok ck_362_17 h) (fun h => bif_ok h (fun h => chunk_ok ck_362_18 h) (fun h => chunk_ok ck_362_19 h))) (fun h => bif_ok h (fun h => chunk_ok ck_362_20 h) (fun h => bif_ok h (fun h => chunk_ok ck_362_21 h) (fun h => chunk_ok ck_362_22 h))))))
theorem ck_363_0 : cl_363_0.all (fun q => mchk 363 q.1 q.2) = true := by decide +kernel
theorem cdok_363 (pc : Nat) (I : mI) : cd_363 pc = some I → mchk 363 pc I = true := (fun h => chunk_ok ck_363_0 h)
theorem ck_364_0 : cl_364_0.all (fun q => mchk 364 q.1 q.2) = true := by decide +kernel
theorem ck_364_1 : cl_364_1.all (fun q => mchk 364 q.1 q.2) = true := by decide +kernel
theorem cdok_364 (pc : Nat) (I : mI) : cd_364 pc = some I → mchk 364 pc I = true := (fun h => bif_ok h (fun h => chunk_ok ck_364_0 h) (fun h => chunk_ok ck_364_1 h))
theorem ck_365_0 : cl_365_0.all (fun q => mchk 365 q.1 q.2) = true := by decide +kernel
theorem ck_365_1 : cl_365_1.all (fun q => mchk 365 q.1 q.2) = true := by decide +kernel
theorem cdok_365 (pc : Nat) (I : mI) : cd_365 pc = some I → mchk 365 pc I = true := (fun h => bif_ok h (fun h => chunk_ok ck_365_0 h) (fun h => chunk_ok ck_365_1 h))
theorem ck_366_0 : cl_366_0.all (fun q => mchk 366 q.1 q.2) = true := by decide +kernel
theorem ck_366_1 : cl_366_1.all (fun q => mchk 366 q.1 q.2) = true := by decide +kernel
theorem ck_366_2 : cl_366_2.all (fun q => mchk 366 q.1 q.2) = true := by decide +kernel
theorem ck_366_3 : cl_366_3.all (fun q => mchk 366 q.1 q.2) = true := by decide +kernel
theorem ck_366_4 : cl_366_4.all (fun q => mchk 366 q.1 q.2) = true := by decide +kernel
theorem ck_366_5 : cl_366_5.all (fun q => mchk 366 q.1 q.2) = true := by decide +kernel
theorem ck_366_6 : cl_366_6.all (fun q => mchk 366 q.1 q.2) = true := by decide +kernel
theorem ck_366_7 : cl_366_7.all (fun q => mchk 366 q.1 q.2) = true := by decide +kernel
theorem ck_366_8 : cl_366_8.all (fun q => mchk 366 q.1 q.2) = true := by decide +kernel
theorem ck_366_9 : cl_366_9.all (fun q => mchk 366 q.1 q.2) = true := by decide +kernel
theorem ck_366_10 : cl_366_10.all (fun q => mchk 366 q.1 q.2) = true := by decide +kernel
theorem ck_366_11 : cl_366_11.all (fun q => mchk 366 q.1 q.2) = true := by decide +kernel
theorem ck_366_12 : cl_366_12.all (fun q => mchk 366 q.1 q.2) = true := by decide +kernel
theorem ck_366_13 : cl_366_13.all (fun q => mchk 366 q.1 q.2) = true := by decide +kernel
theorem ck_366_14 : cl_366_14.all (fun q => mchk 366 q.1 q.2) = true := by decide +kernel
theorem ck_366_15 : cl_366_15.all (fun q => mchk 366 q.1 q.2) = true := by decide +kernel
theorem cdok_366 (pc : Nat) (I : mI) : cd_366 pc = some I → mchk 366 pc I = true := (fun h => bif_ok h (fun h => bif_ok h (fun h => bif_ok h (fun h => bif_ok h (fun h => chunk_ok ck_366_0 h) (fun h => chunk_ok ck_366_1 h)) (fun h => bif_ok h (fun h => chunk_ok ck_366_2 h) (fun h => chunk_ok ck_366_3 h))) (fun h => bif_ok h (fun h => bif_ok h (fun h => chunk_ok ck_366_4 h) (fun h => chunk_ok ck_366_5 h)) (fun h => bif_ok h (fun h => chunk_ok ck_366_6 h) (fun h => chunk_ok ck_366_7 h)))) (fun h => bif_ok h (fun h => bif_ok h (fun h => bif_ok h (fun h => chunk_ok ck_366_8 h) (fun h => chunk_ok ck_366_9 h)) (fun h => bif_ok h (fun h => chunk_ok ck_366_10 h) (fun h => chunk_ok ck_366_11 h))) (fun h => bif_ok h (fun h => bif_ok h (fun h => chunk_ok ck_366_12 h) (fun h => chunk_ok ck_366_13 h)) (fun h => bif_ok h (fun h => chunk_ok ck_366_14 h) (fun h => chunk_ok ck_366_15 h)))))
theorem ck_367_0 : cl_367_0.all (fun q => mchk 367 q.1 q.2) = true := by decide +kernel
theorem ck_367_1 : cl_367_1.all (fun q => mchk 367 q.1 q.2) = true := by decide +kernel
theorem ck_367_2 : cl_367_2.all (fun q => mchk 367 q.1 q.2) = true := by decide +kernel
theorem ck_367_3 : cl_367_3.all (fun q => mchk 367 q.1 q.2) = true := by decide +kernel
theorem ck_367_4 : cl_367_4.all (fun q => mchk 367 q.1 q.2) = true := by decide +kernel
theorem ck_367_5 : cl_367_5.all (fun q => mchk 367 q.1 q.2) = true := by decide +kernel
theorem ck_367_6 : cl_367_6.all (fun q => mchk 367 q.1 q.2) = true := by decide +kernel
theorem ck_367_7 : cl_367_7.all (fun q => mchk 367 q.1 q.2) = true := by decide +kernel
theorem ck_367_8 : cl_367_8.all (fun q => mchk 367 q.1 q.2) = true := by decide +kernel
theorem ck_367_9 : cl_367_9.all (fun q => mchk 367 q.1 q.2) = true := by decide +kernel
theorem ck_367_10 : cl_367_10.all (fun q => mchk 367 q.1 q.2) = true := by decide +kernel
theorem ck_367_11 : cl_367_11.all (fun q => mchk 367 q.1 q.2) = true := by decide +kernel
theorem ck_367_12 : cl_367_12.all (fun q => mchk 367 q.1 q.2) = true := by decide +kernel
theorem ck_367_13 : cl_367_13.all (fun q => mchk 367 q.1 q.2) = true := by decide +kernel
theorem ck_367_14 : cl_367_14.all (fun q => mchk 367 q.1 q.2) = true := by decide +kernel
theorem ck_367_15 : cl_367_15.all (fun q => mchk 367 q.1 q.2) = true := by decide +kernel
theorem ck_367_16 : cl_367_16.all (fun q => mchk 367 q.1 q.2) = true := by decide +kernel
theorem ck_367_17 : cl_367_17.all (fun q => mchk 367 q.1 q.2) = true := by decide +kernel
theorem cdok_367 (pc : Nat) (I : mI) : cd_367 pc = some I → mchk 367 pc I = true := (fun h => bif_ok h (fun h => bif_ok h (fun h => bif_ok h (fun h => bif_ok h (fun h => chunk_ok ck_367_0 h) (fun h => chunk_ok ck_367_1 h)) (fun h => bif_ok h (fun h => chunk_ok ck_367_2 h) (fun h => chunk_ok ck_367_3 h))) (fun h => bif_ok h (fun h => bif_ok h (fun h => chunk_ok ck_367_4 h) (fun h => chunk_ok ck_367_5 h)) (fun h => bif_ok h (fun h => chunk_ok ck_367_6 h) (fun h => bif_ok h (fun h => chunk_ok ck_367_7 h) (fun h => chunk_ok ck_367_8 h))))) (fun h => bif_ok h (fun h => bif_ok h (fun h => bif_ok h (fun h => chunk_ok ck_367_9 h) (fun h => chunk_ok ck_367_10 h)) (fun h => bif_ok h (fun h => chunk_ok ck_367_11 h) (fun h => chunk_ok ck_367_12 h))) (fun h => bif_ok h (fun h => bif_ok h (fun h => chunk_ok ck_367_13 h) (fun h => chunk_ok ck_367_14 h)) (fun h => bif_ok h (fun h => chunk_ok ck_367_15 h) (fun h => bif_ok h (fun h => chunk_ok ck_367_16 h) (fun h => chunk_ok ck_367_17 h))))))
theorem ck_368_0 : cl_368_0.all (fun q => mchk 368 q.1 q.2) = true := by decide +kernel
theorem ck_368_1 : cl_368_1.all (fun q => mchk 368 q.1 q.2) = true := by decide +kernel
theorem ck_368_2 : cl_368_2.all (fun q => mchk 368 q.1 q.2) = true := by decide +kernel
theorem ck_368_3 : cl_368_3.all (fun q => mchk 368 q.1 q.2) = true := by decide +kernel
theorem ck_368_4 : cl_368_4.all (fun q => mchk 368 q.1 q.2) = true := by decide +kernel
theorem ck_368_5 : cl_368_5.all (fun q => mchk 368 q.1 q.2) = true := by decide +kernel
theorem ck_368_6 : cl_368_6.all (fun q => mchk 368 q.1 q.2) = true := by decide +kernel
theorem ck_368_7 : cl_368_7.all (fun q => mchk 368 q.1 q.2) = true := by decide +kernel
theorem ck_368_8 : cl_368_8.all (fun q => mchk 368 q.1 q.2) = true := by decide +kernel
theorem cdok_368 (pc : Nat) (I : mI) : cd_368 pc = some I → mchk 368 pc I = true := (fun h => bif_ok h (fun h => bif_ok h (fun h => bif_ok h (fun h => chunk_ok ck_368_0 h) (fun h => chunk_ok ck_368_1 h)) (fun h => bif_ok h (fun h => chunk_ok ck_368_2 h) (fun h => chunk_ok ck_368_3 h))) (fun h => bif_ok h (fun h => bif_ok h (fun h => chunk_ok ck_368_4 h) (fun h => chunk_ok ck_368_5 h)) (fun h => bif_ok h (fun h => chunk_ok ck_368_6 h) (fun h => bif_ok h (fun h => chunk_ok ck_368_7 h) (fun h => chunk_ok ck_368_8 h)))))
theorem ck_369_0 : cl_369_0.all (fun q => mchk 369 q.1 q.2) = true := by decide +kernel
theorem cdok_369 (pc : Nat) (I : mI) : cd_369 pc = some I → mchk 369 pc I = true := (fun h => chunk_ok ck_369_0 h)
theorem ck_370_0 : cl_370_0.all (fun q => mchk 370 q.1 q.2) = true := by decide +kernel
theorem ck_370_1 : cl_370_1.all (fun q => mchk 370 q.1 q.2) = true := by decide +kernel
theorem cdok_370 (pc : Nat) (I : mI) : cd_370 pc = some I → mchk 370 pc I = true := (fun h => bif_ok h (fun h => chunk_ok ck_370_0 h) (fun h => chunk_ok ck_370_1 h))
theorem ck_371_0 : cl_371_0.all (fun q => mchk 371 q.1 q.2) = true := by decide +kernel
theorem cdok_371 (pc : Nat) (I : mI) : cd_371 pc = some I → mchk 371 pc I = true := (fun h => chunk_ok ck_371_0 h)
theorem ck_372_0 : cl_372_0.all (fun q => mchk 372 q.1 q.2) = true := by decide +kernel
theorem cdok_372 (pc : Nat) (I : mI) : cd_372 pc = some I → mchk 372 pc I = true := (fun h => chunk_ok ck_372_0 h)
theorem ck_373_0 : cl_373_0.all (fun q => mchk 373 q.1 q.2) = true := by decide +kernel
theorem cdok_373 (pc : Nat) (I : mI) : cd_373 pc = some I → mchk 373 pc I = true := (fun h => chunk_ok ck_373_0 h)
theorem ck_374_0 : cl_374_0.all (fun q => mchk 374 q.1 q.2) = true := by decide +kernel
theorem ck_374_1 : cl_374_1.all (fun q => mchk 374 q.1 q.2) = true := by decide +kernel
theorem ck_374_2 : cl_374_2.all (fun q => mchk 374 q.1 q.2) = true := by decide +kernel
theorem ck_374_3 : cl_374_3.all (fun q => mchk 374 q.1 q.2) = true := by decide +kernel
theorem ck_374_4 : cl_374_4.all (fun q => mchk 374 q.1 q.2) = true := by decide +kernel
theorem cdok_374 (pc : Nat) (I : mI) : cd_374 pc = some I → mchk 374 pc I = true := (fun h => bif_ok h (fun h => bif_ok h (fun h => chunk_ok ck_374_0 h) (fun h => chunk_ok ck_374_1 h)) (fun h => bif_ok h (fun h => chunk_ok ck_374_2 h) (fun h => bif_ok h (fun h => chunk_ok ck_374_3 h) (fun h => chunk_ok ck_374_4 h))))
theorem ck_375_0 : cl_375_0.all (fun q => mchk 375 q.1 q.2) = true := by decide +kernel
theorem ck_375_1 : cl_375_1.all (fun q => mchk 375 q.1 q.2) = true := by decide +kernel
theorem ck_375_2 : cl_375_2.all (fun q => mchk 375 q.1 q.2) = true := by decide +kernel
theorem ck_375_3 : cl_375_3.all (fun q => mchk 375 q.1 q.2) = true := by decide +kernel
theorem ck_375_4 : cl_375_4.all (fun q => mchk 375 q.1 q.2) = true := by decide +kernel
theorem ck_375_5 : cl_375_5.all (fun q => mchk 375 q.1 q.2) = true := by decide +kernel
theorem ck_375_6 : cl_375_6.all (fun q => mchk 375 q.1 q.2) = true := by decide +kernel
theorem ck_375_7 : cl_375_7.all (fun q => mchk 375 q.1 q.2) = true := by decide +kernel
theorem ck_375_8 : cl_375_8.all (fun q => mchk 375 q.1 q.2) = true := by decide +kernel
theorem ck_375_9 : cl_375_9.all (fun q => mchk 375 q.1 q.2) = true := by decide +kernel
theorem ck_375_10 : cl_375_10.all (fun q => mchk 375 q.1 q.2) = true := by decide +kernel
theorem ck_375_11 : cl_375_11.all (fun q => mchk 375 q.1 q.2) = true := by decide +kernel
theorem ck_375_12 : cl_375_12.all (fun q => mchk 375 q.1 q.2) = true := by decide +kernel
theorem ck_375_13 : cl_375_13.all (fun q => mchk 375 q.1 q.2) = true := by decide +kernel
theorem ck_375_14 : cl_375_14.all (fun q => mchk 375 q.1 q.2) = true := by decide +kernel
theorem ck_375_15 : cl_375_15.all (fun q => mchk 375 q.1 q.2) = true := by decide +kernel
theorem ck_375_16 : cl_375_16.all (fun q => mchk 375 q.1 q.2) = true := by decide +kernel
theorem ck_375_17 : cl_375_17.all (fun q => mchk 375 q.1 q.2) = true := by decide +kernel
theorem ck_375_18 : cl_375_18.all (fun q => mchk 375 q.1 q.2) = true := by decide +kernel
theorem ck_375_19 : cl_375_19.all (fun q => mchk 375 q.1 q.2) = true := by decide +kernel
theorem ck_375_20 : cl_375_20.all (fun q => mchk 375 q.1 q.2) = true := by decide +kernel
theorem ck_375_21 : cl_375_21.all (fun q => mchk 375 q.1 q.2) = true := by decide +kernel
theorem ck_375_22 : cl_375_22.all (fun q => mchk 375 q.1 q.2) = true := by decide +kernel
theorem ck_375_23 : cl_375_23.all (fun q => mchk 375 q.1 q.2) = true := by decide +kernel
theorem ck_375_24 : cl_375_24.all (fun q => mchk 375 q.1 q.2) = true := by decide +kernel
theorem ck_375_25 : cl_375_25.all (fun q => mchk 375 q.1 q.2) = true := by decide +kernel
theorem cdok_375 (pc : Nat) (I : mI) : cd_375 pc = some I → mchk 375 pc I = true := (fun h => bif_ok h (fun h => bif_ok h (fun h => bif_ok h (fun h => bif_ok h (fun h => chunk_ok ck_375_0 h) (fun h => bif_ok h (fun h => chunk_ok ck_375_1 h) (fun h => chunk_ok ck_375_2 h))) (fun h => bif_ok h (fun h => chunk_ok ck_375_3 h) (fun h => bif_ok h (fun h => chunk_ok ck_375_4 h) (fun h => chunk_ok ck_375_5 h)))) (fun h => bif_ok h (fun h => bif_ok h (fun h => chunk_ok ck_375_6 h) (fun h => bif_ok h (fun h => chunk_ok ck_375_7 h) (fun h => chunk_ok ck_375_8 h))) (fun h => bif_ok h (fun h => bif_ok h (fun h => chunk_ok ck_375_9 h) (fun h => chunk_ok ck_375_10 h)) (fun h => bif_ok h (fun h => chunk_ok ck_375_11 h) (fun h => chunk_ok ck_375_12 h))))) (fun h => bif_ok h (fun h => bif_ok h (fun h => bif_ok h (fun h => chunk_ok ck_375_13 h) (fun h => bif_ok h (fun h => chunk_ok ck_375_14 h) (fun h => chunk_ok ck_375_15 h))) (fun h => bif_ok h (fun h => chunk_ok ck_375_16 h) (fun h => bif_ok h (fun h => chunk_ok ck_375_17 h) (fun h => chunk_ok ck_375_18 h)))) (fun h => bif_ok h (fun h => bif_ok h (fun h => chunk_ok ck_375_19 h) (fun h => bif_ok h (fun h => chunk_ok ck_375_20 h) (fun h => chunk_ok ck_375_21 h))) (fun h => bif_ok h (fun h => bif_ok h (fun h => chunk_ok ck_375_22 h) (fun h => chunk_ok ck_375_23 h)) (fun h => bif_ok h (fun h => chunk_ok ck_375_24 h) (fun h => chunk_ok ck_375_25 h))))))
theorem cd_ok (k pc : Nat) (I : mI) : cd k pc = some I → mchk k pc I = true := (fun h => bif_ok h (fun h => bif_ok h (fun h => bif_ok h (fun h => bif_ok h (fun h => bif_ok h (fun h => bif_ok h (fun h => bif_ok h (fun h => leaf_ok h (cdok_0 pc I)) (fun h => bif_ok h (fun h => leaf_ok h (cdok_1 pc I)) (fun h => leaf_ok h (cdok_2 pc I)))) (fun h => bif_ok h (fun h => leaf_ok h (cdok_3 pc I)) (fun h => bif_ok h (fun h => leaf_ok h (cdok_4 pc I)) (fun h => leaf_ok h (cdok_5 pc I))))) (fun h => bif_ok h (fun h => bif_ok h (fun h => leaf_ok h (cdok_6 pc I)) (fun h => bif_ok h (fun h => leaf_ok h (cdok_7 pc I)) (fun h => leaf_ok h (cdok_8 pc I)))) (fun h => bif_ok h (fun h => bif_ok h (fun h => leaf_ok h (cdok_9 pc I)) (fun h => leaf_ok h (cdok_10 pc I))) (fun h => bif_ok h (fun h => leaf_ok h (cdok_11 pc I)) (fun h => leaf_ok h (cdok_12 pc I)))))) (fun h => bif_ok h (fun h => bif_ok h (fun h => bif_ok h (fun h => leaf_ok h (cdok_13 pc I)) (fun h => bif_ok h (fun h => leaf_ok h (cdok_14 pc I)) (fun h => leaf_ok h (cdok_15 pc I)))) (fun h => bif_ok h (fun h => leaf_ok h (cdok_16 pc I)) (fun h => bif_ok h (fun h => leaf_ok h (cdok_17 pc I)) (fun h => leaf_ok h (cdok_18 pc I))))) (fun h => bif_ok h (fun h => bif_ok h (fun h => leaf_ok h (cdok_19 pc I)) (fun h => bif_ok h (fun h => leaf_ok h (cdok_20 pc I)) (fun h => leaf_ok h (cdok_21 pc I)))) (fun h => bif_ok h (fun h => bif_ok h (fun h => leaf_ok h (cdok_22 pc I)) (fun h => leaf_ok h (cdok_23 pc I))) (fun h => bif_ok h (fun h => leaf_ok h (cdok_24 pc I)) (fun h => leaf_ok h (cdok_25 pc I))))))) (fun h => bif_ok h (fun h => bif_ok h (fun h => bif_ok h (fun h => bif_ok h (fun h => leaf_ok h (cdok_26 pc I)) (fun h => bif_ok h (fun h => leaf_ok h (cdok_27 pc I)) (fun h => leaf_ok h (cdok_28 pc I)))) (fun h => bif_ok h (fun h => leaf_ok h (cdok_29 pc I)) (fun h => bif_ok h (fun h => leaf_ok h (cdok_30 pc I)) (fun h => leaf_ok h (cdok_31 pc I))))) (fun h => bif_ok h (fun h => bif_ok h (fun h => leaf_ok h (cdok_32 pc I)) (fun h => bif_ok h (fun h => leaf_ok h (cdok_33 pc I)) (fun h => leaf_ok h (cdok_34 pc I)))) (fun h => bif_ok h (fun h => bif_ok h (fun h => leaf_ok h (cdok_35 pc I)) (fun h => leaf_ok h (cdok_36 pc I))) (fun h => bif_ok h (fun h => leaf_ok h (cdok_37 pc I)) (fun h => leaf_ok h (cdok_38 pc I)))))) (fun h => bif_ok h (fun h => bif_ok h (fun h => bif_ok h (fun h => leaf_ok h (cdok_39 pc I)) (fun h => bif_ok h (fun h => leaf_ok h (cdok_40 pc I)) (fun h => leaf_ok h (cdok_41 pc I)))) (fun h => bif_ok h (fun h => leaf_ok h (cdok_42 pc I)) (fun h => bif_ok h (fun h => leaf_ok h (cdok_43 pc I)) (fun h => leaf_ok h (cdok_44 pc I))))) (fun h => bif_ok h (fun h => bif_ok h (fun h => leaf_ok h (cdok_45 pc I)) (fun h => bif_ok h (fun h => leaf_ok h (cdok_46 pc I)) (fun h => leaf_ok h (cdok_47 pc I)))) (fun h => bif_ok h (fun h => bif_ok h (fun h => leaf_ok h (cdok_48 pc I)) (fun h => leaf_ok h (cdok_49 pc I))) (fun h => bif_ok h (fun h => leaf_ok h (cdok_50 pc I)) (fun h => leaf_ok h (cdok_51 pc I)))))))) (fun h => bif_ok h (fun h => bif_ok h (fun h => bif_ok h (fun h => bif_ok h (fun h => bif_ok h (fun h => leaf_ok h (cdok_52 pc I)) (fun h => bif_ok h (fun h => leaf_ok h (cdok_53 pc I)) (fun h => leaf_ok h (cdok_54 pc I)))) (fun h => bif_ok h (fun h => leaf_ok h (cdok_55 pc I)) (fun h => bif_ok h (fun h => leaf_ok h (cdok_56 pc I)) (fun h => leaf_ok h (cdok_57 pc I))))) (fun h => bif_ok h (fun h => bif_ok h (fun h => leaf_ok h (cdok_58 pc I)) (fun h => bif_ok h (fun h => leaf_ok h (cdok_59 pc I)) (fun h => leaf_ok h (cdok_60 pc I)))) (fun h => bif_ok h (fun h => bif_ok h (fun h => leaf_ok h (cdok_61 pc I)) (fun h => leaf_ok h (cdok_62 pc I))) (fun h => bif_ok h (fun h => leaf_ok h (cdok_63 pc I)) (fun h => leaf_ok h (cdok_64 pc I)))))) (fun h => bif_ok h (fun h => bif_ok h (fun h => bif_ok h (fun h => leaf_ok h (cdok_65 pc I)) (fun h => bif_ok h (fun h => leaf_ok h (cdok_66 pc I)) (fun h => leaf_ok h (cdok_67 pc I)))) (fun h => bif_ok h (fun h => leaf_ok h (cdok_68 pc I)) (fun h => bif_ok h (fun h => leaf_ok h (cdok_69 pc I)) (fun h => leaf_ok h (cdok_70 pc I))))) (fun h => bif_ok h (fun h => bif_ok h (fun h => leaf_ok h (cdok_71 pc I)) (fun h => bif_ok h (fun h => leaf_ok h (cdok_72 pc I)) (fun h => leaf_ok h (cdok_73 pc I)))) (fun h => bif_ok h (fun h => bif_ok h (fun h => leaf_ok h (cdok_74 pc I)) (fun h => leaf_ok h (cdok_75 pc I))) (fun h => bif_ok h (fun h => leaf_ok h (cdok_76 pc I)) (fun h => leaf_ok h (cdok_77 pc I))))))) (fun h => bif_ok h (fun h => bif_ok h (fun h => bif_ok h (fun h => bif_ok h (fun h => leaf_ok h (cdok_78 pc I)) (fun h => bif_ok h (fun h => leaf_ok h (cdok_79 pc I)) (fun h => leaf_ok h (cdok_80 pc I)))) (fun h => bif_ok h (fun h => leaf_ok h (cdok_81 pc I)) (fun h => bif_ok h (fun h => leaf_ok h (cdok_82 pc I)) (fun h => leaf_ok h (cdok_83 pc I))))) (fun h => bif_ok h (fun h => bif_ok h (fun h => leaf_ok h (cdok_84 pc I)) (fun h => bif_ok h (fun h => leaf_ok h (cdok_85 pc I)) (fun h => leaf_ok h (cdok_86 pc I)))) (fun h => bif_ok h (fun h => bif_ok h (fun h => leaf_ok h (cdok_89 pc I)) (fun h => leaf_ok h (cdok_90 pc I))) (fun h => bif_ok h (fun h => leaf_ok h (cdok_91 pc I)) (fun h => leaf_ok h (cdok_92 pc I)))))) (fun h => bif_ok h (fun h => bif_ok h (fun h => bif_ok h (fun h => leaf_ok h (cdok_93 pc I)) (fun h => bif_ok h (fun h => leaf_ok h (cdok_94 pc I)) (fun h => leaf_ok h (cdok_95 pc I)))) (fun h => bif_ok h (fun h => leaf_ok h (cdok_96 pc I)) (fun h => bif_ok h (fun h => leaf_ok h (cdok_97 pc I)) (fun h => leaf_ok h (cdok_98 pc I))))) (fun h => bif_ok h (fun h => bif_ok h (fun h => leaf_ok h (cdok_99 pc I)) (fun h => bif_ok h (fun h => leaf_ok h (cdok_100 pc I)) (fun h => leaf_ok h (cdok_101 pc I)))) (fun h => bif_ok h (fun h => bif_ok h (fun h => leaf_ok h (cdok_103 pc I)) (fun h => leaf_ok h (cdok_105 pc I))) (fun h => bif_ok h (fun h => leaf_ok h (cdok_106 pc I)) (fun h => leaf_ok h (cdok_107 pc I))))))))) (fun h => bif_ok h (fun h => bif_ok h (fun h => bif_ok h (fun h => bif_ok h (fun h => bif_ok h (fun h => bif_ok h (fun h => leaf_ok h (cdok_108 pc I)) (fun h => bif_ok h (fun h => leaf_ok h (cdok_109 pc I)) (fun h => leaf_ok h (cdok_110 pc I)))) (fun h => bif_ok h (fun h => leaf_ok h (cdok_111 pc I)) (fun h => bif_ok h (fun h => leaf_ok h (cdok_112 pc I)) (fun h => leaf_ok h (cdok_113 pc I))))) (fun h => bif_ok h (fun h => bif_ok h (fun h => leaf_ok h (cdok_114 pc I)) (fun h => bif_ok h (fun h => leaf_ok h (cdok_115 pc I)) (fun h => leaf_ok h (cdok_116 pc I)))) (fun h => bif_ok h (fun h => bif_ok h (fun h => leaf_ok h (cdok_117 pc I)) (fun h => leaf_ok h (cdok_118 pc I))) (fun h => bif_ok h (fun h => leaf_ok h (cdok_119 pc I)) (fun h => leaf_ok h (cdok_121 pc I)))))) (fun h => bif_ok h (fun h => bif_ok h (fun h => bif_ok h (fun h => leaf_ok h (cdok_122 pc I)) (fun h => bif_ok h (fun h => leaf_ok h (cdok_123 pc I)) (fun h => leaf_ok h (cdok_124 pc I)))) (fun h => bif_ok h (fun h => leaf_ok h (cdok_125 pc I)) (fun h => bif_ok h (fun h => leaf_ok h (cdok_126 pc I)) (fun h => leaf_ok h (cdok_127 pc I))))) (fun h => bif_ok h (fun h => bif_ok h (fun h => leaf_ok h (cdok_128 pc I)) (fun h => bif_ok h (fun h => leaf_ok h (cdok_129 pc I)) (fun h => leaf_ok h (cdok_284 pc I)))) (fun h => bif_ok h (fun h => bif_ok h (fun h => leaf_ok h (cdok_285 pc I)) (fun h => leaf_ok h (cdok_286 pc I))) (fun h => bif_ok h (fun h => leaf_ok h (cdok_287 pc I)) (fun h => leaf_ok h (cdok_288 pc I))))))) (fun h => bif_ok h (fun h => bif_ok h (fun h => bif_ok h (fun h => bif_ok h (fun h => leaf_ok h (cdok_289 pc I)) (fun h => bif_ok h (fun h => leaf_ok h (cdok_290 pc I)) (fun h => leaf_ok h (cdok_291 pc I)))) (fun h => bif_ok h (fun h => leaf_ok h (cdok_292 pc I)) (fun h => bif_ok h (fun h => leaf_ok h (cdok_293 pc I)) (fun h => leaf_ok h (cdok_294 pc I))))) (fun h => bif_ok h (fun h => bif_ok h (fun h => leaf_ok h (cdok_295 pc I)) (fun h => bif_ok h (fun h => leaf_ok h (cdok_297 pc I)) (fun h => leaf_ok h (cdok_298 pc I)))) (fun h => bif_ok h (fun h => bif_ok h (fun h => leaf_ok h (cdok_299 pc I)) (fun h => leaf_ok h (cdok_300 pc I))) (fun h => bif_ok h (fun h => leaf_ok h (cdok_301 pc I)) (fun h => leaf_ok h (cdok_302 pc I)))))) (fun h => bif_ok h (fun h => bif_ok h (fun h => bif_ok h (fun h => leaf_ok h (cdok_303 pc I)) (fun h => bif_ok h (fun h => leaf_ok h (cdok_304 pc I)) (fun h => leaf_ok h (cdok_306 pc I)))) (fun h => bif_ok h (fun h => leaf_ok h (cdok_307 pc I)) (fun h => bif_ok h (fun h => leaf_ok h (cdok_308 pc I)) (fun h => leaf_ok h (cdok_309 pc I))))) (fun h => bif_ok h (fun h => bif_ok h (fun h => leaf_ok h (cdok_310 pc I)) (fun h => bif_ok h (fun h => leaf_ok h (cdok_311 pc I)) (fun h => leaf_ok h (cdok_312 pc I)))) (fun h => bif_ok h (fun h => bif_ok h (fun h => leaf_ok h (cdok_313 pc I)) (fun h => leaf_ok h (cdok_314 pc I))) (fun h => bif_ok h (fun h => leaf_ok h (cdok_315 pc I)) (fun h => leaf_ok h (cdok_316 pc I)))))))) (fun h => bif_ok h (fun h => bif_ok h (fun h => bif_ok h (fun h => bif_ok h (fun h => bif_ok h (fun h => leaf_ok h (cdok_317 pc I)) (fun h => bif_ok h (fun h => leaf_ok h (cdok_318 pc I)) (fun h => leaf_ok h (cdok_319 pc I)))) (fun h => bif_ok h (fun h => leaf_ok h (cdok_320 pc I)) (fun h => bif_ok h (fun h => leaf_ok h (cdok_321 pc I)) (fun h => leaf_ok h (cdok_323 pc I))))) (fun h => bif_ok h (fun h => bif_ok h (fun h => leaf_ok h (cdok_324 pc I)) (fun h => bif_ok h (fun h => leaf_ok h (cdok_326 pc I)) (fun h => leaf_ok h (cdok_327 pc I)))) (fun h => bif_ok h (fun h => bif_ok h (fun h => leaf_ok h (cdok_328 pc I)) (fun h => leaf_ok h (cdok_329 pc I))) (fun h => bif_ok h (fun h => leaf_ok h (cdok_330 pc I)) (fun h => leaf_ok h (cdok_332 pc I)))))) (fun h => bif_ok h (fun h => bif_ok h (fun h => bif_ok h (fun h => leaf_ok h (cdok_333 pc I)) (fun h => bif_ok h (fun h => leaf_ok h (cdok_334 pc I)) (fun h => leaf_ok h (cdok_335 pc I)))) (fun h => bif_ok h (fun h => leaf_ok h (cdok_336 pc I)) (fun h => bif_ok h (fun h => leaf_ok h (cdok_337 pc I)) (fun h => leaf_ok h (cdok_338 pc I))))) (fun h => bif_ok h (fun h => bif_ok h (fun h => leaf_ok h (cdok_339 pc I)) (fun h => bif_ok h (fun h => leaf_ok h (cdok_340 pc I)) (fun h => leaf_ok h (cdok_342 pc I)))) (fun h => bif_ok h (fun h => bif_ok h (fun h => leaf_ok h (cdok_343 pc I)) (fun h => leaf_ok h (cdok_344 pc I))) (fun h => bif_ok h (fun h => leaf_ok h (cdok_345 pc I)) (fun h => leaf_ok h (cdok_346 pc I))))))) (fun h => bif_ok h (fun h => bif_ok h (fun h => bif_ok h (fun h => bif_ok h (fun h => leaf_ok h (cdok_347 pc I)) (fun h => bif_ok h (fun h => leaf_ok h (cdok_348 pc I)) (fun h => leaf_ok h (cdok_351 pc I)))) (fun h => bif_ok h (fun h => leaf_ok h (cdok_352 pc I)) (fun h => bif_ok h (fun h => leaf_ok h (cdok_353 pc I)) (fun h => leaf_ok h (cdok_354 pc I))))) (fun h => bif_ok h (fun h => bif_ok h (fun h => leaf_ok h (cdok_355 pc I)) (fun h => bif_ok h (fun h => leaf_ok h (cdok_356 pc I)) (fun h => leaf_ok h (cdok_357 pc I)))) (fun h => bif_ok h (fun h => bif_ok h (fun h => leaf_ok h (cdok_358 pc I)) (fun h => leaf_ok h (cdok_359 pc I))) (fun h => bif_ok h (fun h => leaf_ok h (cdok_360 pc I)) (fun h => leaf_ok h (cdok_361 pc I)))))) (fun h => bif_ok h (fun h => bif_ok h (fun h => bif_ok h (fun h => leaf_ok h (cdok_362 pc I)) (fun h => bif_ok h (fun h => leaf_ok h (cdok_363 pc I)) (fun h => leaf_ok h (cdok_364 pc I)))) (fun h => bif_ok h (fun h => bif_ok h (fun h => leaf_ok h (cdok_365 pc I)) (fun h => leaf_ok h (cdok_366 pc I))) (fun h => bif_ok h (fun h => leaf_ok h (cdok_367 pc I)) (fun h => leaf_ok h (cdok_368 pc I))))) (fun h => bif_ok h (fun h => bif_ok h (fun h => leaf_ok h (cdok_369 pc I)) (fun h => bif_ok h (fun h => leaf_ok h (cdok_370 pc I)) (fun h => leaf_ok h (cdok_371 pc I)))) (fun h => bif_ok h (fun h => bif_ok h (fun h => leaf_ok h (cdok_372 pc I)) (fun h => leaf_ok h (cdok_373 pc I))) (fun h => bif_ok h (fun h => leaf_ok h (cdok_374 pc I)) (fun h => leaf_ok h (cdok_375 pc I))))))))))
