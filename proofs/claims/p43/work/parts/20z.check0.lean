theorem ck_0_0 : cl_0_0.all (fun q => mchk 0 q.1 q.2) = true := by decide +kernel
theorem ck_0_1 : cl_0_1.all (fun q => mchk 0 q.1 q.2) = true := by decide +kernel
theorem ck_0_2 : cl_0_2.all (fun q => mchk 0 q.1 q.2) = true := by decide +kernel
theorem ck_0_3 : cl_0_3.all (fun q => mchk 0 q.1 q.2) = true := by decide +kernel
theorem ck_0_4 : cl_0_4.all (fun q => mchk 0 q.1 q.2) = true := by decide +kernel
theorem cdok_0 (pc : Nat) (I : mI) : cd_0 pc = some I → mchk 0 pc I = true := (fun h => bif_ok h (fun h => bif_ok h (fun h => chunk_ok ck_0_0 h) (fun h => chunk_ok ck_0_1 h)) (fun h => bif_ok h (fun h => chunk_ok ck_0_2 h) (fun h => bif_ok h (fun h => chunk_ok ck_0_3 h) (fun h => chunk_ok ck_0_4 h))))
theorem ck_1_0 : cl_1_0.all (fun q => mchk 1 q.1 q.2) = true := by decide +kernel
theorem cdok_1 (pc : Nat) (I : mI) : cd_1 pc = some I → mchk 1 pc I = true := (fun h => chunk_ok ck_1_0 h)
theorem ck_2_0 : cl_2_0.all (fun q => mchk 2 q.1 q.2) = true := by decide +kernel
theorem ck_2_1 : cl_2_1.all (fun q => mchk 2 q.1 q.2) = true := by decide +kernel
theorem ck_2_2 : cl_2_2.all (fun q => mchk 2 q.1 q.2) = true := by decide +kernel
theorem cdok_2 (pc : Nat) (I : mI) : cd_2 pc = some I → mchk 2 pc I = true := (fun h => bif_ok h (fun h => chunk_ok ck_2_0 h) (fun h => bif_ok h (fun h => chunk_ok ck_2_1 h) (fun h => chunk_ok ck_2_2 h)))
theorem ck_3_0 : cl_3_0.all (fun q => mchk 3 q.1 q.2) = true := by decide +kernel
theorem ck_3_1 : cl_3_1.all (fun q => mchk 3 q.1 q.2) = true := by decide +kernel
theorem ck_3_2 : cl_3_2.all (fun q => mchk 3 q.1 q.2) = true := by decide +kernel
theorem ck_3_3 : cl_3_3.all (fun q => mchk 3 q.1 q.2) = true := by decide +kernel
theorem ck_3_4 : cl_3_4.all (fun q => mchk 3 q.1 q.2) = true := by decide +kernel
theorem ck_3_5 : cl_3_5.all (fun q => mchk 3 q.1 q.2) = true := by decide +kernel
theorem cdok_3 (pc : Nat) (I : mI) : cd_3 pc = some I → mchk 3 pc I = true := (fun h => bif_ok h (fun h => bif_ok h (fun h => chunk_ok ck_3_0 h) (fun h => bif_ok h (fun h => chunk_ok ck_3_1 h) (fun h => chunk_ok ck_3_2 h))) (fun h => bif_ok h (fun h => chunk_ok ck_3_3 h) (fun h => bif_ok h (fun h => chunk_ok ck_3_4 h) (fun h => chunk_ok ck_3_5 h))))
theorem ck_4_0 : cl_4_0.all (fun q => mchk 4 q.1 q.2) = true := by decide +kernel
theorem ck_4_1 : cl_4_1.all (fun q => mchk 4 q.1 q.2) = true := by decide +kernel
theorem ck_4_2 : cl_4_2.all (fun q => mchk 4 q.1 q.2) = true := by decide +kernel
theorem cdok_4 (pc : Nat) (I : mI) : cd_4 pc = some I → mchk 4 pc I = true := (fun h => bif_ok h (fun h => chunk_ok ck_4_0 h) (fun h => bif_ok h (fun h => chunk_ok ck_4_1 h) (fun h => chunk_ok ck_4_2 h)))
theorem ck_5_0 : cl_5_0.all (fun q => mchk 5 q.1 q.2) = true := by decide +kernel
theorem ck_5_1 : cl_5_1.all (fun q => mchk 5 q.1 q.2) = true := by decide +kernel
theorem ck_5_2 : cl_5_2.all (fun q => mchk 5 q.1 q.2) = true := by decide +kernel
theorem cdok_5 (pc : Nat) (I : mI) : cd_5 pc = some I → mchk 5 pc I = true := (fun h => bif_ok h (fun h => chunk_ok ck_5_0 h) (fun h => bif_ok h (fun h => chunk_ok ck_5_1 h) (fun h => chunk_ok ck_5_2 h)))
theorem ck_6_0 : cl_6_0.all (fun q => mchk 6 q.1 q.2) = true := by decide +kernel
theorem cdok_6 (pc : Nat) (I : mI) : cd_6 pc = some I → mchk 6 pc I = true := (fun h => chunk_ok ck_6_0 h)
theorem ck_7_0 : cl_7_0.all (fun q => mchk 7 q.1 q.2) = true := by decide +kernel
theorem ck_7_1 : cl_7_1.all (fun q => mchk 7 q.1 q.2) = true := by decide +kernel
theorem ck_7_2 : cl_7_2.all (fun q => mchk 7 q.1 q.2) = true := by decide +kernel
theorem cdok_7 (pc : Nat) (I : mI) : cd_7 pc = some I → mchk 7 pc I = true := (fun h => bif_ok h (fun h => chunk_ok ck_7_0 h) (fun h => bif_ok h (fun h => chunk_ok ck_7_1 h) (fun h => chunk_ok ck_7_2 h)))
theorem ck_8_0 : cl_8_0.all (fun q => mchk 8 q.1 q.2) = true := by decide +kernel
theorem ck_8_1 : cl_8_1.all (fun q => mchk 8 q.1 q.2) = true := by decide +kernel
theorem cdok_8 (pc : Nat) (I : mI) : cd_8 pc = some I → mchk 8 pc I = true := (fun h => bif_ok h (fun h => chunk_ok ck_8_0 h) (fun h => chunk_ok ck_8_1 h))
theorem ck_9_0 : cl_9_0.all (fun q => mchk 9 q.1 q.2) = true := by decide +kernel
theorem ck_9_1 : cl_9_1.all (fun q => mchk 9 q.1 q.2) = true := by decide +kernel
theorem ck_9_2 : cl_9_2.all (fun q => mchk 9 q.1 q.2) = true := by decide +kernel
theorem ck_9_3 : cl_9_3.all (fun q => mchk 9 q.1 q.2) = true := by decide +kernel
theorem ck_9_4 : cl_9_4.all (fun q => mchk 9 q.1 q.2) = true := by decide +kernel
theorem ck_9_5 : cl_9_5.all (fun q => mchk 9 q.1 q.2) = true := by decide +kernel
theorem cdok_9 (pc : Nat) (I : mI) : cd_9 pc = some I → mchk 9 pc I = true := (fun h => bif_ok h (fun h => bif_ok h (fun h => chunk_ok ck_9_0 h) (fun h => bif_ok h (fun h => chunk_ok ck_9_1 h) (fun h => chunk_ok ck_9_2 h))) (fun h => bif_ok h (fun h => chunk_ok ck_9_3 h) (fun h => bif_ok h (fun h => chunk_ok ck_9_4 h) (fun h => chunk_ok ck_9_5 h))))
theorem ck_10_0 : cl_10_0.all (fun q => mchk 10 q.1 q.2) = true := by decide +kernel
theorem ck_10_1 : cl_10_1.all (fun q => mchk 10 q.1 q.2) = true := by decide +kernel
theorem ck_10_2 : cl_10_2.all (fun q => mchk 10 q.1 q.2) = true := by decide +kernel
theorem ck_10_3 : cl_10_3.all (fun q => mchk 10 q.1 q.2) = true := by decide +kernel
theorem ck_10_4 : cl_10_4.all (fun q => mchk 10 q.1 q.2) = true := by decide +kernel
theorem cdok_10 (pc : Nat) (I : mI) : cd_10 pc = some I → mchk 10 pc I = true := (fun h => bif_ok h (fun h => bif_ok h (fun h => chunk_ok ck_10_0 h) (fun h => chunk_ok ck_10_1 h)) (fun h => bif_ok h (fun h => chunk_ok ck_10_2 h) (fun h => bif_ok h (fun h => chunk_ok ck_10_3 h) (fun h => chunk_ok ck_10_4 h))))
theorem ck_11_0 : cl_11_0.all (fun q => mchk 11 q.1 q.2) = true := by decide +kernel
theorem ck_11_1 : cl_11_1.all (fun q => mchk 11 q.1 q.2) = true := by decide +kernel
theorem ck_11_2 : cl_11_2.all (fun q => mchk 11 q.1 q.2) = true := by decide +kernel
theorem cdok_11 (pc : Nat) (I : mI) : cd_11 pc = some I → mchk 11 pc I = true := (fun h => bif_ok h (fun h => chunk_ok ck_11_0 h) (fun h => bif_ok h (fun h => chunk_ok ck_11_1 h) (fun h => chunk_ok ck_11_2 h)))
theorem ck_12_0 : cl_12_0.all (fun q => mchk 12 q.1 q.2) = true := by decide +kernel
theorem ck_12_1 : cl_12_1.all (fun q => mchk 12 q.1 q.2) = true := by decide +kernel
theorem ck_12_2 : cl_12_2.all (fun q => mchk 12 q.1 q.2) = true := by decide +kernel
theorem ck_12_3 : cl_12_3.all (fun q => mchk 12 q.1 q.2) = true := by decide +kernel
theorem ck_12_4 : cl_12_4.all (fun q => mchk 12 q.1 q.2) = true := by decide +kernel
theorem ck_12_5 : cl_12_5.all (fun q => mchk 12 q.1 q.2) = true := by decide +kernel
theorem ck_12_6 : cl_12_6.all (fun q => mchk 12 q.1 q.2) = true := by decide +kernel
theorem ck_12_7 : cl_12_7.all (fun q => mchk 12 q.1 q.2) = true := by decide +kernel
theorem cdok_12 (pc : Nat) (I : mI) : cd_12 pc = some I → mchk 12 pc I = true := (fun h => bif_ok h (fun h => bif_ok h (fun h => bif_ok h (fun h => chunk_ok ck_12_0 h) (fun h => chunk_ok ck_12_1 h)) (fun h => bif_ok h (fun h => chunk_ok ck_12_2 h) (fun h => chunk_ok ck_12_3 h))) (fun h => bif_ok h (fun h => bif_ok h (fun h => chunk_ok ck_12_4 h) (fun h => chunk_ok ck_12_5 h)) (fun h => bif_ok h (fun h => chunk_ok ck_12_6 h) (fun h => chunk_ok ck_12_7 h))))
theorem ck_13_0 : cl_13_0.all (fun q => mchk 13 q.1 q.2) = true := by decide +kernel
theorem ck_13_1 : cl_13_1.all (fun q => mchk 13 q.1 q.2) = true := by decide +kernel
theorem cdok_13 (pc : Nat) (I : mI) : cd_13 pc = some I → mchk 13 pc I = true := (fun h => bif_ok h (fun h => chunk_ok ck_13_0 h) (fun h => chunk_ok ck_13_1 h))
theorem ck_14_0 : cl_14_0.all (fun q => mchk 14 q.1 q.2) = true := by decide +kernel
theorem ck_14_1 : cl_14_1.all (fun q => mchk 14 q.1 q.2) = true := by decide +kernel
theorem ck_14_2 : cl_14_2.all (fun q => mchk 14 q.1 q.2) = true := by decide +kernel
theorem ck_14_3 : cl_14_3.all (fun q => mchk 14 q.1 q.2) = true := by decide +kernel
theorem cdok_14 (pc : Nat) (I : mI) : cd_14 pc = some I → mchk 14 pc I = true := (fun h => bif_ok h (fun h => bif_ok h (fun h => chunk_ok ck_14_0 h) (fun h => chunk_ok ck_14_1 h)) (fun h => bif_ok h (fun h => chunk_ok ck_14_2 h) (fun h => chunk_ok ck_14_3 h)))
theorem ck_15_0 : cl_15_0.all (fun q => mchk 15 q.1 q.2) = true := by decide +kernel
theorem ck_15_1 : cl_15_1.all (fun q => mchk 15 q.1 q.2) = true := by decide +kernel
theorem ck_15_2 : cl_15_2.all (fun q => mchk 15 q.1 q.2) = true := by decide +kernel
theorem ck_15_3 : cl_15_3.all (fun q => mchk 15 q.1 q.2) = true := by decide +kernel
theorem ck_15_4 : cl_15_4.all (fun q => mchk 15 q.1 q.2) = true := by decide +kernel
theorem cdok_15 (pc : Nat) (I : mI) : cd_15 pc = some I → mchk 15 pc I = true := (fun h => bif_ok h (fun h => bif_ok h (fun h => chunk_ok ck_15_0 h) (fun h => chunk_ok ck_15_1 h)) (fun h => bif_ok h (fun h => chunk_ok ck_15_2 h) (fun h => bif_ok h (fun h => chunk_ok ck_15_3 h) (fun h => chunk_ok ck_15_4 h))))
theorem ck_16_0 : cl_16_0.all (fun q => mchk 16 q.1 q.2) = true := by decide +kernel
theorem ck_16_1 : cl_16_1.all (fun q => mchk 16 q.1 q.2) = true := by decide +kernel
theorem ck_16_2 : cl_16_2.all (fun q => mchk 16 q.1 q.2) = true := by decide +kernel
theorem ck_16_3 : cl_16_3.all (fun q => mchk 16 q.1 q.2) = true := by decide +kernel
theorem ck_16_4 : cl_16_4.all (fun q => mchk 16 q.1 q.2) = true := by decide +kernel
theorem ck_16_5 : cl_16_5.all (fun q => mchk 16 q.1 q.2) = true := by decide +kernel
theorem ck_16_6 : cl_16_6.all (fun q => mchk 16 q.1 q.2) = true := by decide +kernel
theorem ck_16_7 : cl_16_7.all (fun q => mchk 16 q.1 q.2) = true := by decide +kernel
theorem ck_16_8 : cl_16_8.all (fun q => mchk 16 q.1 q.2) = true := by decide +kernel
theorem ck_16_9 : cl_16_9.all (fun q => mchk 16 q.1 q.2) = true := by decide +kernel
theorem cdok_16 (pc : Nat) (I : mI) : cd_16 pc = some I → mchk 16 pc I = true := (fun h => bif_ok h (fun h => bif_ok h (fun h => bif_ok h (fun h => chunk_ok ck_16_0 h) (fun h => chunk_ok ck_16_1 h)) (fun h => bif_ok h (fun h => chunk_ok ck_16_2 h) (fun h => bif_ok h (fun h => chunk_ok ck_16_3 h) (fun h => chunk_ok ck_16_4 h)))) (fun h => bif_ok h (fun h => bif_ok h (fun h => chunk_ok ck_16_5 h) (fun h => chunk_ok ck_16_6 h)) (fun h => bif_ok h (fun h => chunk_ok ck_16_7 h) (fun h => bif_ok h (fun h => chunk_ok ck_16_8 h) (fun h => chunk_ok ck_16_9 h)))))
theorem ck_17_0 : cl_17_0.all (fun q => mchk 17 q.1 q.2) = true := by decide +kernel
theorem ck_17_1 : cl_17_1.all (fun q => mchk 17 q.1 q.2) = true := by decide +kernel
theorem ck_17_2 : cl_17_2.all (fun q => mchk 17 q.1 q.2) = true := by decide +kernel
theorem cdok_17 (pc : Nat) (I : mI) : cd_17 pc = some I → mchk 17 pc I = true := (fun h => bif_ok h (fun h => chunk_ok ck_17_0 h) (fun h => bif_ok h (fun h => chunk_ok ck_17_1 h) (fun h => chunk_ok ck_17_2 h)))
theorem ck_18_0 : cl_18_0.all (fun q => mchk 18 q.1 q.2) = true := by decide +kernel
theorem ck_18_1 : cl_18_1.all (fun q => mchk 18 q.1 q.2) = true := by decide +kernel
theorem ck_18_2 : cl_18_2.all (fun q => mchk 18 q.1 q.2) = true := by decide +kernel
theorem ck_18_3 : cl_18_3.all (fun q => mchk 18 q.1 q.2) = true := by decide +kernel
theorem cdok_18 (pc : Nat) (I : mI) : cd_18 pc = some I → mchk 18 pc I = true := (fun h => bif_ok h (fun h => bif_ok h (fun h => chunk_ok ck_18_0 h) (fun h => chunk_ok ck_18_1 h)) (fun h => bif_ok h (fun h => chunk_ok ck_18_2 h) (fun h => chunk_ok ck_18_3 h)))
theorem ck_19_0 : cl_19_0.all (fun q => mchk 19 q.1 q.2) = true := by decide +kernel
theorem ck_19_1 : cl_19_1.all (fun q => mchk 19 q.1 q.2) = true := by decide +kernel
theorem ck_19_2 : cl_19_2.all (fun q => mchk 19 q.1 q.2) = true := by decide +kernel
theorem ck_19_3 : cl_19_3.all (fun q => mchk 19 q.1 q.2) = true := by decide +kernel
theorem ck_19_4 : cl_19_4.all (fun q => mchk 19 q.1 q.2) = true := by decide +kernel
theorem ck_19_5 : cl_19_5.all (fun q => mchk 19 q.1 q.2) = true := by decide +kernel
theorem ck_19_6 : cl_19_6.all (fun q => mchk 19 q.1 q.2) = true := by decide +kernel
theorem cdok_19 (pc : Nat) (I : mI) : cd_19 pc = some I → mchk 19 pc I = true := (fun h => bif_ok h (fun h => bif_ok h (fun h => chunk_ok ck_19_0 h) (fun h => bif_ok h (fun h => chunk_ok ck_19_1 h) (fun h => chunk_ok ck_19_2 h))) (fun h => bif_ok h (fun h => bif_ok h (fun h => chunk_ok ck_19_3 h) (fun h => chunk_ok ck_19_4 h)) (fun h => bif_ok h (fun h => chunk_ok ck_19_5 h) (fun h => chunk_ok ck_19_6 h))))
theorem ck_20_0 : cl_20_0.all (fun q => mchk 20 q.1 q.2) = true := by decide +kernel
theorem ck_20_1 : cl_20_1.all (fun q => mchk 20 q.1 q.2) = true := by decide +kernel
theorem ck_20_2 : cl_20_2.all (fun q => mchk 20 q.1 q.2) = true := by decide +kernel
theorem cdok_20 (pc : Nat) (I : mI) : cd_20 pc = some I → mchk 20 pc I = true := (fun h => bif_ok h (fun h => chunk_ok ck_20_0 h) (fun h => bif_ok h (fun h => chunk_ok ck_20_1 h) (fun h => chunk_ok ck_20_2 h)))
theorem ck_21_0 : cl_21_0.all (fun q => mchk 21 q.1 q.2) = true := by decide +kernel
theorem ck_21_1 : cl_21_1.all (fun q => mchk 21 q.1 q.2) = true := by decide +kernel
theorem ck_21_2 : cl_21_2.all (fun q => mchk 21 q.1 q.2) = true := by decide +kernel
theorem ck_21_3 : cl_21_3.all (fun q => mchk 21 q.1 q.2) = true := by decide +kernel
theorem cdok_21 (pc : Nat) (I : mI) : cd_21 pc = some I → mchk 21 pc I = true := (fun h => bif_ok h (fun h => bif_ok h (fun h => chunk_ok ck_21_0 h) (fun h => chunk_ok ck_21_1 h)) (fun h => bif_ok h (fun h => chunk_ok ck_21_2 h) (fun h => chunk_ok ck_21_3 h)))
theorem ck_22_0 : cl_22_0.all (fun q => mchk 22 q.1 q.2) = true := by decide +kernel
theorem ck_22_1 : cl_22_1.all (fun q => mchk 22 q.1 q.2) = true := by decide +kernel
theorem ck_22_2 : cl_22_2.all (fun q => mchk 22 q.1 q.2) = true := by decide +kernel
theorem cdok_22 (pc : Nat) (I : mI) : cd_22 pc = some I → mchk 22 pc I = true := (fun h => bif_ok h (fun h => chunk_ok ck_22_0 h) (fun h => bif_ok h (fun h => chunk_ok ck_22_1 h) (fun h => chunk_ok ck_22_2 h)))
theorem ck_23_0 : cl_23_0.all (fun q => mchk 23 q.1 q.2) = true := by decide +kernel
theorem ck_23_1 : cl_23_1.all (fun q => mchk 23 q.1 q.2) = true := by decide +kernel
theorem ck_23_2 : cl_23_2.all (fun q => mchk 23 q.1 q.2) = true := by decide +kernel
theorem cdok_23 (pc : Nat) (I : mI) : cd_23 pc = some I → mchk 23 pc I = true := (fun h => bif_ok h (fun h => chunk_ok ck_23_0 h) (fun h => bif_ok h (fun h => chunk_ok ck_23_1 h) (fun h => chunk_ok ck_23_2 h)))
theorem ck_24_0 : cl_24_0.all (fun q => mchk 24 q.1 q.2) = true := by decide +kernel
theorem ck_24_1 : cl_24_1.all (fun q => mchk 24 q.1 q.2) = true := by decide +kernel
theorem ck_24_2 : cl_24_2.all (fun q => mchk 24 q.1 q.2) = true := by decide +kernel
theorem ck_24_3 : cl_24_3.all (fun q => mchk 24 q.1 q.2) = true := by decide +kernel
theorem ck_24_4 : cl_24_4.all (fun q => mchk 24 q.1 q.2) = true := by decide +kernel
theorem ck_24_5 : cl_24_5.all (fun q => mchk 24 q.1 q.2) = true := by decide +kernel
theorem ck_24_6 : cl_24_6.all (fun q => mchk 24 q.1 q.2) = true := by decide +kernel
theorem ck_24_7 : cl_24_7.all (fun q => mchk 24 q.1 q.2) = true := by decide +kernel
theorem ck_24_8 : cl_24_8.all (fun q => mchk 24 q.1 q.2) = true := by decide +kernel
theorem ck_24_9 : cl_24_9.all (fun q => mchk 24 q.1 q.2) = true := by decide +kernel
theorem ck_24_10 : cl_24_10.all (fun q => mchk 24 q.1 q.2) = true := by decide +kernel
theorem ck_24_11 : cl_24_11.all (fun q => mchk 24 q.1 q.2) = true := by decide +kernel
theorem cdok_24 (pc : Nat) (I : mI) : cd_24 pc = some I → mchk 24 pc I = true := (fun h => bif_ok h (fun h => bif_ok h (fun h => bif_ok h (fun h => chunk_ok ck_24_0 h) (fun h => bif_ok h (fun h => chunk_ok ck_24_1 h) (fun h => chunk_ok ck_24_2 h))) (fun h => bif_ok h (fun h => chunk_ok ck_24_3 h) (fun h => bif_ok h (fun h => chunk_ok ck_24_4 h) (fun h => chunk_ok ck_24_5 h)))) (fun h => bif_ok h (fun h => bif_ok h (fun h => chunk_ok ck_24_6 h) (fun h => bif_ok h (fun h => chunk_ok ck_24_7 h) (fun h => chunk_ok ck_24_8 h))) (fun h => bif_ok h (fun h => chunk_ok ck_24_9 h) (fun h => bif_ok h (fun h => chunk_ok ck_24_10 h) (fun h => chunk_ok ck_24_11 h)))))
theorem ck_25_0 : cl_25_0.all (fun q => mchk 25 q.1 q.2) = true := by decide +kernel
theorem ck_25_1 : cl_25_1.all (fun q => mchk 25 q.1 q.2) = true := by decide +kernel
theorem ck_25_2 : cl_25_2.all (fun q => mchk 25 q.1 q.2) = true := by decide +kernel
theorem ck_25_3 : cl_25_3.all (fun q => mchk 25 q.1 q.2) = true := by decide +kernel
theorem ck_25_4 : cl_25_4.all (fun q => mchk 25 q.1 q.2) = true := by decide +kernel
theorem ck_25_5 : cl_25_5.all (fun q => mchk 25 q.1 q.2) = true := by decide +kernel
theorem cdok_25 (pc : Nat) (I : mI) : cd_25 pc = some I → mchk 25 pc I = true := (fun h => bif_ok h (fun h => bif_ok h (fun h => chunk_ok ck_25_0 h) (fun h => bif_ok h (fun h => chunk_ok ck_25_1 h) (fun h => chunk_ok ck_25_2 h))) (fun h => bif_ok h (fun h => chunk_ok ck_25_3 h) (fun h => bif_ok h (fun h => chunk_ok ck_25_4 h) (fun h => chunk_ok ck_25_5 h))))
theorem ck_26_0 : cl_26_0.all (fun q => mchk 26 q.1 q.2) = true := by decide +kernel
theorem ck_26_1 : cl_26_1.all (fun q => mchk 26 q.1 q.2) = true := by decide +kernel
theorem ck_26_2 : cl_26_2.all (fun q => mchk 26 q.1 q.2) = true := by decide +kernel
theorem ck_26_3 : cl_26_3.all (fun q => mchk 26 q.1 q.2) = true := by decide +kernel
theorem cdok_26 (pc : Nat) (I : mI) : cd_26 pc = some I → mchk 26 pc I = true := (fun h => bif_ok h (fun h => bif_ok h (fun h => chunk_ok ck_26_0 h) (fun h => chunk_ok ck_26_1 h)) (fun h => bif_ok h (fun h => chunk_ok ck_26_2 h) (fun h => chunk_ok ck_26_3 h)))
theorem ck_27_0 : cl_27_0.all (fun q => mchk 27 q.1 q.2) = true := by decide +kernel
theorem ck_27_1 : cl_27_1.all (fun q => mchk 27 q.1 q.2) = true := by decide +kernel
theorem ck_27_2 : cl_27_2.all (fun q => mchk 27 q.1 q.2) = true := by decide +kernel
theorem ck_27_3 : cl_27_3.all (fun q => mchk 27 q.1 q.2) = true := by decide +kernel
theorem cdok_27 (pc : Nat) (I : mI) : cd_27 pc = some I → mchk 27 pc I = true := (fun h => bif_ok h (fun h => bif_ok h (fun h => chunk_ok ck_27_0 h) (fun h => chunk_ok ck_27_1 h)) (fun h => bif_ok h (fun h => chunk_ok ck_27_2 h) (fun h => chunk_ok ck_27_3 h)))
theorem ck_28_0 : cl_28_0.all (fun q => mchk 28 q.1 q.2) = true := by decide +kernel
theorem ck_28_1 : cl_28_1.all (fun q => mchk 28 q.1 q.2) = true := by decide +kernel
theorem ck_28_2 : cl_28_2.all (fun q => mchk 28 q.1 q.2) = true := by decide +kernel
theorem cdok_28 (pc : Nat) (I : mI) : cd_28 pc = some I → mchk 28 pc I = true := (fun h => bif_ok h (fun h => chunk_ok ck_28_0 h) (fun h => bif_ok h (fun h => chunk_ok ck_28_1 h) (fun h => chunk_ok ck_28_2 h)))
theorem ck_29_0 : cl_29_0.all (fun q => mchk 29 q.1 q.2) = true := by decide +kernel
theorem ck_29_1 : cl_29_1.all (fun q => mchk 29 q.1 q.2) = true := by decide +kernel
theorem ck_29_2 : cl_29_2.all (fun q => mchk 29 q.1 q.2) = true := by decide +kernel
theorem cdok_29 (pc : Nat) (I : mI) : cd_29 pc = some I → mchk 29 pc I = true := (fun h => bif_ok h (fun h => chunk_ok ck_29_0 h) (fun h => bif_ok h (fun h => chunk_ok ck_29_1 h) (fun h => chunk_ok ck_29_2 h)))
theorem ck_30_0 : cl_30_0.all (fun q => mchk 30 q.1 q.2) = true := by decide +kernel
theorem ck_30_1 : cl_30_1.all (fun q => mchk 30 q.1 q.2) = true := by decide +kernel
theorem cdok_30 (pc : Nat) (I : mI) : cd_30 pc = some I → mchk 30 pc I = true := (fun h => bif_ok h (fun h => chunk_ok ck_30_0 h) (fun h => chunk_ok ck_30_1 h))
theorem ck_31_0 : cl_31_0.all (fun q => mchk 31 q.1 q.2) = true := by decide +kernel
theorem ck_31_1 : cl_31_1.all (fun q => mchk 31 q.1 q.2) = true := by decide +kernel
theorem ck_31_2 : cl_31_2.all (fun q => mchk 31 q.1 q.2) = true := by decide +kernel
theorem ck_31_3 : cl_31_3.all (fun q => mchk 31 q.1 q.2) = true := by decide +kernel
theorem ck_31_4 : cl_31_4.all (fun q => mchk 31 q.1 q.2) = true := by decide +kernel
theorem cdok_31 (pc : Nat) (I : mI) : cd_31 pc = some I → mchk 31 pc I = true := (fun h => bif_ok h (fun h => bif_ok h (fun h => chunk_ok ck_31_0 h) (fun h => chunk_ok ck_31_1 h)) (fun h => bif_ok h (fun h => chunk_ok ck_31_2 h) (fun h => bif_ok h (fun h => chunk_ok ck_31_3 h) (fun h => chunk_ok ck_31_4 h))))
theorem ck_32_0 : cl_32_0.all (fun q => mchk 32 q.1 q.2) = true := by decide +kernel
theorem ck_32_1 : cl_32_1.all (fun q => mchk 32 q.1 q.2) = true := by decide +kernel
theorem ck_32_2 : cl_32_2.all (fun q => mchk 32 q.1 q.2) = true := by decide +kernel
theorem ck_32_3 : cl_32_3.all (fun q => mchk 32 q.1 q.2) = true := by decide +kernel
theorem cdok_32 (pc : Nat) (I : mI) : cd_32 pc = some I → mchk 32 pc I = true := (fun h => bif_ok h (fun h => bif_ok h (fun h => chunk_ok ck_32_0 h) (fun h => chunk_ok ck_32_1 h)) (fun h => bif_ok h (fun h => chunk_ok ck_32_2 h) (fun h => chunk_ok ck_32_3 h)))
theorem ck_33_0 : cl_33_0.all (fun q => mchk 33 q.1 q.2) = true := by decide +kernel
theorem ck_33_1 : cl_33_1.all (fun q => mchk 33 q.1 q.2) = true := by decide +kernel
theorem ck_33_2 : cl_33_2.all (fun q => mchk 33 q.1 q.2) = true := by decide +kernel
theorem ck_33_3 : cl_33_3.all (fun q => mchk 33 q.1 q.2) = true := by decide +kernel
theorem ck_33_4 : cl_33_4.all (fun q => mchk 33 q.1 q.2) = true := by decide +kernel
theorem ck_33_5 : cl_33_5.all (fun q => mchk 33 q.1 q.2) = true := by decide +kernel
theorem cdok_33 (pc : Nat) (I : mI) : cd_33 pc = some I → mchk 33 pc I = true := (fun h => bif_ok h (fun h => bif_ok h (fun h => chunk_ok ck_33_0 h) (fun h => bif_ok h (fun h => chunk_ok ck_33_1 h) (fun h => chunk_ok ck_33_2 h))) (fun h => bif_ok h (fun h => chunk_ok ck_33_3 h) (fun h => bif_ok h (fun h => chunk_ok ck_33_4 h) (fun h => chunk_ok ck_33_5 h))))
theorem ck_34_0 : cl_34_0.all (fun q => mchk 34 q.1 q.2) = true := by decide +kernel
theorem cdok_34 (pc : Nat) (I : mI) : cd_34 pc = some I → mchk 34 pc I = true := (fun h => chunk_ok ck_34_0 h)
theorem ck_35_0 : cl_35_0.all (fun q => mchk 35 q.1 q.2) = true := by decide +kernel
theorem ck_35_1 : cl_35_1.all (fun q => mchk 35 q.1 q.2) = true := by decide +kernel
theorem ck_35_2 : cl_35_2.all (fun q => mchk 35 q.1 q.2) = true := by decide +kernel
theorem cdok_35 (pc : Nat) (I : mI) : cd_35 pc = some I → mchk 35 pc I = true := (fun h => bif_ok h (fun h => chunk_ok ck_35_0 h) (fun h => bif_ok h (fun h => chunk_ok ck_35_1 h) (fun h => chunk_ok ck_35_2 h)))
theorem ck_36_0 : cl_36_0.all (fun q => mchk 36 q.1 q.2) = true := by decide +kernel
theorem ck_36_1 : cl_36_1.all (fun q => mchk 36 q.1 q.2) = true := by decide +kernel
theorem cdok_36 (pc : Nat) (I : mI) : cd_36 pc = some I → mchk 36 pc I = true := (fun h => bif_ok h (fun h => chunk_ok ck_36_0 h) (fun h => chunk_ok ck_36_1 h))
theorem ck_37_0 : cl_37_0.all (fun q => mchk 37 q.1 q.2) = true := by decide +kernel
theorem ck_37_1 : cl_37_1.all (fun q => mchk 37 q.1 q.2) = true := by decide +kernel
theorem ck_37_2 : cl_37_2.all (fun q => mchk 37 q.1 q.2) = true := by decide +kernel
theorem ck_37_3 : cl_37_3.all (fun q => mchk 37 q.1 q.2) = true := by decide +kernel
theorem cdok_37 (pc : Nat) (I : mI) : cd_37 pc = some I → mchk 37 pc I = true := (fun h => bif_ok h (fun h => bif_ok h (fun h => chunk_ok ck_37_0 h) (fun h => chunk_ok ck_37_1 h)) (fun h => bif_ok h (fun h => chunk_ok ck_37_2 h) (fun h => chunk_ok ck_37_3 h)))
theorem ck_38_0 : cl_38_0.all (fun q => mchk 38 q.1 q.2) = true := by decide +kernel
theorem ck_38_1 : cl_38_1.all (fun q => mchk 38 q.1 q.2) = true := by decide +kernel
theorem ck_38_2 : cl_38_2.all (fun q => mchk 38 q.1 q.2) = true := by decide +kernel
theorem ck_38_3 : cl_38_3.all (fun q => mchk 38 q.1 q.2) = true := by decide +kernel
theorem cdok_38 (pc : Nat) (I : mI) : cd_38 pc = some I → mchk 38 pc I = true := (fun h => bif_ok h (fun h => bif_ok h (fun h => chunk_ok ck_38_0 h) (fun h => chunk_ok ck_38_1 h)) (fun h => bif_ok h (fun h => chunk_ok ck_38_2 h) (fun h => chunk_ok ck_38_3 h)))
theorem ck_39_0 : cl_39_0.all (fun q => mchk 39 q.1 q.2) = true := by decide +kernel
theorem ck_39_1 : cl_39_1.all (fun q => mchk 39 q.1 q.2) = true := by decide +kernel
theorem cdok_39 (pc : Nat) (I : mI) : cd_39 pc = some I → mchk 39 pc I = true := (fun h => bif_ok h (fun h => chunk_ok ck_39_0 h) (fun h => chunk_ok ck_39_1 h))
theorem ck_40_0 : cl_40_0.all (fun q => mchk 40 q.1 q.2) = true := by decide +kernel
theorem ck_40_1 : cl_40_1.all (fun q => mchk 40 q.1 q.2) = true := by decide +kernel
theorem ck_40_2 : cl_40_2.all (fun q => mchk 40 q.1 q.2) = true := by decide +kernel
theorem ck_40_3 : cl_40_3.all (fun q => mchk 40 q.1 q.2) = true := by decide +kernel
theorem ck_40_4 : cl_40_4.all (fun q => mchk 40 q.1 q.2) = true := by decide +kernel
theorem cdok_40 (pc : Nat) (I : mI) : cd_40 pc = some I → mchk 40 pc I = true := (fun h => bif_ok h (fun h => bif_ok h (fun h => chunk_ok ck_40_0 h) (fun h => chunk_ok ck_40_1 h)) (fun h => bif_ok h (fun h => chunk_ok ck_40_2 h) (fun h => bif_ok h (fun h => chunk_ok ck_40_3 h) (fun h => chunk_ok ck_40_4 h))))
theorem ck_41_0 : cl_41_0.all (fun q => mchk 41 q.1 q.2) = true := by decide +kernel
theorem ck_41_1 : cl_41_1.all (fun q => mchk 41 q.1 q.2) = true := by decide +kernel
theorem ck_41_2 : cl_41_2.all (fun q => mchk 41 q.1 q.2) = true := by decide +kernel
theorem ck_41_3 : cl_41_3.all (fun q => mchk 41 q.1 q.2) = true := by decide +kernel
theorem ck_41_4 : cl_41_4.all (fun q => mchk 41 q.1 q.2) = true := by decide +kernel
theorem cdok_41 (pc : Nat) (I : mI) : cd_41 pc = some I → mchk 41 pc I = true := (fun h => bif_ok h (fun h => bif_ok h (fun h => chunk_ok ck_41_0 h) (fun h => chunk_ok ck_41_1 h)) (fun h => bif_ok h (fun h => chunk_ok ck_41_2 h) (fun h => bif_ok h (fun h => chunk_ok ck_41_3 h) (fun h => chunk_ok ck_41_4 h))))
theorem ck_42_0 : cl_42_0.all (fun q => mchk 42 q.1 q.2) = true := by decide +kernel
theorem ck_42_1 : cl_42_1.all (fun q => mchk 42 q.1 q.2) = true := by decide +kernel
theorem ck_42_2 : cl_42_2.all (fun q => mchk 42 q.1 q.2) = true := by decide +kernel
theorem ck_42_3 : cl_42_3.all (fun q => mchk 42 q.1 q.2) = true := by decide +kernel
theorem cdok_42 (pc : Nat) (I : mI) : cd_42 pc = some I → mchk 42 pc I = true := (fun h => bif_ok h (fun h => bif_ok h (fun h => chunk_ok ck_42_0 h) (fun h => chunk_ok ck_42_1 h)) (fun h => bif_ok h (fun h => chunk_ok ck_42_2 h) (fun h => chunk_ok ck_42_3 h)))
theorem ck_43_0 : cl_43_0.all (fun q => mchk 43 q.1 q.2) = true := by decide +kernel
theorem ck_43_1 : cl_43_1.all (fun q => mchk 43 q.1 q.2) = true := by decide +kernel
theorem ck_43_2 : cl_43_2.all (fun q => mchk 43 q.1 q.2) = true := by decide +kernel
theorem ck_43_3 : cl_43_3.all (fun q => mchk 43 q.1 q.2) = true := by decide +kernel
theorem ck_43_4 : cl_43_4.all (fun q => mchk 43 q.1 q.2) = true := by decide +kernel
theorem ck_43_5 : cl_43_5.all (fun q => mchk 43 q.1 q.2) = true := by decide +kernel
theorem ck_43_6 : cl_43_6.all (fun q => mchk 43 q.1 q.2) = true := by decide +kernel
theorem ck_43_7 : cl_43_7.all (fun q => mchk 43 q.1 q.2) = true := by decide +kernel
theorem cdok_43 (pc : Nat) (I : mI) : cd_43 pc = some I → mchk 43 pc I = true := (fun h => bif_ok h (fun h => bif_ok h (fun h => bif_ok h (fun h => chunk_ok ck_43_0 h) (fun h => chunk_ok ck_43_1 h)) (fun h => bif_ok h (fun h => chunk_ok ck_43_2 h) (fun h => chunk_ok ck_43_3 h))) (fun h => bif_ok h (fun h => bif_ok h (fun h => chunk_ok ck_43_4 h) (fun h => chunk_ok ck_43_5 h)) (fun h => bif_ok h (fun h => chunk_ok ck_43_6 h) (fun h => chunk_ok ck_43_7 h))))
theorem ck_44_0 : cl_44_0.all (fun q => mchk 44 q.1 q.2) = true := by decide +kernel
theorem ck_44_1 : cl_44_1.all (fun q => mchk 44 q.1 q.2) = true := by decide +kernel
theorem ck_44_2 : cl_44_2.all (fun q => mchk 44 q.1 q.2) = true := by decide +kernel
theorem ck_44_3 : cl_44_3.all (fun q => mchk 44 q.1 q.2) = true := by decide +kernel
theorem ck_44_4 : cl_44_4.all (fun q => mchk 44 q.1 q.2) = true := by decide +kernel
theorem ck_44_5 : cl_44_5.all (fun q => mchk 44 q.1 q.2) = true := by decide +kernel
theorem ck_44_6 : cl_44_6.all (fun q => mchk 44 q.1 q.2) = true := by decide +kernel
theorem cdok_44 (pc : Nat) (I : mI) : cd_44 pc = some I → mchk 44 pc I = true := (fun h => bif_ok h (fun h => bif_ok h (fun h => chunk_ok ck_44_0 h) (fun h => bif_ok h (fun h => chunk_ok ck_44_1 h) (fun h => chunk_ok ck_44_2 h))) (fun h => bif_ok h (fun h => bif_ok h (fun h => chunk_ok ck_44_3 h) (fun h => chunk_ok ck_44_4 h)) (fun h => bif_ok h (fun h => chunk_ok ck_44_5 h) (fun h => chunk_ok ck_44_6 h))))
theorem ck_45_0 : cl_45_0.all (fun q => mchk 45 q.1 q.2) = true := by decide +kernel
theorem ck_45_1 : cl_45_1.all (fun q => mchk 45 q.1 q.2) = true := by decide +kernel
theorem cdok_45 (pc : Nat) (I : mI) : cd_45 pc = some I → mchk 45 pc I = true := (fun h => bif_ok h (fun h => chunk_ok ck_45_0 h) (fun h => chunk_ok ck_45_1 h))
theorem ck_46_0 : cl_46_0.all (fun q => mchk 46 q.1 q.2) = true := by decide +kernel
theorem ck_46_1 : cl_46_1.all (fun q => mchk 46 q.1 q.2) = true := by decide +kernel
theorem ck_46_2 : cl_46_2.all (fun q => mchk 46 q.1 q.2) = true := by decide +kernel
theorem cdok_46 (pc : Nat) (I : mI) : cd_46 pc = some I → mchk 46 pc I = true := (fun h => bif_ok h (fun h => chunk_ok ck_46_0 h) (fun h => bif_ok h (fun h => chunk_ok ck_46_1 h) (fun h => chunk_ok ck_46_2 h)))
theorem ck_47_0 : cl_47_0.all (fun q => mchk 47 q.1 q.2) = true := by decide +kernel
theorem ck_47_1 : cl_47_1.all (fun q => mchk 47 q.1 q.2) = true := by decide +kernel
theorem cdok_47 (pc : Nat) (I : mI) : cd_47 pc = some I → mchk 47 pc I = true := (fun h => bif_ok h (fun h => chunk_ok ck_47_0 h) (fun h => chunk_ok ck_47_1 h))
theorem ck_48_0 : cl_48_0.all (fun q => mchk 48 q.1 q.2) = true := by decide +kernel
theorem ck_48_1 : cl_48_1.all (fun q => mchk 48 q.1 q.2) = true := by decide +kernel
theorem ck_48_2 : cl_48_2.all (fun q => mchk 48 q.1 q.2) = true := by decide +kernel
theorem ck_48_3 : cl_48_3.all (fun q => mchk 48 q.1 q.2) = true := by decide +kernel
theorem ck_48_4 : cl_48_4.all (fun q => mchk 48 q.1 q.2) = true := by decide +kernel
theorem ck_48_5 : cl_48_5.all (fun q => mchk 48 q.1 q.2) = true := by decide +kernel
theorem cdok_48 (pc : Nat) (I : mI) : cd_48 pc = some I → mchk 48 pc I = true := (fun h => bif_ok h (fun h => bif_ok h (fun h => chunk_ok ck_48_0 h) (fun h => bif_ok h (fun h => chunk_ok ck_48_1 h) (fun h => chunk_ok ck_48_2 h))) (fun h => bif_ok h (fun h => chunk_ok ck_48_3 h) (fun h => bif_ok h (fun h => chunk_ok ck_48_4 h) (fun h => chunk_ok ck_48_5 h))))
theorem ck_49_0 : cl_49_0.all (fun q => mchk 49 q.1 q.2) = true := by decide +kernel
theorem ck_49_1 : cl_49_1.all (fun q => mchk 49 q.1 q.2) = true := by decide +kernel
theorem ck_49_2 : cl_49_2.all (fun q => mchk 49 q.1 q.2) = true := by decide +kernel
theorem ck_49_3 : cl_49_3.all (fun q => mchk 49 q.1 q.2) = true := by decide +kernel
theorem cdok_49 (pc : Nat) (I : mI) : cd_49 pc = some I → mchk 49 pc I = true := (fun h => bif_ok h (fun h => bif_ok h (fun h => chunk_ok ck_49_0 h) (fun h => chunk_ok ck_49_1 h)) (fun h => bif_ok h (fun h => chunk_ok ck_49_2 h) (fun h => chunk_ok ck_49_3 h)))
theorem ck_50_0 : cl_50_0.all (fun q => mchk 50 q.1 q.2) = true := by decide +kernel
theorem ck_50_1 : cl_50_1.all (fun q => mchk 50 q.1 q.2) = true := by decide +kernel
theorem ck_50_2 : cl_50_2.all (fun q => mchk 50 q.1 q.2) = true := by decide +kernel
theorem ck_50_3 : cl_50_3.all (fun q => mchk 50 q.1 q.2) = true := by decide +kernel
theorem cdok_50 (pc : Nat) (I : mI) : cd_50 pc = some I → mchk 50 pc I = true := (fun h => bif_ok h (fun h => bif_ok h (fun h => chunk_ok ck_50_0 h) (fun h => chunk_ok ck_50_1 h)) (fun h => bif_ok h (fun h => chunk_ok ck_50_2 h) (fun h => chunk_ok ck_50_3 h)))
theorem ck_51_0 : cl_51_0.all (fun q => mchk 51 q.1 q.2) = true := by decide +kernel
theorem ck_51_1 : cl_51_1.all (fun q => mchk 51 q.1 q.2) = true := by decide +kernel
theorem cdok_51 (pc : Nat) (I : mI) : cd_51 pc = some I → mchk 51 pc I = true := (fun h => bif_ok h (fun h => chunk_ok ck_51_0 h) (fun h => chunk_ok ck_51_1 h))
theorem ck_52_0 : cl_52_0.all (fun q => mchk 52 q.1 q.2) = true := by decide +kernel
theorem ck_52_1 : cl_52_1.all (fun q => mchk 52 q.1 q.2) = true := by decide +kernel
theorem ck_52_2 : cl_52_2.all (fun q => mchk 52 q.1 q.2) = true := by decide +kernel
theorem ck_52_3 : cl_52_3.all (fun q => mchk 52 q.1 q.2) = true := by decide +kernel
theorem ck_52_4 : cl_52_4.all (fun q => mchk 52 q.1 q.2) = true := by decide +kernel
theorem ck_52_5 : cl_52_5.all (fun q => mchk 52 q.1 q.2) = true := by decide +kernel
theorem cdok_52 (pc : Nat) (I : mI) : cd_52 pc = some I → mchk 52 pc I = true := (fun h => bif_ok h (fun h => bif_ok h (fun h => chunk_ok ck_52_0 h) (fun h => bif_ok h (fun h => chunk_ok ck_52_1 h) (fun h => chunk_ok ck_52_2 h))) (fun h => bif_ok h (fun h => chunk_ok ck_52_3 h) (fun h => bif_ok h (fun h => chunk_ok ck_52_4 h) (fun h => chunk_ok ck_52_5 h))))
theorem ck_53_0 : cl_53_0.all (fun q => mchk 53 q.1 q.2) = true := by decide +kernel
theorem ck_53_1 : cl_53_1.all (fun q => mchk 53 q.1 q.2) = true := by decide +kernel
theorem ck_53_2 : cl_53_2.all (fun q => mchk 53 q.1 q.2) = true := by decide +kernel
theorem ck_53_3 : cl_53_3.all (fun q => mchk 53 q.1 q.2) = true := by decide +kernel
theorem ck_53_4 : cl_53_4.all (fun q => mchk 53 q.1 q.2) = true := by decide +kernel
theorem ck_53_5 : cl_53_5.all (fun q => mchk 53 q.1 q.2) = true := by decide +kernel
theorem cdok_53 (pc : Nat) (I : mI) : cd_53 pc = some I → mchk 53 pc I = true := (fun h => bif_ok h (fun h => bif_ok h (fun h => chunk_ok ck_53_0 h) (fun h => bif_ok h (fun h => chunk_ok ck_53_1 h) (fun h => chunk_ok ck_53_2 h))) (fun h => bif_ok h (fun h => chunk_ok ck_53_3 h) (fun h => bif_ok h (fun h => chunk_ok ck_53_4 h) (fun h => chunk_ok ck_53_5 h))))
theorem ck_54_0 : cl_54_0.all (fun q => mchk 54 q.1 q.2) = true := by decide +kernel
theorem ck_54_1 : cl_54_1.all (fun q => mchk 54 q.1 q.2) = true := by decide +kernel
theorem ck_54_2 : cl_54_2.all (fun q => mchk 54 q.1 q.2) = true := by decide +kernel
theorem cdok_54 (pc : Nat) (I : mI) : cd_54 pc = some I → mchk 54 pc I = true := (fun h => bif_ok h (fun h => chunk_ok ck_54_0 h) (fun h => bif_ok h (fun h => chunk_ok ck_54_1 h) (fun h => chunk_ok ck_54_2 h)))
theorem ck_55_0 : cl_55_0.all (fun q => mchk 55 q.1 q.2) = true := by decide +kernel
theorem cdok_55 (pc : Nat) (I : mI) : cd_55 pc = some I → mchk 55 pc I = true := (fun h => chunk_ok ck_55_0 h)
theorem ck_56_0 : cl_56_0.all (fun q => mchk 56 q.1 q.2) = true := by decide +kernel
theorem ck_56_1 : cl_56_1.all (fun q => mchk 56 q.1 q.2) = true := by decide +kernel
theorem ck_56_2 : cl_56_2.all (fun q => mchk 56 q.1 q.2) = true := by decide +kernel
theorem ck_56_3 : cl_56_3.all (fun q => mchk 56 q.1 q.2) = true := by decide +kernel
theorem cdok_56 (pc : Nat) (I : mI) : cd_56 pc = some I → mchk 56 pc I = true := (fun h => bif_ok h (fun h => bif_ok h (fun h => chunk_ok ck_56_0 h) (fun h => chunk_ok ck_56_1 h)) (fun h => bif_ok h (fun h => chunk_ok ck_56_2 h) (fun h => chunk_ok ck_56_3 h)))
theorem ck_57_0 : cl_57_0.all (fun q => mchk 57 q.1 q.2) = true := by decide +kernel
theorem ck_57_1 : cl_57_1.all (fun q => mchk 57 q.1 q.2) = true := by decide +kernel
theorem cdok_57 (pc : Nat) (I : mI) : cd_57 pc = some I → mchk 57 pc I = true := (fun h => bif_ok h (fun h => chunk_ok ck_57_0 h) (fun h => chunk_ok ck_57_1 h))
theorem ck_58_0 : cl_58_0.all (fun q => mchk 58 q.1 q.2) = true := by decide +kernel
theorem ck_58_1 : cl_58_1.all (fun q => mchk 58 q.1 q.2) = true := by decide +kernel
theorem ck_58_2 : cl_58_2.all (fun q => mchk 58 q.1 q.2) = true := by decide +kernel
theorem ck_58_3 : cl_58_3.all (fun q => mchk 58 q.1 q.2) = true := by decide +kernel
theorem cdok_58 (pc : Nat) (I : mI) : cd_58 pc = some I → mchk 58 pc I = true := (fun h => bif_ok h (fun h => bif_ok h (fun h => chunk_ok ck_58_0 h) (fun h => chunk_ok ck_58_1 h)) (fun h => bif_ok h (fun h => chunk_ok ck_58_2 h) (fun h => chunk_ok ck_58_3 h)))
theorem ck_59_0 : cl_59_0.all (fun q => mchk 59 q.1 q.2) = true := by decide +kernel
theorem ck_59_1 : cl_59_1.all (fun q => mchk 59 q.1 q.2) = true := by decide +kernel
theorem cdok_59 (pc : Nat) (I : mI) : cd_59 pc = some I → mchk 59 pc I = true := (fun h => bif_ok h (fun h => chunk_ok ck_59_0 h) (fun h => chunk_ok ck_59_1 h))
theorem ck_60_0 : cl_60_0.all (fun q => mchk 60 q.1 q.2) = true := by decide +kernel
theorem ck_60_1 : cl_60_1.all (fun q => mchk 60 q.1 q.2) = true := by decide +kernel
theorem ck_60_2 : cl_60_2.all (fun q => mchk 60 q.1 q.2) = true := by decide +kernel
theorem ck_60_3 : cl_60_3.all (fun q => mchk 60 q.1 q.2) = true := by decide +kernel
theorem cdok_60 (pc : Nat) (I : mI) : cd_60 pc = some I → mchk 60 pc I = true := (fun h => bif_ok h (fun h => bif_ok h (fun h => chunk_ok ck_60_0 h) (fun h => chunk_ok ck_60_1 h)) (fun h => bif_ok h (fun h => chunk_ok ck_60_2 h) (fun h => chunk_ok ck_60_3 h)))
theorem ck_61_0 : cl_61_0.all (fun q => mchk 61 q.1 q.2) = true := by decide +kernel
theorem ck_61_1 : cl_61_1.all (fun q => mchk 61 q.1 q.2) = true := by decide +kernel
theorem ck_61_2 : cl_61_2.all (fun q => mchk 61 q.1 q.2) = true := by decide +kernel
theorem ck_61_3 : cl_61_3.all (fun q => mchk 61 q.1 q.2) = true := by decide +kernel
theorem ck_61_4 : cl_61_4.all (fun q => mchk 61 q.1 q.2) = true := by decide +kernel
theorem ck_61_5 : cl_61_5.all (fun q => mchk 61 q.1 q.2) = true := by decide +kernel
theorem ck_61_6 : cl_61_6.all (fun q => mchk 61 q.1 q.2) = true := by decide +kernel
theorem cdok_61 (pc : Nat) (I : mI) : cd_61 pc = some I → mchk 61 pc I = true := (fun h => bif_ok h (fun h => bif_ok h (fun h => chunk_ok ck_61_0 h) (fun h => bif_ok h (fun h => chunk_ok ck_61_1 h) (fun h => chunk_ok ck_61_2 h))) (fun h => bif_ok h (fun h => bif_ok h (fun h => chunk_ok ck_61_3 h) (fun h => chunk_ok ck_61_4 h)) (fun h => bif_ok h (fun h => chunk_ok ck_61_5 h) (fun h => chunk_ok ck_61_6 h))))
theorem ck_62_0 : cl_62_0.all (fun q => mchk 62 q.1 q.2) = true := by decide +kernel
theorem ck_62_1 : cl_62_1.all (fun q => mchk 62 q.1 q.2) = true := by decide +kernel
theorem ck_62_2 : cl_62_2.all (fun q => mchk 62 q.1 q.2) = true := by decide +kernel
theorem cdok_62 (pc : Nat) (I : mI) : cd_62 pc = some I → mchk 62 pc I = true := (fun h => bif_ok h (fun h => chunk_ok ck_62_0 h) (fun h => bif_ok h (fun h => chunk_ok ck_62_1 h) (fun h => chunk_ok ck_62_2 h)))
theorem ck_63_0 : cl_63_0.all (fun q => mchk 63 q.1 q.2) = true := by decide +kernel
theorem ck_63_1 : cl_63_1.all (fun q => mchk 63 q.1 q.2) = true := by decide +kernel
theorem ck_63_2 : cl_63_2.all (fun q => mchk 63 q.1 q.2) = true := by decide +kernel
theorem ck_63_3 : cl_63_3.all (fun q => mchk 63 q.1 q.2) = true := by decide +kernel
theorem cdok_63 (pc : Nat) (I : mI) : cd_63 pc = some I → mchk 63 pc I = true := (fun h => bif_ok h (fun h => bif_ok h (fun h => chunk_ok ck_63_0 h) (fun h => chunk_ok ck_63_1 h)) (fun h => bif_ok h (fun h => chunk_ok ck_63_2 h) (fun h => chunk_ok ck_63_3 h)))
theorem ck_64_0 : cl_64_0.all (fun q => mchk 64 q.1 q.2) = true := by decide +kernel
theorem ck_64_1 : cl_64_1.all (fun q => mchk 64 q.1 q.2) = true := by decide +kernel
theorem ck_64_2 : cl_64_2.all (fun q => mchk 64 q.1 q.2) = true := by decide +kernel
theorem ck_64_3 : cl_64_3.all (fun q => mchk 64 q.1 q.2) = true := by decide +kernel
theorem cdok_64 (pc : Nat) (I : mI) : cd_64 pc = some I → mchk 64 pc I = true := (fun h => bif_ok h (fun h => bif_ok h (fun h => chunk_ok ck_64_0 h) (fun h => chunk_ok ck_64_1 h)) (fun h => bif_ok h (fun h => chunk_ok ck_64_2 h) (fun h => chunk_ok ck_64_3 h)))
theorem ck_65_0 : cl_65_0.all (fun q => mchk 65 q.1 q.2) = true := by decide +kernel
theorem ck_65_1 : cl_65_1.all (fun q => mchk 65 q.1 q.2) = true := by decide +kernel
theorem ck_65_2 : cl_65_2.all (fun q => mchk 65 q.1 q.2) = true := by decide +kernel
theorem ck_65_3 : cl_65_3.all (fun q => mchk 65 q.1 q.2) = true := by decide +kernel
theorem cdok_65 (pc : Nat) (I : mI) : cd_65 pc = some I → mchk 65 pc I = true := (fun h => bif_ok h (fun h => bif_ok h (fun h => chunk_ok ck_65_0 h) (fun h => chunk_ok ck_65_1 h)) (fun h => bif_ok h (fun h => chunk_ok ck_65_2 h) (fun h => chunk_ok ck_65_3 h)))
theorem ck_66_0 : cl_66_0.all (fun q => mchk 66 q.1 q.2) = true := by decide +kernel
theorem ck_66_1 : cl_66_1.all (fun q => mchk 66 q.1 q.2) = true := by decide +kernel
theorem ck_66_2 : cl_66_2.all (fun q => mchk 66 q.1 q.2) = true := by decide +kernel
theorem cdok_66 (pc : Nat) (I : mI) : cd_66 pc = some I → mchk 66 pc I = true := (fun h => bif_ok h (fun h => chunk_ok ck_66_0 h) (fun h => bif_ok h (fun h => chunk_ok ck_66_1 h) (fun h => chunk_ok ck_66_2 h)))
theorem ck_67_0 : cl_67_0.all (fun q => mchk 67 q.1 q.2) = true := by decide +kernel
theorem ck_67_1 : cl_67_1.all (fun q => mchk 67 q.1 q.2) = true := by decide +kernel
theorem cdok_67 (pc : Nat) (I : mI) : cd_67 pc = some I → mchk 67 pc I = true := (fun h => bif_ok h (fun h => chunk_ok ck_67_0 h) (fun h => chunk_ok ck_67_1 h))
theorem ck_68_0 : cl_68_0.all (fun q => mchk 68 q.1 q.2) = true := by decide +kernel
theorem ck_68_1 : cl_68_1.all (fun q => mchk 68 q.1 q.2) = true := by decide +kernel
theorem ck_68_2 : cl_68_2.all (fun q => mchk 68 q.1 q.2) = true := by decide +kernel
theorem ck_68_3 : cl_68_3.all (fun q => mchk 68 q.1 q.2) = true := by decide +kernel
theorem cdok_68 (pc : Nat) (I : mI) : cd_68 pc = some I → mchk 68 pc I = true := (fun h => bif_ok h (fun h => bif_ok h (fun h => chunk_ok ck_68_0 h) (fun h => chunk_ok ck_68_1 h)) (fun h => bif_ok h (fun h => chunk_ok ck_68_2 h) (fun h => chunk_ok ck_68_3 h)))
theorem ck_69_0 : cl_69_0.all (fun q => mchk 69 q.1 q.2) = true := by decide +kernel
theorem ck_69_1 : cl_69_1.all (fun q => mchk 69 q.1 q.2) = true := by decide +kernel
theorem ck_69_2 : cl_69_2.all (fun q => mchk 69 q.1 q.2) = true := by decide +kernel
theorem ck_69_3 : cl_69_3.all (fun q => mchk 69 q.1 q.2) = true := by decide +kernel
theorem cdok_69 (pc : Nat) (I : mI) : cd_69 pc = some I → mchk 69 pc I = true := (fun h => bif_ok h (fun h => bif_ok h (fun h => chunk_ok ck_69_0 h) (fun h => chunk_ok ck_69_1 h)) (fun h => bif_ok h (fun h => chunk_ok ck_69_2 h) (fun h => chunk_ok ck_69_3 h)))
theorem ck_70_0 : cl_70_0.all (fun q => mchk 70 q.1 q.2) = true := by decide +kernel
theorem ck_70_1 : cl_70_1.all (fun q => mchk 70 q.1 q.2) = true := by decide +kernel
theorem ck_70_2 : cl_70_2.all (fun q => mchk 70 q.1 q.2) = true := by decide +kernel
theorem ck_70_3 : cl_70_3.all (fun q => mchk 70 q.1 q.2) = true := by decide +kernel
theorem cdok_70 (pc : Nat) (I : mI) : cd_70 pc = some I → mchk 70 pc I = true := (fun h => bif_ok h (fun h => bif_ok h (fun h => chunk_ok ck_70_0 h) (fun h => chunk_ok ck_70_1 h)) (fun h => bif_ok h (fun h => chunk_ok ck_70_2 h) (fun h => chunk_ok ck_70_3 h)))
theorem ck_71_0 : cl_71_0.all (fun q => mchk 71 q.1 q.2) = true := by decide +kernel
theorem ck_71_1 : cl_71_1.all (fun q => mchk 71 q.1 q.2) = true := by decide +kernel
theorem ck_71_2 : cl_71_2.all (fun q => mchk 71 q.1 q.2) = true := by decide +kernel
theorem ck_71_3 : cl_71_3.all (fun q => mchk 71 q.1 q.2) = true := by decide +kernel
theorem ck_71_4 : cl_71_4.all (fun q => mchk 71 q.1 q.2) = true := by decide +kernel
theorem ck_71_5 : cl_71_5.all (fun q => mchk 71 q.1 q.2) = true := by decide +kernel
theorem ck_71_6 : cl_71_6.all (fun q => mchk 71 q.1 q.2) = true := by decide +kernel
theorem cdok_71 (pc : Nat) (I : mI) : cd_71 pc = some I → mchk 71 pc I = true := (fun h => bif_ok h (fun h => bif_ok h (fun h => chunk_ok ck_71_0 h) (fun h => bif_ok h (fun h => chunk_ok ck_71_1 h) (fun h => chunk_ok ck_71_2 h))) (fun h => bif_ok h (fun h => bif_ok h (fun h => chunk_ok ck_71_3 h) (fun h => chunk_ok ck_71_4 h)) (fun h => bif_ok h (fun h => chunk_ok ck_71_5 h) (fun h => chunk_ok ck_71_6 h))))
theorem ck_72_0 : cl_72_0.all (fun q => mchk 72 q.1 q.2) = true := by decide +kernel
theorem ck_72_1 : cl_72_1.all (fun q => mchk 72 q.1 q.2) = true := by decide +kernel
theorem ck_72_2 : cl_72_2.all (fun q => mchk 72 q.1 q.2) = true := by decide +kernel
theorem ck_72_3 : cl_72_3.all (fun q => mchk 72 q.1 q.2) = true := by decide +kernel
theorem cdok_72 (pc : Nat) (I : mI) : cd_72 pc = some I → mchk 72 pc I = true := (fun h => bif_ok h (fun h => bif_ok h (fun h => chunk_ok ck_72_0 h) (fun h => chunk_ok ck_72_1 h)) (fun h => bif_ok h (fun h => chunk_ok ck_72_2 h) (fun h => chunk_ok ck_72_3 h)))
theorem ck_73_0 : cl_73_0.all (fun q => mchk 73 q.1 q.2) = true := by decide +kernel
theorem ck_73_1 : cl_73_1.all (fun q => mchk 73 q.1 q.2) = true := by decide +kernel
theorem ck_73_2 : cl_73_2.all (fun q => mchk 73 q.1 q.2) = true := by decide +kernel
theorem cdok_73 (pc : Nat) (I : mI) : cd_73 pc = some I → mchk 73 pc I = true := (fun h => bif_ok h (fun h => chunk_ok ck_73_0 h) (fun h => bif_ok h (fun h => chunk_ok ck_73_1 h) (fun h => chunk_ok ck_73_2 h)))
theorem ck_74_0 : cl_74_0.all (fun q => mchk 74 q.1 q.2) = true := by decide +kernel
theorem ck_74_1 : cl_74_1.all (fun q => mchk 74 q.1 q.2) = true := by decide +kernel
theorem ck_74_2 : cl_74_2.all (fun q => mchk 74 q.1 q.2) = true := by decide +kernel
theorem cdok_74 (pc : Nat) (I : mI) : cd_74 pc = some I → mchk 74 pc I = true := (fun h => bif_ok h (fun h => chunk_ok ck_74_0 h) (fun h => bif_ok h (fun h => chunk_ok ck_74_1 h) (fun h => chunk_ok ck_74_2 h)))
theorem ck_75_0 : cl_75_0.all (fun q => mchk 75 q.1 q.2) = true := by decide +kernel
theorem ck_75_1 : cl_75_1.all (fun q => mchk 75 q.1 q.2) = true := by decide +kernel
theorem ck_75_2 : cl_75_2.all (fun q => mchk 75 q.1 q.2) = true := by decide +kernel
theorem ck_75_3 : cl_75_3.all (fun q => mchk 75 q.1 q.2) = true := by decide +kernel
theorem ck_75_4 : cl_75_4.all (fun q => mchk 75 q.1 q.2) = true := by decide +kernel
theorem ck_75_5 : cl_75_5.all (fun q => mchk 75 q.1 q.2) = true := by decide +kernel
theorem ck_75_6 : cl_75_6.all (fun q => mchk 75 q.1 q.2) = true := by decide +kernel
theorem ck_75_7 : cl_75_7.all (fun q => mchk 75 q.1 q.2) = true := by decide +kernel
theorem ck_75_8 : cl_75_8.all (fun q => mchk 75 q.1 q.2) = true := by decide +kernel
theorem ck_75_9 : cl_75_9.all (fun q => mchk 75 q.1 q.2) = true := by decide +kernel
theorem ck_75_10 : cl_75_10.all (fun q => mchk 75 q.1 q.2) = true := by decide +kernel
theorem ck_75_11 : cl_75_11.all (fun q => mchk 75 q.1 q.2) = true := by decide +kernel
theorem cdok_75 (pc : Nat) (I : mI) : cd_75 pc = some I → mchk 75 pc I = true := (fun h => bif_ok h (fun h => bif_ok h (fun h => bif_ok h (fun h => chunk_ok ck_75_0 h) (fun h => bif_ok h (fun h => chunk_ok ck_75_1 h) (fun h => chunk_ok ck_75_2 h))) (fun h => bif_ok h (fun h => chunk_ok ck_75_3 h) (fun h => bif_ok h (fun h => chunk_ok ck_75_4 h) (fun h => chunk_ok ck_75_5 h)))) (fun h => bif_ok h (fun h => bif_ok h (fun h => chunk_ok ck_75_6 h) (fun h => bif_ok h (fun h => chunk_ok ck_75_7 h) (fun h => chunk_ok ck_75_8 h))) (fun h => bif_ok h (fun h => chunk_ok ck_75_9 h) (fun h => bif_ok h (fun h => chunk_ok ck_75_10 h) (fun h => chunk_ok ck_75_11 h)))))
