theorem ck_154_0 : cl_154_0.all (fun q => mchk 154 q.1 q.2) = true := by decide +kernel
theorem ck_154_1 : cl_154_1.all (fun q => mchk 154 q.1 q.2) = true := by decide +kernel
theorem ck_154_2 : cl_154_2.all (fun q => mchk 154 q.1 q.2) = true := by decide +kernel
theorem ck_154_3 : cl_154_3.all (fun q => mchk 154 q.1 q.2) = true := by decide +kernel
theorem ck_154_4 : cl_154_4.all (fun q => mchk 154 q.1 q.2) = true := by decide +kernel
theorem cdok_154 (pc : Nat) (I : mI) : cd_154 pc = some I → mchk 154 pc I = true := (fun h => bif_ok h (fun h => bif_ok h (fun h => chunk_ok ck_154_0 h) (fun h => chunk_ok ck_154_1 h)) (fun h => bif_ok h (fun h => chunk_ok ck_154_2 h) (fun h => bif_ok h (fun h => chunk_ok ck_154_3 h) (fun h => chunk_ok ck_154_4 h))))
theorem ck_155_0 : cl_155_0.all (fun q => mchk 155 q.1 q.2) = true := by decide +kernel
theorem ck_155_1 : cl_155_1.all (fun q => mchk 155 q.1 q.2) = true := by decide +kernel
theorem ck_155_2 : cl_155_2.all (fun q => mchk 155 q.1 q.2) = true := by decide +kernel
theorem ck_155_3 : cl_155_3.all (fun q => mchk 155 q.1 q.2) = true := by decide +kernel
theorem cdok_155 (pc : Nat) (I : mI) : cd_155 pc = some I → mchk 155 pc I = true := (fun h => bif_ok h (fun h => bif_ok h (fun h => chunk_ok ck_155_0 h) (fun h => chunk_ok ck_155_1 h)) (fun h => bif_ok h (fun h => chunk_ok ck_155_2 h) (fun h => chunk_ok ck_155_3 h)))
theorem ck_156_0 : cl_156_0.all (fun q => mchk 156 q.1 q.2) = true := by decide +kernel
theorem ck_156_1 : cl_156_1.all (fun q => mchk 156 q.1 q.2) = true := by decide +kernel
theorem ck_156_2 : cl_156_2.all (fun q => mchk 156 q.1 q.2) = true := by decide +kernel
theorem cdok_156 (pc : Nat) (I : mI) : cd_156 pc = some I → mchk 156 pc I = true := (fun h => bif_ok h (fun h => chunk_ok ck_156_0 h) (fun h => bif_ok h (fun h => chunk_ok ck_156_1 h) (fun h => chunk_ok ck_156_2 h)))
theorem ck_157_0 : cl_157_0.all (fun q => mchk 157 q.1 q.2) = true := by decide +kernel
theorem ck_157_1 : cl_157_1.all (fun q => mchk 157 q.1 q.2) = true := by decide +kernel
theorem cdok_157 (pc : Nat) (I : mI) : cd_157 pc = some I → mchk 157 pc I = true := (fun h => bif_ok h (fun h => chunk_ok ck_157_0 h) (fun h => chunk_ok ck_157_1 h))
theorem ck_158_0 : cl_158_0.all (fun q => mchk 158 q.1 q.2) = true := by decide +kernel
theorem ck_158_1 : cl_158_1.all (fun q => mchk 158 q.1 q.2) = true := by decide +kernel
theorem ck_158_2 : cl_158_2.all (fun q => mchk 158 q.1 q.2) = true := by decide +kernel
theorem cdok_158 (pc : Nat) (I : mI) : cd_158 pc = some I → mchk 158 pc I = true := (fun h => bif_ok h (fun h => chunk_ok ck_158_0 h) (fun h => bif_ok h (fun h => chunk_ok ck_158_1 h) (fun h => chunk_ok ck_158_2 h)))
theorem ck_159_0 : cl_159_0.all (fun q => mchk 159 q.1 q.2) = true := by decide +kernel
theorem ck_159_1 : cl_159_1.all (fun q => mchk 159 q.1 q.2) = true := by decide +kernel
theorem ck_159_2 : cl_159_2.all (fun q => mchk 159 q.1 q.2) = true := by decide +kernel
theorem ck_159_3 : cl_159_3.all (fun q => mchk 159 q.1 q.2) = true := by decide +kernel
theorem ck_159_4 : cl_159_4.all (fun q => mchk 159 q.1 q.2) = true := by decide +kernel
theorem ck_159_5 : cl_159_5.all (fun q => mchk 159 q.1 q.2) = true := by decide +kernel
theorem cdok_159 (pc : Nat) (I : mI) : cd_159 pc = some I → mchk 159 pc I = true := (fun h => bif_ok h (fun h => bif_ok h (fun h => chunk_ok ck_159_0 h) (fun h => bif_ok h (fun h => chunk_ok ck_159_1 h) (fun h => chunk_ok ck_159_2 h))) (fun h => bif_ok h (fun h => chunk_ok ck_159_3 h) (fun h => bif_ok h (fun h => chunk_ok ck_159_4 h) (fun h => chunk_ok ck_159_5 h))))
theorem ck_160_0 : cl_160_0.all (fun q => mchk 160 q.1 q.2) = true := by decide +kernel
theorem ck_160_1 : cl_160_1.all (fun q => mchk 160 q.1 q.2) = true := by decide +kernel
theorem ck_160_2 : cl_160_2.all (fun q => mchk 160 q.1 q.2) = true := by decide +kernel
theorem ck_160_3 : cl_160_3.all (fun q => mchk 160 q.1 q.2) = true := by decide +kernel
theorem ck_160_4 : cl_160_4.all (fun q => mchk 160 q.1 q.2) = true := by decide +kernel
theorem ck_160_5 : cl_160_5.all (fun q => mchk 160 q.1 q.2) = true := by decide +kernel
theorem ck_160_6 : cl_160_6.all (fun q => mchk 160 q.1 q.2) = true := by decide +kernel
theorem ck_160_7 : cl_160_7.all (fun q => mchk 160 q.1 q.2) = true := by decide +kernel
theorem ck_160_8 : cl_160_8.all (fun q => mchk 160 q.1 q.2) = true := by decide +kernel
theorem ck_160_9 : cl_160_9.all (fun q => mchk 160 q.1 q.2) = true := by decide +kernel
theorem ck_160_10 : cl_160_10.all (fun q => mchk 160 q.1 q.2) = true := by decide +kernel
theorem ck_160_11 : cl_160_11.all (fun q => mchk 160 q.1 q.2) = true := by decide +kernel
theorem ck_160_12 : cl_160_12.all (fun q => mchk 160 q.1 q.2) = true := by decide +kernel
theorem ck_160_13 : cl_160_13.all (fun q => mchk 160 q.1 q.2) = true := by decide +kernel
theorem cdok_160 (pc : Nat) (I : mI) : cd_160 pc = some I → mchk 160 pc I = true := (fun h => bif_ok h (fun h => bif_ok h (fun h => bif_ok h (fun h => chunk_ok ck_160_0 h) (fun h => bif_ok h (fun h => chunk_ok ck_160_1 h) (fun h => chunk_ok ck_160_2 h))) (fun h => bif_ok h (fun h => bif_ok h (fun h => chunk_ok ck_160_3 h) (fun h => chunk_ok ck_160_4 h)) (fun h => bif_ok h (fun h => chunk_ok ck_160_5 h) (fun h => chunk_ok ck_160_6 h)))) (fun h => bif_ok h (fun h => bif_ok h (fun h => chunk_ok ck_160_7 h) (fun h => bif_ok h (fun h => chunk_ok ck_160_8 h) (fun h => chunk_ok ck_160_9 h))) (fun h => bif_ok h (fun h => bif_ok h (fun h => chunk_ok ck_160_10 h) (fun h => chunk_ok ck_160_11 h)) (fun h => bif_ok h (fun h => chunk_ok ck_160_12 h) (fun h => chunk_ok ck_160_13 h)))))
theorem ck_161_0 : cl_161_0.all (fun q => mchk 161 q.1 q.2) = true := by decide +kernel
theorem cdok_161 (pc : Nat) (I : mI) : cd_161 pc = some I → mchk 161 pc I = true := (fun h => chunk_ok ck_161_0 h)
theorem ck_162_0 : cl_162_0.all (fun q => mchk 162 q.1 q.2) = true := by decide +kernel
theorem ck_162_1 : cl_162_1.all (fun q => mchk 162 q.1 q.2) = true := by decide +kernel
theorem ck_162_2 : cl_162_2.all (fun q => mchk 162 q.1 q.2) = true := by decide +kernel
theorem ck_162_3 : cl_162_3.all (fun q => mchk 162 q.1 q.2) = true := by decide +kernel
theorem cdok_162 (pc : Nat) (I : mI) : cd_162 pc = some I → mchk 162 pc I = true := (fun h => bif_ok h (fun h => bif_ok h (fun h => chunk_ok ck_162_0 h) (fun h => chunk_ok ck_162_1 h)) (fun h => bif_ok h (fun h => chunk_ok ck_162_2 h) (fun h => chunk_ok ck_162_3 h)))
theorem ck_163_0 : cl_163_0.all (fun q => mchk 163 q.1 q.2) = true := by decide +kernel
theorem ck_163_1 : cl_163_1.all (fun q => mchk 163 q.1 q.2) = true := by decide +kernel
theorem cdok_163 (pc : Nat) (I : mI) : cd_163 pc = some I → mchk 163 pc I = true := (fun h => bif_ok h (fun h => chunk_ok ck_163_0 h) (fun h => chunk_ok ck_163_1 h))
theorem ck_164_0 : cl_164_0.all (fun q => mchk 164 q.1 q.2) = true := by decide +kernel
theorem ck_164_1 : cl_164_1.all (fun q => mchk 164 q.1 q.2) = true := by decide +kernel
theorem ck_164_2 : cl_164_2.all (fun q => mchk 164 q.1 q.2) = true := by decide +kernel
theorem ck_164_3 : cl_164_3.all (fun q => mchk 164 q.1 q.2) = true := by decide +kernel
theorem ck_164_4 : cl_164_4.all (fun q => mchk 164 q.1 q.2) = true := by decide +kernel
theorem ck_164_5 : cl_164_5.all (fun q => mchk 164 q.1 q.2) = true := by decide +kernel
theorem ck_164_6 : cl_164_6.all (fun q => mchk 164 q.1 q.2) = true := by decide +kernel
theorem ck_164_7 : cl_164_7.all (fun q => mchk 164 q.1 q.2) = true := by decide +kernel
theorem ck_164_8 : cl_164_8.all (fun q => mchk 164 q.1 q.2) = true := by decide +kernel
theorem ck_164_9 : cl_164_9.all (fun q => mchk 164 q.1 q.2) = true := by decide +kernel
theorem ck_164_10 : cl_164_10.all (fun q => mchk 164 q.1 q.2) = true := by decide +kernel
theorem ck_164_11 : cl_164_11.all (fun q => mchk 164 q.1 q.2) = true := by decide +kernel
theorem ck_164_12 : cl_164_12.all (fun q => mchk 164 q.1 q.2) = true := by decide +kernel
theorem ck_164_13 : cl_164_13.all (fun q => mchk 164 q.1 q.2) = true := by decide +kernel
theorem ck_164_14 : cl_164_14.all (fun q => mchk 164 q.1 q.2) = true := by decide +kernel
theorem ck_164_15 : cl_164_15.all (fun q => mchk 164 q.1 q.2) = true := by decide +kernel
theorem ck_164_16 : cl_164_16.all (fun q => mchk 164 q.1 q.2) = true := by decide +kernel
theorem ck_164_17 : cl_164_17.all (fun q => mchk 164 q.1 q.2) = true := by decide +kernel
theorem ck_164_18 : cl_164_18.all (fun q => mchk 164 q.1 q.2) = true := by decide +kernel
theorem ck_164_19 : cl_164_19.all (fun q => mchk 164 q.1 q.2) = true := by decide +kernel
theorem ck_164_20 : cl_164_20.all (fun q => mchk 164 q.1 q.2) = true := by decide +kernel
theorem ck_164_21 : cl_164_21.all (fun q => mchk 164 q.1 q.2) = true := by decide +kernel
theorem ck_164_22 : cl_164_22.all (fun q => mchk 164 q.1 q.2) = true := by decide +kernel
theorem ck_164_23 : cl_164_23.all (fun q => mchk 164 q.1 q.2) = true := by decide +kernel
theorem ck_164_24 : cl_164_24.all (fun q => mchk 164 q.1 q.2) = true := by decide +kernel
theorem ck_164_25 : cl_164_25.all (fun q => mchk 164 q.1 q.2) = true := by decide +kernel
theorem ck_164_26 : cl_164_26.all (fun q => mchk 164 q.1 q.2) = true := by decide +kernel
theorem ck_164_27 : cl_164_27.all (fun q => mchk 164 q.1 q.2) = true := by decide +kernel
theorem ck_164_28 : cl_164_28.all (fun q => mchk 164 q.1 q.2) = true := by decide +kernel
theorem ck_164_29 : cl_164_29.all (fun q => mchk 164 q.1 q.2) = true := by decide +kernel
theorem ck_164_30 : cl_164_30.all (fun q => mchk 164 q.1 q.2) = true := by decide +kernel
theorem ck_164_31 : cl_164_31.all (fun q => mchk 164 q.1 q.2) = true := by decide +kernel
theorem ck_164_32 : cl_164_32.all (fun q => mchk 164 q.1 q.2) = true := by decide +kernel
theorem ck_164_33 : cl_164_33.all (fun q => mchk 164 q.1 q.2) = true := by decide +kernel
theorem ck_164_34 : cl_164_34.all (fun q => mchk 164 q.1 q.2) = true := by decide +kernel
theorem ck_164_35 : cl_164_35.all (fun q => mchk 164 q.1 q.2) = true := by decide +kernel
theorem ck_164_36 : cl_164_36.all (fun q => mchk 164 q.1 q.2) = true := by decide +kernel
theorem ck_164_37 : cl_164_37.all (fun q => mchk 164 q.1 q.2) = true := by decide +kernel
theorem ck_164_38 : cl_164_38.all (fun q => mchk 164 q.1 q.2) = true := by decide +kernel
theorem ck_164_39 : cl_164_39.all (fun q => mchk 164 q.1 q.2) = true := by decide +kernel
theorem ck_164_40 : cl_164_40.all (fun q => mchk 164 q.1 q.2) = true := by decide +kernel
theorem ck_164_41 : cl_164_41.all (fun q => mchk 164 q.1 q.2) = true := by decide +kernel
theorem ck_164_42 : cl_164_42.all (fun q => mchk 164 q.1 q.2) = true := by decide +kernel
theorem ck_164_43 : cl_164_43.all (fun q => mchk 164 q.1 q.2) = true := by decide +kernel
theorem ck_164_44 : cl_164_44.all (fun q => mchk 164 q.1 q.2) = true := by decide +kernel
theorem ck_164_45 : cl_164_45.all (fun q => mchk 164 q.1 q.2) = true := by decide +kernel
theorem ck_164_46 : cl_164_46.all (fun q => mchk 164 q.1 q.2) = true := by decide +kernel
theorem ck_164_47 : cl_164_47.all (fun q => mchk 164 q.1 q.2) = true := by decide +kernel
theorem ck_164_48 : cl_164_48.all (fun q => mchk 164 q.1 q.2) = true := by decide +kernel
theorem ck_164_49 : cl_164_49.all (fun q => mchk 164 q.1 q.2) = true := by decide +kernel
theorem ck_164_50 : cl_164_50.all (fun q => mchk 164 q.1 q.2) = true := by decide +kernel
theorem ck_164_51 : cl_164_51.all (fun q => mchk 164 q.1 q.2) = true := by decide +kernel
theorem ck_164_52 : cl_164_52.all (fun q => mchk 164 q.1 q.2) = true := by decide +kernel
theorem ck_164_53 : cl_164_53.all (fun q => mchk 164 q.1 q.2) = true := by decide +kernel
theorem ck_164_54 : cl_164_54.all (fun q => mchk 164 q.1 q.2) = true := by decide +kernel
theorem ck_164_55 : cl_164_55.all (fun q => mchk 164 q.1 q.2) = true := by decide +kernel
theorem ck_164_56 : cl_164_56.all (fun q => mchk 164 q.1 q.2) = true := by decide +kernel
theorem ck_164_57 : cl_164_57.all (fun q => mchk 164 q.1 q.2) = true := by decide +kernel
theorem ck_164_58 : cl_164_58.all (fun q => mchk 164 q.1 q.2) = true := by decide +kernel
theorem ck_164_59 : cl_164_59.all (fun q => mchk 164 q.1 q.2) = true := by decide +kernel
theorem ck_164_60 : cl_164_60.all (fun q => mchk 164 q.1 q.2) = true := by decide +kernel
theorem ck_164_61 : cl_164_61.all (fun q => mchk 164 q.1 q.2) = true := by decide +kernel
theorem cdok_164 (pc : Nat) (I : mI) : cd_164 pc = some I → mchk 164 pc I = true := (fun h => bif_ok h (fun h => bif_ok h (fun h => bif_ok h (fun h => bif_ok h (fun h => bif_ok h (fun h => chunk_ok ck_164_0 h) (fun h => bif_ok h (fun h => chunk_ok ck_164_1 h) (fun h => chunk_ok ck_164_2 h))) (fun h => bif_ok h (fun h => bif_ok h (fun h => chunk_ok ck_164_3 h) (fun h => chunk_ok ck_164_4 h)) (fun h => bif_ok h (fun h => chunk_ok ck_164_5 h) (fun h => chunk_ok ck_164_6 h)))) (fun h => bif_ok h (fun h => bif_ok h (fun h => bif_ok h (fun h => chunk_ok ck_164_7 h) (fun h => chunk_ok ck_164_8 h)) (fun h => bif_ok h (fun h => chunk_ok ck_164_9 h) (fun h => chunk_ok ck_164_10 h))) (fun h => bif_ok h (fun h => bif_ok h (fun h => chunk_ok ck_164_11 h) (fun h => chunk_ok ck_164_12 h)) (fun h => bif_ok h (fun h => chunk_ok ck_164_13 h) (fun h => chunk_ok ck_164_14 h))))) (fun h => bif_ok h (fun h => bif_ok h (fun h => bif_ok h (fun h => bif_ok h (fun h => chunk_ok ck_164_15 h) (fun h => chunk_ok ck_164_16 h)) (fun h => bif_ok h (fun h => chunk_ok ck_164_17 h) (fun h => chunk_ok ck_164_18 h))) (fun h => bif_ok h (fun h => bif_ok h (fun h => chunk_ok ck_164_19 h) (fun h => chunk_ok ck_164_20 h)) (fun h => bif_ok h (fun h => chunk_ok ck_164_21 h) (fun h => chunk_ok ck_164_22 h)))) (fun h => bif_ok h (fun h => bif_ok h (fun h => bif_ok h (fun h => chunk_ok ck_164_23 h) (fun h => chunk_ok ck_164_24 h)) (fun h => bif_ok h (fun h => chunk_ok ck_164_25 h) (fun h => chunk_ok ck_164_26 h))) (fun h => bif_ok h (fun h => bif_ok h (fun h => chunk_ok ck_164_27 h) (fun h => chunk_ok ck_164_28 h)) (fun h => bif_ok h (fun h => chunk_ok ck_164_29 h) (fun h => chunk_ok ck_164_30 h)))))) (fun h => bif_ok h (fun h => bif_ok h (fun h => bif_ok h (fun h => bif_ok h (fun h => chunk_ok ck_164_31 h) (fun h => bif_ok h (fun h => chunk_ok ck_164_32 h) (fun h => chunk_ok ck_164_33 h))) (fun h => bif_ok h (fun h => bif_ok h (fun h => chunk_ok ck_164_34 h) (fun h => chunk_ok ck_164_35 h)) (fun h => bif_ok h (fun h => chunk_ok ck_164_36 h) (fun h => chunk_ok ck_164_37 h)))) (fun h => bif_ok h (fun h => bif_ok h (fun h => bif_ok h (fun h => chunk_ok ck_164_38 h) (fun h => chunk_ok ck_164_39 h)) (fun h => bif_ok h (fun h => chunk_ok ck_164_40 h) (fun h => chunk_ok ck_164_41 h))) (fun h => bif_ok h (fun h => bif_ok h (fun h => chunk_ok ck_164_42 h) (fun h => chunk_ok ck_164_43 h)) (fun h => bif_ok h (fun h => chunk_ok ck_164_44 h) (fun h => chunk_ok ck_164_45 h))))) (fun h => bif_ok h (fun h => bif_ok h (fun h => bif_ok h (fun h => bif_ok h (fun h => chunk_ok ck_164_46 h) (fun h => chunk_ok ck_164_47 h)) (fun h => bif_ok h (fun h => chunk_ok ck_164_48 h) (fun h => chunk_ok ck_164_49 h))) (fun h => bif_ok h (fun h => bif_ok h (fun h => chunk_ok ck_164_50 h) (fun h => chunk_ok ck_164_51 h)) (fun h => bif_ok h (fun h => chunk_ok ck_164_52 h) (fun h => chunk_ok ck_164_53 h)))) (fun h => bif_ok h (fun h => bif_ok h (fun h => bif_ok h (fun h => chunk_ok ck_164_54 h) (fun h => chunk_ok ck_164_55 h)) (fun h => bif_ok h (fun h => chunk_ok ck_164_56 h) (fun h => chunk_ok ck_164_57 h))) (fun h => bif_ok h (fun h => bif_ok h (fun h => chunk_ok ck_164_58 h) (fun h => chunk_ok ck_164_59 h)) (fun h => bif_ok h (fun h => chunk_ok ck_164_60 h) (fun h => chunk_ok ck_164_61 h)))))))
theorem ck_165_0 : cl_165_0.all (fun q => mchk 165 q.1 q.2) = true := by decide +kernel
theorem ck_165_1 : cl_165_1.all (fun q => mchk 165 q.1 q.2) = true := by decide +kernel
theorem ck_165_2 : cl_165_2.all (fun q => mchk 165 q.1 q.2) = true := by decide +kernel
theorem cdok_165 (pc : Nat) (I : mI) : cd_165 pc = some I → mchk 165 pc I = true := (fun h => bif_ok h (fun h => chunk_ok ck_165_0 h) (fun h => bif_ok h (fun h => chunk_ok ck_165_1 h) (fun h => chunk_ok ck_165_2 h)))
theorem ck_166_0 : cl_166_0.all (fun q => mchk 166 q.1 q.2) = true := by decide +kernel
theorem ck_166_1 : cl_166_1.all (fun q => mchk 166 q.1 q.2) = true := by decide +kernel
theorem cdok_166 (pc : Nat) (I : mI) : cd_166 pc = some I → mchk 166 pc I = true := (fun h => bif_ok h (fun h => chunk_ok ck_166_0 h) (fun h => chunk_ok ck_166_1 h))
theorem ck_167_0 : cl_167_0.all (fun q => mchk 167 q.1 q.2) = true := by decide +kernel
theorem ck_167_1 : cl_167_1.all (fun q => mchk 167 q.1 q.2) = true := by decide +kernel
theorem ck_167_2 : cl_167_2.all (fun q => mchk 167 q.1 q.2) = true := by decide +kernel
theorem ck_167_3 : cl_167_3.all (fun q => mchk 167 q.1 q.2) = true := by decide +kernel
theorem ck_167_4 : cl_167_4.all (fun q => mchk 167 q.1 q.2) = true := by decide +kernel
theorem ck_167_5 : cl_167_5.all (fun q => mchk 167 q.1 q.2) = true := by decide +kernel
theorem ck_167_6 : cl_167_6.all (fun q => mchk 167 q.1 q.2) = true := by decide +kernel
theorem cdok_167 (pc : Nat) (I : mI) : cd_167 pc = some I → mchk 167 pc I = true := (fun h => bif_ok h (fun h => bif_ok h (fun h => chunk_ok ck_167_0 h) (fun h => bif_ok h (fun h => chunk_ok ck_167_1 h) (fun h => chunk_ok ck_167_2 h))) (fun h => bif_ok h (fun h => bif_ok h (fun h => chunk_ok ck_167_3 h) (fun h => chunk_ok ck_167_4 h)) (fun h => bif_ok h (fun h => chunk_ok ck_167_5 h) (fun h => chunk_ok ck_167_6 h))))
theorem ck_168_0 : cl_168_0.all (fun q => mchk 168 q.1 q.2) = true := by decide +kernel
theorem ck_168_1 : cl_168_1.all (fun q => mchk 168 q.1 q.2) = true := by decide +kernel
theorem cdok_168 (pc : Nat) (I : mI) : cd_168 pc = some I → mchk 168 pc I = true := (fun h => bif_ok h (fun h => chunk_ok ck_168_0 h) (fun h => chunk_ok ck_168_1 h))
theorem ck_169_0 : cl_169_0.all (fun q => mchk 169 q.1 q.2) = true := by decide +kernel
theorem ck_169_1 : cl_169_1.all (fun q => mchk 169 q.1 q.2) = true := by decide +kernel
theorem cdok_169 (pc : Nat) (I : mI) : cd_169 pc = some I → mchk 169 pc I = true := (fun h => bif_ok h (fun h => chunk_ok ck_169_0 h) (fun h => chunk_ok ck_169_1 h))
theorem ck_170_0 : cl_170_0.all (fun q => mchk 170 q.1 q.2) = true := by decide +kernel
theorem ck_170_1 : cl_170_1.all (fun q => mchk 170 q.1 q.2) = true := by decide +kernel
theorem cdok_170 (pc : Nat) (I : mI) : cd_170 pc = some I → mchk 170 pc I = true := (fun h => bif_ok h (fun h => chunk_ok ck_170_0 h) (fun h => chunk_ok ck_170_1 h))
theorem ck_171_0 : cl_171_0.all (fun q => mchk 171 q.1 q.2) = true := by decide +kernel
theorem ck_171_1 : cl_171_1.all (fun q => mchk 171 q.1 q.2) = true := by decide +kernel
theorem cdok_171 (pc : Nat) (I : mI) : cd_171 pc = some I → mchk 171 pc I = true := (fun h => bif_ok h (fun h => chunk_ok ck_171_0 h) (fun h => chunk_ok ck_171_1 h))
theorem ck_172_0 : cl_172_0.all (fun q => mchk 172 q.1 q.2) = true := by decide +kernel
theorem ck_172_1 : cl_172_1.all (fun q => mchk 172 q.1 q.2) = true := by decide +kernel
theorem ck_172_2 : cl_172_2.all (fun q => mchk 172 q.1 q.2) = true := by decide +kernel
theorem cdok_172 (pc : Nat) (I : mI) : cd_172 pc = some I → mchk 172 pc I = true := (fun h => bif_ok h (fun h => chunk_ok ck_172_0 h) (fun h => bif_ok h (fun h => chunk_ok ck_172_1 h) (fun h => chunk_ok ck_172_2 h)))
theorem ck_173_0 : cl_173_0.all (fun q => mchk 173 q.1 q.2) = true := by decide +kernel
theorem ck_173_1 : cl_173_1.all (fun q => mchk 173 q.1 q.2) = true := by decide +kernel
theorem cdok_173 (pc : Nat) (I : mI) : cd_173 pc = some I → mchk 173 pc I = true := (fun h => bif_ok h (fun h => chunk_ok ck_173_0 h) (fun h => chunk_ok ck_173_1 h))
theorem ck_174_0 : cl_174_0.all (fun q => mchk 174 q.1 q.2) = true := by decide +kernel
theorem ck_174_1 : cl_174_1.all (fun q => mchk 174 q.1 q.2) = true := by decide +kernel
theorem cdok_174 (pc : Nat) (I : mI) : cd_174 pc = some I → mchk 174 pc I = true := (fun h => bif_ok h (fun h => chunk_ok ck_174_0 h) (fun h => chunk_ok ck_174_1 h))
theorem ck_175_0 : cl_175_0.all (fun q => mchk 175 q.1 q.2) = true := by decide +kernel
theorem ck_175_1 : cl_175_1.all (fun q => mchk 175 q.1 q.2) = true := by decide +kernel
theorem cdok_175 (pc : Nat) (I : mI) : cd_175 pc = some I → mchk 175 pc I = true := (fun h => bif_ok h (fun h => chunk_ok ck_175_0 h) (fun h => chunk_ok ck_175_1 h))
theorem ck_176_0 : cl_176_0.all (fun q => mchk 176 q.1 q.2) = true := by decide +kernel
theorem ck_176_1 : cl_176_1.all (fun q => mchk 176 q.1 q.2) = true := by decide +kernel
theorem ck_176_2 : cl_176_2.all (fun q => mchk 176 q.1 q.2) = true := by decide +kernel
theorem ck_176_3 : cl_176_3.all (fun q => mchk 176 q.1 q.2) = true := by decide +kernel
theorem cdok_176 (pc : Nat) (I : mI) : cd_176 pc = some I → mchk 176 pc I = true := (fun h => bif_ok h (fun h => bif_ok h (fun h => chunk_ok ck_176_0 h) (fun h => chunk_ok ck_176_1 h)) (fun h => bif_ok h (fun h => chunk_ok ck_176_2 h) (fun h => chunk_ok ck_176_3 h)))
theorem ck_177_0 : cl_177_0.all (fun q => mchk 177 q.1 q.2) = true := by decide +kernel
theorem ck_177_1 : cl_177_1.all (fun q => mchk 177 q.1 q.2) = true := by decide +kernel
theorem ck_177_2 : cl_177_2.all (fun q => mchk 177 q.1 q.2) = true := by decide +kernel
theorem ck_177_3 : cl_177_3.all (fun q => mchk 177 q.1 q.2) = true := by decide +kernel
theorem ck_177_4 : cl_177_4.all (fun q => mchk 177 q.1 q.2) = true := by decide +kernel
theorem cdok_177 (pc : Nat) (I : mI) : cd_177 pc = some I → mchk 177 pc I = true := (fun h => bif_ok h (fun h => bif_ok h (fun h => chunk_ok ck_177_0 h) (fun h => chunk_ok ck_177_1 h)) (fun h => bif_ok h (fun h => chunk_ok ck_177_2 h) (fun h => bif_ok h (fun h => chunk_ok ck_177_3 h) (fun h => chunk_ok ck_177_4 h))))
theorem ck_178_0 : cl_178_0.all (fun q => mchk 178 q.1 q.2) = true := by decide +kernel
theorem ck_178_1 : cl_178_1.all (fun q => mchk 178 q.1 q.2) = true := by decide +kernel
theorem ck_178_2 : cl_178_2.all (fun q => mchk 178 q.1 q.2) = true := by decide +kernel
theorem cdok_178 (pc : Nat) (I : mI) : cd_178 pc = some I → mchk 178 pc I = true := (fun h => bif_ok h (fun h => chunk_ok ck_178_0 h) (fun h => bif_ok h (fun h => chunk_ok ck_178_1 h) (fun h => chunk_ok ck_178_2 h)))
theorem ck_179_0 : cl_179_0.all (fun q => mchk 179 q.1 q.2) = true := by decide +kernel
theorem ck_179_1 : cl_179_1.all (fun q => mchk 179 q.1 q.2) = true := by decide +kernel
theorem cdok_179 (pc : Nat) (I : mI) : cd_179 pc = some I → mchk 179 pc I = true := (fun h => bif_ok h (fun h => chunk_ok ck_179_0 h) (fun h => chunk_ok ck_179_1 h))
theorem ck_180_0 : cl_180_0.all (fun q => mchk 180 q.1 q.2) = true := by decide +kernel
theorem ck_180_1 : cl_180_1.all (fun q => mchk 180 q.1 q.2) = true := by decide +kernel
theorem cdok_180 (pc : Nat) (I : mI) : cd_180 pc = some I → mchk 180 pc I = true := (fun h => bif_ok h (fun h => chunk_ok ck_180_0 h) (fun h => chunk_ok ck_180_1 h))
theorem ck_181_0 : cl_181_0.all (fun q => mchk 181 q.1 q.2) = true := by decide +kernel
theorem ck_181_1 : cl_181_1.all (fun q => mchk 181 q.1 q.2) = true := by decide +kernel
theorem ck_181_2 : cl_181_2.all (fun q => mchk 181 q.1 q.2) = true := by decide +kernel
theorem ck_181_3 : cl_181_3.all (fun q => mchk 181 q.1 q.2) = true := by decide +kernel
theorem ck_181_4 : cl_181_4.all (fun q => mchk 181 q.1 q.2) = true := by decide +kernel
theorem ck_181_5 : cl_181_5.all (fun q => mchk 181 q.1 q.2) = true := by decide +kernel
theorem ck_181_6 : cl_181_6.all (fun q => mchk 181 q.1 q.2) = true := by decide +kernel
theorem cdok_181 (pc : Nat) (I : mI) : cd_181 pc = some I → mchk 181 pc I = true := (fun h => bif_ok h (fun h => bif_ok h (fun h => chunk_ok ck_181_0 h) (fun h => bif_ok h (fun h => chunk_ok ck_181_1 h) (fun h => chunk_ok ck_181_2 h))) (fun h => bif_ok h (fun h => bif_ok h (fun h => chunk_ok ck_181_3 h) (fun h => chunk_ok ck_181_4 h)) (fun h => bif_ok h (fun h => chunk_ok ck_181_5 h) (fun h => chunk_ok ck_181_6 h))))
theorem ck_182_0 : cl_182_0.all (fun q => mchk 182 q.1 q.2) = true := by decide +kernel
theorem ck_182_1 : cl_182_1.all (fun q => mchk 182 q.1 q.2) = true := by decide +kernel
theorem cdok_182 (pc : Nat) (I : mI) : cd_182 pc = some I → mchk 182 pc I = true := (fun h => bif_ok h (fun h => chunk_ok ck_182_0 h) (fun h => chunk_ok ck_182_1 h))
theorem ck_183_0 : cl_183_0.all (fun q => mchk 183 q.1 q.2) = true := by decide +kernel
theorem cdok_183 (pc : Nat) (I : mI) : cd_183 pc = some I → mchk 183 pc I = true := (fun h => chunk_ok ck_183_0 h)
theorem ck_184_0 : cl_184_0.all (fun q => mchk 184 q.1 q.2) = true := by decide +kernel
theorem ck_184_1 : cl_184_1.all (fun q => mchk 184 q.1 q.2) = true := by decide +kernel
theorem ck_184_2 : cl_184_2.all (fun q => mchk 184 q.1 q.2) = true := by decide +kernel
theorem ck_184_3 : cl_184_3.all (fun q => mchk 184 q.1 q.2) = true := by decide +kernel
theorem cdok_184 (pc : Nat) (I : mI) : cd_184 pc = some I → mchk 184 pc I = true := (fun h => bif_ok h (fun h => bif_ok h (fun h => chunk_ok ck_184_0 h) (fun h => chunk_ok ck_184_1 h)) (fun h => bif_ok h (fun h => chunk_ok ck_184_2 h) (fun h => chunk_ok ck_184_3 h)))
theorem ck_185_0 : cl_185_0.all (fun q => mchk 185 q.1 q.2) = true := by decide +kernel
theorem ck_185_1 : cl_185_1.all (fun q => mchk 185 q.1 q.2) = true := by decide +kernel
theorem ck_185_2 : cl_185_2.all (fun q => mchk 185 q.1 q.2) = true := by decide +kernel
theorem ck_185_3 : cl_185_3.all (fun q => mchk 185 q.1 q.2) = true := by decide +kernel
theorem ck_185_4 : cl_185_4.all (fun q => mchk 185 q.1 q.2) = true := by decide +kernel
theorem ck_185_5 : cl_185_5.all (fun q => mchk 185 q.1 q.2) = true := by decide +kernel
theorem ck_185_6 : cl_185_6.all (fun q => mchk 185 q.1 q.2) = true := by decide +kernel
theorem ck_185_7 : cl_185_7.all (fun q => mchk 185 q.1 q.2) = true := by decide +kernel
theorem ck_185_8 : cl_185_8.all (fun q => mchk 185 q.1 q.2) = true := by decide +kernel
theorem ck_185_9 : cl_185_9.all (fun q => mchk 185 q.1 q.2) = true := by decide +kernel
theorem cdok_185 (pc : Nat) (I : mI) : cd_185 pc = some I → mchk 185 pc I = true := (fun h => bif_ok h (fun h => bif_ok h (fun h => bif_ok h (fun h => chunk_ok ck_185_0 h) (fun h => chunk_ok ck_185_1 h)) (fun h => bif_ok h (fun h => chunk_ok ck_185_2 h) (fun h => bif_ok h (fun h => chunk_ok ck_185_3 h) (fun h => chunk_ok ck_185_4 h)))) (fun h => bif_ok h (fun h => bif_ok h (fun h => chunk_ok ck_185_5 h) (fun h => chunk_ok ck_185_6 h)) (fun h => bif_ok h (fun h => chunk_ok ck_185_7 h) (fun h => bif_ok h (fun h => chunk_ok ck_185_8 h) (fun h => chunk_ok ck_185_9 h)))))
theorem ck_186_0 : cl_186_0.all (fun q => mchk 186 q.1 q.2) = true := by decide +kernel
theorem ck_186_1 : cl_186_1.all (fun q => mchk 186 q.1 q.2) = true := by decide +kernel
theorem ck_186_2 : cl_186_2.all (fun q => mchk 186 q.1 q.2) = true := by decide +kernel
theorem ck_186_3 : cl_186_3.all (fun q => mchk 186 q.1 q.2) = true := by decide +kernel
theorem ck_186_4 : cl_186_4.all (fun q => mchk 186 q.1 q.2) = true := by decide +kernel
theorem ck_186_5 : cl_186_5.all (fun q => mchk 186 q.1 q.2) = true := by decide +kernel
theorem ck_186_6 : cl_186_6.all (fun q => mchk 186 q.1 q.2) = true := by decide +kernel
theorem ck_186_7 : cl_186_7.all (fun q => mchk 186 q.1 q.2) = true := by decide +kernel
theorem cdok_186 (pc : Nat) (I : mI) : cd_186 pc = some I → mchk 186 pc I = true := (fun h => bif_ok h (fun h => bif_ok h (fun h => bif_ok h (fun h => chunk_ok ck_186_0 h) (fun h => chunk_ok ck_186_1 h)) (fun h => bif_ok h (fun h => chunk_ok ck_186_2 h) (fun h => chunk_ok ck_186_3 h))) (fun h => bif_ok h (fun h => bif_ok h (fun h => chunk_ok ck_186_4 h) (fun h => chunk_ok ck_186_5 h)) (fun h => bif_ok h (fun h => chunk_ok ck_186_6 h) (fun h => chunk_ok ck_186_7 h))))
theorem ck_187_0 : cl_187_0.all (fun q => mchk 187 q.1 q.2) = true := by decide +kernel
theorem ck_187_1 : cl_187_1.all (fun q => mchk 187 q.1 q.2) = true := by decide +kernel
theorem ck_187_2 : cl_187_2.all (fun q => mchk 187 q.1 q.2) = true := by decide +kernel
theorem ck_187_3 : cl_187_3.all (fun q => mchk 187 q.1 q.2) = true := by decide +kernel
theorem cdok_187 (pc : Nat) (I : mI) : cd_187 pc = some I → mchk 187 pc I = true := (fun h => bif_ok h (fun h => bif_ok h (fun h => chunk_ok ck_187_0 h) (fun h => chunk_ok ck_187_1 h)) (fun h => bif_ok h (fun h => chunk_ok ck_187_2 h) (fun h => chunk_ok ck_187_3 h)))
theorem ck_188_0 : cl_188_0.all (fun q => mchk 188 q.1 q.2) = true := by decide +kernel
theorem ck_188_1 : cl_188_1.all (fun q => mchk 188 q.1 q.2) = true := by decide +kernel
theorem ck_188_2 : cl_188_2.all (fun q => mchk 188 q.1 q.2) = true := by decide +kernel
theorem ck_188_3 : cl_188_3.all (fun q => mchk 188 q.1 q.2) = true := by decide +kernel
theorem ck_188_4 : cl_188_4.all (fun q => mchk 188 q.1 q.2) = true := by decide +kernel
theorem ck_188_5 : cl_188_5.all (fun q => mchk 188 q.1 q.2) = true := by decide +kernel
theorem ck_188_6 : cl_188_6.all (fun q => mchk 188 q.1 q.2) = true := by decide +kernel
theorem ck_188_7 : cl_188_7.all (fun q => mchk 188 q.1 q.2) = true := by decide +kernel
theorem ck_188_8 : cl_188_8.all (fun q => mchk 188 q.1 q.2) = true := by decide +kernel
theorem ck_188_9 : cl_188_9.all (fun q => mchk 188 q.1 q.2) = true := by decide +kernel
theorem ck_188_10 : cl_188_10.all (fun q => mchk 188 q.1 q.2) = true := by decide +kernel
theorem ck_188_11 : cl_188_11.all (fun q => mchk 188 q.1 q.2) = true := by decide +kernel
theorem ck_188_12 : cl_188_12.all (fun q => mchk 188 q.1 q.2) = true := by decide +kernel
theorem ck_188_13 : cl_188_13.all (fun q => mchk 188 q.1 q.2) = true := by decide +kernel
theorem ck_188_14 : cl_188_14.all (fun q => mchk 188 q.1 q.2) = true := by decide +kernel
theorem ck_188_15 : cl_188_15.all (fun q => mchk 188 q.1 q.2) = true := by decide +kernel
theorem ck_188_16 : cl_188_16.all (fun q => mchk 188 q.1 q.2) = true := by decide +kernel
theorem ck_188_17 : cl_188_17.all (fun q => mchk 188 q.1 q.2) = true := by decide +kernel
theorem ck_188_18 : cl_188_18.all (fun q => mchk 188 q.1 q.2) = true := by decide +kernel
theorem ck_188_19 : cl_188_19.all (fun q => mchk 188 q.1 q.2) = true := by decide +kernel
theorem ck_188_20 : cl_188_20.all (fun q => mchk 188 q.1 q.2) = true := by decide +kernel
theorem ck_188_21 : cl_188_21.all (fun q => mchk 188 q.1 q.2) = true := by decide +kernel
theorem ck_188_22 : cl_188_22.all (fun q => mchk 188 q.1 q.2) = true := by decide +kernel
theorem cdok_188 (pc : Nat) (I : mI) : cd_188 pc = some I → mchk 188 pc I = true := (fun h => bif_ok h (fun h => bif_ok h (fun h => bif_ok h (fun h => bif_ok h (fun h => chunk_ok ck_188_0 h) (fun h => chunk_ok ck_188_1 h)) (fun h => bif_ok h (fun h => chunk_ok ck_188_2 h) (fun h => bif_ok h (fun h => chunk_ok ck_188_3 h) (fun h => chunk_ok ck_188_4 h)))) (fun h => bif_ok h (fun h => bif_ok h (fun h => chunk_ok ck_188_5 h) (fun h => bif_ok h (fun h => chunk_ok ck_188_6 h) (fun h => chunk_ok ck_188_7 h))) (fun h => bif_ok h (fun h => chunk_ok ck_188_8 h) (fun h => bif_ok h (fun h => chunk_ok ck_188_9 h) (fun h => chunk_ok ck_188_10 h))))) (fun h => bif_ok h (fun h => bif_ok h (fun h => bif_ok h (fun h => chunk_ok ck_188_11 h) (fun h => bif_ok h (fun h => chunk_ok ck_188_12 h) (fun h => chunk_ok ck_188_13 h))) (fun h => bif_ok h (fun h => chunk_ok ck_188_14 h) (fun h => bif_ok h (fun h => chunk_ok ck_188_15 h) (fun h => chunk_ok ck_188_16 h)))) (fun h => bif_ok h (fun h => bif_ok h (fun h => chunk_ok ck_188_17 h) (fun h => bif_ok h (fun h => chunk_ok ck_188_18 h) (fun h => chunk_ok ck_188_19 h))) (fun h => bif_ok h (fun h => chunk_ok ck_188_20 h) (fun h => bif_ok h (fun h => chunk_ok ck_188_21 h) (fun h => chunk_ok ck_188_22 h))))))
theorem ck_189_0 : cl_189_0.all (fun q => mchk 189 q.1 q.2) = true := by decide +kernel
theorem ck_189_1 : cl_189_1.all (fun q => mchk 189 q.1 q.2) = true := by decide +kernel
theorem ck_189_2 : cl_189_2.all (fun q => mchk 189 q.1 q.2) = true := by decide +kernel
theorem cdok_189 (pc : Nat) (I : mI) : cd_189 pc = some I → mchk 189 pc I = true := (fun h => bif_ok h (fun h => chunk_ok ck_189_0 h) (fun h => bif_ok h (fun h => chunk_ok ck_189_1 h) (fun h => chunk_ok ck_189_2 h)))
theorem ck_190_0 : cl_190_0.all (fun q => mchk 190 q.1 q.2) = true := by decide +kernel
theorem ck_190_1 : cl_190_1.all (fun q => mchk 190 q.1 q.2) = true := by decide +kernel
theorem ck_190_2 : cl_190_2.all (fun q => mchk 190 q.1 q.2) = true := by decide +kernel
theorem ck_190_3 : cl_190_3.all (fun q => mchk 190 q.1 q.2) = true := by decide +kernel
theorem ck_190_4 : cl_190_4.all (fun q => mchk 190 q.1 q.2) = true := by decide +kernel
theorem ck_190_5 : cl_190_5.all (fun q => mchk 190 q.1 q.2) = true := by decide +kernel
theorem cdok_190 (pc : Nat) (I : mI) : cd_190 pc = some I → mchk 190 pc I = true := (fun h => bif_ok h (fun h => bif_ok h (fun h => chunk_ok ck_190_0 h) (fun h => bif_ok h (fun h => chunk_ok ck_190_1 h) (fun h => chunk_ok ck_190_2 h))) (fun h => bif_ok h (fun h => chunk_ok ck_190_3 h) (fun h => bif_ok h (fun h => chunk_ok ck_190_4 h) (fun h => chunk_ok ck_190_5 h))))
theorem ck_191_0 : cl_191_0.all (fun q => mchk 191 q.1 q.2) = true := by decide +kernel
theorem ck_191_1 : cl_191_1.all (fun q => mchk 191 q.1 q.2) = true := by decide +kernel
theorem ck_191_2 : cl_191_2.all (fun q => mchk 191 q.1 q.2) = true := by decide +kernel
theorem ck_191_3 : cl_191_3.all (fun q => mchk 191 q.1 q.2) = true := by decide +kernel
theorem cdok_191 (pc : Nat) (I : mI) : cd_191 pc = some I → mchk 191 pc I = true := (fun h => bif_ok h (fun h => bif_ok h (fun h => chunk_ok ck_191_0 h) (fun h => chunk_ok ck_191_1 h)) (fun h => bif_ok h (fun h => chunk_ok ck_191_2 h) (fun h => chunk_ok ck_191_3 h)))
theorem ck_192_0 : cl_192_0.all (fun q => mchk 192 q.1 q.2) = true := by decide +kernel
theorem ck_192_1 : cl_192_1.all (fun q => mchk 192 q.1 q.2) = true := by decide +kernel
theorem ck_192_2 : cl_192_2.all (fun q => mchk 192 q.1 q.2) = true := by decide +kernel
theorem ck_192_3 : cl_192_3.all (fun q => mchk 192 q.1 q.2) = true := by decide +kernel
theorem cdok_192 (pc : Nat) (I : mI) : cd_192 pc = some I → mchk 192 pc I = true := (fun h => bif_ok h (fun h => bif_ok h (fun h => chunk_ok ck_192_0 h) (fun h => chunk_ok ck_192_1 h)) (fun h => bif_ok h (fun h => chunk_ok ck_192_2 h) (fun h => chunk_ok ck_192_3 h)))
theorem ck_193_0 : cl_193_0.all (fun q => mchk 193 q.1 q.2) = true := by decide +kernel
theorem ck_193_1 : cl_193_1.all (fun q => mchk 193 q.1 q.2) = true := by decide +kernel
theorem ck_193_2 : cl_193_2.all (fun q => mchk 193 q.1 q.2) = true := by decide +kernel
theorem ck_193_3 : cl_193_3.all (fun q => mchk 193 q.1 q.2) = true := by decide +kernel
theorem ck_193_4 : cl_193_4.all (fun q => mchk 193 q.1 q.2) = true := by decide +kernel
theorem cdok_193 (pc : Nat) (I : mI) : cd_193 pc = some I → mchk 193 pc I = true := (fun h => bif_ok h (fun h => bif_ok h (fun h => chunk_ok ck_193_0 h) (fun h => chunk_ok ck_193_1 h)) (fun h => bif_ok h (fun h => chunk_ok ck_193_2 h) (fun h => bif_ok h (fun h => chunk_ok ck_193_3 h) (fun h => chunk_ok ck_193_4 h))))
theorem ck_194_0 : cl_194_0.all (fun q => mchk 194 q.1 q.2) = true := by decide +kernel
theorem ck_194_1 : cl_194_1.all (fun q => mchk 194 q.1 q.2) = true := by decide +kernel
theorem ck_194_2 : cl_194_2.all (fun q => mchk 194 q.1 q.2) = true := by decide +kernel
theorem ck_194_3 : cl_194_3.all (fun q => mchk 194 q.1 q.2) = true := by decide +kernel
theorem ck_194_4 : cl_194_4.all (fun q => mchk 194 q.1 q.2) = true := by decide +kernel
theorem cdok_194 (pc : Nat) (I : mI) : cd_194 pc = some I → mchk 194 pc I = true := (fun h => bif_ok h (fun h => bif_ok h (fun h => chunk_ok ck_194_0 h) (fun h => chunk_ok ck_194_1 h)) (fun h => bif_ok h (fun h => chunk_ok ck_194_2 h) (fun h => bif_ok h (fun h => chunk_ok ck_194_3 h) (fun h => chunk_ok ck_194_4 h))))
theorem ck_195_0 : cl_195_0.all (fun q => mchk 195 q.1 q.2) = true := by decide +kernel
theorem ck_195_1 : cl_195_1.all (fun q => mchk 195 q.1 q.2) = true := by decide +kernel
theorem cdok_195 (pc : Nat) (I : mI) : cd_195 pc = some I → mchk 195 pc I = true := (fun h => bif_ok h (fun h => chunk_ok ck_195_0 h) (fun h => chunk_ok ck_195_1 h))
theorem ck_196_0 : cl_196_0.all (fun q => mchk 196 q.1 q.2) = true := by decide +kernel
theorem ck_196_1 : cl_196_1.all (fun q => mchk 196 q.1 q.2) = true := by decide +kernel
theorem cdok_196 (pc : Nat) (I : mI) : cd_196 pc = some I → mchk 196 pc I = true := (fun h => bif_ok h (fun h => chunk_ok ck_196_0 h) (fun h => chunk_ok ck_196_1 h))
theorem ck_197_0 : cl_197_0.all (fun q => mchk 197 q.1 q.2) = true := by decide +kernel
theorem ck_197_1 : cl_197_1.all (fun q => mchk 197 q.1 q.2) = true := by decide +kernel
theorem ck_197_2 : cl_197_2.all (fun q => mchk 197 q.1 q.2) = true := by decide +kernel
theorem ck_197_3 : cl_197_3.all (fun q => mchk 197 q.1 q.2) = true := by decide +kernel
theorem ck_197_4 : cl_197_4.all (fun q => mchk 197 q.1 q.2) = true := by decide +kernel
theorem ck_197_5 : cl_197_5.all (fun q => mchk 197 q.1 q.2) = true := by decide +kernel
theorem ck_197_6 : cl_197_6.all (fun q => mchk 197 q.1 q.2) = true := by decide +kernel
theorem cdok_197 (pc : Nat) (I : mI) : cd_197 pc = some I → mchk 197 pc I = true := (fun h => bif_ok h (fun h => bif_ok h (fun h => chunk_ok ck_197_0 h) (fun h => bif_ok h (fun h => chunk_ok ck_197_1 h) (fun h => chunk_ok ck_197_2 h))) (fun h => bif_ok h (fun h => bif_ok h (fun h => chunk_ok ck_197_3 h) (fun h => chunk_ok ck_197_4 h)) (fun h => bif_ok h (fun h => chunk_ok ck_197_5 h) (fun h => chunk_ok ck_197_6 h))))
theorem ck_198_0 : cl_198_0.all (fun q => mchk 198 q.1 q.2) = true := by decide +kernel
theorem ck_198_1 : cl_198_1.all (fun q => mchk 198 q.1 q.2) = true := by decide +kernel
theorem ck_198_2 : cl_198_2.all (fun q => mchk 198 q.1 q.2) = true := by decide +kernel
theorem ck_198_3 : cl_198_3.all (fun q => mchk 198 q.1 q.2) = true := by decide +kernel
theorem ck_198_4 : cl_198_4.all (fun q => mchk 198 q.1 q.2) = true := by decide +kernel
theorem ck_198_5 : cl_198_5.all (fun q => mchk 198 q.1 q.2) = true := by decide +kernel
theorem ck_198_6 : cl_198_6.all (fun q => mchk 198 q.1 q.2) = true := by decide +kernel
theorem ck_198_7 : cl_198_7.all (fun q => mchk 198 q.1 q.2) = true := by decide +kernel
theorem ck_198_8 : cl_198_8.all (fun q => mchk 198 q.1 q.2) = true := by decide +kernel
theorem ck_198_9 : cl_198_9.all (fun q => mchk 198 q.1 q.2) = true := by decide +kernel
theorem ck_198_10 : cl_198_10.all (fun q => mchk 198 q.1 q.2) = true := by decide +kernel
theorem ck_198_11 : cl_198_11.all (fun q => mchk 198 q.1 q.2) = true := by decide +kernel
theorem ck_198_12 : cl_198_12.all (fun q => mchk 198 q.1 q.2) = true := by decide +kernel
theorem cdok_198 (pc : Nat) (I : mI) : cd_198 pc = some I → mchk 198 pc I = true := (fun h => bif_ok h (fun h => bif_ok h (fun h => bif_ok h (fun h => chunk_ok ck_198_0 h) (fun h => bif_ok h (fun h => chunk_ok ck_198_1 h) (fun h => chunk_ok ck_198_2 h))) (fun h => bif_ok h (fun h => chunk_ok ck_198_3 h) (fun h => bif_ok h (fun h => chunk_ok ck_198_4 h) (fun h => chunk_ok ck_198_5 h)))) (fun h => bif_ok h (fun h => bif_ok h (fun h => chunk_ok ck_198_6 h) (fun h => bif_ok h (fun h => chunk_ok ck_198_7 h) (fun h => chunk_ok ck_198_8 h))) (fun h => bif_ok h (fun h => bif_ok h (fun h => chunk_ok ck_198_9 h) (fun h => chunk_ok ck_198_10 h)) (fun h => bif_ok h (fun h => chunk_ok ck_198_11 h) (fun h => chunk_ok ck_198_12 h)))))
theorem ck_199_0 : cl_199_0.all (fun q => mchk 199 q.1 q.2) = true := by decide +kernel
theorem ck_199_1 : cl_199_1.all (fun q => mchk 199 q.1 q.2) = true := by decide +kernel
theorem ck_199_2 : cl_199_2.all (fun q => mchk 199 q.1 q.2) = true := by decide +kernel
theorem ck_199_3 : cl_199_3.all (fun q => mchk 199 q.1 q.2) = true := by decide +kernel
theorem ck_199_4 : cl_199_4.all (fun q => mchk 199 q.1 q.2) = true := by decide +kernel
theorem ck_199_5 : cl_199_5.all (fun q => mchk 199 q.1 q.2) = true := by decide +kernel
theorem ck_199_6 : cl_199_6.all (fun q => mchk 199 q.1 q.2) = true := by decide +kernel
theorem ck_199_7 : cl_199_7.all (fun q => mchk 199 q.1 q.2) = true := by decide +kernel
theorem ck_199_8 : cl_199_8.all (fun q => mchk 199 q.1 q.2) = true := by decide +kernel
theorem cdok_199 (pc : Nat) (I : mI) : cd_199 pc = some I → mchk 199 pc I = true := (fun h => bif_ok h (fun h => bif_ok h (fun h => bif_ok h (fun h => chunk_ok ck_199_0 h) (fun h => chunk_ok ck_199_1 h)) (fun h => bif_ok h (fun h => chunk_ok ck_199_2 h) (fun h => chunk_ok ck_199_3 h))) (fun h => bif_ok h (fun h => bif_ok h (fun h => chunk_ok ck_199_4 h) (fun h => chunk_ok ck_199_5 h)) (fun h => bif_ok h (fun h => chunk_ok ck_199_6 h) (fun h => bif_ok h (fun h => chunk_ok ck_199_7 h) (fun h => chunk_ok ck_199_8 h)))))
theorem ck_200_0 : cl_200_0.all (fun q => mchk 200 q.1 q.2) = true := by decide +kernel
theorem ck_200_1 : cl_200_1.all (fun q => mchk 200 q.1 q.2) = true := by decide +kernel
theorem ck_200_2 : cl_200_2.all (fun q => mchk 200 q.1 q.2) = true := by decide +kernel
theorem ck_200_3 : cl_200_3.all (fun q => mchk 200 q.1 q.2) = true := by decide +kernel
theorem cdok_200 (pc : Nat) (I : mI) : cd_200 pc = some I → mchk 200 pc I = true := (fun h => bif_ok h (fun h => bif_ok h (fun h => chunk_ok ck_200_0 h) (fun h => chunk_ok ck_200_1 h)) (fun h => bif_ok h (fun h => chunk_ok ck_200_2 h) (fun h => chunk_ok ck_200_3 h)))
theorem ck_201_0 : cl_201_0.all (fun q => mchk 201 q.1 q.2) = true := by decide +kernel
theorem ck_201_1 : cl_201_1.all (fun q => mchk 201 q.1 q.2) = true := by decide +kernel
theorem ck_201_2 : cl_201_2.all (fun q => mchk 201 q.1 q.2) = true := by decide +kernel
theorem ck_201_3 : cl_201_3.all (fun q => mchk 201 q.1 q.2) = true := by decide +kernel
theorem ck_201_4 : cl_201_4.all (fun q => mchk 201 q.1 q.2) = true := by decide +kernel
theorem cdok_201 (pc : Nat) (I : mI) : cd_201 pc = some I → mchk 201 pc I = true := (fun h => bif_ok h (fun h => bif_ok h (fun h => chunk_ok ck_201_0 h) (fun h => chunk_ok ck_201_1 h)) (fun h => bif_ok h (fun h => chunk_ok ck_201_2 h) (fun h => bif_ok h (fun h => chunk_ok ck_201_3 h) (fun h => chunk_ok ck_201_4 h))))
theorem ck_202_0 : cl_202_0.all (fun q => mchk 202 q.1 q.2) = true := by decide +kernel
theorem ck_202_1 : cl_202_1.all (fun q => mchk 202 q.1 q.2) = true := by decide +kernel
theorem ck_202_2 : cl_202_2.all (fun q => mchk 202 q.1 q.2) = true := by decide +kernel
theorem ck_202_3 : cl_202_3.all (fun q => mchk 202 q.1 q.2) = true := by decide +kernel
theorem cdok_202 (pc : Nat) (I : mI) : cd_202 pc = some I → mchk 202 pc I = true := (fun h => bif_ok h (fun h => bif_ok h (fun h => chunk_ok ck_202_0 h) (fun h => chunk_ok ck_202_1 h)) (fun h => bif_ok h (fun h => chunk_ok ck_202_2 h) (fun h => chunk_ok ck_202_3 h)))
theorem ck_203_0 : cl_203_0.all (fun q => mchk 203 q.1 q.2) = true := by decide +kernel
theorem ck_203_1 : cl_203_1.all (fun q => mchk 203 q.1 q.2) = true := by decide +kernel
theorem ck_203_2 : cl_203_2.all (fun q => mchk 203 q.1 q.2) = true := by decide +kernel
theorem ck_203_3 : cl_203_3.all (fun q => mchk 203 q.1 q.2) = true := by decide +kernel
theorem ck_203_4 : cl_203_4.all (fun q => mchk 203 q.1 q.2) = true := by decide +kernel
theorem ck_203_5 : cl_203_5.all (fun q => mchk 203 q.1 q.2) = true := by decide +kernel
theorem ck_203_6 : cl_203_6.all (fun q => mchk 203 q.1 q.2) = true := by decide +kernel
theorem ck_203_7 : cl_203_7.all (fun q => mchk 203 q.1 q.2) = true := by decide +kernel
theorem ck_203_8 : cl_203_8.all (fun q => mchk 203 q.1 q.2) = true := by decide +kernel
theorem ck_203_9 : cl_203_9.all (fun q => mchk 203 q.1 q.2) = true := by decide +kernel
theorem cdok_203 (pc : Nat) (I : mI) : cd_203 pc = some I → mchk 203 pc I = true := (fun h => bif_ok h (fun h => bif_ok h (fun h => bif_ok h (fun h => chunk_ok ck_203_0 h) (fun h => chunk_ok ck_203_1 h)) (fun h => bif_ok h (fun h => chunk_ok ck_203_2 h) (fun h => bif_ok h (fun h => chunk_ok ck_203_3 h) (fun h => chunk_ok ck_203_4 h)))) (fun h => bif_ok h (fun h => bif_ok h (fun h => chunk_ok ck_203_5 h) (fun h => chunk_ok ck_203_6 h)) (fun h => bif_ok h (fun h => chunk_ok ck_203_7 h) (fun h => bif_ok h (fun h => chunk_ok ck_203_8 h) (fun h => chunk_ok ck_203_9 h)))))
theorem ck_204_0 : cl_204_0.all (fun q => mchk 204 q.1 q.2) = true := by decide +kernel
theorem ck_204_1 : cl_204_1.all (fun q => mchk 204 q.1 q.2) = true := by decide +kernel
theorem ck_204_2 : cl_204_2.all (fun q => mchk 204 q.1 q.2) = true := by decide +kernel
theorem cdok_204 (pc : Nat) (I : mI) : cd_204 pc = some I → mchk 204 pc I = true := (fun h => bif_ok h (fun h => chunk_ok ck_204_0 h) (fun h => bif_ok h (fun h => chunk_ok ck_204_1 h) (fun h => chunk_ok ck_204_2 h)))
theorem ck_205_0 : cl_205_0.all (fun q => mchk 205 q.1 q.2) = true := by decide +kernel
theorem cdok_205 (pc : Nat) (I : mI) : cd_205 pc = some I → mchk 205 pc I = true := (fun h => chunk_ok ck_205_0 h)
theorem ck_206_0 : cl_206_0.all (fun q => mchk 206 q.1 q.2) = true := by decide +kernel
theorem ck_206_1 : cl_206_1.all (fun q => mchk 206 q.1 q.2) = true := by decide +kernel
theorem ck_206_2 : cl_206_2.all (fun q => mchk 206 q.1 q.2) = true := by decide +kernel
theorem ck_206_3 : cl_206_3.all (fun q => mchk 206 q.1 q.2) = true := by decide +kernel
theorem ck_206_4 : cl_206_4.all (fun q => mchk 206 q.1 q.2) = true := by decide +kernel
theorem ck_206_5 : cl_206_5.all (fun q => mchk 206 q.1 q.2) = true := by decide +kernel
theorem ck_206_6 : cl_206_6.all (fun q => mchk 206 q.1 q.2) = true := by decide +kernel
theorem cdok_206 (pc : Nat) (I : mI) : cd_206 pc = some I → mchk 206 pc I = true := (fun h => bif_ok h (fun h => bif_ok h (fun h => chunk_ok ck_206_0 h) (fun h => bif_ok h (fun h => chunk_ok ck_206_1 h) (fun h => chunk_ok ck_206_2 h))) (fun h => bif_ok h (fun h => bif_ok h (fun h => chunk_ok ck_206_3 h) (fun h => chunk_ok ck_206_4 h)) (fun h => bif_ok h (fun h => chunk_ok ck_206_5 h) (fun h => chunk_ok ck_206_6 h))))
