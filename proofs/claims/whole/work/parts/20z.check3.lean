theorem ck_207_0 : cl_207_0.all (fun q => mchk 207 q.1 q.2) = true := by decide +kernel
theorem ck_207_1 : cl_207_1.all (fun q => mchk 207 q.1 q.2) = true := by decide +kernel
theorem ck_207_2 : cl_207_2.all (fun q => mchk 207 q.1 q.2) = true := by decide +kernel
theorem ck_207_3 : cl_207_3.all (fun q => mchk 207 q.1 q.2) = true := by decide +kernel
theorem ck_207_4 : cl_207_4.all (fun q => mchk 207 q.1 q.2) = true := by decide +kernel
theorem ck_207_5 : cl_207_5.all (fun q => mchk 207 q.1 q.2) = true := by decide +kernel
theorem ck_207_6 : cl_207_6.all (fun q => mchk 207 q.1 q.2) = true := by decide +kernel
theorem cdok_207 (pc : Nat) (I : mI) : cd_207 pc = some I → mchk 207 pc I = true := (fun h => bif_ok h (fun h => bif_ok h (fun h => chunk_ok ck_207_0 h) (fun h => bif_ok h (fun h => chunk_ok ck_207_1 h) (fun h => chunk_ok ck_207_2 h))) (fun h => bif_ok h (fun h => bif_ok h (fun h => chunk_ok ck_207_3 h) (fun h => chunk_ok ck_207_4 h)) (fun h => bif_ok h (fun h => chunk_ok ck_207_5 h) (fun h => chunk_ok ck_207_6 h))))
theorem ck_208_0 : cl_208_0.all (fun q => mchk 208 q.1 q.2) = true := by decide +kernel
theorem ck_208_1 : cl_208_1.all (fun q => mchk 208 q.1 q.2) = true := by decide +kernel
theorem ck_208_2 : cl_208_2.all (fun q => mchk 208 q.1 q.2) = true := by decide +kernel
theorem ck_208_3 : cl_208_3.all (fun q => mchk 208 q.1 q.2) = true := by decide +kernel
theorem ck_208_4 : cl_208_4.all (fun q => mchk 208 q.1 q.2) = true := by decide +kernel
theorem ck_208_5 : cl_208_5.all (fun q => mchk 208 q.1 q.2) = true := by decide +kernel
theorem cdok_208 (pc : Nat) (I : mI) : cd_208 pc = some I → mchk 208 pc I = true := (fun h => bif_ok h (fun h => bif_ok h (fun h => chunk_ok ck_208_0 h) (fun h => bif_ok h (fun h => chunk_ok ck_208_1 h) (fun h => chunk_ok ck_208_2 h))) (fun h => bif_ok h (fun h => chunk_ok ck_208_3 h) (fun h => bif_ok h (fun h => chunk_ok ck_208_4 h) (fun h => chunk_ok ck_208_5 h))))
theorem ck_209_0 : cl_209_0.all (fun q => mchk 209 q.1 q.2) = true := by decide +kernel
theorem ck_209_1 : cl_209_1.all (fun q => mchk 209 q.1 q.2) = true := by decide +kernel
theorem ck_209_2 : cl_209_2.all (fun q => mchk 209 q.1 q.2) = true := by decide +kernel
theorem ck_209_3 : cl_209_3.all (fun q => mchk 209 q.1 q.2) = true := by decide +kernel
theorem ck_209_4 : cl_209_4.all (fun q => mchk 209 q.1 q.2) = true := by decide +kernel
theorem cdok_209 (pc : Nat) (I : mI) : cd_209 pc = some I → mchk 209 pc I = true := (fun h => bif_ok h (fun h => bif_ok h (fun h => chunk_ok ck_209_0 h) (fun h => chunk_ok ck_209_1 h)) (fun h => bif_ok h (fun h => chunk_ok ck_209_2 h) (fun h => bif_ok h (fun h => chunk_ok ck_209_3 h) (fun h => chunk_ok ck_209_4 h))))
theorem ck_210_0 : cl_210_0.all (fun q => mchk 210 q.1 q.2) = true := by decide +kernel
theorem ck_210_1 : cl_210_1.all (fun q => mchk 210 q.1 q.2) = true := by decide +kernel
theorem ck_210_2 : cl_210_2.all (fun q => mchk 210 q.1 q.2) = true := by decide +kernel
theorem ck_210_3 : cl_210_3.all (fun q => mchk 210 q.1 q.2) = true := by decide +kernel
theorem cdok_210 (pc : Nat) (I : mI) : cd_210 pc = some I → mchk 210 pc I = true := (fun h => bif_ok h (fun h => bif_ok h (fun h => chunk_ok ck_210_0 h) (fun h => chunk_ok ck_210_1 h)) (fun h => bif_ok h (fun h => chunk_ok ck_210_2 h) (fun h => chunk_ok ck_210_3 h)))
theorem ck_211_0 : cl_211_0.all (fun q => mchk 211 q.1 q.2) = true := by decide +kernel
theorem cdok_211 (pc : Nat) (I : mI) : cd_211 pc = some I → mchk 211 pc I = true := (fun h => chunk_ok ck_211_0 h)
theorem ck_212_0 : cl_212_0.all (fun q => mchk 212 q.1 q.2) = true := by decide +kernel
theorem ck_212_1 : cl_212_1.all (fun q => mchk 212 q.1 q.2) = true := by decide +kernel
theorem ck_212_2 : cl_212_2.all (fun q => mchk 212 q.1 q.2) = true := by decide +kernel
theorem ck_212_3 : cl_212_3.all (fun q => mchk 212 q.1 q.2) = true := by decide +kernel
theorem cdok_212 (pc : Nat) (I : mI) : cd_212 pc = some I → mchk 212 pc I = true := (fun h => bif_ok h (fun h => bif_ok h (fun h => chunk_ok ck_212_0 h) (fun h => chunk_ok ck_212_1 h)) (fun h => bif_ok h (fun h => chunk_ok ck_212_2 h) (fun h => chunk_ok ck_212_3 h)))
theorem ck_213_0 : cl_213_0.all (fun q => mchk 213 q.1 q.2) = true := by decide +kernel
theorem ck_213_1 : cl_213_1.all (fun q => mchk 213 q.1 q.2) = true := by decide +kernel
theorem ck_213_2 : cl_213_2.all (fun q => mchk 213 q.1 q.2) = true := by decide +kernel
theorem ck_213_3 : cl_213_3.all (fun q => mchk 213 q.1 q.2) = true := by decide +kernel
theorem cdok_213 (pc : Nat) (I : mI) : cd_213 pc = some I → mchk 213 pc I = true := (fun h => bif_ok h (fun h => bif_ok h (fun h => chunk_ok ck_213_0 h) (fun h => chunk_ok ck_213_1 h)) (fun h => bif_ok h (fun h => chunk_ok ck_213_2 h) (fun h => chunk_ok ck_213_3 h)))
theorem ck_214_0 : cl_214_0.all (fun q => mchk 214 q.1 q.2) = true := by decide +kernel
theorem ck_214_1 : cl_214_1.all (fun q => mchk 214 q.1 q.2) = true := by decide +kernel
theorem ck_214_2 : cl_214_2.all (fun q => mchk 214 q.1 q.2) = true := by decide +kernel
theorem ck_214_3 : cl_214_3.all (fun q => mchk 214 q.1 q.2) = true := by decide +kernel
theorem ck_214_4 : cl_214_4.all (fun q => mchk 214 q.1 q.2) = true := by decide +kernel
theorem ck_214_5 : cl_214_5.all (fun q => mchk 214 q.1 q.2) = true := by decide +kernel
theorem cdok_214 (pc : Nat) (I : mI) : cd_214 pc = some I → mchk 214 pc I = true := (fun h => bif_ok h (fun h => bif_ok h (fun h => chunk_ok ck_214_0 h) (fun h => bif_ok h (fun h => chunk_ok ck_214_1 h) (fun h => chunk_ok ck_214_2 h))) (fun h => bif_ok h (fun h => chunk_ok ck_214_3 h) (fun h => bif_ok h (fun h => chunk_ok ck_214_4 h) (fun h => chunk_ok ck_214_5 h))))
theorem ck_215_0 : cl_215_0.all (fun q => mchk 215 q.1 q.2) = true := by decide +kernel
theorem ck_215_1 : cl_215_1.all (fun q => mchk 215 q.1 q.2) = true := by decide +kernel
theorem ck_215_2 : cl_215_2.all (fun q => mchk 215 q.1 q.2) = true := by decide +kernel
theorem ck_215_3 : cl_215_3.all (fun q => mchk 215 q.1 q.2) = true := by decide +kernel
theorem ck_215_4 : cl_215_4.all (fun q => mchk 215 q.1 q.2) = true := by decide +kernel
theorem cdok_215 (pc : Nat) (I : mI) : cd_215 pc = some I → mchk 215 pc I = true := (fun h => bif_ok h (fun h => bif_ok h (fun h => chunk_ok ck_215_0 h) (fun h => chunk_ok ck_215_1 h)) (fun h => bif_ok h (fun h => chunk_ok ck_215_2 h) (fun h => bif_ok h (fun h => chunk_ok ck_215_3 h) (fun h => chunk_ok ck_215_4 h))))
theorem ck_216_0 : cl_216_0.all (fun q => mchk 216 q.1 q.2) = true := by decide +kernel
theorem ck_216_1 : cl_216_1.all (fun q => mchk 216 q.1 q.2) = true := by decide +kernel
theorem cdok_216 (pc : Nat) (I : mI) : cd_216 pc = some I → mchk 216 pc I = true := (fun h => bif_ok h (fun h => chunk_ok ck_216_0 h) (fun h => chunk_ok ck_216_1 h))
theorem ck_217_0 : cl_217_0.all (fun q => mchk 217 q.1 q.2) = true := by decide +kernel
theorem ck_217_1 : cl_217_1.all (fun q => mchk 217 q.1 q.2) = true := by decide +kernel
theorem ck_217_2 : cl_217_2.all (fun q => mchk 217 q.1 q.2) = true := by decide +kernel
theorem ck_217_3 : cl_217_3.all (fun q => mchk 217 q.1 q.2) = true := by decide +kernel
theorem cdok_217 (pc : Nat) (I : mI) : cd_217 pc = some I → mchk 217 pc I = true := (fun h => bif_ok h (fun h => bif_ok h (fun h => chunk_ok ck_217_0 h) (fun h => chunk_ok ck_217_1 h)) (fun h => bif_ok h (fun h => chunk_ok ck_217_2 h) (fun h => chunk_ok ck_217_3 h)))
theorem ck_218_0 : cl_218_0.all (fun q => mchk 218 q.1 q.2) = true := by decide +kernel
theorem ck_218_1 : cl_218_1.all (fun q => mchk 218 q.1 q.2) = true := by decide +kernel
theorem ck_218_2 : cl_218_2.all (fun q => mchk 218 q.1 q.2) = true := by decide +kernel
theorem ck_218_3 : cl_218_3.all (fun q => mchk 218 q.1 q.2) = true := by decide +kernel
theorem ck_218_4 : cl_218_4.all (fun q => mchk 218 q.1 q.2) = true := by decide +kernel
theorem ck_218_5 : cl_218_5.all (fun q => mchk 218 q.1 q.2) = true := by decide +kernel
theorem cdok_218 (pc : Nat) (I : mI) : cd_218 pc = some I → mchk 218 pc I = true := (fun h => bif_ok h (fun h => bif_ok h (fun h => chunk_ok ck_218_0 h) (fun h => bif_ok h (fun h => chunk_ok ck_218_1 h) (fun h => chunk_ok ck_218_2 h))) (fun h => bif_ok h (fun h => chunk_ok ck_218_3 h) (fun h => bif_ok h (fun h => chunk_ok ck_218_4 h) (fun h => chunk_ok ck_218_5 h))))
theorem ck_219_0 : cl_219_0.all (fun q => mchk 219 q.1 q.2) = true := by decide +kernel
theorem ck_219_1 : cl_219_1.all (fun q => mchk 219 q.1 q.2) = true := by decide +kernel
theorem ck_219_2 : cl_219_2.all (fun q => mchk 219 q.1 q.2) = true := by decide +kernel
theorem ck_219_3 : cl_219_3.all (fun q => mchk 219 q.1 q.2) = true := by decide +kernel
theorem cdok_219 (pc : Nat) (I : mI) : cd_219 pc = some I → mchk 219 pc I = true := (fun h => bif_ok h (fun h => bif_ok h (fun h => chunk_ok ck_219_0 h) (fun h => chunk_ok ck_219_1 h)) (fun h => bif_ok h (fun h => chunk_ok ck_219_2 h) (fun h => chunk_ok ck_219_3 h)))
theorem ck_220_0 : cl_220_0.all (fun q => mchk 220 q.1 q.2) = true := by decide +kernel
theorem cdok_220 (pc : Nat) (I : mI) : cd_220 pc = some I → mchk 220 pc I = true := (fun h => chunk_ok ck_220_0 h)
theorem ck_221_0 : cl_221_0.all (fun q => mchk 221 q.1 q.2) = true := by decide +kernel
theorem ck_221_1 : cl_221_1.all (fun q => mchk 221 q.1 q.2) = true := by decide +kernel
theorem cdok_221 (pc : Nat) (I : mI) : cd_221 pc = some I → mchk 221 pc I = true := (fun h => bif_ok h (fun h => chunk_ok ck_221_0 h) (fun h => chunk_ok ck_221_1 h))
theorem ck_222_0 : cl_222_0.all (fun q => mchk 222 q.1 q.2) = true := by decide +kernel
theorem ck_222_1 : cl_222_1.all (fun q => mchk 222 q.1 q.2) = true := by decide +kernel
theorem ck_222_2 : cl_222_2.all (fun q => mchk 222 q.1 q.2) = true := by decide +kernel
theorem ck_222_3 : cl_222_3.all (fun q => mchk 222 q.1 q.2) = true := by decide +kernel
theorem ck_222_4 : cl_222_4.all (fun q => mchk 222 q.1 q.2) = true := by decide +kernel
theorem cdok_222 (pc : Nat) (I : mI) : cd_222 pc = some I → mchk 222 pc I = true := (fun h => bif_ok h (fun h => bif_ok h (fun h => chunk_ok ck_222_0 h) (fun h => chunk_ok ck_222_1 h)) (fun h => bif_ok h (fun h => chunk_ok ck_222_2 h) (fun h => bif_ok h (fun h => chunk_ok ck_222_3 h) (fun h => chunk_ok ck_222_4 h))))
theorem ck_223_0 : cl_223_0.all (fun q => mchk 223 q.1 q.2) = true := by decide +kernel
theorem cdok_223 (pc : Nat) (I : mI) : cd_223 pc = some I → mchk 223 pc I = true := (fun h => chunk_ok ck_223_0 h)
theorem ck_224_0 : cl_224_0.all (fun q => mchk 224 q.1 q.2) = true := by decide +kernel
theorem ck_224_1 : cl_224_1.all (fun q => mchk 224 q.1 q.2) = true := by decide +kernel
theorem cdok_224 (pc : Nat) (I : mI) : cd_224 pc = some I → mchk 224 pc I = true := (fun h => bif_ok h (fun h => chunk_ok ck_224_0 h) (fun h => chunk_ok ck_224_1 h))
theorem ck_225_0 : cl_225_0.all (fun q => mchk 225 q.1 q.2) = true := by decide +kernel
theorem ck_225_1 : cl_225_1.all (fun q => mchk 225 q.1 q.2) = true := by decide +kernel
theorem ck_225_2 : cl_225_2.all (fun q => mchk 225 q.1 q.2) = true := by decide +kernel
theorem ck_225_3 : cl_225_3.all (fun q => mchk 225 q.1 q.2) = true := by decide +kernel
theorem cdok_225 (pc : Nat) (I : mI) : cd_225 pc = some I → mchk 225 pc I = true := (fun h => bif_ok h (fun h => bif_ok h (fun h => chunk_ok ck_225_0 h) (fun h => chunk_ok ck_225_1 h)) (fun h => bif_ok h (fun h => chunk_ok ck_225_2 h) (fun h => chunk_ok ck_225_3 h)))
theorem ck_226_0 : cl_226_0.all (fun q => mchk 226 q.1 q.2) = true := by decide +kernel
theorem ck_226_1 : cl_226_1.all (fun q => mchk 226 q.1 q.2) = true := by decide +kernel
theorem ck_226_2 : cl_226_2.all (fun q => mchk 226 q.1 q.2) = true := by decide +kernel
theorem ck_226_3 : cl_226_3.all (fun q => mchk 226 q.1 q.2) = true := by decide +kernel
theorem cdok_226 (pc : Nat) (I : mI) : cd_226 pc = some I → mchk 226 pc I = true := (fun h => bif_ok h (fun h => bif_ok h (fun h => chunk_ok ck_226_0 h) (fun h => chunk_ok ck_226_1 h)) (fun h => bif_ok h (fun h => chunk_ok ck_226_2 h) (fun h => chunk_ok ck_226_3 h)))
theorem ck_227_0 : cl_227_0.all (fun q => mchk 227 q.1 q.2) = true := by decide +kernel
theorem cdok_227 (pc : Nat) (I : mI) : cd_227 pc = some I → mchk 227 pc I = true := (fun h => chunk_ok ck_227_0 h)
theorem ck_228_0 : cl_228_0.all (fun q => mchk 228 q.1 q.2) = true := by decide +kernel
theorem ck_228_1 : cl_228_1.all (fun q => mchk 228 q.1 q.2) = true := by decide +kernel
theorem ck_228_2 : cl_228_2.all (fun q => mchk 228 q.1 q.2) = true := by decide +kernel
theorem ck_228_3 : cl_228_3.all (fun q => mchk 228 q.1 q.2) = true := by decide +kernel
theorem cdok_228 (pc : Nat) (I : mI) : cd_228 pc = some I → mchk 228 pc I = true := (fun h => bif_ok h (fun h => bif_ok h (fun h => chunk_ok ck_228_0 h) (fun h => chunk_ok ck_228_1 h)) (fun h => bif_ok h (fun h => chunk_ok ck_228_2 h) (fun h => chunk_ok ck_228_3 h)))
theorem ck_229_0 : cl_229_0.all (fun q => mchk 229 q.1 q.2) = true := by decide +kernel
theorem ck_229_1 : cl_229_1.all (fun q => mchk 229 q.1 q.2) = true := by decide +kernel
theorem ck_229_2 : cl_229_2.all (fun q => mchk 229 q.1 q.2) = true := by decide +kernel
theorem ck_229_3 : cl_229_3.all (fun q => mchk 229 q.1 q.2) = true := by decide +kernel
theorem cdok_229 (pc : Nat) (I : mI) : cd_229 pc = some I → mchk 229 pc I = true := (fun h => bif_ok h (fun h => bif_ok h (fun h => chunk_ok ck_229_0 h) (fun h => chunk_ok ck_229_1 h)) (fun h => bif_ok h (fun h => chunk_ok ck_229_2 h) (fun h => chunk_ok ck_229_3 h)))
theorem ck_230_0 : cl_230_0.all (fun q => mchk 230 q.1 q.2) = true := by decide +kernel
theorem ck_230_1 : cl_230_1.all (fun q => mchk 230 q.1 q.2) = true := by decide +kernel
theorem cdok_230 (pc : Nat) (I : mI) : cd_230 pc = some I → mchk 230 pc I = true := (fun h => bif_ok h (fun h => chunk_ok ck_230_0 h) (fun h => chunk_ok ck_230_1 h))
theorem ck_231_0 : cl_231_0.all (fun q => mchk 231 q.1 q.2) = true := by decide +kernel
theorem ck_231_1 : cl_231_1.all (fun q => mchk 231 q.1 q.2) = true := by decide +kernel
theorem ck_231_2 : cl_231_2.all (fun q => mchk 231 q.1 q.2) = true := by decide +kernel
theorem ck_231_3 : cl_231_3.all (fun q => mchk 231 q.1 q.2) = true := by decide +kernel
theorem ck_231_4 : cl_231_4.all (fun q => mchk 231 q.1 q.2) = true := by decide +kernel
theorem ck_231_5 : cl_231_5.all (fun q => mchk 231 q.1 q.2) = true := by decide +kernel
theorem ck_231_6 : cl_231_6.all (fun q => mchk 231 q.1 q.2) = true := by decide +kernel
theorem ck_231_7 : cl_231_7.all (fun q => mchk 231 q.1 q.2) = true := by decide +kernel
theorem ck_231_8 : cl_231_8.all (fun q => mchk 231 q.1 q.2) = true := by decide +kernel
theorem ck_231_9 : cl_231_9.all (fun q => mchk 231 q.1 q.2) = true := by decide +kernel
theorem ck_231_10 : cl_231_10.all (fun q => mchk 231 q.1 q.2) = true := by decide +kernel
theorem ck_231_11 : cl_231_11.all (fun q => mchk 231 q.1 q.2) = true := by decide +kernel
theorem ck_231_12 : cl_231_12.all (fun q => mchk 231 q.1 q.2) = true := by decide +kernel
theorem cdok_231 (pc : Nat) (I : mI) : cd_231 pc = some I → mchk 231 pc I = true := (fun h => bif_ok h (fun h => bif_ok h (fun h => bif_ok h (fun h => chunk_ok ck_231_0 h) (fun h => bif_ok h (fun h => chunk_ok ck_231_1 h) (fun h => chunk_ok ck_231_2 h))) (fun h => bif_ok h (fun h => chunk_ok ck_231_3 h) (fun h => bif_ok h (fun h => chunk_ok ck_231_4 h) (fun h => chunk_ok ck_231_5 h)))) (fun h => bif_ok h (fun h => bif_ok h (fun h => chunk_ok ck_231_6 h) (fun h => bif_ok h (fun h => chunk_ok ck_231_7 h) (fun h => chunk_ok ck_231_8 h))) (fun h => bif_ok h (fun h => bif_ok h (fun h => chunk_ok ck_231_9 h) (fun h => chunk_ok ck_231_10 h)) (fun h => bif_ok h (fun h => chunk_ok ck_231_11 h) (fun h => chunk_ok ck_231_12 h)))))
theorem ck_232_0 : cl_232_0.all (fun q => mchk 232 q.1 q.2) = true := by decide +kernel
theorem ck_232_1 : cl_232_1.all (fun q => mchk 232 q.1 q.2) = true := by decide +kernel
theorem ck_232_2 : cl_232_2.all (fun q => mchk 232 q.1 q.2) = true := by decide +kernel
theorem ck_232_3 : cl_232_3.all (fun q => mchk 232 q.1 q.2) = true := by decide +kernel
theorem ck_232_4 : cl_232_4.all (fun q => mchk 232 q.1 q.2) = true := by decide +kernel
theorem cdok_232 (pc : Nat) (I : mI) : cd_232 pc = some I → mchk 232 pc I = true := (fun h => bif_ok h (fun h => bif_ok h (fun h => chunk_ok ck_232_0 h) (fun h => chunk_ok ck_232_1 h)) (fun h => bif_ok h (fun h => chunk_ok ck_232_2 h) (fun h => bif_ok h (fun h => chunk_ok ck_232_3 h) (fun h => chunk_ok ck_232_4 h))))
theorem ck_233_0 : cl_233_0.all (fun q => mchk 233 q.1 q.2) = true := by decide +kernel
theorem ck_233_1 : cl_233_1.all (fun q => mchk 233 q.1 q.2) = true := by decide +kernel
theorem ck_233_2 : cl_233_2.all (fun q => mchk 233 q.1 q.2) = true := by decide +kernel
theorem ck_233_3 : cl_233_3.all (fun q => mchk 233 q.1 q.2) = true := by decide +kernel
theorem ck_233_4 : cl_233_4.all (fun q => mchk 233 q.1 q.2) = true := by decide +kernel
theorem cdok_233 (pc : Nat) (I : mI) : cd_233 pc = some I → mchk 233 pc I = true := (fun h => bif_ok h (fun h => bif_ok h (fun h => chunk_ok ck_233_0 h) (fun h => chunk_ok ck_233_1 h)) (fun h => bif_ok h (fun h => chunk_ok ck_233_2 h) (fun h => bif_ok h (fun h => chunk_ok ck_233_3 h) (fun h => chunk_ok ck_233_4 h))))
theorem ck_234_0 : cl_234_0.all (fun q => mchk 234 q.1 q.2) = true := by decide +kernel
theorem ck_234_1 : cl_234_1.all (fun q => mchk 234 q.1 q.2) = true := by decide +kernel
theorem ck_234_2 : cl_234_2.all (fun q => mchk 234 q.1 q.2) = true := by decide +kernel
theorem ck_234_3 : cl_234_3.all (fun q => mchk 234 q.1 q.2) = true := by decide +kernel
theorem ck_234_4 : cl_234_4.all (fun q => mchk 234 q.1 q.2) = true := by decide +kernel
theorem ck_234_5 : cl_234_5.all (fun q => mchk 234 q.1 q.2) = true := by decide +kernel
theorem ck_234_6 : cl_234_6.all (fun q => mchk 234 q.1 q.2) = true := by decide +kernel
theorem ck_234_7 : cl_234_7.all (fun q => mchk 234 q.1 q.2) = true := by decide +kernel
theorem cdok_234 (pc : Nat) (I : mI) : cd_234 pc = some I → mchk 234 pc I = true := (fun h => bif_ok h (fun h => bif_ok h (fun h => bif_ok h (fun h => chunk_ok ck_234_0 h) (fun h => chunk_ok ck_234_1 h)) (fun h => bif_ok h (fun h => chunk_ok ck_234_2 h) (fun h => chunk_ok ck_234_3 h))) (fun h => bif_ok h (fun h => bif_ok h (fun h => chunk_ok ck_234_4 h) (fun h => chunk_ok ck_234_5 h)) (fun h => bif_ok h (fun h => chunk_ok ck_234_6 h) (fun h => chunk_ok ck_234_7 h))))
theorem ck_235_0 : cl_235_0.all (fun q => mchk 235 q.1 q.2) = true := by decide +kernel
theorem cdok_235 (pc : Nat) (I : mI) : cd_235 pc = some I → mchk 235 pc I = true := (fun h => chunk_ok ck_235_0 h)
theorem ck_236_0 : cl_236_0.all (fun q => mchk 236 q.1 q.2) = true := by decide +kernel
theorem ck_236_1 : cl_236_1.all (fun q => mchk 236 q.1 q.2) = true := by decide +kernel
theorem ck_236_2 : cl_236_2.all (fun q => mchk 236 q.1 q.2) = true := by decide +kernel
theorem ck_236_3 : cl_236_3.all (fun q => mchk 236 q.1 q.2) = true := by decide +kernel
theorem ck_236_4 : cl_236_4.all (fun q => mchk 236 q.1 q.2) = true := by decide +kernel
theorem cdok_236 (pc : Nat) (I : mI) : cd_236 pc = some I → mchk 236 pc I = true := (fun h => bif_ok h (fun h => bif_ok h (fun h => chunk_ok ck_236_0 h) (fun h => chunk_ok ck_236_1 h)) (fun h => bif_ok h (fun h => chunk_ok ck_236_2 h) (fun h => bif_ok h (fun h => chunk_ok ck_236_3 h) (fun h => chunk_ok ck_236_4 h))))
theorem ck_237_0 : cl_237_0.all (fun q => mchk 237 q.1 q.2) = true := by decide +kernel
theorem ck_237_1 : cl_237_1.all (fun q => mchk 237 q.1 q.2) = true := by decide +kernel
theorem ck_237_2 : cl_237_2.all (fun q => mchk 237 q.1 q.2) = true := by decide +kernel
theorem cdok_237 (pc : Nat) (I : mI) : cd_237 pc = some I → mchk 237 pc I = true := (fun h => bif_ok h (fun h => chunk_ok ck_237_0 h) (fun h => bif_ok h (fun h => chunk_ok ck_237_1 h) (fun h => chunk_ok ck_237_2 h)))
theorem ck_238_0 : cl_238_0.all (fun q => mchk 238 q.1 q.2) = true := by decide +kernel
theorem ck_238_1 : cl_238_1.all (fun q => mchk 238 q.1 q.2) = true := by decide +kernel
theorem ck_238_2 : cl_238_2.all (fun q => mchk 238 q.1 q.2) = true := by decide +kernel
theorem ck_238_3 : cl_238_3.all (fun q => mchk 238 q.1 q.2) = true := by decide +kernel
theorem ck_238_4 : cl_238_4.all (fun q => mchk 238 q.1 q.2) = true := by decide +kernel
theorem ck_238_5 : cl_238_5.all (fun q => mchk 238 q.1 q.2) = true := by decide +kernel
theorem cdok_238 (pc : Nat) (I : mI) : cd_238 pc = some I → mchk 238 pc I = true := (fun h => bif_ok h (fun h => bif_ok h (fun h => chunk_ok ck_238_0 h) (fun h => bif_ok h (fun h => chunk_ok ck_238_1 h) (fun h => chunk_ok ck_238_2 h))) (fun h => bif_ok h (fun h => chunk_ok ck_238_3 h) (fun h => bif_ok h (fun h => chunk_ok ck_238_4 h) (fun h => chunk_ok ck_238_5 h))))
theorem ck_239_0 : cl_239_0.all (fun q => mchk 239 q.1 q.2) = true := by decide +kernel
theorem ck_239_1 : cl_239_1.all (fun q => mchk 239 q.1 q.2) = true := by decide +kernel
theorem ck_239_2 : cl_239_2.all (fun q => mchk 239 q.1 q.2) = true := by decide +kernel
theorem ck_239_3 : cl_239_3.all (fun q => mchk 239 q.1 q.2) = true := by decide +kernel
theorem cdok_239 (pc : Nat) (I : mI) : cd_239 pc = some I → mchk 239 pc I = true := (fun h => bif_ok h (fun h => bif_ok h (fun h => chunk_ok ck_239_0 h) (fun h => chunk_ok ck_239_1 h)) (fun h => bif_ok h (fun h => chunk_ok ck_239_2 h) (fun h => chunk_ok ck_239_3 h)))
theorem ck_240_0 : cl_240_0.all (fun q => mchk 240 q.1 q.2) = true := by decide +kernel
theorem ck_240_1 : cl_240_1.all (fun q => mchk 240 q.1 q.2) = true := by decide +kernel
theorem ck_240_2 : cl_240_2.all (fun q => mchk 240 q.1 q.2) = true := by decide +kernel
theorem cdok_240 (pc : Nat) (I : mI) : cd_240 pc = some I → mchk 240 pc I = true := (fun h => bif_ok h (fun h => chunk_ok ck_240_0 h) (fun h => bif_ok h (fun h => chunk_ok ck_240_1 h) (fun h => chunk_ok ck_240_2 h)))
theorem ck_241_0 : cl_241_0.all (fun q => mchk 241 q.1 q.2) = true := by decide +kernel
theorem cdok_241 (pc : Nat) (I : mI) : cd_241 pc = some I → mchk 241 pc I = true := (fun h => chunk_ok ck_241_0 h)
theorem ck_242_0 : cl_242_0.all (fun q => mchk 242 q.1 q.2) = true := by decide +kernel
theorem cdok_242 (pc : Nat) (I : mI) : cd_242 pc = some I → mchk 242 pc I = true := (fun h => chunk_ok ck_242_0 h)
theorem ck_243_0 : cl_243_0.all (fun q => mchk 243 q.1 q.2) = true := by decide +kernel
theorem ck_243_1 : cl_243_1.all (fun q => mchk 243 q.1 q.2) = true := by decide +kernel
theorem ck_243_2 : cl_243_2.all (fun q => mchk 243 q.1 q.2) = true := by decide +kernel
theorem ck_243_3 : cl_243_3.all (fun q => mchk 243 q.1 q.2) = true := by decide +kernel
theorem ck_243_4 : cl_243_4.all (fun q => mchk 243 q.1 q.2) = true := by decide +kernel
theorem cdok_243 (pc : Nat) (I : mI) : cd_243 pc = some I → mchk 243 pc I = true := (fun h => bif_ok h (fun h => bif_ok h (fun h => chunk_ok ck_243_0 h) (fun h => chunk_ok ck_243_1 h)) (fun h => bif_ok h (fun h => chunk_ok ck_243_2 h) (fun h => bif_ok h (fun h => chunk_ok ck_243_3 h) (fun h => chunk_ok ck_243_4 h))))
theorem ck_244_0 : cl_244_0.all (fun q => mchk 244 q.1 q.2) = true := by decide +kernel
theorem ck_244_1 : cl_244_1.all (fun q => mchk 244 q.1 q.2) = true := by decide +kernel
theorem ck_244_2 : cl_244_2.all (fun q => mchk 244 q.1 q.2) = true := by decide +kernel
theorem ck_244_3 : cl_244_3.all (fun q => mchk 244 q.1 q.2) = true := by decide +kernel
theorem cdok_244 (pc : Nat) (I : mI) : cd_244 pc = some I → mchk 244 pc I = true := (fun h => bif_ok h (fun h => bif_ok h (fun h => chunk_ok ck_244_0 h) (fun h => chunk_ok ck_244_1 h)) (fun h => bif_ok h (fun h => chunk_ok ck_244_2 h) (fun h => chunk_ok ck_244_3 h)))
theorem ck_245_0 : cl_245_0.all (fun q => mchk 245 q.1 q.2) = true := by decide +kernel
theorem ck_245_1 : cl_245_1.all (fun q => mchk 245 q.1 q.2) = true := by decide +kernel
theorem ck_245_2 : cl_245_2.all (fun q => mchk 245 q.1 q.2) = true := by decide +kernel
theorem ck_245_3 : cl_245_3.all (fun q => mchk 245 q.1 q.2) = true := by decide +kernel
theorem ck_245_4 : cl_245_4.all (fun q => mchk 245 q.1 q.2) = true := by decide +kernel
theorem ck_245_5 : cl_245_5.all (fun q => mchk 245 q.1 q.2) = true := by decide +kernel
theorem ck_245_6 : cl_245_6.all (fun q => mchk 245 q.1 q.2) = true := by decide +kernel
theorem ck_245_7 : cl_245_7.all (fun q => mchk 245 q.1 q.2) = true := by decide +kernel
theorem cdok_245 (pc : Nat) (I : mI) : cd_245 pc = some I → mchk 245 pc I = true := (fun h => bif_ok h (fun h => bif_ok h (fun h => bif_ok h (fun h => chunk_ok ck_245_0 h) (fun h => chunk_ok ck_245_1 h)) (fun h => bif_ok h (fun h => chunk_ok ck_245_2 h) (fun h => chunk_ok ck_245_3 h))) (fun h => bif_ok h (fun h => bif_ok h (fun h => chunk_ok ck_245_4 h) (fun h => chunk_ok ck_245_5 h)) (fun h => bif_ok h (fun h => chunk_ok ck_245_6 h) (fun h => chunk_ok ck_245_7 h))))
theorem ck_246_0 : cl_246_0.all (fun q => mchk 246 q.1 q.2) = true := by decide +kernel
theorem ck_246_1 : cl_246_1.all (fun q => mchk 246 q.1 q.2) = true := by decide +kernel
theorem ck_246_2 : cl_246_2.all (fun q => mchk 246 q.1 q.2) = true := by decide +kernel
theorem ck_246_3 : cl_246_3.all (fun q => mchk 246 q.1 q.2) = true := by decide +kernel
theorem ck_246_4 : cl_246_4.all (fun q => mchk 246 q.1 q.2) = true := by decide +kernel
theorem ck_246_5 : cl_246_5.all (fun q => mchk 246 q.1 q.2) = true := by decide +kernel
theorem ck_246_6 : cl_246_6.all (fun q => mchk 246 q.1 q.2) = true := by decide +kernel
theorem ck_246_7 : cl_246_7.all (fun q => mchk 246 q.1 q.2) = true := by decide +kernel
theorem cdok_246 (pc : Nat) (I : mI) : cd_246 pc = some I → mchk 246 pc I = true := (fun h => bif_ok h (fun h => bif_ok h (fun h => bif_ok h (fun h => chunk_ok ck_246_0 h) (fun h => chunk_ok ck_246_1 h)) (fun h => bif_ok h (fun h => chunk_ok ck_246_2 h) (fun h => chunk_ok ck_246_3 h))) (fun h => bif_ok h (fun h => bif_ok h (fun h => chunk_ok ck_246_4 h) (fun h => chunk_ok ck_246_5 h)) (fun h => bif_ok h (fun h => chunk_ok ck_246_6 h) (fun h => chunk_ok ck_246_7 h))))
theorem ck_247_0 : cl_247_0.all (fun q => mchk 247 q.1 q.2) = true := by decide +kernel
theorem ck_247_1 : cl_247_1.all (fun q => mchk 247 q.1 q.2) = true := by decide +kernel
theorem cdok_247 (pc : Nat) (I : mI) : cd_247 pc = some I → mchk 247 pc I = true := (fun h => bif_ok h (fun h => chunk_ok ck_247_0 h) (fun h => chunk_ok ck_247_1 h))
theorem ck_248_0 : cl_248_0.all (fun q => mchk 248 q.1 q.2) = true := by decide +kernel
theorem ck_248_1 : cl_248_1.all (fun q => mchk 248 q.1 q.2) = true := by decide +kernel
theorem ck_248_2 : cl_248_2.all (fun q => mchk 248 q.1 q.2) = true := by decide +kernel
theorem ck_248_3 : cl_248_3.all (fun q => mchk 248 q.1 q.2) = true := by decide +kernel
theorem cdok_248 (pc : Nat) (I : mI) : cd_248 pc = some I → mchk 248 pc I = true := (fun h => bif_ok h (fun h => bif_ok h (fun h => chunk_ok ck_248_0 h) (fun h => chunk_ok ck_248_1 h)) (fun h => bif_ok h (fun h => chunk_ok ck_248_2 h) (fun h => chunk_ok ck_248_3 h)))
theorem ck_249_0 : cl_249_0.all (fun q => mchk 249 q.1 q.2) = true := by decide +kernel
theorem ck_249_1 : cl_249_1.all (fun q => mchk 249 q.1 q.2) = true := by decide +kernel
theorem ck_249_2 : cl_249_2.all (fun q => mchk 249 q.1 q.2) = true := by decide +kernel
theorem ck_249_3 : cl_249_3.all (fun q => mchk 249 q.1 q.2) = true := by decide +kernel
theorem ck_249_4 : cl_249_4.all (fun q => mchk 249 q.1 q.2) = true := by decide +kernel
theorem cdok_249 (pc : Nat) (I : mI) : cd_249 pc = some I → mchk 249 pc I = true := (fun h => bif_ok h (fun h => bif_ok h (fun h => chunk_ok ck_249_0 h) (fun h => chunk_ok ck_249_1 h)) (fun h => bif_ok h (fun h => chunk_ok ck_249_2 h) (fun h => bif_ok h (fun h => chunk_ok ck_249_3 h) (fun h => chunk_ok ck_249_4 h))))
theorem ck_250_0 : cl_250_0.all (fun q => mchk 250 q.1 q.2) = true := by decide +kernel
theorem ck_250_1 : cl_250_1.all (fun q => mchk 250 q.1 q.2) = true := by decide +kernel
theorem ck_250_2 : cl_250_2.all (fun q => mchk 250 q.1 q.2) = true := by decide +kernel
theorem cdok_250 (pc : Nat) (I : mI) : cd_250 pc = some I → mchk 250 pc I = true := (fun h => bif_ok h (fun h => chunk_ok ck_250_0 h) (fun h => bif_ok h (fun h => chunk_ok ck_250_1 h) (fun h => chunk_ok ck_250_2 h)))
theorem ck_251_0 : cl_251_0.all (fun q => mchk 251 q.1 q.2) = true := by decide +kernel
theorem ck_251_1 : cl_251_1.all (fun q => mchk 251 q.1 q.2) = true := by decide +kernel
theorem ck_251_2 : cl_251_2.all (fun q => mchk 251 q.1 q.2) = true := by decide +kernel
theorem cdok_251 (pc : Nat) (I : mI) : cd_251 pc = some I → mchk 251 pc I = true := (fun h => bif_ok h (fun h => chunk_ok ck_251_0 h) (fun h => bif_ok h (fun h => chunk_ok ck_251_1 h) (fun h => chunk_ok ck_251_2 h)))
theorem ck_252_0 : cl_252_0.all (fun q => mchk 252 q.1 q.2) = true := by decide +kernel
theorem ck_252_1 : cl_252_1.all (fun q => mchk 252 q.1 q.2) = true := by decide +kernel
theorem cdok_252 (pc : Nat) (I : mI) : cd_252 pc = some I → mchk 252 pc I = true := (fun h => bif_ok h (fun h => chunk_ok ck_252_0 h) (fun h => chunk_ok ck_252_1 h))
theorem ck_253_0 : cl_253_0.all (fun q => mchk 253 q.1 q.2) = true := by decide +kernel
theorem ck_253_1 : cl_253_1.all (fun q => mchk 253 q.1 q.2) = true := by decide +kernel
theorem cdok_253 (pc : Nat) (I : mI) : cd_253 pc = some I → mchk 253 pc I = true := (fun h => bif_ok h (fun h => chunk_ok ck_253_0 h) (fun h => chunk_ok ck_253_1 h))
theorem ck_254_0 : cl_254_0.all (fun q => mchk 254 q.1 q.2) = true := by decide +kernel
theorem ck_254_1 : cl_254_1.all (fun q => mchk 254 q.1 q.2) = true := by decide +kernel
theorem cdok_254 (pc : Nat) (I : mI) : cd_254 pc = some I → mchk 254 pc I = true := (fun h => bif_ok h (fun h => chunk_ok ck_254_0 h) (fun h => chunk_ok ck_254_1 h))
theorem ck_255_0 : cl_255_0.all (fun q => mchk 255 q.1 q.2) = true := by decide +kernel
theorem ck_255_1 : cl_255_1.all (fun q => mchk 255 q.1 q.2) = true := by decide +kernel
theorem cdok_255 (pc : Nat) (I : mI) : cd_255 pc = some I → mchk 255 pc I = true := (fun h => bif_ok h (fun h => chunk_ok ck_255_0 h) (fun h => chunk_ok ck_255_1 h))
theorem ck_256_0 : cl_256_0.all (fun q => mchk 256 q.1 q.2) = true := by decide +kernel
theorem ck_256_1 : cl_256_1.all (fun q => mchk 256 q.1 q.2) = true := by decide +kernel
theorem cdok_256 (pc : Nat) (I : mI) : cd_256 pc = some I → mchk 256 pc I = true := (fun h => bif_ok h (fun h => chunk_ok ck_256_0 h) (fun h => chunk_ok ck_256_1 h))
theorem ck_257_0 : cl_257_0.all (fun q => mchk 257 q.1 q.2) = true := by decide +kernel
theorem ck_257_1 : cl_257_1.all (fun q => mchk 257 q.1 q.2) = true := by decide +kernel
theorem cdok_257 (pc : Nat) (I : mI) : cd_257 pc = some I → mchk 257 pc I = true := (fun h => bif_ok h (fun h => chunk_ok ck_257_0 h) (fun h => chunk_ok ck_257_1 h))
theorem ck_258_0 : cl_258_0.all (fun q => mchk 258 q.1 q.2) = true := by decide +kernel
theorem ck_258_1 : cl_258_1.all (fun q => mchk 258 q.1 q.2) = true := by decide +kernel
theorem ck_258_2 : cl_258_2.all (fun q => mchk 258 q.1 q.2) = true := by decide +kernel
theorem cdok_258 (pc : Nat) (I : mI) : cd_258 pc = some I → mchk 258 pc I = true := (fun h => bif_ok h (fun h => chunk_ok ck_258_0 h) (fun h => bif_ok h (fun h => chunk_ok ck_258_1 h) (fun h => chunk_ok ck_258_2 h)))
theorem ck_259_0 : cl_259_0.all (fun q => mchk 259 q.1 q.2) = true := by decide +kernel
theorem ck_259_1 : cl_259_1.all (fun q => mchk 259 q.1 q.2) = true := by decide +kernel
theorem cdok_259 (pc : Nat) (I : mI) : cd_259 pc = some I → mchk 259 pc I = true := (fun h => bif_ok h (fun h => chunk_ok ck_259_0 h) (fun h => chunk_ok ck_259_1 h))
theorem ck_260_0 : cl_260_0.all (fun q => mchk 260 q.1 q.2) = true := by decide +kernel
theorem ck_260_1 : cl_260_1.all (fun q => mchk 260 q.1 q.2) = true := by decide +kernel
theorem cdok_260 (pc : Nat) (I : mI) : cd_260 pc = some I → mchk 260 pc I = true := (fun h => bif_ok h (fun h => chunk_ok ck_260_0 h) (fun h => chunk_ok ck_260_1 h))
theorem ck_261_0 : cl_261_0.all (fun q => mchk 261 q.1 q.2) = true := by decide +kernel
theorem ck_261_1 : cl_261_1.all (fun q => mchk 261 q.1 q.2) = true := by decide +kernel
theorem cdok_261 (pc : Nat) (I : mI) : cd_261 pc = some I → mchk 261 pc I = true := (fun h => bif_ok h (fun h => chunk_ok ck_261_0 h) (fun h => chunk_ok ck_261_1 h))
theorem ck_262_0 : cl_262_0.all (fun q => mchk 262 q.1 q.2) = true := by decide +kernel
theorem ck_262_1 : cl_262_1.all (fun q => mchk 262 q.1 q.2) = true := by decide +kernel
theorem cdok_262 (pc : Nat) (I : mI) : cd_262 pc = some I → mchk 262 pc I = true := (fun h => bif_ok h (fun h => chunk_ok ck_262_0 h) (fun h => chunk_ok ck_262_1 h))
theorem ck_263_0 : cl_263_0.all (fun q => mchk 263 q.1 q.2) = true := by decide +kernel
theorem ck_263_1 : cl_263_1.all (fun q => mchk 263 q.1 q.2) = true := by decide +kernel
theorem cdok_263 (pc : Nat) (I : mI) : cd_263 pc = some I → mchk 263 pc I = true := (fun h => bif_ok h (fun h => chunk_ok ck_263_0 h) (fun h => chunk_ok ck_263_1 h))
theorem ck_264_0 : cl_264_0.all (fun q => mchk 264 q.1 q.2) = true := by decide +kernel
theorem ck_264_1 : cl_264_1.all (fun q => mchk 264 q.1 q.2) = true := by decide +kernel
theorem ck_264_2 : cl_264_2.all (fun q => mchk 264 q.1 q.2) = true := by decide +kernel
theorem cdok_264 (pc : Nat) (I : mI) : cd_264 pc = some I → mchk 264 pc I = true := (fun h => bif_ok h (fun h => chunk_ok ck_264_0 h) (fun h => bif_ok h (fun h => chunk_ok ck_264_1 h) (fun h => chunk_ok ck_264_2 h)))
theorem ck_265_0 : cl_265_0.all (fun q => mchk 265 q.1 q.2) = true := by decide +kernel
theorem ck_265_1 : cl_265_1.all (fun q => mchk 265 q.1 q.2) = true := by decide +kernel
theorem cdok_265 (pc : Nat) (I : mI) : cd_265 pc = some I → mchk 265 pc I = true := (fun h => bif_ok h (fun h => chunk_ok ck_265_0 h) (fun h => chunk_ok ck_265_1 h))
theorem ck_266_0 : cl_266_0.all (fun q => mchk 266 q.1 q.2) = true := by decide +kernel
theorem ck_266_1 : cl_266_1.all (fun q => mchk 266 q.1 q.2) = true := by decide +kernel
theorem cdok_266 (pc : Nat) (I : mI) : cd_266 pc = some I → mchk 266 pc I = true := (fun h => bif_ok h (fun h => chunk_ok ck_266_0 h) (fun h => chunk_ok ck_266_1 h))
theorem ck_267_0 : cl_267_0.all (fun q => mchk 267 q.1 q.2) = true := by decide +kernel
theorem ck_267_1 : cl_267_1.all (fun q => mchk 267 q.1 q.2) = true := by decide +kernel
theorem ck_267_2 : cl_267_2.all (fun q => mchk 267 q.1 q.2) = true := by decide +kernel
theorem cdok_267 (pc : Nat) (I : mI) : cd_267 pc = some I → mchk 267 pc I = true := (fun h => bif_ok h (fun h => chunk_ok ck_267_0 h) (fun h => bif_ok h (fun h => chunk_ok ck_267_1 h) (fun h => chunk_ok ck_267_2 h)))
theorem ck_268_0 : cl_268_0.all (fun q => mchk 268 q.1 q.2) = true := by decide +kernel
theorem ck_268_1 : cl_268_1.all (fun q => mchk 268 q.1 q.2) = true := by decide +kernel
theorem cdok_268 (pc : Nat) (I : mI) : cd_268 pc = some I → mchk 268 pc I = true := (fun h => bif_ok h (fun h => chunk_ok ck_268_0 h) (fun h => chunk_ok ck_268_1 h))
theorem ck_269_0 : cl_269_0.all (fun q => mchk 269 q.1 q.2) = true := by decide +kernel
theorem ck_269_1 : cl_269_1.all (fun q => mchk 269 q.1 q.2) = true := by decide +kernel
theorem cdok_269 (pc : Nat) (I : mI) : cd_269 pc = some I → mchk 269 pc I = true := (fun h => bif_ok h (fun h => chunk_ok ck_269_0 h) (fun h => chunk_ok ck_269_1 h))
theorem ck_270_0 : cl_270_0.all (fun q => mchk 270 q.1 q.2) = true := by decide +kernel
theorem ck_270_1 : cl_270_1.all (fun q => mchk 270 q.1 q.2) = true := by decide +kernel
theorem ck_270_2 : cl_270_2.all (fun q => mchk 270 q.1 q.2) = true := by decide +kernel
theorem cdok_270 (pc : Nat) (I : mI) : cd_270 pc = some I → mchk 270 pc I = true := (fun h => bif_ok h (fun h => chunk_ok ck_270_0 h) (fun h => bif_ok h (fun h => chunk_ok ck_270_1 h) (fun h => chunk_ok ck_270_2 h)))
theorem ck_271_0 : cl_271_0.all (fun q => mchk 271 q.1 q.2) = true := by decide +kernel
theorem ck_271_1 : cl_271_1.all (fun q => mchk 271 q.1 q.2) = true := by decide +kernel
theorem cdok_271 (pc : Nat) (I : mI) : cd_271 pc = some I → mchk 271 pc I = true := (fun h => bif_ok h (fun h => chunk_ok ck_271_0 h) (fun h => chunk_ok ck_271_1 h))
theorem ck_272_0 : cl_272_0.all (fun q => mchk 272 q.1 q.2) = true := by decide +kernel
theorem ck_272_1 : cl_272_1.all (fun q => mchk 272 q.1 q.2) = true := by decide +kernel
theorem cdok_272 (pc : Nat) (I : mI) : cd_272 pc = some I → mchk 272 pc I = true := (fun h => bif_ok h (fun h => chunk_ok ck_272_0 h) (fun h => chunk_ok ck_272_1 h))
theorem ck_273_0 : cl_273_0.all (fun q => mchk 273 q.1 q.2) = true := by decide +kernel
theorem ck_273_1 : cl_273_1.all (fun q => mchk 273 q.1 q.2) = true := by decide +kernel
theorem cdok_273 (pc : Nat) (I : mI) : cd_273 pc = some I → mchk 273 pc I = true := (fun h => bif_ok h (fun h => chunk_ok ck_273_0 h) (fun h => chunk_ok ck_273_1 h))
theorem ck_274_0 : cl_274_0.all (fun q => mchk 274 q.1 q.2) = true := by decide +kernel
theorem ck_274_1 : cl_274_1.all (fun q => mchk 274 q.1 q.2) = true := by decide +kernel
theorem cdok_274 (pc : Nat) (I : mI) : cd_274 pc = some I → mchk 274 pc I = true := (fun h => bif_ok h (fun h => chunk_ok ck_274_0 h) (fun h => chunk_ok ck_274_1 h))
theorem ck_275_0 : cl_275_0.all (fun q => mchk 275 q.1 q.2) = true := by decide +kernel
theorem ck_275_1 : cl_275_1.all (fun q => mchk 275 q.1 q.2) = true := by decide +kernel
theorem ck_275_2 : cl_275_2.all (fun q => mchk 275 q.1 q.2) = true := by decide +kernel
theorem cdok_275 (pc : Nat) (I : mI) : cd_275 pc = some I → mchk 275 pc I = true := (fun h => bif_ok h (fun h => chunk_ok ck_275_0 h) (fun h => bif_ok h (fun h => chunk_ok ck_275_1 h) (fun h => chunk_ok ck_275_2 h)))
theorem ck_276_0 : cl_276_0.all (fun q => mchk 276 q.1 q.2) = true := by decide +kernel
theorem ck_276_1 : cl_276_1.all (fun q => mchk 276 q.1 q.2) = true := by decide +kernel
theorem cdok_276 (pc : Nat) (I : mI) : cd_276 pc = some I → mchk 276 pc I = true := (fun h => bif_ok h (fun h => chunk_ok ck_276_0 h) (fun h => chunk_ok ck_276_1 h))
theorem ck_277_0 : cl_277_0.all (fun q => mchk 277 q.1 q.2) = true := by decide +kernel
theorem ck_277_1 : cl_277_1.all (fun q => mchk 277 q.1 q.2) = true := by decide +kernel
theorem cdok_277 (pc : Nat) (I : mI) : cd_277 pc = some I → mchk 277 pc I = true := (fun h => bif_ok h (fun h => chunk_ok ck_277_0 h) (fun h => chunk_ok ck_277_1 h))
theorem ck_278_0 : cl_278_0.all (fun q => mchk 278 q.1 q.2) = true := by decide +kernel
theorem ck_278_1 : cl_278_1.all (fun q => mchk 278 q.1 q.2) = true := by decide +kernel
theorem cdok_278 (pc : Nat) (I : mI) : cd_278 pc = some I → mchk 278 pc I = true := (fun h => bif_ok h (fun h => chunk_ok ck_278_0 h) (fun h => chunk_ok ck_278_1 h))
theorem ck_279_0 : cl_279_0.all (fun q => mchk 279 q.1 q.2) = true := by decide +kernel
theorem ck_279_1 : cl_279_1.all (fun q => mchk 279 q.1 q.2) = true := by decide +kernel
theorem cdok_279 (pc : Nat) (I : mI) : cd_279 pc = some I → mchk 279 pc I = true := (fun h => bif_ok h (fun h => chunk_ok ck_279_0 h) (fun h => chunk_ok ck_279_1 h))
theorem ck_280_0 : cl_280_0.all (fun q => mchk 280 q.1 q.2) = true := by decide +kernel
theorem ck_280_1 : cl_280_1.all (fun q => mchk 280 q.1 q.2) = true := by decide +kernel
theorem cdok_280 (pc : Nat) (I : mI) : cd_280 pc = some I → mchk 280 pc I = true := (fun h => bif_ok h (fun h => chunk_ok ck_280_0 h) (fun h => chunk_ok ck_280_1 h))
theorem ck_281_0 : cl_281_0.all (fun q => mchk 281 q.1 q.2) = true := by decide +kernel
theorem ck_281_1 : cl_281_1.all (fun q => mchk 281 q.1 q.2) = true := by decide +kernel
theorem cdok_281 (pc : Nat) (I : mI) : cd_281 pc = some I → mchk 281 pc I = true := (fun h => bif_ok h (fun h => chunk_ok ck_281_0 h) (fun h => chunk_ok ck_281_1 h))
theorem ck_282_0 : cl_282_0.all (fun q => mchk 282 q.1 q.2) = true := by decide +kernel
theorem ck_282_1 : cl_282_1.all (fun q => mchk 282 q.1 q.2) = true := by decide +kernel
theorem cdok_282 (pc : Nat) (I : mI) : cd_282 pc = some I → mchk 282 pc I = true := (fun h => bif_ok h (fun h => chunk_ok ck_282_0 h) (fun h => chunk_ok ck_282_1 h))
theorem ck_283_0 : cl_283_0.all (fun q => mchk 283 q.1 q.2) = true := by decide +kernel
theorem ck_283_1 : cl_283_1.all (fun q => mchk 283 q.1 q.2) = true := by decide +kernel
theorem cdok_283 (pc : Nat) (I : mI) : cd_283 pc = some I → mchk 283 pc I = true := (fun h => bif_ok h (fun h => chunk_ok ck_283_0 h) (fun h => chunk_ok ck_283_1 h))
theorem ck_284_0 : cl_284_0.all (fun q => mchk 284 q.1 q.2) = true := by decide +kernel
theorem ck_284_1 : cl_284_1.all (fun q => mchk 284 q.1 q.2) = true := by decide +kernel
theorem cdok_284 (pc : Nat) (I : mI) : cd_284 pc = some I → mchk 284 pc I = true := (fun h => bif_ok h (fun h => chunk_ok ck_284_0 h) (fun h => chunk_ok ck_284_1 h))
theorem ck_285_0 : cl_285_0.all (fun q => mchk 285 q.1 q.2) = true := by decide +kernel
theorem cdok_285 (pc : Nat) (I : mI) : cd_285 pc = some I → mchk 285 pc I = true := (fun h => chunk_ok ck_285_0 h)
theorem ck_286_0 : cl_286_0.all (fun q => mchk 286 q.1 q.2) = true := by decide +kernel
theorem cdok_286 (pc : Nat) (I : mI) : cd_286 pc = some I → mchk 286 pc I = true := (fun h => chunk_ok ck_286_0 h)
theorem ck_287_0 : cl_287_0.all (fun q => mchk 287 q.1 q.2) = true := by decide +kernel
theorem cdok_287 (pc : Nat) (I : mI) : cd_287 pc = some I → mchk 287 pc I = true := (fun h => chunk_ok ck_287_0 h)
theorem ck_288_0 : cl_288_0.all (fun q => mchk 288 q.1 q.2) = true := by decide +kernel
theorem cdok_288 (pc : Nat) (I : mI) : cd_288 pc = some I → mchk 288 pc I = true := (fun h => chunk_ok ck_288_0 h)
theorem ck_289_0 : cl_289_0.all (fun q => mchk 289 q.1 q.2) = true := by decide +kernel
theorem ck_289_1 : cl_289_1.all (fun q => mchk 289 q.1 q.2) = true := by decide +kernel
theorem ck_289_2 : cl_289_2.all (fun q => mchk 289 q.1 q.2) = true := by decide +kernel
theorem ck_289_3 : cl_289_3.all (fun q => mchk 289 q.1 q.2) = true := by decide +kernel
theorem cdok_289 (pc : Nat) (I : mI) : cd_289 pc = some I → mchk 289 pc I = true := (fun h => bif_ok h (fun h => bif_ok h (fun h => chunk_ok ck_289_0 h) (fun h => chunk_ok ck_289_1 h)) (fun h => bif_ok h (fun h => chunk_ok ck_289_2 h) (fun h => chunk_ok ck_289_3 h)))
theorem ck_290_0 : cl_290_0.all (fun q => mchk 290 q.1 q.2) = true := by decide +kernel
theorem cdok_290 (pc : Nat) (I : mI) : cd_290 pc = some I → mchk 290 pc I = true := (fun h => chunk_ok ck_290_0 h)
theorem ck_291_0 : cl_291_0.all (fun q => mchk 291 q.1 q.2) = true := by decide +kernel
theorem ck_291_1 : cl_291_1.all (fun q => mchk 291 q.1 q.2) = true := by decide +kernel
theorem ck_291_2 : cl_291_2.all (fun q => mchk 291 q.1 q.2) = true := by decide +kernel
theorem ck_291_3 : cl_291_3.all (fun q => mchk 291 q.1 q.2) = true := by decide +kernel
theorem ck_291_4 : cl_291_4.all (fun q => mchk 291 q.1 q.2) = true := by decide +kernel
theorem ck_291_5 : cl_291_5.all (fun q => mchk 291 q.1 q.2) = true := by decide +kernel
theorem ck_291_6 : cl_291_6.all (fun q => mchk 291 q.1 q.2) = true := by decide +kernel
theorem cdok_291 (pc : Nat) (I : mI) : cd_291 pc = some I → mchk 291 pc I = true := (fun h => bif_ok h (fun h => bif_ok h (fun h => chunk_ok ck_291_0 h) (fun h => bif_ok h (fun h => chunk_ok ck_291_1 h) (fun h => chunk_ok ck_291_2 h))) (fun h => bif_ok h (fun h => bif_ok h (fun h => chunk_ok ck_291_3 h) (fun h => chunk_ok ck_291_4 h)) (fun h => bif_ok h (fun h => chunk_ok ck_291_5 h) (fun h => chunk_ok ck_291_6 h))))
theorem ck_292_0 : cl_292_0.all (fun q => mchk 292 q.1 q.2) = true := by decide +kernel
theorem ck_292_1 : cl_292_1.all (fun q => mchk 292 q.1 q.2) = true := by decide +kernel
theorem cdok_292 (pc : Nat) (I : mI) : cd_292 pc = some I → mchk 292 pc I = true := (fun h => bif_ok h (fun h => chunk_ok ck_292_0 h) (fun h => chunk_ok ck_292_1 h))
theorem ck_293_0 : cl_293_0.all (fun q => mchk 293 q.1 q.2) = true := by decide +kernel
theorem cdok_293 (pc : Nat) (I : mI) : cd_293 pc = some I → mchk 293 pc I = true := (fun h => chunk_ok ck_293_0 h)
theorem ck_294_0 : cl_294_0.all (fun q => mchk 294 q.1 q.2) = true := by decide +kernel
theorem cdok_294 (pc : Nat) (I : mI) : cd_294 pc = some I → mchk 294 pc I = true := (fun h => chunk_ok ck_294_0 h)
theorem ck_295_0 : cl_295_0.all (fun q => mchk 295 q.1 q.2) = true := by decide +kernel
theorem ck_295_1 : cl_295_1.all (fun q => mchk 295 q.1 q.2) = true := by decide +kernel
theorem cdok_295 (pc : Nat) (I : mI) : cd_295 pc = some I → mchk 295 pc I = true := (fun h => bif_ok h (fun h => chunk_ok ck_295_0 h) (fun h => chunk_ok ck_295_1 h))
theorem ck_296_0 : cl_296_0.all (fun q => mchk 296 q.1 q.2) = true := by decide +kernel
theorem cdok_296 (pc : Nat) (I : mI) : cd_296 pc = some I → mchk 296 pc I = true := (fun h => chunk_ok ck_296_0 h)
theorem ck_297_0 : cl_297_0.all (fun q => mchk 297 q.1 q.2) = true := by decide +kernel
theorem cdok_297 (pc : Nat) (I : mI) : cd_297 pc = some I → mchk 297 pc I = true := (fun h => chunk_ok ck_297_0 h)
theorem ck_298_0 : cl_298_0.all (fun q => mchk 298 q.1 q.2) = true := by decide +kernel
theorem cdok_298 (pc : Nat) (I : mI) : cd_298 pc = some I → mchk 298 pc I = true := (fun h => chunk_ok ck_298_0 h)
theorem ck_299_0 : cl_299_0.all (fun q => mchk 299 q.1 q.2) = true := by decide +kernel
theorem cdok_299 (pc : Nat) (I : mI) : cd_299 pc = some I → mchk 299 pc I = true := (fun h => chunk_ok ck_299_0 h)
theorem ck_300_0 : cl_300_0.all (fun q => mchk 300 q.1 q.2) = true := by decide +kernel
theorem cdok_300 (pc : Nat) (I : mI) : cd_300 pc = some I → mchk 300 pc I = true := (fun h => chunk_ok ck_300_0 h)
theorem ck_301_0 : cl_301_0.all (fun q => mchk 301 q.1 q.2) = true := by decide +kernel
theorem cdok_301 (pc : Nat) (I : mI) : cd_301 pc = some I → mchk 301 pc I = true := (fun h => chunk_ok ck_301_0 h)
theorem ck_302_0 : cl_302_0.all (fun q => mchk 302 q.1 q.2) = true := by decide +kernel
theorem cdok_302 (pc : Nat) (I : mI) : cd_302 pc = some I → mchk 302 pc I = true := (fun h => chunk_ok ck_302_0 h)
theorem ck_303_0 : cl_303_0.all (fun q => mchk 303 q.1 q.2) = true := by decide +kernel
theorem ck_303_1 : cl_303_1.all (fun q => mchk 303 q.1 q.2) = true := by decide +kernel
theorem ck_303_2 : cl_303_2.all (fun q => mchk 303 q.1 q.2) = true := by decide +kernel
theorem ck_303_3 : cl_303_3.all (fun q => mchk 303 q.1 q.2) = true := by decide +kernel
theorem ck_303_4 : cl_303_4.all (fun q => mchk 303 q.1 q.2) = true := by decide +kernel
theorem cdok_303 (pc : Nat) (I : mI) : cd_303 pc = some I → mchk 303 pc I = true := (fun h => bif_ok h (fun h => bif_ok h (fun h => chunk_ok ck_303_0 h) (fun h => chunk_ok ck_303_1 h)) (fun h => bif_ok h (fun h => chunk_ok ck_303_2 h) (fun h => bif_ok h (fun h => chunk_ok ck_303_3 h) (fun h => chunk_ok ck_303_4 h))))
theorem ck_304_0 : cl_304_0.all (fun q => mchk 304 q.1 q.2) = true := by decide +kernel
theorem ck_304_1 : cl_304_1.all (fun q => mchk 304 q.1 q.2) = true := by decide +kernel
theorem ck_304_2 : cl_304_2.all (fun q => mchk 304 q.1 q.2) = true := by decide +kernel
theorem ck_304_3 : cl_304_3.all (fun q => mchk 304 q.1 q.2) = true := by decide +kernel
theorem cdok_304 (pc : Nat) (I : mI) : cd_304 pc = some I → mchk 304 pc I = true := (fun h => bif_ok h (fun h => bif_ok h (fun h => chunk_ok ck_304_0 h) (fun h => chunk_ok ck_304_1 h)) (fun h => bif_ok h (fun h => chunk_ok ck_304_2 h) (fun h => chunk_ok ck_304_3 h)))
theorem ck_305_0 : cl_305_0.all (fun q => mchk 305 q.1 q.2) = true := by decide +kernel
theorem ck_305_1 : cl_305_1.all (fun q => mchk 305 q.1 q.2) = true := by decide +kernel
theorem cdok_305 (pc : Nat) (I : mI) : cd_305 pc = some I → mchk 305 pc I = true := (fun h => bif_ok h (fun h => chunk_ok ck_305_0 h) (fun h => chunk_ok ck_305_1 h))
theorem ck_306_0 : cl_306_0.all (fun q => mchk 306 q.1 q.2) = true := by decide +kernel
theorem ck_306_1 : cl_306_1.all (fun q => mchk 306 q.1 q.2) = true := by decide +kernel
theorem ck_306_2 : cl_306_2.all (fun q => mchk 306 q.1 q.2) = true := by decide +kernel
theorem ck_306_3 : cl_306_3.all (fun q => mchk 306 q.1 q.2) = true := by decide +kernel
theorem cdok_306 (pc : Nat) (I : mI) : cd_306 pc = some I → mchk 306 pc I = true := (fun h => bif_ok h (fun h => bif_ok h (fun h => chunk_ok ck_306_0 h) (fun h => chunk_ok ck_306_1 h)) (fun h => bif_ok h (fun h => chunk_ok ck_306_2 h) (fun h => chunk_ok ck_306_3 h)))
theorem ck_307_0 : cl_307_0.all (fun q => mchk 307 q.1 q.2) = true := by decide +kernel
theorem ck_307_1 : cl_307_1.all (fun q => mchk 307 q.1 q.2) = true := by decide +kernel
theorem cdok_307 (pc : Nat) (I : mI) : cd_307 pc = some I → mchk 307 pc I = true := (fun h => bif_ok h (fun h => chunk_ok ck_307_0 h) (fun h => chunk_ok ck_307_1 h))
theorem ck_308_0 : cl_308_0.all (fun q => mchk 308 q.1 q.2) = true := by decide +kernel
theorem ck_308_1 : cl_308_1.all (fun q => mchk 308 q.1 q.2) = true := by decide +kernel
theorem ck_308_2 : cl_308_2.all (fun q => mchk 308 q.1 q.2) = true := by decide +kernel
theorem ck_308_3 : cl_308_3.all (fun q => mchk 308 q.1 q.2) = true := by decide +kernel
theorem ck_308_4 : cl_308_4.all (fun q => mchk 308 q.1 q.2) = true := by decide +kernel
theorem ck_308_5 : cl_308_5.all (fun q => mchk 308 q.1 q.2) = true := by decide +kernel
theorem ck_308_6 : cl_308_6.all (fun q => mchk 308 q.1 q.2) = true := by decide +kernel
theorem ck_308_7 : cl_308_7.all (fun q => mchk 308 q.1 q.2) = true := by decide +kernel
theorem ck_308_8 : cl_308_8.all (fun q => mchk 308 q.1 q.2) = true := by decide +kernel
theorem cdok_308 (pc : Nat) (I : mI) : cd_308 pc = some I → mchk 308 pc I = true := (fun h => bif_ok h (fun h => bif_ok h (fun h => bif_ok h (fun h => chunk_ok ck_308_0 h) (fun h => chunk_ok ck_308_1 h)) (fun h => bif_ok h (fun h => chunk_ok ck_308_2 h) (fun h => chunk_ok ck_308_3 h))) (fun h => bif_ok h (fun h => bif_ok h (fun h => chunk_ok ck_308_4 h) (fun h => chunk_ok ck_308_5 h)) (fun h => bif_ok h (fun h => chunk_ok ck_308_6 h) (fun h => bif_ok h (fun h => chunk_ok ck_308_7 h) (fun h => chunk_ok ck_308_8 h)))))
theorem ck_309_0 : cl_309_0.all (fun q => mchk 309 q.1 q.2) = true := by decide +kernel
theorem ck_309_1 : cl_309_1.all (fun q => mchk 309 q.1 q.2) = true := by decide +kernel
theorem ck_309_2 : cl_309_2.all (fun q => mchk 309 q.1 q.2) = true := by decide +kernel
theorem cdok_309 (pc : Nat) (I : mI) : cd_309 pc = some I → mchk 309 pc I = true := (fun h => bif_ok h (fun h => chunk_ok ck_309_0 h) (fun h => bif_ok h (fun h => chunk_ok ck_309_1 h) (fun h => chunk_ok ck_309_2 h)))
theorem ck_310_0 : cl_310_0.all (fun q => mchk 310 q.1 q.2) = true := by decide +kernel
theorem cdok_310 (pc : Nat) (I : mI) : cd_310 pc = some I → mchk 310 pc I = true := (fun h => chunk_ok ck_310_0 h)
