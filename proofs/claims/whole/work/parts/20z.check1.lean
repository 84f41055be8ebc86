theorem ck_76_0 : cl_76_0.all (fun q => mchk 76 q.1 q.2) = true := by decide +kernel
theorem ck_76_1 : cl_76_1.all (fun q => mchk 76 q.1 q.2) = true := by decide +kernel
theorem ck_76_2 : cl_76_2.all (fun q => mchk 76 q.1 q.2) = true := by decide +kernel
theorem ck_76_3 : cl_76_3.all (fun q => mchk 76 q.1 q.2) = true := by decide +kernel
theorem ck_76_4 : cl_76_4.all (fun q => mchk 76 q.1 q.2) = true := by decide +kernel
theorem cdok_76 (pc : Nat) (I : mI) : cd_76 pc = some I → mchk 76 pc I = true := (fun h => bif_ok h (fun h => bif_ok h (fun h => chunk_ok ck_76_0 h) (fun h => chunk_ok ck_76_1 h)) (fun h => bif_ok h (fun h => chunk_ok ck_76_2 h) (fun h => bif_ok h (fun h => chunk_ok ck_76_3 h) (fun h => chunk_ok ck_76_4 h))))
theorem ck_77_0 : cl_77_0.all (fun q => mchk 77 q.1 q.2) = true := by decide +kernel
theorem ck_77_1 : cl_77_1.all (fun q => mchk 77 q.1 q.2) = true := by decide +kernel
theorem ck_77_2 : cl_77_2.all (fun q => mchk 77 q.1 q.2) = true := by decide +kernel
theorem ck_77_3 : cl_77_3.all (fun q => mchk 77 q.1 q.2) = true := by decide +kernel
theorem ck_77_4 : cl_77_4.all (fun q => mchk 77 q.1 q.2) = true := by decide +kernel
theorem ck_77_5 : cl_77_5.all (fun q => mchk 77 q.1 q.2) = true := by decide +kernel
theorem ck_77_6 : cl_77_6.all (fun q => mchk 77 q.1 q.2) = true := by decide +kernel
theorem cdok_77 (pc : Nat) (I : mI) : cd_77 pc = some I → mchk 77 pc I = true := (fun h => bif_ok h (fun h => bif_ok h (fun h => chunk_ok ck_77_0 h) (fun h => bif_ok h (fun h => chunk_ok ck_77_1 h) (fun h => chunk_ok ck_77_2 h))) (fun h => bif_ok h (fun h => bif_ok h (fun h => chunk_ok ck_77_3 h) (fun h => chunk_ok ck_77_4 h)) (fun h => bif_ok h (fun h => chunk_ok ck_77_5 h) (fun h => chunk_ok ck_77_6 h))))
theorem ck_78_0 : cl_78_0.all (fun q => mchk 78 q.1 q.2) = true := by decide +kernel
theorem ck_78_1 : cl_78_1.all (fun q => mchk 78 q.1 q.2) = true := by decide +kernel
theorem ck_78_2 : cl_78_2.all (fun q => mchk 78 q.1 q.2) = true := by decide +kernel
theorem ck_78_3 : cl_78_3.all (fun q => mchk 78 q.1 q.2) = true := by decide +kernel
theorem ck_78_4 : cl_78_4.all (fun q => mchk 78 q.1 q.2) = true := by decide +kernel
theorem ck_78_5 : cl_78_5.all (fun q => mchk 78 q.1 q.2) = true := by decide +kernel
theorem ck_78_6 : cl_78_6.all (fun q => mchk 78 q.1 q.2) = true := by decide +kernel
theorem ck_78_7 : cl_78_7.all (fun q => mchk 78 q.1 q.2) = true := by decide +kernel
theorem ck_78_8 : cl_78_8.all (fun q => mchk 78 q.1 q.2) = true := by decide +kernel
theorem cdok_78 (pc : Nat) (I : mI) : cd_78 pc = some I → mchk 78 pc I = true := (fun h => bif_ok h (fun h => bif_ok h (fun h => bif_ok h (fun h => chunk_ok ck_78_0 h) (fun h => chunk_ok ck_78_1 h)) (fun h => bif_ok h (fun h => chunk_ok ck_78_2 h) (fun h => chunk_ok ck_78_3 h))) (fun h => bif_ok h (fun h => bif_ok h (fun h => chunk_ok ck_78_4 h) (fun h => chunk_ok ck_78_5 h)) (fun h => bif_ok h (fun h => chunk_ok ck_78_6 h) (fun h => bif_ok h (fun h => chunk_ok ck_78_7 h) (fun h => chunk_ok ck_78_8 h)))))
theorem ck_79_0 : cl_79_0.all (fun q => mchk 79 q.1 q.2) = true := by decide +kernel
theorem ck_79_1 : cl_79_1.all (fun q => mchk 79 q.1 q.2) = true := by decide +kernel
theorem ck_79_2 : cl_79_2.all (fun q => mchk 79 q.1 q.2) = true := by decide +kernel
theorem ck_79_3 : cl_79_3.all (fun q => mchk 79 q.1 q.2) = true := by decide +kernel
theorem cdok_79 (pc : Nat) (I : mI) : cd_79 pc = some I → mchk 79 pc I = true := (fun h => bif_ok h (fun h => bif_ok h (fun h => chunk_ok ck_79_0 h) (fun h => chunk_ok ck_79_1 h)) (fun h => bif_ok h (fun h => chunk_ok ck_79_2 h) (fun h => chunk_ok ck_79_3 h)))
theorem ck_80_0 : cl_80_0.all (fun q => mchk 80 q.1 q.2) = true := by decide +kernel
theorem ck_80_1 : cl_80_1.all (fun q => mchk 80 q.1 q.2) = true := by decide +kernel
theorem ck_80_2 : cl_80_2.all (fun q => mchk 80 q.1 q.2) = true := by decide +kernel
theorem ck_80_3 : cl_80_3.all (fun q => mchk 80 q.1 q.2) = true := by decide +kernel
theorem ck_80_4 : cl_80_4.all (fun q => mchk 80 q.1 q.2) = true := by decide +kernel
theorem cdok_80 (pc : Nat) (I : mI) : cd_80 pc = some I → mchk 80 pc I = true := (fun h => bif_ok h (fun h => bif_ok h (fun h => chunk_ok ck_80_0 h) (fun h => chunk_ok ck_80_1 h)) (fun h => bif_ok h (fun h => chunk_ok ck_80_2 h) (fun h => bif_ok h (fun h => chunk_ok ck_80_3 h) (fun h => chunk_ok ck_80_4 h))))
theorem ck_81_0 : cl_81_0.all (fun q => mchk 81 q.1 q.2) = true := by decide +kernel
theorem ck_81_1 : cl_81_1.all (fun q => mchk 81 q.1 q.2) = true := by decide +kernel
theorem ck_81_2 : cl_81_2.all (fun q => mchk 81 q.1 q.2) = true := by decide +kernel
theorem ck_81_3 : cl_81_3.all (fun q => mchk 81 q.1 q.2) = true := by decide +kernel
theorem cdok_81 (pc : Nat) (I : mI) : cd_81 pc = some I → mchk 81 pc I = true := (fun h => bif_ok h (fun h => bif_ok h (fun h => chunk_ok ck_81_0 h) (fun h => chunk_ok ck_81_1 h)) (fun h => bif_ok h (fun h => chunk_ok ck_81_2 h) (fun h => chunk_ok ck_81_3 h)))
theorem ck_82_0 : cl_82_0.all (fun q => mchk 82 q.1 q.2) = true := by decide +kernel
theorem cdok_82 (pc : Nat) (I : mI) : cd_82 pc = some I → mchk 82 pc I = true := (fun h => chunk_ok ck_82_0 h)
theorem ck_83_0 : cl_83_0.all (fun q => mchk 83 q.1 q.2) = true := by decide +kernel
theorem ck_83_1 : cl_83_1.all (fun q => mchk 83 q.1 q.2) = true := by decide +kernel
theorem ck_83_2 : cl_83_2.all (fun q => mchk 83 q.1 q.2) = true := by decide +kernel
theorem ck_83_3 : cl_83_3.all (fun q => mchk 83 q.1 q.2) = true := by decide +kernel
theorem ck_83_4 : cl_83_4.all (fun q => mchk 83 q.1 q.2) = true := by decide +kernel
theorem ck_83_5 : cl_83_5.all (fun q => mchk 83 q.1 q.2) = true := by decide +kernel
theorem ck_83_6 : cl_83_6.all (fun q => mchk 83 q.1 q.2) = true := by decide +kernel
theorem ck_83_7 : cl_83_7.all (fun q => mchk 83 q.1 q.2) = true := by decide +kernel
theorem ck_83_8 : cl_83_8.all (fun q => mchk 83 q.1 q.2) = true := by decide +kernel
theorem cdok_83 (pc : Nat) (I : mI) : cd_83 pc = some I → mchk 83 pc I = true := (fun h => bif_ok h (fun h => bif_ok h (fun h => bif_ok h (fun h => chunk_ok ck_83_0 h) (fun h => chunk_ok ck_83_1 h)) (fun h => bif_ok h (fun h => chunk_ok ck_83_2 h) (fun h => chunk_ok ck_83_3 h))) (fun h => bif_ok h (fun h => bif_ok h (fun h => chunk_ok ck_83_4 h) (fun h => chunk_ok ck_83_5 h)) (fun h => bif_ok h (fun h => chunk_ok ck_83_6 h) (fun h => bif_ok h (fun h => chunk_ok ck_83_7 h) (fun h => chunk_ok ck_83_8 h)))))
theorem ck_84_0 : cl_84_0.all (fun q => mchk 84 q.1 q.2) = true := by decide +kernel
theorem ck_84_1 : cl_84_1.all (fun q => mchk 84 q.1 q.2) = true := by decide +kernel
theorem cdok_84 (pc : Nat) (I : mI) : cd_84 pc = some I → mchk 84 pc I = true := (fun h => bif_ok h (fun h => chunk_ok ck_84_0 h) (fun h => chunk_ok ck_84_1 h))
theorem ck_85_0 : cl_85_0.all (fun q => mchk 85 q.1 q.2) = true := by decide +kernel
theorem ck_85_1 : cl_85_1.all (fun q => mchk 85 q.1 q.2) = true := by decide +kernel
theorem ck_85_2 : cl_85_2.all (fun q => mchk 85 q.1 q.2) = true := by decide +kernel
theorem ck_85_3 : cl_85_3.all (fun q => mchk 85 q.1 q.2) = true := by decide +kernel
theorem cdok_85 (pc : Nat) (I : mI) : cd_85 pc = some I → mchk 85 pc I = true := (fun h => bif_ok h (fun h => bif_ok h (fun h => chunk_ok ck_85_0 h) (fun h => chunk_ok ck_85_1 h)) (fun h => bif_ok h (fun h => chunk_ok ck_85_2 h) (fun h => chunk_ok ck_85_3 h)))
theorem ck_86_0 : cl_86_0.all (fun q => mchk 86 q.1 q.2) = true := by decide +kernel
theorem ck_86_1 : cl_86_1.all (fun q => mchk 86 q.1 q.2) = true := by decide +kernel
theorem ck_86_2 : cl_86_2.all (fun q => mchk 86 q.1 q.2) = true := by decide +kernel
theorem cdok_86 (pc : Nat) (I : mI) : cd_86 pc = some I → mchk 86 pc I = true := (fun h => bif_ok h (fun h => chunk_ok ck_86_0 h) (fun h => bif_ok h (fun h => chunk_ok ck_86_1 h) (fun h => chunk_ok ck_86_2 h)))
theorem ck_87_0 : cl_87_0.all (fun q => mchk 87 q.1 q.2) = true := by decide +kernel
theorem cdok_87 (pc : Nat) (I : mI) : cd_87 pc = some I → mchk 87 pc I = true := (fun h => chunk_ok ck_87_0 h)
theorem ck_88_0 : cl_88_0.all (fun q => mchk 88 q.1 q.2) = true := by decide +kernel
theorem cdok_88 (pc : Nat) (I : mI) : cd_88 pc = some I → mchk 88 pc I = true := (fun h => chunk_ok ck_88_0 h)
theorem ck_89_0 : cl_89_0.all (fun q => mchk 89 q.1 q.2) = true := by decide +kernel
theorem ck_89_1 : cl_89_1.all (fun q => mchk 89 q.1 q.2) = true := by decide +kernel
theorem ck_89_2 : cl_89_2.all (fun q => mchk 89 q.1 q.2) = true := by decide +kernel
theorem ck_89_3 : cl_89_3.all (fun q => mchk 89 q.1 q.2) = true := by decide +kernel
theorem ck_89_4 : cl_89_4.all (fun q => mchk 89 q.1 q.2) = true := by decide +kernel
theorem ck_89_5 : cl_89_5.all (fun q => mchk 89 q.1 q.2) = true := by decide +kernel
theorem ck_89_6 : cl_89_6.all (fun q => mchk 89 q.1 q.2) = true := by decide +kernel
theorem cdok_89 (pc : Nat) (I : mI) : cd_89 pc = some I → mchk 89 pc I = true := (fun h => bif_ok h (fun h => bif_ok h (fun h => chunk_ok ck_89_0 h) (fun h => bif_ok h (fun h => chunk_ok ck_89_1 h) (fun h => chunk_ok ck_89_2 h))) (fun h => bif_ok h (fun h => bif_ok h (fun h => chunk_ok ck_89_3 h) (fun h => chunk_ok ck_89_4 h)) (fun h => bif_ok h (fun h => chunk_ok ck_89_5 h) (fun h => chunk_ok ck_89_6 h))))
theorem ck_90_0 : cl_90_0.all (fun q => mchk 90 q.1 q.2) = true := by decide +kernel
theorem ck_90_1 : cl_90_1.all (fun q => mchk 90 q.1 q.2) = true := by decide +kernel
theorem ck_90_2 : cl_90_2.all (fun q => mchk 90 q.1 q.2) = true := by decide +kernel
theorem ck_90_3 : cl_90_3.all (fun q => mchk 90 q.1 q.2) = true := by decide +kernel
theorem cdok_90 (pc : Nat) (I : mI) : cd_90 pc = some I → mchk 90 pc I = true := (fun h => bif_ok h (fun h => bif_ok h (fun h => chunk_ok ck_90_0 h) (fun h => chunk_ok ck_90_1 h)) (fun h => bif_ok h (fun h => chunk_ok ck_90_2 h) (fun h => chunk_ok ck_90_3 h)))
theorem ck_91_0 : cl_91_0.all (fun q => mchk 91 q.1 q.2) = true := by decide +kernel
theorem ck_91_1 : cl_91_1.all (fun q => mchk 91 q.1 q.2) = true := by decide +kernel
theorem cdok_91 (pc : Nat) (I : mI) : cd_91 pc = some I → mchk 91 pc I = true := (fun h => bif_ok h (fun h => chunk_ok ck_91_0 h) (fun h => chunk_ok ck_91_1 h))
theorem ck_92_0 : cl_92_0.all (fun q => mchk 92 q.1 q.2) = true := by decide +kernel
theorem ck_92_1 : cl_92_1.all (fun q => mchk 92 q.1 q.2) = true := by decide +kernel
theorem ck_92_2 : cl_92_2.all (fun q => mchk 92 q.1 q.2) = true := by decide +kernel
theorem cdok_92 (pc : Nat) (I : mI) : cd_92 pc = some I → mchk 92 pc I = true := (fun h => bif_ok h (fun h => chunk_ok ck_92_0 h) (fun h => bif_ok h (fun h => chunk_ok ck_92_1 h) (fun h => chunk_ok ck_92_2 h)))
theorem ck_93_0 : cl_93_0.all (fun q => mchk 93 q.1 q.2) = true := by decide +kernel
theorem ck_93_1 : cl_93_1.all (fun q => mchk 93 q.1 q.2) = true := by decide +kernel
theorem ck_93_2 : cl_93_2.all (fun q => mchk 93 q.1 q.2) = true := by decide +kernel
theorem ck_93_3 : cl_93_3.all (fun q => mchk 93 q.1 q.2) = true := by decide +kernel
theorem cdok_93 (pc : Nat) (I : mI) : cd_93 pc = some I → mchk 93 pc I = true := (fun h => bif_ok h (fun h => bif_ok h (fun h => chunk_ok ck_93_0 h) (fun h => chunk_ok ck_93_1 h)) (fun h => bif_ok h (fun h => chunk_ok ck_93_2 h) (fun h => chunk_ok ck_93_3 h)))
theorem ck_94_0 : cl_94_0.all (fun q => mchk 94 q.1 q.2) = true := by decide +kernel
theorem ck_94_1 : cl_94_1.all (fun q => mchk 94 q.1 q.2) = true := by decide +kernel
theorem cdok_94 (pc : Nat) (I : mI) : cd_94 pc = some I → mchk 94 pc I = true := (fun h => bif_ok h (fun h => chunk_ok ck_94_0 h) (fun h => chunk_ok ck_94_1 h))
theorem ck_95_0 : cl_95_0.all (fun q => mchk 95 q.1 q.2) = true := by decide +kernel
theorem ck_95_1 : cl_95_1.all (fun q => mchk 95 q.1 q.2) = true := by decide +kernel
theorem ck_95_2 : cl_95_2.all (fun q => mchk 95 q.1 q.2) = true := by decide +kernel
theorem ck_95_3 : cl_95_3.all (fun q => mchk 95 q.1 q.2) = true := by decide +kernel
theorem ck_95_4 : cl_95_4.all (fun q => mchk 95 q.1 q.2) = true := by decide +kernel
theorem ck_95_5 : cl_95_5.all (fun q => mchk 95 q.1 q.2) = true := by decide +kernel
theorem ck_95_6 : cl_95_6.all (fun q => mchk 95 q.1 q.2) = true := by decide +kernel
theorem ck_95_7 : cl_95_7.all (fun q => mchk 95 q.1 q.2) = true := by decide +kernel
theorem ck_95_8 : cl_95_8.all (fun q => mchk 95 q.1 q.2) = true := by decide +kernel
theorem cdok_95 (pc : Nat) (I : mI) : cd_95 pc = some I → mchk 95 pc I = true := (fun h => bif_ok h (fun h => bif_ok h (fun h => bif_ok h (fun h => chunk_ok ck_95_0 h) (fun h => chunk_ok ck_95_1 h)) (fun h => bif_ok h (fun h => chunk_ok ck_95_2 h) (fun h => chunk_ok ck_95_3 h))) (fun h => bif_ok h (fun h => bif_ok h (fun h => chunk_ok ck_95_4 h) (fun h => chunk_ok ck_95_5 h)) (fun h => bif_ok h (fun h => chunk_ok ck_95_6 h) (fun h => bif_ok h (fun h => chunk_ok ck_95_7 h) (fun h => chunk_ok ck_95_8 h)))))
theorem ck_96_0 : cl_96_0.all (fun q => mchk 96 q.1 q.2) = true := by decide +kernel
theorem cdok_96 (pc : Nat) (I : mI) : cd_96 pc = some I → mchk 96 pc I = true := (fun h => chunk_ok ck_96_0 h)
theorem ck_97_0 : cl_97_0.all (fun q => mchk 97 q.1 q.2) = true := by decide +kernel
theorem ck_97_1 : cl_97_1.all (fun q => mchk 97 q.1 q.2) = true := by decide +kernel
theorem ck_97_2 : cl_97_2.all (fun q => mchk 97 q.1 q.2) = true := by decide +kernel
theorem ck_97_3 : cl_97_3.all (fun q => mchk 97 q.1 q.2) = true := by decide +kernel
theorem ck_97_4 : cl_97_4.all (fun q => mchk 97 q.1 q.2) = true := by decide +kernel
theorem ck_97_5 : cl_97_5.all (fun q => mchk 97 q.1 q.2) = true := by decide +kernel
theorem cdok_97 (pc : Nat) (I : mI) : cd_97 pc = some I → mchk 97 pc I = true := (fun h => bif_ok h (fun h => bif_ok h (fun h => chunk_ok ck_97_0 h) (fun h => bif_ok h (fun h => chunk_ok ck_97_1 h) (fun h => chunk_ok ck_97_2 h))) (fun h => bif_ok h (fun h => chunk_ok ck_97_3 h) (fun h => bif_ok h (fun h => chunk_ok ck_97_4 h) (fun h => chunk_ok ck_97_5 h))))
theorem ck_98_0 : cl_98_0.all (fun q => mchk 98 q.1 q.2) = true := by decide +kernel
theorem cdok_98 (pc : Nat) (I : mI) : cd_98 pc = some I → mchk 98 pc I = true := (fun h => chunk_ok ck_98_0 h)
theorem ck_99_0 : cl_99_0.all (fun q => mchk 99 q.1 q.2) = true := by decide +kernel
theorem ck_99_1 : cl_99_1.all (fun q => mchk 99 q.1 q.2) = true := by decide +kernel
theorem cdok_99 (pc : Nat) (I : mI) : cd_99 pc = some I → mchk 99 pc I = true := (fun h => bif_ok h (fun h => chunk_ok ck_99_0 h) (fun h => chunk_ok ck_99_1 h))
theorem ck_100_0 : cl_100_0.all (fun q => mchk 100 q.1 q.2) = true := by decide +kernel
theorem ck_100_1 : cl_100_1.all (fun q => mchk 100 q.1 q.2) = true := by decide +kernel
theorem cdok_100 (pc : Nat) (I : mI) : cd_100 pc = some I → mchk 100 pc I = true := (fun h => bif_ok h (fun h => chunk_ok ck_100_0 h) (fun h => chunk_ok ck_100_1 h))
theorem ck_101_0 : cl_101_0.all (fun q => mchk 101 q.1 q.2) = true := by decide +kernel
theorem ck_101_1 : cl_101_1.all (fun q => mchk 101 q.1 q.2) = true := by decide +kernel
theorem ck_101_2 : cl_101_2.all (fun q => mchk 101 q.1 q.2) = true := by decide +kernel
theorem ck_101_3 : cl_101_3.all (fun q => mchk 101 q.1 q.2) = true := by decide +kernel
theorem ck_101_4 : cl_101_4.all (fun q => mchk 101 q.1 q.2) = true := by decide +kernel
theorem ck_101_5 : cl_101_5.all (fun q => mchk 101 q.1 q.2) = true := by decide +kernel
theorem ck_101_6 : cl_101_6.all (fun q => mchk 101 q.1 q.2) = true := by decide +kernel
theorem ck_101_7 : cl_101_7.all (fun q => mchk 101 q.1 q.2) = true := by decide +kernel
theorem cdok_101 (pc : Nat) (I : mI) : cd_101 pc = some I → mchk 101 pc I = true := (fun h => bif_ok h (fun h => bif_ok h (fun h => bif_ok h (fun h => chunk_ok ck_101_0 h) (fun h => chunk_ok ck_101_1 h)) (fun h => bif_ok h (fun h => chunk_ok ck_101_2 h) (fun h => chunk_ok ck_101_3 h))) (fun h => bif_ok h (fun h => bif_ok h (fun h => chunk_ok ck_101_4 h) (fun h => chunk_ok ck_101_5 h)) (fun h => bif_ok h (fun h => chunk_ok ck_101_6 h) (fun h => chunk_ok ck_101_7 h))))
theorem ck_102_0 : cl_102_0.all (fun q => mchk 102 q.1 q.2) = true := by decide +kernel
theorem ck_102_1 : cl_102_1.all (fun q => mchk 102 q.1 q.2) = true := by decide +kernel
theorem cdok_102 (pc : Nat) (I : mI) : cd_102 pc = some I → mchk 102 pc I = true := (fun h => bif_ok h (fun h => chunk_ok ck_102_0 h) (fun h => chunk_ok ck_102_1 h))
theorem ck_103_0 : cl_103_0.all (fun q => mchk 103 q.1 q.2) = true := by decide +kernel
theorem ck_103_1 : cl_103_1.all (fun q => mchk 103 q.1 q.2) = true := by decide +kernel
theorem ck_103_2 : cl_103_2.all (fun q => mchk 103 q.1 q.2) = true := by decide +kernel
theorem ck_103_3 : cl_103_3.all (fun q => mchk 103 q.1 q.2) = true := by decide +kernel
theorem cdok_103 (pc : Nat) (I : mI) : cd_103 pc = some I → mchk 103 pc I = true := (fun h => bif_ok h (fun h => bif_ok h (fun h => chunk_ok ck_103_0 h) (fun h => chunk_ok ck_103_1 h)) (fun h => bif_ok h (fun h => chunk_ok ck_103_2 h) (fun h => chunk_ok ck_103_3 h)))
theorem ck_104_0 : cl_104_0.all (fun q => mchk 104 q.1 q.2) = true := by decide +kernel
theorem ck_104_1 : cl_104_1.all (fun q => mchk 104 q.1 q.2) = true := by decide +kernel
theorem cdok_104 (pc : Nat) (I : mI) : cd_104 pc = some I → mchk 104 pc I = true := (fun h => bif_ok h (fun h => chunk_ok ck_104_0 h) (fun h => chunk_ok ck_104_1 h))
theorem ck_105_0 : cl_105_0.all (fun q => mchk 105 q.1 q.2) = true := by decide +kernel
theorem ck_105_1 : cl_105_1.all (fun q => mchk 105 q.1 q.2) = true := by decide +kernel
theorem ck_105_2 : cl_105_2.all (fun q => mchk 105 q.1 q.2) = true := by decide +kernel
theorem ck_105_3 : cl_105_3.all (fun q => mchk 105 q.1 q.2) = true := by decide +kernel
theorem ck_105_4 : cl_105_4.all (fun q => mchk 105 q.1 q.2) = true := by decide +kernel
theorem cdok_105 (pc : Nat) (I : mI) : cd_105 pc = some I → mchk 105 pc I = true := (fun h => bif_ok h (fun h => bif_ok h (fun h => chunk_ok ck_105_0 h) (fun h => chunk_ok ck_105_1 h)) (fun h => bif_ok h (fun h => chunk_ok ck_105_2 h) (fun h => bif_ok h (fun h => chunk_ok ck_105_3 h) (fun h => chunk_ok ck_105_4 h))))
theorem ck_106_0 : cl_106_0.all (fun q => mchk 106 q.1 q.2) = true := by decide +kernel
theorem ck_106_1 : cl_106_1.all (fun q => mchk 106 q.1 q.2) = true := by decide +kernel
theorem cdok_106 (pc : Nat) (I : mI) : cd_106 pc = some I → mchk 106 pc I = true := (fun h => bif_ok h (fun h => chunk_ok ck_106_0 h) (fun h => chunk_ok ck_106_1 h))
theorem ck_107_0 : cl_107_0.all (fun q => mchk 107 q.1 q.2) = true := by decide +kernel
theorem ck_107_1 : cl_107_1.all (fun q => mchk 107 q.1 q.2) = true := by decide +kernel
theorem cdok_107 (pc : Nat) (I : mI) : cd_107 pc = some I → mchk 107 pc I = true := (fun h => bif_ok h (fun h => chunk_ok ck_107_0 h) (fun h => chunk_ok ck_107_1 h))
theorem ck_108_0 : cl_108_0.all (fun q => mchk 108 q.1 q.2) = true := by decide +kernel
theorem ck_108_1 : cl_108_1.all (fun q => mchk 108 q.1 q.2) = true := by decide +kernel
theorem cdok_108 (pc : Nat) (I : mI) : cd_108 pc = some I → mchk 108 pc I = true := (fun h => bif_ok h (fun h => chunk_ok ck_108_0 h) (fun h => chunk_ok ck_108_1 h))
theorem ck_109_0 : cl_109_0.all (fun q => mchk 109 q.1 q.2) = true := by decide +kernel
theorem cdok_109 (pc : Nat) (I : mI) : cd_109 pc = some I → mchk 109 pc I = true := (fun h => chunk_ok ck_109_0 h)
theorem ck_110_0 : cl_110_0.all (fun q => mchk 110 q.1 q.2) = true := by decide +kernel
theorem cdok_110 (pc : Nat) (I : mI) : cd_110 pc = some I → mchk 110 pc I = true := (fun h => chunk_ok ck_110_0 h)
theorem ck_111_0 : cl_111_0.all (fun q => mchk 111 q.1 q.2) = true := by decide +kernel
theorem ck_111_1 : cl_111_1.all (fun q => mchk 111 q.1 q.2) = true := by decide +kernel
theorem cdok_111 (pc : Nat) (I : mI) : cd_111 pc = some I → mchk 111 pc I = true := (fun h => bif_ok h (fun h => chunk_ok ck_111_0 h) (fun h => chunk_ok ck_111_1 h))
theorem ck_112_0 : cl_112_0.all (fun q => mchk 112 q.1 q.2) = true := by decide +kernel
theorem ck_112_1 : cl_112_1.all (fun q => mchk 112 q.1 q.2) = true := by decide +kernel
theorem ck_112_2 : cl_112_2.all (fun q => mchk 112 q.1 q.2) = true := by decide +kernel
theorem ck_112_3 : cl_112_3.all (fun q => mchk 112 q.1 q.2) = true := by decide +kernel
theorem cdok_112 (pc : Nat) (I : mI) : cd_112 pc = some I → mchk 112 pc I = true := (fun h => bif_ok h (fun h => bif_ok h (fun h => chunk_ok ck_112_0 h) (fun h => chunk_ok ck_112_1 h)) (fun h => bif_ok h (fun h => chunk_ok ck_112_2 h) (fun h => chunk_ok ck_112_3 h)))
theorem ck_113_0 : cl_113_0.all (fun q => mchk 113 q.1 q.2) = true := by decide +kernel
theorem ck_113_1 : cl_113_1.all (fun q => mchk 113 q.1 q.2) = true := by decide +kernel
theorem ck_113_2 : cl_113_2.all (fun q => mchk 113 q.1 q.2) = true := by decide +kernel
theorem ck_113_3 : cl_113_3.all (fun q => mchk 113 q.1 q.2) = true := by decide +kernel
theorem cdok_113 (pc : Nat) (I : mI) : cd_113 pc = some I → mchk 113 pc I = true := (fun h => bif_ok h (fun h => bif_ok h (fun h => chunk_ok ck_113_0 h) (fun h => chunk_ok ck_113_1 h)) (fun h => bif_ok h (fun h => chunk_ok ck_113_2 h) (fun h => chunk_ok ck_113_3 h)))
theorem ck_114_0 : cl_114_0.all (fun q => mchk 114 q.1 q.2) = true := by decide +kernel
theorem ck_114_1 : cl_114_1.all (fun q => mchk 114 q.1 q.2) = true := by decide +kernel
theorem cdok_114 (pc : Nat) (I : mI) : cd_114 pc = some I → mchk 114 pc I = true := (fun h => bif_ok h (fun h => chunk_ok ck_114_0 h) (fun h => chunk_ok ck_114_1 h))
theorem ck_115_0 : cl_115_0.all (fun q => mchk 115 q.1 q.2) = true := by decide +kernel
theorem ck_115_1 : cl_115_1.all (fun q => mchk 115 q.1 q.2) = true := by decide +kernel
theorem ck_115_2 : cl_115_2.all (fun q => mchk 115 q.1 q.2) = true := by decide +kernel
theorem ck_115_3 : cl_115_3.all (fun q => mchk 115 q.1 q.2) = true := by decide +kernel
theorem ck_115_4 : cl_115_4.all (fun q => mchk 115 q.1 q.2) = true := by decide +kernel
theorem ck_115_5 : cl_115_5.all (fun q => mchk 115 q.1 q.2) = true := by decide +kernel
theorem cdok_115 (pc : Nat) (I : mI) : cd_115 pc = some I → mchk 115 pc I = true := (fun h => bif_ok h (fun h => bif_ok h (fun h => chunk_ok ck_115_0 h) (fun h => bif_ok h (fun h => chunk_ok ck_115_1 h) (fun h => chunk_ok ck_115_2 h))) (fun h => bif_ok h (fun h => chunk_ok ck_115_3 h) (fun h => bif_ok h (fun h => chunk_ok ck_115_4 h) (fun h => chunk_ok ck_115_5 h))))
theorem ck_116_0 : cl_116_0.all (fun q => mchk 116 q.1 q.2) = true := by decide +kernel
theorem ck_116_1 : cl_116_1.all (fun q => mchk 116 q.1 q.2) = true := by decide +kernel
theorem ck_116_2 : cl_116_2.all (fun q => mchk 116 q.1 q.2) = true := by decide +kernel
theorem ck_116_3 : cl_116_3.all (fun q => mchk 116 q.1 q.2) = true := by decide +kernel
theorem cdok_116 (pc : Nat) (I : mI) : cd_116 pc = some I → mchk 116 pc I = true := (fun h => bif_ok h (fun h => bif_ok h (fun h => chunk_ok ck_116_0 h) (fun h => chunk_ok ck_116_1 h)) (fun h => bif_ok h (fun h => chunk_ok ck_116_2 h) (fun h => chunk_ok ck_116_3 h)))
theorem ck_117_0 : cl_117_0.all (fun q => mchk 117 q.1 q.2) = true := by decide +kernel
theorem ck_117_1 : cl_117_1.all (fun q => mchk 117 q.1 q.2) = true := by decide +kernel
theorem cdok_117 (pc : Nat) (I : mI) : cd_117 pc = some I → mchk 117 pc I = true := (fun h => bif_ok h (fun h => chunk_ok ck_117_0 h) (fun h => chunk_ok ck_117_1 h))
theorem ck_118_0 : cl_118_0.all (fun q => mchk 118 q.1 q.2) = true := by decide +kernel
theorem ck_118_1 : cl_118_1.all (fun q => mchk 118 q.1 q.2) = true := by decide +kernel
theorem ck_118_2 : cl_118_2.all (fun q => mchk 118 q.1 q.2) = true := by decide +kernel
theorem ck_118_3 : cl_118_3.all (fun q => mchk 118 q.1 q.2) = true := by decide +kernel
theorem ck_118_4 : cl_118_4.all (fun q => mchk 118 q.1 q.2) = true := by decide +kernel
theorem cdok_118 (pc : Nat) (I : mI) : cd_118 pc = some I → mchk 118 pc I = true := (fun h => bif_ok h (fun h => bif_ok h (fun h => chunk_ok ck_118_0 h) (fun h => chunk_ok ck_118_1 h)) (fun h => bif_ok h (fun h => chunk_ok ck_118_2 h) (fun h => bif_ok h (fun h => chunk_ok ck_118_3 h) (fun h => chunk_ok ck_118_4 h))))
theorem ck_119_0 : cl_119_0.all (fun q => mchk 119 q.1 q.2) = true := by decide +kernel
theorem ck_119_1 : cl_119_1.all (fun q => mchk 119 q.1 q.2) = true := by decide +kernel
theorem cdok_119 (pc : Nat) (I : mI) : cd_119 pc = some I → mchk 119 pc I = true := (fun h => bif_ok h (fun h => chunk_ok ck_119_0 h) (fun h => chunk_ok ck_119_1 h))
theorem ck_120_0 : cl_120_0.all (fun q => mchk 120 q.1 q.2) = true := by decide +kernel
theorem cdok_120 (pc : Nat) (I : mI) : cd_120 pc = some I → mchk 120 pc I = true := (fun h => chunk_ok ck_120_0 h)
theorem ck_121_0 : cl_121_0.all (fun q => mchk 121 q.1 q.2) = true := by decide +kernel
theorem ck_121_1 : cl_121_1.all (fun q => mchk 121 q.1 q.2) = true := by decide +kernel
theorem ck_121_2 : cl_121_2.all (fun q => mchk 121 q.1 q.2) = true := by decide +kernel
theorem cdok_121 (pc : Nat) (I : mI) : cd_121 pc = some I → mchk 121 pc I = true := (fun h => bif_ok h (fun h => chunk_ok ck_121_0 h) (fun h => bif_ok h (fun h => chunk_ok ck_121_1 h) (fun h => chunk_ok ck_121_2 h)))
theorem ck_122_0 : cl_122_0.all (fun q => mchk 122 q.1 q.2) = true := by decide +kernel
theorem ck_122_1 : cl_122_1.all (fun q => mchk 122 q.1 q.2) = true := by decide +kernel
theorem cdok_122 (pc : Nat) (I : mI) : cd_122 pc = some I → mchk 122 pc I = true := (fun h => bif_ok h (fun h => chunk_ok ck_122_0 h) (fun h => chunk_ok ck_122_1 h))
theorem ck_123_0 : cl_123_0.all (fun q => mchk 123 q.1 q.2) = true := by decide +kernel
theorem ck_123_1 : cl_123_1.all (fun q => mchk 123 q.1 q.2) = true := by decide +kernel
theorem cdok_123 (pc : Nat) (I : mI) : cd_123 pc = some I → mchk 123 pc I = true := (fun h => bif_ok h (fun h => chunk_ok ck_123_0 h) (fun h => chunk_ok ck_123_1 h))
theorem ck_124_0 : cl_124_0.all (fun q => mchk 124 q.1 q.2) = true := by decide +kernel
theorem ck_124_1 : cl_124_1.all (fun q => mchk 124 q.1 q.2) = true := by decide +kernel
theorem cdok_124 (pc : Nat) (I : mI) : cd_124 pc = some I → mchk 124 pc I = true := (fun h => bif_ok h (fun h => chunk_ok ck_124_0 h) (fun h => chunk_ok ck_124_1 h))
theorem ck_125_0 : cl_125_0.all (fun q => mchk 125 q.1 q.2) = true := by decide +kernel
theorem ck_125_1 : cl_125_1.all (fun q => mchk 125 q.1 q.2) = true := by decide +kernel
theorem ck_125_2 : cl_125_2.all (fun q => mchk 125 q.1 q.2) = true := by decide +kernel
theorem ck_125_3 : cl_125_3.all (fun q => mchk 125 q.1 q.2) = true := by decide +kernel
theorem cdok_125 (pc : Nat) (I : mI) : cd_125 pc = some I → mchk 125 pc I = true := (fun h => bif_ok h (fun h => bif_ok h (fun h => chunk_ok ck_125_0 h) (fun h => chunk_ok ck_125_1 h)) (fun h => bif_ok h (fun h => chunk_ok ck_125_2 h) (fun h => chunk_ok ck_125_3 h)))
theorem ck_126_0 : cl_126_0.all (fun q => mchk 126 q.1 q.2) = true := by decide +kernel
theorem ck_126_1 : cl_126_1.all (fun q => mchk 126 q.1 q.2) = true := by decide +kernel
theorem ck_126_2 : cl_126_2.all (fun q => mchk 126 q.1 q.2) = true := by decide +kernel
theorem ck_126_3 : cl_126_3.all (fun q => mchk 126 q.1 q.2) = true := by decide +kernel
theorem ck_126_4 : cl_126_4.all (fun q => mchk 126 q.1 q.2) = true := by decide +kernel
theorem ck_126_5 : cl_126_5.all (fun q => mchk 126 q.1 q.2) = true := by decide +kernel
theorem cdok_126 (pc : Nat) (I : mI) : cd_126 pc = some I → mchk 126 pc I = true := (fun h => bif_ok h (fun h => bif_ok h (fun h => chunk_ok ck_126_0 h) (fun h => bif_ok h (fun h => chunk_ok ck_126_1 h) (fun h => chunk_ok ck_126_2 h))) (fun h => bif_ok h (fun h => chunk_ok ck_126_3 h) (fun h => bif_ok h (fun h => chunk_ok ck_126_4 h) (fun h => chunk_ok ck_126_5 h))))
theorem ck_127_0 : cl_127_0.all (fun q => mchk 127 q.1 q.2) = true := by decide +kernel
theorem ck_127_1 : cl_127_1.all (fun q => mchk 127 q.1 q.2) = true := by decide +kernel
theorem ck_127_2 : cl_127_2.all (fun q => mchk 127 q.1 q.2) = true := by decide +kernel
theorem cdok_127 (pc : Nat) (I : mI) : cd_127 pc = some I → mchk 127 pc I = true := (fun h => bif_ok h (fun h => chunk_ok ck_127_0 h) (fun h => bif_ok h (fun h => chunk_ok ck_127_1 h) (fun h => chunk_ok ck_127_2 h)))
theorem ck_128_0 : cl_128_0.all (fun q => mchk 128 q.1 q.2) = true := by decide +kernel
theorem ck_128_1 : cl_128_1.all (fun q => mchk 128 q.1 q.2) = true := by decide +kernel
theorem cdok_128 (pc : Nat) (I : mI) : cd_128 pc = some I → mchk 128 pc I = true := (fun h => bif_ok h (fun h => chunk_ok ck_128_0 h) (fun h => chunk_ok ck_128_1 h))
theorem ck_129_0 : cl_129_0.all (fun q => mchk 129 q.1 q.2) = true := by decide +kernel
theorem ck_129_1 : cl_129_1.all (fun q => mchk 129 q.1 q.2) = true := by decide +kernel
theorem ck_129_2 : cl_129_2.all (fun q => mchk 129 q.1 q.2) = true := by decide +kernel
theorem ck_129_3 : cl_129_3.all (fun q => mchk 129 q.1 q.2) = true := by decide +kernel
theorem ck_129_4 : cl_129_4.all (fun q => mchk 129 q.1 q.2) = true := by decide +kernel
theorem cdok_129 (pc : Nat) (I : mI) : cd_129 pc = some I → mchk 129 pc I = true := (fun h => bif_ok h (fun h => bif_ok h (fun h => chunk_ok ck_129_0 h) (fun h => chunk_ok ck_129_1 h)) (fun h => bif_ok h (fun h => chunk_ok ck_129_2 h) (fun h => bif_ok h (fun h => chunk_ok ck_129_3 h) (fun h => chunk_ok ck_129_4 h))))
theorem ck_130_0 : cl_130_0.all (fun q => mchk 130 q.1 q.2) = true := by decide +kernel
theorem ck_130_1 : cl_130_1.all (fun q => mchk 130 q.1 q.2) = true := by decide +kernel
theorem ck_130_2 : cl_130_2.all (fun q => mchk 130 q.1 q.2) = true := by decide +kernel
theorem ck_130_3 : cl_130_3.all (fun q => mchk 130 q.1 q.2) = true := by decide +kernel
theorem ck_130_4 : cl_130_4.all (fun q => mchk 130 q.1 q.2) = true := by decide +kernel
theorem ck_130_5 : cl_130_5.all (fun q => mchk 130 q.1 q.2) = true := by decide +kernel
theorem ck_130_6 : cl_130_6.all (fun q => mchk 130 q.1 q.2) = true := by decide +kernel
theorem ck_130_7 : cl_130_7.all (fun q => mchk 130 q.1 q.2) = true := by decide +kernel
theorem cdok_130 (pc : Nat) (I : mI) : cd_130 pc = some I → mchk 130 pc I = true := (fun h => bif_ok h (fun h => bif_ok h (fun h => bif_ok h (fun h => chunk_ok ck_130_0 h) (fun h => chunk_ok ck_130_1 h)) (fun h => bif_ok h (fun h => chunk_ok ck_130_2 h) (fun h => chunk_ok ck_130_3 h))) (fun h => bif_ok h (fun h => bif_ok h (fun h => chunk_ok ck_130_4 h) (fun h => chunk_ok ck_130_5 h)) (fun h => bif_ok h (fun h => chunk_ok ck_130_6 h) (fun h => chunk_ok ck_130_7 h))))
theorem ck_131_0 : cl_131_0.all (fun q => mchk 131 q.1 q.2) = true := by decide +kernel
theorem ck_131_1 : cl_131_1.all (fun q => mchk 131 q.1 q.2) = true := by decide +kernel
theorem ck_131_2 : cl_131_2.all (fun q => mchk 131 q.1 q.2) = true := by decide +kernel
theorem ck_131_3 : cl_131_3.all (fun q => mchk 131 q.1 q.2) = true := by decide +kernel
theorem ck_131_4 : cl_131_4.all (fun q => mchk 131 q.1 q.2) = true := by decide +kernel
theorem ck_131_5 : cl_131_5.all (fun q => mchk 131 q.1 q.2) = true := by decide +kernel
theorem cdok_131 (pc : Nat) (I : mI) : cd_131 pc = some I → mchk 131 pc I = true := (fun h => bif_ok h (fun h => bif_ok h (fun h => chunk_ok ck_131_0 h) (fun h => bif_ok h (fun h => chunk_ok ck_131_1 h) (fun h => chunk_ok ck_131_2 h))) (fun h => bif_ok h (fun h => chunk_ok ck_131_3 h) (fun h => bif_ok h (fun h => chunk_ok ck_131_4 h) (fun h => chunk_ok ck_131_5 h))))
theorem ck_132_0 : cl_132_0.all (fun q => mchk 132 q.1 q.2) = true := by decide +kernel
theorem ck_132_1 : cl_132_1.all (fun q => mchk 132 q.1 q.2) = true := by decide +kernel
theorem ck_132_2 : cl_132_2.all (fun q => mchk 132 q.1 q.2) = true := by decide +kernel
theorem ck_132_3 : cl_132_3.all (fun q => mchk 132 q.1 q.2) = true := by decide +kernel
theorem ck_132_4 : cl_132_4.all (fun q => mchk 132 q.1 q.2) = true := by decide +kernel
theorem ck_132_5 : cl_132_5.all (fun q => mchk 132 q.1 q.2) = true := by decide +kernel
theorem cdok_132 (pc : Nat) (I : mI) : cd_132 pc = some I → mchk 132 pc I = true := (fun h => bif_ok h (fun h => bif_ok h (fun h => chunk_ok ck_132_0 h) (fun h => bif_ok h (fun h => chunk_ok ck_132_1 h) (fun h => chunk_ok ck_132_2 h))) (fun h => bif_ok h (fun h => chunk_ok ck_132_3 h) (fun h => bif_ok h (fun h => chunk_ok ck_132_4 h) (fun h => chunk_ok ck_132_5 h))))
theorem ck_133_0 : cl_133_0.all (fun q => mchk 133 q.1 q.2) = true := by decide +kernel
theorem ck_133_1 : cl_133_1.all (fun q => mchk 133 q.1 q.2) = true := by decide +kernel
theorem ck_133_2 : cl_133_2.all (fun q => mchk 133 q.1 q.2) = true := by decide +kernel
theorem ck_133_3 : cl_133_3.all (fun q => mchk 133 q.1 q.2) = true := by decide +kernel
theorem ck_133_4 : cl_133_4.all (fun q => mchk 133 q.1 q.2) = true := by decide +kernel
theorem ck_133_5 : cl_133_5.all (fun q => mchk 133 q.1 q.2) = true := by decide +kernel
theorem cdok_133 (pc : Nat) (I : mI) : cd_133 pc = some I → mchk 133 pc I = true := (fun h => bif_ok h (fun h => bif_ok h (fun h => chunk_ok ck_133_0 h) (fun h => bif_ok h (fun h => chunk_ok ck_133_1 h) (fun h => chunk_ok ck_133_2 h))) (fun h => bif_ok h (fun h => chunk_ok ck_133_3 h) (fun h => bif_ok h (fun h => chunk_ok ck_133_4 h) (fun h => chunk_ok ck_133_5 h))))
theorem ck_134_0 : cl_134_0.all (fun q => mchk 134 q.1 q.2) = true := by decide +kernel
theorem ck_134_1 : cl_134_1.all (fun q => mchk 134 q.1 q.2) = true := by decide +kernel
theorem ck_134_2 : cl_134_2.all (fun q => mchk 134 q.1 q.2) = true := by decide +kernel
theorem ck_134_3 : cl_134_3.all (fun q => mchk 134 q.1 q.2) = true := by decide +kernel
theorem ck_134_4 : cl_134_4.all (fun q => mchk 134 q.1 q.2) = true := by decide +kernel
theorem ck_134_5 : cl_134_5.all (fun q => mchk 134 q.1 q.2) = true := by decide +kernel
theorem cdok_134 (pc : Nat) (I : mI) : cd_134 pc = some I → mchk 134 pc I = true := (fun h => bif_ok h (fun h => bif_ok h (fun h => chunk_ok ck_134_0 h) (fun h => bif_ok h (fun h => chunk_ok ck_134_1 h) (fun h => chunk_ok ck_134_2 h))) (fun h => bif_ok h (fun h => chunk_ok ck_134_3 h) (fun h => bif_ok h (fun h => chunk_ok ck_134_4 h) (fun h => chunk_ok ck_134_5 h))))
theorem ck_135_0 : cl_135_0.all (fun q => mchk 135 q.1 q.2) = true := by decide +kernel
theorem ck_135_1 : cl_135_1.all (fun q => mchk 135 q.1 q.2) = true := by decide +kernel
theorem ck_135_2 : cl_135_2.all (fun q => mchk 135 q.1 q.2) = true := by decide +kernel
theorem ck_135_3 : cl_135_3.all (fun q => mchk 135 q.1 q.2) = true := by decide +kernel
theorem cdok_135 (pc : Nat) (I : mI) : cd_135 pc = some I → mchk 135 pc I = true := (fun h => bif_ok h (fun h => bif_ok h (fun h => chunk_ok ck_135_0 h) (fun h => chunk_ok ck_135_1 h)) (fun h => bif_ok h (fun h => chunk_ok ck_135_2 h) (fun h => chunk_ok ck_135_3 h)))
theorem ck_136_0 : cl_136_0.all (fun q => mchk 136 q.1 q.2) = true := by decide +kernel
theorem ck_136_1 : cl_136_1.all (fun q => mchk 136 q.1 q.2) = true := by decide +kernel
theorem ck_136_2 : cl_136_2.all (fun q => mchk 136 q.1 q.2) = true := by decide +kernel
theorem cdok_136 (pc : Nat) (I : mI) : cd_136 pc = some I → mchk 136 pc I = true := (fun h => bif_ok h (fun h => chunk_ok ck_136_0 h) (fun h => bif_ok h (fun h => chunk_ok ck_136_1 h) (fun h => chunk_ok ck_136_2 h)))
theorem ck_137_0 : cl_137_0.all (fun q => mchk 137 q.1 q.2) = true := by decide +kernel
theorem ck_137_1 : cl_137_1.all (fun q => mchk 137 q.1 q.2) = true := by decide +kernel
theorem ck_137_2 : cl_137_2.all (fun q => mchk 137 q.1 q.2) = true := by decide +kernel
theorem ck_137_3 : cl_137_3.all (fun q => mchk 137 q.1 q.2) = true := by decide +kernel
theorem ck_137_4 : cl_137_4.all (fun q => mchk 137 q.1 q.2) = true := by decide +kernel
theorem ck_137_5 : cl_137_5.all (fun q => mchk 137 q.1 q.2) = true := by decide +kernel
theorem ck_137_6 : cl_137_6.all (fun q => mchk 137 q.1 q.2) = true := by decide +kernel
theorem ck_137_7 : cl_137_7.all (fun q => mchk 137 q.1 q.2) = true := by decide +kernel
theorem cdok_137 (pc : Nat) (I : mI) : cd_137 pc = some I → mchk 137 pc I = true := (fun h => bif_ok h (fun h => bif_ok h (fun h => bif_ok h (fun h => chunk_ok ck_137_0 h) (fun h => chunk_ok ck_137_1 h)) (fun h => bif_ok h (fun h => chunk_ok ck_137_2 h) (fun h => chunk_ok ck_137_3 h))) (fun h => bif_ok h (fun h => bif_ok h (fun h => chunk_ok ck_137_4 h) (fun h => chunk_ok ck_137_5 h)) (fun h => bif_ok h (fun h => chunk_ok ck_137_6 h) (fun h => chunk_ok ck_137_7 h))))
theorem ck_138_0 : cl_138_0.all (fun q => mchk 138 q.1 q.2) = true := by decide +kernel
theorem ck_138_1 : cl_138_1.all (fun q => mchk 138 q.1 q.2) = true := by decide +kernel
theorem ck_138_2 : cl_138_2.all (fun q => mchk 138 q.1 q.2) = true := by decide +kernel
theorem ck_138_3 : cl_138_3.all (fun q => mchk 138 q.1 q.2) = true := by decide +kernel
theorem ck_138_4 : cl_138_4.all (fun q => mchk 138 q.1 q.2) = true := by decide +kernel
theorem ck_138_5 : cl_138_5.all (fun q => mchk 138 q.1 q.2) = true := by decide +kernel
theorem cdok_138 (pc : Nat) (I : mI) : cd_138 pc = some I → mchk 138 pc I = true := (fun h => bif_ok h (fun h => bif_ok h (fun h => chunk_ok ck_138_0 h) (fun h => bif_ok h (fun h => chunk_ok ck_138_1 h) (fun h => chunk_ok ck_138_2 h))) (fun h => bif_ok h (fun h => chunk_ok ck_138_3 h) (fun h => bif_ok h (fun h => chunk_ok ck_138_4 h) (fun h => chunk_ok ck_138_5 h))))
theorem ck_139_0 : cl_139_0.all (fun q => mchk 139 q.1 q.2) = true := by decide +kernel
theorem ck_139_1 : cl_139_1.all (fun q => mchk 139 q.1 q.2) = true := by decide +kernel
theorem cdok_139 (pc : Nat) (I : mI) : cd_139 pc = some I → mchk 139 pc I = true := (fun h => bif_ok h (fun h => chunk_ok ck_139_0 h) (fun h => chunk_ok ck_139_1 h))
theorem ck_140_0 : cl_140_0.all (fun q => mchk 140 q.1 q.2) = true := by decide +kernel
theorem ck_140_1 : cl_140_1.all (fun q => mchk 140 q.1 q.2) = true := by decide +kernel
theorem ck_140_2 : cl_140_2.all (fun q => mchk 140 q.1 q.2) = true := by decide +kernel
theorem ck_140_3 : cl_140_3.all (fun q => mchk 140 q.1 q.2) = true := by decide +kernel
theorem ck_140_4 : cl_140_4.all (fun q => mchk 140 q.1 q.2) = true := by decide +kernel
theorem ck_140_5 : cl_140_5.all (fun q => mchk 140 q.1 q.2) = true := by decide +kernel
theorem ck_140_6 : cl_140_6.all (fun q => mchk 140 q.1 q.2) = true := by decide +kernel
theorem ck_140_7 : cl_140_7.all (fun q => mchk 140 q.1 q.2) = true := by decide +kernel
theorem ck_140_8 : cl_140_8.all (fun q => mchk 140 q.1 q.2) = true := by decide +kernel
theorem ck_140_9 : cl_140_9.all (fun q => mchk 140 q.1 q.2) = true := by decide +kernel
theorem ck_140_10 : cl_140_10.all (fun q => mchk 140 q.1 q.2) = true := by decide +kernel
theorem ck_140_11 : cl_140_11.all (fun q => mchk 140 q.1 q.2) = true := by decide +kernel
theorem cdok_140 (pc : Nat) (I : mI) : cd_140 pc = some I → mchk 140 pc I = true := (fun h => bif_ok h (fun h => bif_ok h (fun h => bif_ok h (fun h => chunk_ok ck_140_0 h) (fun h => bif_ok h (fun h => chunk_ok ck_140_1 h) (fun h => chunk_ok ck_140_2 h))) (fun h => bif_ok h (fun h => chunk_ok ck_140_3 h) (fun h => bif_ok h (fun h => chunk_ok ck_140_4 h) (fun h => chunk_ok ck_140_5 h)))) (fun h => bif_ok h (fun h => bif_ok h (fun h => chunk_ok ck_140_6 h) (fun h => bif_ok h (fun h => chunk_ok ck_140_7 h) (fun h => chunk_ok ck_140_8 h))) (fun h => bif_ok h (fun h => chunk_ok ck_140_9 h) (fun h => bif_ok h (fun h => chunk_ok ck_140_10 h) (fun h => chunk_ok ck_140_11 h)))))
theorem ck_141_0 : cl_141_0.all (fun q => mchk 141 q.1 q.2) = true := by decide +kernel
theorem ck_141_1 : cl_141_1.all (fun q => mchk 141 q.1 q.2) = true := by decide +kernel
theorem ck_141_2 : cl_141_2.all (fun q => mchk 141 q.1 q.2) = true := by decide +kernel
theorem ck_141_3 : cl_141_3.all (fun q => mchk 141 q.1 q.2) = true := by decide +kernel
theorem ck_141_4 : cl_141_4.all (fun q => mchk 141 q.1 q.2) = true := by decide +kernel
theorem cdok_141 (pc : Nat) (I : mI) : cd_141 pc = some I → mchk 141 pc I = true := (fun h => bif_ok h (fun h => bif_ok h (fun h => chunk_ok ck_141_0 h) (fun h => chunk_ok ck_141_1 h)) (fun h => bif_ok h (fun h => chunk_ok ck_141_2 h) (fun h => bif_ok h (fun h => chunk_ok ck_141_3 h) (fun h => chunk_ok ck_141_4 h))))
theorem ck_142_0 : cl_142_0.all (fun q => mchk 142 q.1 q.2) = true := by decide +kernel
theorem ck_142_1 : cl_142_1.all (fun q => mchk 142 q.1 q.2) = true := by decide +kernel
theorem ck_142_2 : cl_142_2.all (fun q => mchk 142 q.1 q.2) = true := by decide +kernel
theorem ck_142_3 : cl_142_3.all (fun q => mchk 142 q.1 q.2) = true := by decide +kernel
theorem ck_142_4 : cl_142_4.all (fun q => mchk 142 q.1 q.2) = true := by decide +kernel
theorem ck_142_5 : cl_142_5.all (fun q => mchk 142 q.1 q.2) = true := by decide +kernel
theorem ck_142_6 : cl_142_6.all (fun q => mchk 142 q.1 q.2) = true := by decide +kernel
theorem ck_142_7 : cl_142_7.all (fun q => mchk 142 q.1 q.2) = true := by decide +kernel
theorem ck_142_8 : cl_142_8.all (fun q => mchk 142 q.1 q.2) = true := by decide +kernel
theorem cdok_142 (pc : Nat) (I : mI) : cd_142 pc = some I → mchk 142 pc I = true := (fun h => bif_ok h (fun h => bif_ok h (fun h => bif_ok h (fun h => chunk_ok ck_142_0 h) (fun h => chunk_ok ck_142_1 h)) (fun h => bif_ok h (fun h => chunk_ok ck_142_2 h) (fun h => chunk_ok ck_142_3 h))) (fun h => bif_ok h (fun h => bif_ok h (fun h => chunk_ok ck_142_4 h) (fun h => chunk_ok ck_142_5 h)) (fun h => bif_ok h (fun h => chunk_ok ck_142_6 h) (fun h => bif_ok h (fun h => chunk_ok ck_142_7 h) (fun h => chunk_ok ck_142_8 h)))))
theorem ck_143_0 : cl_143_0.all (fun q => mchk 143 q.1 q.2) = true := by decide +kernel
theorem ck_143_1 : cl_143_1.all (fun q => mchk 143 q.1 q.2) = true := by decide +kernel
theorem ck_143_2 : cl_143_2.all (fun q => mchk 143 q.1 q.2) = true := by decide +kernel
theorem cdok_143 (pc : Nat) (I : mI) : cd_143 pc = some I → mchk 143 pc I = true := (fun h => bif_ok h (fun h => chunk_ok ck_143_0 h) (fun h => bif_ok h (fun h => chunk_ok ck_143_1 h) (fun h => chunk_ok ck_143_2 h)))
theorem ck_144_0 : cl_144_0.all (fun q => mchk 144 q.1 q.2) = true := by decide +kernel
theorem ck_144_1 : cl_144_1.all (fun q => mchk 144 q.1 q.2) = true := by decide +kernel
theorem cdok_144 (pc : Nat) (I : mI) : cd_144 pc = some I → mchk 144 pc I = true := (fun h => bif_ok h (fun h => chunk_ok ck_144_0 h) (fun h => chunk_ok ck_144_1 h))
theorem ck_145_0 : cl_145_0.all (fun q => mchk 145 q.1 q.2) = true := by decide +kernel
theorem ck_145_1 : cl_145_1.all (fun q => mchk 145 q.1 q.2) = true := by decide +kernel
theorem ck_145_2 : cl_145_2.all (fun q => mchk 145 q.1 q.2) = true := by decide +kernel
theorem ck_145_3 : cl_145_3.all (fun q => mchk 145 q.1 q.2) = true := by decide +kernel
theorem cdok_145 (pc : Nat) (I : mI) : cd_145 pc = some I → mchk 145 pc I = true := (fun h => bif_ok h (fun h => bif_ok h (fun h => chunk_ok ck_145_0 h) (fun h => chunk_ok ck_145_1 h)) (fun h => bif_ok h (fun h => chunk_ok ck_145_2 h) (fun h => chunk_ok ck_145_3 h)))
theorem ck_146_0 : cl_146_0.all (fun q => mchk 146 q.1 q.2) = true := by decide +kernel
theorem ck_146_1 : cl_146_1.all (fun q => mchk 146 q.1 q.2) = true := by decide +kernel
theorem ck_146_2 : cl_146_2.all (fun q => mchk 146 q.1 q.2) = true := by decide +kernel
theorem ck_146_3 : cl_146_3.all (fun q => mchk 146 q.1 q.2) = true := by decide +kernel
theorem ck_146_4 : cl_146_4.all (fun q => mchk 146 q.1 q.2) = true := by decide +kernel
theorem cdok_146 (pc : Nat) (I : mI) : cd_146 pc = some I → mchk 146 pc I = true := (fun h => bif_ok h (fun h => bif_ok h (fun h => chunk_ok ck_146_0 h) (fun h => chunk_ok ck_146_1 h)) (fun h => bif_ok h (fun h => chunk_ok ck_146_2 h) (fun h => bif_ok h (fun h => chunk_ok ck_146_3 h) (fun h => chunk_ok ck_146_4 h))))
theorem ck_147_0 : cl_147_0.all (fun q => mchk 147 q.1 q.2) = true := by decide +kernel
theorem ck_147_1 : cl_147_1.all (fun q => mchk 147 q.1 q.2) = true := by decide +kernel
theorem ck_147_2 : cl_147_2.all (fun q => mchk 147 q.1 q.2) = true := by decide +kernel
theorem ck_147_3 : cl_147_3.all (fun q => mchk 147 q.1 q.2) = true := by decide +kernel
theorem ck_147_4 : cl_147_4.all (fun q => mchk 147 q.1 q.2) = true := by decide +kernel
theorem ck_147_5 : cl_147_5.all (fun q => mchk 147 q.1 q.2) = true := by decide +kernel
theorem cdok_147 (pc : Nat) (I : mI) : cd_147 pc = some I → mchk 147 pc I = true := (fun h => bif_ok h (fun h => bif_ok h (fun h => chunk_ok ck_147_0 h) (fun h => bif_ok h (fun h => chunk_ok ck_147_1 h) (fun h => chunk_ok ck_147_2 h))) (fun h => bif_ok h (fun h => chunk_ok ck_147_3 h) (fun h => bif_ok h (fun h => chunk_ok ck_147_4 h) (fun h => chunk_ok ck_147_5 h))))
theorem ck_148_0 : cl_148_0.all (fun q => mchk 148 q.1 q.2) = true := by decide +kernel
theorem cdok_148 (pc : Nat) (I : mI) : cd_148 pc = some I → mchk 148 pc I = true := (fun h => chunk_ok ck_148_0 h)
theorem ck_149_0 : cl_149_0.all (fun q => mchk 149 q.1 q.2) = true := by decide +kernel
theorem cdok_149 (pc : Nat) (I : mI) : cd_149 pc = some I → mchk 149 pc I = true := (fun h => chunk_ok ck_149_0 h)
theorem ck_150_0 : cl_150_0.all (fun q => mchk 150 q.1 q.2) = true := by decide +kernel
theorem ck_150_1 : cl_150_1.all (fun q => mchk 150 q.1 q.2) = true := by decide +kernel
theorem cdok_150 (pc : Nat) (I : mI) : cd_150 pc = some I → mchk 150 pc I = true := (fun h => bif_ok h (fun h => chunk_ok ck_150_0 h) (fun h => chunk_ok ck_150_1 h))
theorem ck_151_0 : cl_151_0.all (fun q => mchk 151 q.1 q.2) = true := by decide +kernel
theorem ck_151_1 : cl_151_1.all (fun q => mchk 151 q.1 q.2) = true := by decide +kernel
theorem ck_151_2 : cl_151_2.all (fun q => mchk 151 q.1 q.2) = true := by decide +kernel
theorem ck_151_3 : cl_151_3.all (fun q => mchk 151 q.1 q.2) = true := by decide +kernel
theorem ck_151_4 : cl_151_4.all (fun q => mchk 151 q.1 q.2) = true := by decide +kernel
theorem ck_151_5 : cl_151_5.all (fun q => mchk 151 q.1 q.2) = true := by decide +kernel
theorem ck_151_6 : cl_151_6.all (fun q => mchk 151 q.1 q.2) = true := by decide +kernel
theorem cdok_151 (pc : Nat) (I : mI) : cd_151 pc = some I → mchk 151 pc I = true := (fun h => bif_ok h (fun h => bif_ok h (fun h => chunk_ok ck_151_0 h) (fun h => bif_ok h (fun h => chunk_ok ck_151_1 h) (fun h => chunk_ok ck_151_2 h))) (fun h => bif_ok h (fun h => bif_ok h (fun h => chunk_ok ck_151_3 h) (fun h => chunk_ok ck_151_4 h)) (fun h => bif_ok h (fun h => chunk_ok ck_151_5 h) (fun h => chunk_ok ck_151_6 h))))
theorem ck_152_0 : cl_152_0.all (fun q => mchk 152 q.1 q.2) = true := by decide +kernel
theorem ck_152_1 : cl_152_1.all (fun q => mchk 152 q.1 q.2) = true := by decide +kernel
theorem ck_152_2 : cl_152_2.all (fun q => mchk 152 q.1 q.2) = true := by decide +kernel
theorem ck_152_3 : cl_152_3.all (fun q => mchk 152 q.1 q.2) = true := by decide +kernel
theorem cdok_152 (pc : Nat) (I : mI) : cd_152 pc = some I → mchk 152 pc I = true := (fun h => bif_ok h (fun h => bif_ok h (fun h => chunk_ok ck_152_0 h) (fun h => chunk_ok ck_152_1 h)) (fun h => bif_ok h (fun h => chunk_ok ck_152_2 h) (fun h => chunk_ok ck_152_3 h)))
theorem ck_153_0 : cl_153_0.all (fun q => mchk 153 q.1 q.2) = true := by decide +kernel
theorem ck_153_1 : cl_153_1.all (fun q => mchk 153 q.1 q.2) = true := by decide +kernel
theorem ck_153_2 : cl_153_2.all (fun q => mchk 153 q.1 q.2) = true := by decide +kernel
theorem ck_153_3 : cl_153_3.all (fun q => mchk 153 q.1 q.2) = true := by decide +kernel
theorem ck_153_4 : cl_153_4.all (fun q => mchk 153 q.1 q.2) = true := by decide +kernel
theorem ck_153_5 : cl_153_5.all (fun q => mchk 153 q.1 q.2) = true := by decide +kernel
theorem cdok_153 (pc : Nat) (I : mI) : cd_153 pc = some I → mchk 153 pc I = true := (fun h => bif_ok h (fun h => bif_ok h (fun h => chunk_ok ck_153_0 h) (fun h => bif_ok h (fun h => chunk_ok ck_153_1 h) (fun h => chunk_ok ck_153_2 h))) (fun h => bif_ok h (fun h => chunk_ok ck_153_3 h) (fun h => bif_ok h (fun h => chunk_ok ck_153_4 h) (fun h => chunk_ok ck_153_5 h))))
