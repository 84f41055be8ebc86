theorem ck_76_0 : cl_76_0.all (fun q => mchk 76 q.1 q.2) = true := by decide +kernel
theorem ck_76_1 : cl_76_1.all (fun q => mchk 76 q.1 q.2) = true := by decide +kernel
theorem ck_76_2 : cl_76_2.all (fun q => mchk 76 q.1 q.2) = true := by decide +kernel
theorem ck_76_3 : cl_76_3.all (fun q => mchk 76 q.1 q.2) = true := by decide +kernel
theorem ck_76_4 : cl_76_4.all (fun q => mchk 76 q.1 q.2) = true := by decide +kernel
theorem cdok_76 (pc : Nat) (I : mI) : cd_76 pc = some I → mchk 76 pc I = true := (fun h => bif_ok h (fun h => bif_ok h (fun h => chunk_ok ck_76_0 h) (fun h => chunk_ok ck_76_1 h)) (fun h => bif_ok h (fun h => chunk_ok ck_76_2 h) (fun h => bif_ok h (fun h => chunk_ok ck_76_3 h) (fun h => chunk_ok ck_76_4 h))))
theorem ck_77_0 : cl_77_0.all (fun q => mchk 77 q.1 q.2) = true := by decide +kernel
theorem ck_77_1 : cl_77_1.all (fun q => mchk 77 q.1 q.2) = true := by decide +kernel
theorem ck_77_2 : cl_77_2.all (fun q => mchk 77 q.1 q.2) = true := by decide +kernel
theorem ck_77_3 : cl_77_3.all (fun q => mchk 77 q.1 q.2) = true := by decide +kernel
theorem ck_77_4 : cl_77_4.all (fun q => mchk 77 q.1 q.2) = true := by decide +kernel
theorem ck_77_5 : cl_77_5.all (fun q => mchk 77 q.1 q.2) = true := by decide +kernel
theorem ck_77_6 : cl_77_6.all (fun q => mchk 77 q.1 q.2) = true := by decide +kernel
theorem cdok_77 (pc : Nat) (I : mI) : cd_77 pc = some I → mchk 77 pc I = true := (fun h => bif_ok h (fun h => bif_ok h (fun h => chunk_ok ck_77_0 h) (fun h => bif_ok h (fun h => chunk_ok ck_77_1 h) (fun h => chunk_ok ck_77_2 h))) (fun h => bif_ok h (fun h => bif_ok h (fun h => chunk_ok ck_77_3 h) (fun h => chunk_ok ck_77_4 h)) (fun h => bif_ok h (fun h => chunk_ok ck_77_5 h) (fun h => chunk_ok ck_77_6 h))))
theorem ck_78_0 : cl_78_0.all (fun q => mchk 78 q.1 q.2) = true := by decide +kernel
theorem ck_78_1 : cl_78_1.all (fun q => mchk 78 q.1 q.2) = true := by decide +kernel
theorem ck_78_2 : cl_78_2.all (fun q => mchk 78 q.1 q.2) = true := by decide +kernel
theorem ck_78_3 : cl_78_3.all (fun q => mchk 78 q.1 q.2) = true := by decide +kernel
theorem ck_78_4 : cl_78_4.all (fun q => mchk 78 q.1 q.2) = true := by decide +kernel
theorem ck_78_5 : cl_78_5.all (fun q => mchk 78 q.1 q.2) = true := by decide +kernel
theorem ck_78_6 : cl_78_6.all (fun q => mchk 78 q.1 q.2) = true := by decide +kernel
theorem ck_78_7 : cl_78_7.all (fun q => mchk 78 q.1 q.2) = true := by decide +kernel
theorem ck_78_8 : cl_78_8.all (fun q => mchk 78 q.1 q.2) = true := by decide +kernel
theorem cdok_78 (pc : Nat) (I : mI) : cd_78 pc = some I → mchk 78 pc I = true := (fun h => bif_ok h (fun h => bif_ok h (fun h => bif_ok h (fun h => chunk_ok ck_78_0 h) (fun h => chunk_ok ck_78_1 h)) (fun h => bif_ok h (fun h => chunk_ok ck_78_2 h) (fun h => chunk_ok ck_78_3 h))) (fun h => bif_ok h (fun h => bif_ok h (fun h => chunk_ok ck_78_4 h) (fun h => chunk_ok ck_78_5 h)) (fun h => bif_ok h (fun h => chunk_ok ck_78_6 h) (fun h => bif_ok h (fun h => chunk_ok ck_78_7 h) (fun h => chunk_ok ck_78_8 h)))))
theorem ck_79_0 : cl_79_0.all (fun q => mchk 79 q.1 q.2) = true := by decide +kernel
theorem ck_79_1 : cl_79_1.all (fun q => mchk 79 q.1 q.2) = true := by decide +kernel
theorem ck_79_2 : cl_79_2.all (fun q => mchk 79 q.1 q.2) = true := by decide +kernel
theorem ck_79_3 : cl_79_3.all (fun q => mchk 79 q.1 q.2) = true := by decide +kernel
theorem cdok_79 (pc : Nat) (I : mI) : cd_79 pc = some I → mchk 79 pc I = true := (fun h => bif_ok h (fun h => bif_ok h (fun h => chunk_ok ck_79_0 h) (fun h => chunk_ok ck_79_1 h)) (fun h => bif_ok h (fun h => chunk_ok ck_79_2 h) (fun h => chunk_ok ck_79_3 h)))
theorem ck_80_0 : cl_80_0.all (fun q => mchk 80 q.1 q.2) = true := by decide +kernel
theorem ck_80_1 : cl_80_1.all (fun q => mchk 80 q.1 q.2) = true := by decide +kernel
theorem ck_80_2 : cl_80_2.all (fun q => mchk 80 q.1 q.2) = true := by decide +kernel
theorem ck_80_3 : cl_80_3.all (fun q => mchk 80 q.1 q.2) = true := by decide +kernel
theorem ck_80_4 : cl_80_4.all (fun q => mchk 80 q.1 q.2) = true := by decide +kernel
theorem cdok_80 (pc : Nat) (I : mI) : cd_80 pc = some I → mchk 80 pc I = true := (fun h => bif_ok h (fun h => bif_ok h (fun h => chunk_ok ck_80_0 h) (fun h => chunk_ok ck_80_1 h)) (fun h => bif_ok h (fun h => chunk_ok ck_80_2 h) (fun h => bif_ok h (fun h => chunk_ok ck_80_3 h) (fun h => chunk_ok ck_80_4 h))))
theorem ck_81_0 : cl_81_0.all (fun q => mchk 81 q.1 q.2) = true := by decide +kernel
theorem ck_81_1 : cl_81_1.all (fun q => mchk 81 q.1 q.2) = true := by decide +kernel
theorem ck_81_2 : cl_81_2.all (fun q => mchk 81 q.1 q.2) = true := by decide +kernel
theorem ck_81_3 : cl_81_3.all (fun q => mchk 81 q.1 q.2) = true := by decide +kernel
theorem cdok_81 (pc : Nat) (I : mI) : cd_81 pc = some I → mchk 81 pc I = true := (fun h => bif_ok h (fun h => bif_ok h (fun h => chunk_ok ck_81_0 h) (fun h => chunk_ok ck_81_1 h)) (fun h => bif_ok h (fun h => chunk_ok ck_81_2 h) (fun h => chunk_ok ck_81_3 h)))
theorem ck_82_0 : cl_82_0.all (fun q => mchk 82 q.1 q.2) = true := by decide +kernel
theorem cdok_82 (pc : Nat) (I : mI) : cd_82 pc = some I → mchk 82 pc I = true := (fun h => chunk_ok ck_82_0 h)
theorem ck_83_0 : cl_83_0.all (fun q => mchk 83 q.1 q.2) = true := by decide +kernel
theorem ck_83_1 : cl_83_1.all (fun q => mchk 83 q.1 q.2) = true := by decide +kernel
theorem ck_83_2 : cl_83_2.all (fun q => mchk 83 q.1 q.2) = true := by decide +kernel
theorem ck_83_3 : cl_83_3.all (fun q => mchk 83 q.1 q.2) = true := by decide +kernel
theorem ck_83_4 : cl_83_4.all (fun q => mchk 83 q.1 q.2) = true := by decide +kernel
theorem ck_83_5 : cl_83_5.all (fun q => mchk 83 q.1 q.2) = true := by decide +kernel
theorem ck_83_6 : cl_83_6.all (fun q => mchk 83 q.1 q.2) = true := by decide +kernel
theorem ck_83_7 : cl_83_7.all (fun q => mchk 83 q.1 q.2) = true := by decide +kernel
theorem ck_83_8 : cl_83_8.all (fun q => mchk 83 q.1 q.2) = true := by decide +kernel
theorem cdok_83 (pc : Nat) (I : mI) : cd_83 pc = some I → mchk 83 pc I = true := (fun h => bif_ok h (fun h => bif_ok h (fun h => bif_ok h (fun h => chunk_ok ck_83_0 h) (fun h => chunk_ok ck_83_1 h)) (fun h => bif_ok h (fun h => chunk_ok ck_83_2 h) (fun h => chunk_ok ck_83_3 h))) (fun h => bif_ok h (fun h => bif_ok h (fun h => chunk_ok ck_83_4 h) (fun h => chunk_ok ck_83_5 h)) (fun h => bif_ok h (fun h => chunk_ok ck_83_6 h) (fun h => bif_ok h (fun h => chunk_ok ck_83_7 h) (fun h => chunk_ok ck_83_8 h)))))
theorem ck_84_0 : cl_84_0.all (fun q => mchk 84 q.1 q.2) = true := by decide +kernel
theorem ck_84_1 : cl_84_1.all (fun q => mchk 84 q.1 q.2) = true := by decide +kernel
theorem cdok_84 (pc : Nat) (I : mI) : cd_84 pc = some I → mchk 84 pc I = true := (fun h => bif_ok h (fun h => chunk_ok ck_84_0 h) (fun h => chunk_ok ck_84_1 h))
theorem ck_85_0 : cl_85_0.all (fun q => mchk 85 q.1 q.2) = true := by decide +kernel
theorem ck_85_1 : cl_85_1.all (fun q => mchk 85 q.1 q.2) = true := by decide +kernel
theorem ck_85_2 : cl_85_2.all (fun q => mchk 85 q.1 q.2) = true := by decide +kernel
theorem ck_85_3 : cl_85_3.all (fun q => mchk 85 q.1 q.2) = true := by decide +kernel
theorem cdok_85 (pc : Nat) (I : mI) : cd_85 pc = some I → mchk 85 pc I = true := (fun h => bif_ok h (fun h => bif_ok h (fun h => chunk_ok ck_85_0 h) (fun h => chunk_ok ck_85_1 h)) (fun h => bif_ok h (fun h => chunk_ok ck_85_2 h) (fun h => chunk_ok ck_85_3 h)))
theorem ck_86_0 : cl_86_0.all (fun q => mchk 86 q.1 q.2) = true := by decide +kernel
theorem ck_86_1 : cl_86_1.all (fun q => mchk 86 q.1 q.2) = true := by decide +kernel
theorem ck_86_2 : cl_86_2.all (fun q => mchk 86 q.1 q.2) = true := by decide +kernel
theorem cdok_86 (pc : Nat) (I : mI) : cd_86 pc = some I → mchk 86 pc I = true := (fun h => bif_ok h (fun h => chunk_ok ck_86_0 h) (fun h => bif_ok h (fun h => chunk_ok ck_86_1 h) (fun h => chunk_ok ck_86_2 h)))
theorem ck_89_0 : cl_89_0.all (fun q => mchk 89 q.1 q.2) = true := by decide +kernel
theorem ck_89_1 : cl_89_1.all (fun q => mchk 89 q.1 q.2) = true := by decide +kernel
theorem ck_89_2 : cl_89_2.all (fun q => mchk 89 q.1 q.2) = true := by decide +kernel
theorem ck_89_3 : cl_89_3.all (fun q => mchk 89 q.1 q.2) = true := by decide +kernel
theorem ck_89_4 : cl_89_4.all (fun q => mchk 89 q.1 q.2) = true := by decide +kernel
theorem ck_89_5 : cl_89_5.all (fun q => mchk 89 q.1 q.2) = true := by decide +kernel
theorem ck_89_6 : cl_89_6.all (fun q => mchk 89 q.1 q.2) = true := by decide +kernel
theorem cdok_89 (pc : Nat) (I : mI) : cd_89 pc = some I → mchk 89 pc I = true := (fun h => bif_ok h (fun h => bif_ok h (fun h => chunk_ok ck_89_0 h) (fun h => bif_ok h (fun h => chunk_ok ck_89_1 h) (fun h => chunk_ok ck_89_2 h))) (fun h => bif_ok h (fun h => bif_ok h (fun h => chunk_ok ck_89_3 h) (fun h => chunk_ok ck_89_4 h)) (fun h => bif_ok h (fun h => chunk_ok ck_89_5 h) (fun h => chunk_ok ck_89_6 h))))
theorem ck_90_0 : cl_90_0.all (fun q => mchk 90 q.1 q.2) = true := by decide +kernel
theorem ck_90_1 : cl_90_1.all (fun q => mchk 90 q.1 q.2) = true := by decide +kernel
theorem ck_90_2 : cl_90_2.all (fun q => mchk 90 q.1 q.2) = true := by decide +kernel
theorem ck_90_3 : cl_90_3.all (fun q => mchk 90 q.1 q.2) = true := by decide +kernel
theorem cdok_90 (pc : Nat) (I : mI) : cd_90 pc = some I → mchk 90 pc I = true := (fun h => bif_ok h (fun h => bif_ok h (fun h => chunk_ok ck_90_0 h) (fun h => chunk_ok ck_90_1 h)) (fun h => bif_ok h (fun h => chunk_ok ck_90_2 h) (fun h => chunk_ok ck_90_3 h)))
theorem ck_91_0 : cl_91_0.all (fun q => mchk 91 q.1 q.2) = true := by decide +kernel
theorem ck_91_1 : cl_91_1.all (fun q => mchk 91 q.1 q.2) = true := by decide +kernel
theorem cdok_91 (pc : Nat) (I : mI) : cd_91 pc = some I → mchk 91 pc I = true := (fun h => bif_ok h (fun h => chunk_ok ck_91_0 h) (fun h => chunk_ok ck_91_1 h))
theorem ck_92_0 : cl_92_0.all (fun q => mchk 92 q.1 q.2) = true := by decide +kernel
theorem ck_92_1 : cl_92_1.all (fun q => mchk 92 q.1 q.2) = true := by decide +kernel
theorem ck_92_2 : cl_92_2.all (fun q => mchk 92 q.1 q.2) = true := by decide +kernel
theorem cdok_92 (pc : Nat) (I : mI) : cd_92 pc = some I → mchk 92 pc I = true := (fun h => bif_ok h (fun h => chunk_ok ck_92_0 h) (fun h => bif_ok h (fun h => chunk_ok ck_92_1 h) (fun h => chunk_ok ck_92_2 h)))
theorem ck_93_0 : cl_93_0.all (fun q => mchk 93 q.1 q.2) = true := by decide +kernel
theorem ck_93_1 : cl_93_1.all (fun q => mchk 93 q.1 q.2) = true := by decide +kernel
theorem ck_93_2 : cl_93_2.all (fun q => mchk 93 q.1 q.2) = true := by decide +kernel
theorem ck_93_3 : cl_93_3.all (fun q => mchk 93 q.1 q.2) = true := by decide +kernel
theorem cdok_93 (pc : Nat) (I : mI) : cd_93 pc = some I → mchk 93 pc I = true := (fun h => bif_ok h (fun h => bif_ok h (fun h => chunk_ok ck_93_0 h) (fun h => chunk_ok ck_93_1 h)) (fun h => bif_ok h (fun h => chunk_ok ck_93_2 h) (fun h => chunk_ok ck_93_3 h)))
theorem ck_94_0 : cl_94_0.all (fun q => mchk 94 q.1 q.2) = true := by decide +kernel
theorem ck_94_1 : cl_94_1.all (fun q => mchk 94 q.1 q.2) = true := by decide +kernel
theorem cdok_94 (pc : Nat) (I : mI) : cd_94 pc = some I → mchk 94 pc I = true := (fun h => bif_ok h (fun h => chunk_ok ck_94_0 h) (fun h => chunk_ok ck_94_1 h))
theorem ck_95_0 : cl_95_0.all (fun q => mchk 95 q.1 q.2) = true := by decide +kernel
theorem ck_95_1 : cl_95_1.all (fun q => mchk 95 q.1 q.2) = true := by decide +kernel
theorem ck_95_2 : cl_95_2.all (fun q => mchk 95 q.1 q.2) = true := by decide +kernel
theorem ck_95_3 : cl_95_3.all (fun q => mchk 95 q.1 q.2) = true := by decide +kernel
theorem ck_95_4 : cl_95_4.all (fun q => mchk 95 q.1 q.2) = true := by decide +kernel
theorem ck_95_5 : cl_95_5.all (fun q => mchk 95 q.1 q.2) = true := by decide +kernel
theorem ck_95_6 : cl_95_6.all (fun q => mchk 95 q.1 q.2) = true := by decide +kernel
theorem ck_95_7 : cl_95_7.all (fun q => mchk 95 q.1 q.2) = true := by decide +kernel
theorem ck_95_8 : cl_95_8.all (fun q => mchk 95 q.1 q.2) = true := by decide +kernel
theorem cdok_95 (pc : Nat) (I : mI) : cd_95 pc = some I → mchk 95 pc I = true := (fun h => bif_ok h (fun h => bif_ok h (fun h => bif_ok h (fun h => chunk_ok ck_95_0 h) (fun h => chunk_ok ck_95_1 h)) (fun h => bif_ok h (fun h => chunk_ok ck_95_2 h) (fun h => chunk_ok ck_95_3 h))) (fun h => bif_ok h (fun h => bif_ok h (fun h => chunk_ok ck_95_4 h) (fun h => chunk_ok ck_95_5 h)) (fun h => bif_ok h (fun h => chunk_ok ck_95_6 h) (fun h => bif_ok h (fun h => chunk_ok ck_95_7 h) (fun h => chunk_ok ck_95_8 h)))))
theorem ck_96_0 : cl_96_0.all (fun q => mchk 96 q.1 q.2) = true := by decide +kernel
theorem cdok_96 (pc : Nat) (I : mI) : cd_96 pc = some I → mchk 96 pc I = true := (fun h => chunk_ok ck_96_0 h)
theorem ck_97_0 : cl_97_0.all (fun q => mchk 97 q.1 q.2) = true := by decide +kernel
theorem ck_97_1 : cl_97_1.all (fun q => mchk 97 q.1 q.2) = true := by decide +kernel
theorem ck_97_2 : cl_97_2.all (fun q => mchk 97 q.1 q.2) = true := by decide +kernel
theorem ck_97_3 : cl_97_3.all (fun q => mchk 97 q.1 q.2) = true := by decide +kernel
theorem ck_97_4 : cl_97_4.all (fun q => mchk 97 q.1 q.2) = true := by decide +kernel
theorem ck_97_5 : cl_97_5.all (fun q => mchk 97 q.1 q.2) = true := by decide +kernel
theorem cdok_97 (pc : Nat) (I : mI) : cd_97 pc = some I → mchk 97 pc I = true := (fun h => bif_ok h (fun h => bif_ok h (fun h => chunk_ok ck_97_0 h) (fun h => bif_ok h (fun h => chunk_ok ck_97_1 h) (fun h => chunk_ok ck_97_2 h))) (fun h => bif_ok h (fun h => chunk_ok ck_97_3 h) (fun h => bif_ok h (fun h => chunk_ok ck_97_4 h) (fun h => chunk_ok ck_97_5 h))))
theorem ck_98_0 : cl_98_0.all (fun q => mchk 98 q.1 q.2) = true := by decide +kernel
theorem cdok_98 (pc : Nat) (I : mI) : cd_98 pc = some I → mchk 98 pc I = true := (fun h => chunk_ok ck_98_0 h)
theorem ck_99_0 : cl_99_0.all (fun q => mchk 99 q.1 q.2) = true := by decide +kernel
theorem ck_99_1 : cl_99_1.all (fun q => mchk 99 q.1 q.2) = true := by decide +kernel
theorem cdok_99 (pc : Nat) (I : mI) : cd_99 pc = some I → mchk 99 pc I = true := (fun h => bif_ok h (fun h => chunk_ok ck_99_0 h) (fun h => chunk_ok ck_99_1 h))
theorem ck_100_0 : cl_100_0.all (fun q => mchk 100 q.1 q.2) = true := by decide +kernel
theorem ck_100_1 : cl_100_1.all (fun q => mchk 100 q.1 q.2) = true := by decide +kernel
theorem cdok_100 (pc : Nat) (I : mI) : cd_100 pc = some I → mchk 100 pc I = true := (fun h => bif_ok h (fun h => chunk_ok ck_100_0 h) (fun h => chunk_ok ck_100_1 h))
theorem ck_101_0 : cl_101_0.all (fun q => mchk 101 q.1 q.2) = true := by decide +kernel
theorem ck_101_1 : cl_101_1.all (fun q => mchk 101 q.1 q.2) = true := by decide +kernel
theorem ck_101_2 : cl_101_2.all (fun q => mchk 101 q.1 q.2) = true := by decide +kernel
theorem ck_101_3 : cl_101_3.all (fun q => mchk 101 q.1 q.2) = true := by decide +kernel
theorem ck_101_4 : cl_101_4.all (fun q => mchk 101 q.1 q.2) = true := by decide +kernel
theorem ck_101_5 : cl_101_5.all (fun q => mchk 101 q.1 q.2) = true := by decide +kernel
theorem ck_101_6 : cl_101_6.all (fun q => mchk 101 q.1 q.2) = true := by decide +kernel
theorem ck_101_7 : cl_101_7.all (fun q => mchk 101 q.1 q.2) = true := by decide +kernel
theorem cdok_101 (pc : Nat) (I : mI) : cd_101 pc = some I → mchk 101 pc I = true := (fun h => bif_ok h (fun h => bif_ok h (fun h => bif_ok h (fun h => chunk_ok ck_101_0 h) (fun h => chunk_ok ck_101_1 h)) (fun h => bif_ok h (fun h => chunk_ok ck_101_2 h) (fun h => chunk_ok ck_101_3 h))) (fun h => bif_ok h (fun h => bif_ok h (fun h => chunk_ok ck_101_4 h) (fun h => chunk_ok ck_101_5 h)) (fun h => bif_ok h (fun h => chunk_ok ck_101_6 h) (fun h => chunk_ok ck_101_7 h))))
theorem ck_103_0 : cl_103_0.all (fun q => mchk 103 q.1 q.2) = true := by decide +kernel
theorem ck_103_1 : cl_103_1.all (fun q => mchk 103 q.1 q.2) = true := by decide +kernel
theorem ck_103_2 : cl_103_2.all (fun q => mchk 103 q.1 q.2) = true := by decide +kernel
theorem ck_103_3 : cl_103_3.all (fun q => mchk 103 q.1 q.2) = true := by decide +kernel
theorem cdok_103 (pc : Nat) (I : mI) : cd_103 pc = some I → mchk 103 pc I = true := (fun h => bif_ok h (fun h => bif_ok h (fun h => chunk_ok ck_103_0 h) (fun h => chunk_ok ck_103_1 h)) (fun h => bif_ok h (fun h => chunk_ok ck_103_2 h) (fun h => chunk_ok ck_103_3 h)))
theorem ck_105_0 : cl_105_0.all (fun q => mchk 105 q.1 q.2) = true := by decide +kernel
theorem ck_105_1 : cl_105_1.all (fun q => mchk 105 q.1 q.2) = true := by decide +kernel
theorem ck_105_2 : cl_105_2.all (fun q => mchk 105 q.1 q.2) = true := by decide +kernel
theorem ck_105_3 : cl_105_3.all (fun q => mchk 105 q.1 q.2) = true := by decide +kernel
theorem ck_105_4 : cl_105_4.all (fun q => mchk 105 q.1 q.2) = true := by decide +kernel
theorem cdok_105 (pc : Nat) (I : mI) : cd_105 pc = some I → mchk 105 pc I = true := (fun h => bif_ok h (fun h => bif_ok h (fun h => chunk_ok ck_105_0 h) (fun h => chunk_ok ck_105_1 h)) (fun h => bif_ok h (fun h => chunk_ok ck_105_2 h) (fun h => bif_ok h (fun h => chunk_ok ck_105_3 h) (fun h => chunk_ok ck_105_4 h))))
theorem ck_106_0 : cl_106_0.all (fun q => mchk 106 q.1 q.2) = true := by decide +kernel
theorem ck_106_1 : cl_106_1.all (fun q => mchk 106 q.1 q.2) = true := by decide +kernel
theorem cdok_106 (pc : Nat) (I : mI) : cd_106 pc = some I → mchk 106 pc I = true := (fun h => bif_ok h (fun h => chunk_ok ck_106_0 h) (fun h => chunk_ok ck_106_1 h))
theorem ck_107_0 : cl_107_0.all (fun q => mchk 107 q.1 q.2) = true := by decide +kernel
theorem ck_107_1 : cl_107_1.all (fun q => mchk 107 q.1 q.2) = true := by decide +kernel
theorem cdok_107 (pc : Nat) (I : mI) : cd_107 pc = some I → mchk 107 pc I = true := (fun h => bif_ok h (fun h => chunk_ok ck_107_0 h) (fun h => chunk_ok ck_107_1 h))
theorem ck_108_0 : cl_108_0.all (fun q => mchk 108 q.1 q.2) = true := by decide +kernel
theorem ck_108_1 : cl_108_1.all (fun q => mchk 108 q.1 q.2) = true := by decide +kernel
theorem cdok_108 (pc : Nat) (I : mI) : cd_108 pc = some I → mchk 108 pc I = true := (fun h => bif_ok h (fun h => chunk_ok ck_108_0 h) (fun h => chunk_ok ck_108_1 h))
theorem ck_109_0 : cl_109_0.all (fun q => mchk 109 q.1 q.2) = true := by decide +kernel
theorem cdok_109 (pc : Nat) (I : mI) : cd_109 pc = some I → mchk 109 pc I = true := (fun h => chunk_ok ck_109_0 h)
theorem ck_110_0 : cl_110_0.all (fun q => mchk 110 q.1 q.2) = true := by decide +kernel
theorem cdok_110 (pc : Nat) (I : mI) : cd_110 pc = some I → mchk 110 pc I = true := (fun h => chunk_ok ck_110_0 h)
theorem ck_111_0 : cl_111_0.all (fun q => mchk 111 q.1 q.2) = true := by decide +kernel
theorem ck_111_1 : cl_111_1.all (fun q => mchk 111 q.1 q.2) = true := by decide +kernel
theorem cdok_111 (pc : Nat) (I : mI) : cd_111 pc = some I → mchk 111 pc I = true := (fun h => bif_ok h (fun h => chunk_ok ck_111_0 h) (fun h => chunk_ok ck_111_1 h))
theorem ck_112_0 : cl_112_0.all (fun q => mchk 112 q.1 q.2) = true := by decide +kernel
theorem ck_112_1 : cl_112_1.all (fun q => mchk 112 q.1 q.2) = true := by decide +kernel
theorem ck_112_2 : cl_112_2.all (fun q => mchk 112 q.1 q.2) = true := by decide +kernel
theorem ck_112_3 : cl_112_3.all (fun q => mchk 112 q.1 q.2) = true := by decide +kernel
theorem cdok_112 (pc : Nat) (I : mI) : cd_112 pc = some I → mchk 112 pc I = true := (fun h => bif_ok h (fun h => bif_ok h (fun h => chunk_ok ck_112_0 h) (fun h => chunk_ok ck_112_1 h)) (fun h => bif_ok h (fun h => chunk_ok ck_112_2 h) (fun h => chunk_ok ck_112_3 h)))
theorem ck_113_0 : cl_113_0.all (fun q => mchk 113 q.1 q.2) = true := by decide +kernel
theorem ck_113_1 : cl_113_1.all (fun q => mchk 113 q.1 q.2) = true := by decide +kernel
theorem ck_113_2 : cl_113_2.all (fun q => mchk 113 q.1 q.2) = true := by decide +kernel
theorem ck_113_3 : cl_113_3.all (fun q => mchk 113 q.1 q.2) = true := by decide +kernel
theorem cdok_113 (pc : Nat) (I : mI) : cd_113 pc = some I → mchk 113 pc I = true := (fun h => bif_ok h (fun h => bif_ok h (fun h => chunk_ok ck_113_0 h) (fun h => chunk_ok ck_113_1 h)) (fun h => bif_ok h (fun h => chunk_ok ck_113_2 h) (fun h => chunk_ok ck_113_3 h)))
theorem ck_114_0 : cl_114_0.all (fun q => mchk 114 q.1 q.2) = true := by decide +kernel
theorem ck_114_1 : cl_114_1.all (fun q => mchk 114 q.1 q.2) = true := by decide +kernel
theorem cdok_114 (pc : Nat) (I : mI) : cd_114 pc = some I → mchk 114 pc I = true := (fun h => bif_ok h (fun h => chunk_ok ck_114_0 h) (fun h => chunk_ok ck_114_1 h))
theorem ck_115_0 : cl_115_0.all (fun q => mchk 115 q.1 q.2) = true := by decide +kernel
theorem ck_115_1 : cl_115_1.all (fun q => mchk 115 q.1 q.2) = true := by decide +kernel
theorem ck_115_2 : cl_115_2.all (fun q => mchk 115 q.1 q.2) = true := by decide +kernel
theorem ck_115_3 : cl_115_3.all (fun q => mchk 115 q.1 q.2) = true := by decide +kernel
theorem ck_115_4 : cl_115_4.all (fun q => mchk 115 q.1 q.2) = true := by decide +kernel
theorem ck_115_5 : cl_115_5.all (fun q => mchk 115 q.1 q.2) = true := by decide +kernel
theorem cdok_115 (pc : Nat) (I : mI) : cd_115 pc = some I → mchk 115 pc I = true := (fun h => bif_ok h (fun h => bif_ok h (fun h => chunk_ok ck_115_0 h) (fun h => bif_ok h (fun h => chunk_ok ck_115_1 h) (fun h => chunk_ok ck_115_2 h))) (fun h => bif_ok h (fun h => chunk_ok ck_115_3 h) (fun h => bif_ok h (fun h => chunk_ok ck_115_4 h) (fun h => chunk_ok ck_115_5 h))))
theorem ck_116_0 : cl_116_0.all (fun q => mchk 116 q.1 q.2) = true := by decide +kernel
theorem ck_116_1 : cl_116_1.all (fun q => mchk 116 q.1 q.2) = true := by decide +kernel
theorem ck_116_2 : cl_116_2.all (fun q => mchk 116 q.1 q.2) = true := by decide +kernel
theorem ck_116_3 : cl_116_3.all (fun q => mchk 116 q.1 q.2) = true := by decide +kernel
theorem cdok_116 (pc : Nat) (I : mI) : cd_116 pc = some I → mchk 116 pc I = true := (fun h => bif_ok h (fun h => bif_ok h (fun h => chunk_ok ck_116_0 h) (fun h => chunk_ok ck_116_1 h)) (fun h => bif_ok h (fun h => chunk_ok ck_116_2 h) (fun h => chunk_ok ck_116_3 h)))
theorem ck_117_0 : cl_117_0.all (fun q => mchk 117 q.1 q.2) = true := by decide +kernel
theorem ck_117_1 : cl_117_1.all (fun q => mchk 117 q.1 q.2) = true := by decide +kernel
theorem cdok_117 (pc : Nat) (I : mI) : cd_117 pc = some I → mchk 117 pc I = true := (fun h => bif_ok h (fun h => chunk_ok ck_117_0 h) (fun h => chunk_ok ck_117_1 h))
theorem ck_118_0 : cl_118_0.all (fun q => mchk 118 q.1 q.2) = true := by decide +kernel
theorem ck_118_1 : cl_118_1.all (fun q => mchk 118 q.1 q.2) = true := by decide +kernel
theorem ck_118_2 : cl_118_2.all (fun q => mchk 118 q.1 q.2) = true := by decide +kernel
theorem ck_118_3 : cl_118_3.all (fun q => mchk 118 q.1 q.2) = true := by decide +kernel
theorem ck_118_4 : cl_118_4.all (fun q => mchk 118 q.1 q.2) = true := by decide +kernel
theorem cdok_118 (pc : Nat) (I : mI) : cd_118 pc = some I → mchk 118 pc I = true := (fun h => bif_ok h (fun h => bif_ok h (fun h => chunk_ok ck_118_0 h) (fun h => chunk_ok ck_118_1 h)) (fun h => bif_ok h (fun h => chunk_ok ck_118_2 h) (fun h => bif_ok h (fun h => chunk_ok ck_118_3 h) (fun h => chunk_ok ck_118_4 h))))
theorem ck_119_0 : cl_119_0.all (fun q => mchk 119 q.1 q.2) = true := by decide +kernel
theorem ck_119_1 : cl_119_1.all (fun q => mchk 119 q.1 q.2) = true := by decide +kernel
theorem cdok_119 (pc : Nat) (I : mI) : cd_119 pc = some I → mchk 119 pc I = true := (fun h => bif_ok h (fun h => chunk_ok ck_119_0 h) (fun h => chunk_ok ck_119_1 h))
theorem ck_121_0 : cl_121_0.all (fun q => mchk 121 q.1 q.2) = true := by decide +kernel
theorem ck_121_1 : cl_121_1.all (fun q => mchk 121 q.1 q.2) = true := by decide +kernel
theorem ck_121_2 : cl_121_2.all (fun q => mchk 121 q.1 q.2) = true := by decide +kernel
theorem cdok_121 (pc : Nat) (I : mI) : cd_121 pc = some I → mchk 121 pc I = true := (fun h => bif_ok h (fun h => chunk_ok ck_121_0 h) (fun h => bif_ok h (fun h => chunk_ok ck_121_1 h) (fun h => chunk_ok ck_121_2 h)))
theorem ck_122_0 : cl_122_0.all (fun q => mchk 122 q.1 q.2) = true := by decide +kernel
theorem ck_122_1 : cl_122_1.all (fun q => mchk 122 q.1 q.2) = true := by decide +kernel
theorem cdok_122 (pc : Nat) (I : mI) : cd_122 pc = some I → mchk 122 pc I = true := (fun h => bif_ok h (fun h => chunk_ok ck_122_0 h) (fun h => chunk_ok ck_122_1 h))
theorem ck_123_0 : cl_123_0.all (fun q => mchk 123 q.1 q.2) = true := by decide +kernel
theorem ck_123_1 : cl_123_1.all (fun q => mchk 123 q.1 q.2) = true := by decide +kernel
theorem cdok_123 (pc : Nat) (I : mI) : cd_123 pc = some I → mchk 123 pc I = true := (fun h => bif_ok h (fun h => chunk_ok ck_123_0 h) (fun h => chunk_ok ck_123_1 h))
theorem ck_124_0 : cl_124_0.all (fun q => mchk 124 q.1 q.2) = true := by decide +kernel
theorem ck_124_1 : cl_124_1.all (fun q => mchk 124 q.1 q.2) = true := by decide +kernel
theorem cdok_124 (pc : Nat) (I : mI) : cd_124 pc = some I → mchk 124 pc I = true := (fun h => bif_ok h (fun h => chunk_ok ck_124_0 h) (fun h => chunk_ok ck_124_1 h))
theorem ck_125_0 : cl_125_0.all (fun q => mchk 125 q.1 q.2) = true := by decide +kernel
theorem ck_125_1 : cl_125_1.all (fun q => mchk 125 q.1 q.2) = true := by decide +kernel
theorem ck_125_2 : cl_125_2.all (fun q => mchk 125 q.1 q.2) = true := by decide +kernel
theorem ck_125_3 : cl_125_3.all (fun q => mchk 125 q.1 q.2) = true := by decide +kernel
theorem cdok_125 (pc : Nat) (I : mI) : cd_125 pc = some I → mchk 125 pc I = true := (fun h => bif_ok h (fun h => bif_ok h (fun h => chunk_ok ck_125_0 h) (fun h => chunk_ok ck_125_1 h)) (fun h => bif_ok h (fun h => chunk_ok ck_125_2 h) (fun h => chunk_ok ck_125_3 h)))
theorem ck_126_0 : cl_126_0.all (fun q => mchk 126 q.1 q.2) = true := by decide +kernel
theorem ck_126_1 : cl_126_1.all (fun q => mchk 126 q.1 q.2) = true := by decide +kernel
theorem ck_126_2 : cl_126_2.all (fun q => mchk 126 q.1 q.2) = true := by decide +kernel
theorem ck_126_3 : cl_126_3.all (fun q => mchk 126 q.1 q.2) = true := by decide +kernel
theorem ck_126_4 : cl_126_4.all (fun q => mchk 126 q.1 q.2) = true := by decide +kernel
theorem ck_126_5 : cl_126_5.all (fun q => mchk 126 q.1 q.2) = true := by decide +kernel
theorem cdok_126 (pc : Nat) (I : mI) : cd_126 pc = some I → mchk 126 pc I = true := (fun h => bif_ok h (fun h => bif_ok h (fun h => chunk_ok ck_126_0 h) (fun h => bif_ok h (fun h => chunk_ok ck_126_1 h) (fun h => chunk_ok ck_126_2 h))) (fun h => bif_ok h (fun h => chunk_ok ck_126_3 h) (fun h => bif_ok h (fun h => chunk_ok ck_126_4 h) (fun h => chunk_ok ck_126_5 h))))
theorem ck_127_0 : cl_127_0.all (fun q => mchk 127 q.1 q.2) = true := by decide +kernel
theorem ck_127_1 : cl_127_1.all (fun q => mchk 127 q.1 q.2) = true := by decide +kernel
theorem ck_127_2 : cl_127_2.all (fun q => mchk 127 q.1 q.2) = true := by decide +kernel
theorem cdok_127 (pc : Nat) (I : mI) : cd_127 pc = some I → mchk 127 pc I = true := (fun h => bif_ok h (fun h => chunk_ok ck_127_0 h) (fun h => bif_ok h (fun h => chunk_ok ck_127_1 h) (fun h => chunk_ok ck_127_2 h)))
theorem ck_128_0 : cl_128_0.all (fun q => mchk 128 q.1 q.2) = true := by decide +kernel
theorem ck_128_1 : cl_128_1.all (fun q => mchk 128 q.1 q.2) = true := by decide +kernel
theorem cdok_128 (pc : Nat) (I : mI) : cd_128 pc = some I → mchk 128 pc I = true := (fun h => bif_ok h (fun h => chunk_ok ck_128_0 h) (fun h => chunk_ok ck_128_1 h))
theorem ck_129_0 : cl_129_0.all (fun q => mchk 129 q.1 q.2) = true := by decide +kernel
theorem ck_129_1 : cl_129_1.all (fun q => mchk 129 q.1 q.2) = true := by decide +kernel
theorem ck_129_2 : cl_129_2.all (fun q => mchk 129 q.1 q.2) = true := by decide +kernel
theorem ck_129_3 : cl_129_3.all (fun q => mchk 129 q.1 q.2) = true := by decide +kernel
theorem ck_129_4 : cl_129_4.all (fun q => mchk 129 q.1 q.2) = true := by decide +kernel
theorem cdok_129 (pc : Nat) (I : mI) : cd_129 pc = some I → mchk 129 pc I = true := (fun h => bif_ok h (fun h => bif_ok h (fun h => chunk_ok ck_129_0 h) (fun h => chunk_ok ck_129_1 h)) (fun h => bif_ok h (fun h => chunk_ok ck_129_2 h) (fun h => bif_ok h (fun h => chunk_ok ck_129_3 h) (fun h => chunk_ok ck_129_4 h))))
theorem ck_284_0 : cl_284_0.all (fun q => mchk 284 q.1 q.2) = true := by decide +kernel
theorem ck_284_1 : cl_284_1.all (fun q => mchk 284 q.1 q.2) = true := by decide +kernel
theorem cdok_284 (pc : Nat) (I : mI) : cd_284 pc = some I → mchk 284 pc I = true := (fun h => bif_ok h (fun h => chunk_ok ck_284_0 h) (fun h => chunk_ok ck_284_1 h))
theorem ck_285_0 : cl_285_0.all (fun q => mchk 285 q.1 q.2) = true := by decide +kernel
theorem cdok_285 (pc : Nat) (I : mI) : cd_285 pc = some I → mchk 285 pc I = true := (fun h => chunk_ok ck_285_0 h)
theorem ck_286_0 : cl_286_0.all (fun q => mchk 286 q.1 q.2) = true := by decide +kernel
theorem cdok_286 (pc : Nat) (I : mI) : cd_286 pc = some I → mchk 286 pc I = true := (fun h => chunk_ok ck_286_0 h)
theorem ck_287_0 : cl_287_0.all (fun q => mchk 287 q.1 q.2) = true := by decide +kernel
theorem cdok_287 (pc : Nat) (I : mI) : cd_287 pc = some I → mchk 287 pc I = true := (fun h => chunk_ok ck_287_0 h)
theorem ck_288_0 : cl_288_0.all (fun q => mchk 288 q.1 q.2) = true := by decide +kernel
theorem cdok_288 (pc : Nat) (I : mI) : cd_288 pc = some I → mchk 288 pc I = true := (fun h => chunk_ok ck_288_0 h)
theorem ck_289_0 : cl_289_0.all (fun q => mchk 289 q.1 q.2) = true := by decide +kernel
theorem ck_289_1 : cl_289_1.all (fun q => mchk 289 q.1 q.2) = true := by decide +kernel
theorem ck_289_2 : cl_289_2.all (fun q => mchk 289 q.1 q.2) = true := by decide +kernel
theorem ck_289_3 : cl_289_3.all (fun q => mchk 289 q.1 q.2) = true := by decide +kernel
theorem cdok_289 (pc : Nat) (I : mI) : cd_289 pc = some I → mchk 289 pc I = true := (fun h => bif_ok h (fun h => bif_ok h (fun h => chunk_ok ck_289_0 h) (fun h => chunk_ok ck_289_1 h)) (fun h => bif_ok h (fun h => chunk_ok ck_289_2 h) (fun h => chunk_ok ck_289_3 h)))
theorem ck_290_0 : cl_290_0.all (fun q => mchk 290 q.1 q.2) = true := by decide +kernel
theorem cdok_290 (pc : Nat) (I : mI) : cd_290 pc = some I → mchk 290 pc I = true := (fun h => chunk_ok ck_290_0 h)
theorem ck_291_0 : cl_291_0.all (fun q => mchk 291 q.1 q.2) = true := by decide +kernel
theorem ck_291_1 : cl_291_1.all (fun q => mchk 291 q.1 q.2) = true := by decide +kernel
theorem ck_291_2 : cl_291_2.all (fun q => mchk 291 q.1 q.2) = true := by decide +kernel
theorem ck_291_3 : cl_291_3.all (fun q => mchk 291 q.1 q.2) = true := by decide +kernel
theorem ck_291_4 : cl_291_4.all (fun q => mchk 291 q.1 q.2) = true := by decide +kernel
theorem ck_291_5 : cl_291_5.all (fun q => mchk 291 q.1 q.2) = true := by decide +kernel
theorem ck_291_6 : cl_291_6.all (fun q => mchk 291 q.1 q.2) = true := by decide +kernel
theorem cdok_291 (pc : Nat) (I : mI) : cd_291 pc = some I → mchk 291 pc I = true := (fun h => bif_ok h (fun h => bif_ok h (fun h => chunk_ok ck_291_0 h) (fun h => bif_ok h (fun h => chunk_ok ck_291_1 h) (fun h => chunk_ok ck_291_2 h))) (fun h => bif_ok h (fun h => bif_ok h (fun h => chunk_ok ck_291_3 h) (fun h => chunk_ok ck_291_4 h)) (fun h => bif_ok h (fun h => chunk_ok ck_291_5 h) (fun h => chunk_ok ck_291_6 h))))
theorem ck_292_0 : cl_292_0.all (fun q => mchk 292 q.1 q.2) = true := by decide +kernel
theorem ck_292_1 : cl_292_1.all (fun q => mchk 292 q.1 q.2) = true := by decide +kernel
theorem cdok_292 (pc : Nat) (I : mI) : cd_292 pc = some I → mchk 292 pc I = true := (fun h => bif_ok h (fun h => chunk_ok ck_292_0 h) (fun h => chunk_ok ck_292_1 h))
theorem ck_293_0 : cl_293_0.all (fun q => mchk 293 q.1 q.2) = true := by decide +kernel
theorem cdok_293 (pc : Nat) (I : mI) : cd_293 pc = some I → mchk 293 pc I = true := (fun h => chunk_ok ck_293_0 h)
theorem ck_294_0 : cl_294_0.all (fun q => mchk 294 q.1 q.2) = true := by decide +kernel
theorem cdok_294 (pc : Nat) (I : mI) : cd_294 pc = some I → mchk 294 pc I = true := (fun h => chunk_ok ck_294_0 h)
theorem ck_295_0 : cl_295_0.all (fun q => mchk 295 q.1 q.2) = true := by decide +kernel
theorem ck_295_1 : cl_295_1.all (fun q => mchk 295 q.1 q.2) = true := by decide +kernel
theorem cdok_295 (pc : Nat) (I : mI) : cd_295 pc = some I → mchk 295 pc I = true := (fun h => bif_ok h (fun h => chunk_ok ck_295_0 h) (fun h => chunk_ok ck_295_1 h))
theorem ck_297_0 : cl_297_0.all (fun q => mchk 297 q.1 q.2) = true := by decide +kernel
theorem cdok_297 (pc : Nat) (I : mI) : cd_297 pc = some I → mchk 297 pc I = true := (fun h => chunk_ok ck_297_0 h)
theorem ck_298_0 : cl_298_0.all (fun q => mchk 298 q.1 q.2) = true := by decide +kernel
theorem cdok_298 (pc : Nat) (I : mI) : cd_298 pc = some I → mchk 298 pc I = true := (fun h => chunk_ok ck_298_0 h)
theorem ck_299_0 : cl_299_0.all (fun q => mchk 299 q.1 q.2) = true := by decide +kernel
theorem cdok_299 (pc : Nat) (I : mI) : cd_299 pc = some I → mchk 299 pc I = true := (fun h => chunk_ok ck_299_0 h)
theorem ck_300_0 : cl_300_0.all (fun q => mchk 300 q.1 q.2) = true := by decide +kernel
theorem cdok_300 (pc : Nat) (I : mI) : cd_300 pc = some I → mchk 300 pc I = true := (fun h => chunk_ok ck_300_0 h)
theorem ck_301_0 : cl_301_0.all (fun q => mchk 301 q.1 q.2) = true := by decide +kernel
theorem cdok_301 (pc : Nat) (I : mI) : cd_301 pc = some I → mchk 301 pc I = true := (fun h => chunk_ok ck_301_0 h)
theorem ck_302_0 : cl_302_0.all (fun q => mchk 302 q.1 q.2) = true := by decide +kernel
theorem cdok_302 (pc : Nat) (I : mI) : cd_302 pc = some I → mchk 302 pc I = true := (fun h => chunk_ok ck_302_0 h)
theorem ck_303_0 : cl_303_0.all (fun q => mchk 303 q.1 q.2) = true := by decide +kernel
theorem ck_303_1 : cl_303_1.all (fun q => mchk 303 q.1 q.2) = true := by decide +kernel
theorem ck_303_2 : cl_303_2.all (fun q => mchk 303 q.1 q.2) = true := by decide +kernel
theorem ck_303_3 : cl_303_3.all (fun q => mchk 303 q.1 q.2) = true := by decide +kernel
theorem ck_303_4 : cl_303_4.all (fun q => mchk 303 q.1 q.2) = true := by decide +kernel
theorem cdok_303 (pc : Nat) (I : mI) : cd_303 pc = some I → mchk 303 pc I = true := (fun h => bif_ok h (fun h => bif_ok h (fun h => chunk_ok ck_303_0 h) (fun h => chunk_ok ck_303_1 h)) (fun h => bif_ok h (fun h => chunk_ok ck_303_2 h) (fun h => bif_ok h (fun h => chunk_ok ck_303_3 h) (fun h => chunk_ok ck_303_4 h))))
theorem ck_304_0 : cl_304_0.all (fun q => mchk 304 q.1 q.2) = true := by decide +kernel
theorem ck_304_1 : cl_304_1.all (fun q => mchk 304 q.1 q.2) = true := by decide +kernel
theorem ck_304_2 : cl_304_2.all (fun q => mchk 304 q.1 q.2) = true := by decide +kernel
theorem ck_304_3 : cl_304_3.all (fun q => mchk 304 q.1 q.2) = true := by decide +kernel
theorem cdok_304 (pc : Nat) (I : mI) : cd_304 pc = some I → mchk 304 pc I = true := (fun h => bif_ok h (fun h => bif_ok h (fun h => chunk_ok ck_304_0 h) (fun h => chunk_ok ck_304_1 h)) (fun h => bif_ok h (fun h => chunk_ok ck_304_2 h) (fun h => chunk_ok ck_304_3 h)))
theorem ck_306_0 : cl_306_0.all (fun q => mchk 306 q.1 q.2) = true := by decide +kernel
theorem ck_306_1 : cl_306_1.all (fun q => mchk 306 q.1 q.2) = true := by decide +kernel
theorem ck_306_2 : cl_306_2.all (fun q => mchk 306 q.1 q.2) = true := by decide +kernel
theorem ck_306_3 : cl_306_3.all (fun q => mchk 306 q.1 q.2) = true := by decide +kernel
theorem cdok_306 (pc : Nat) (I : mI) : cd_306 pc = some I → mchk 306 pc I = true := (fun h => bif_ok h (fun h => bif_ok h (fun h => chunk_ok ck_306_0 h) (fun h => chunk_ok ck_306_1 h)) (fun h => bif_ok h (fun h => chunk_ok ck_306_2 h) (fun h => chunk_ok ck_306_3 h)))
theorem ck_307_0 : cl_307_0.all (fun q => mchk 307 q.1 q.2) = true := by decide +kernel
theorem ck_307_1 : cl_307_1.all (fun q => mchk 307 q.1 q.2) = true := by decide +kernel
theorem cdok_307 (pc : Nat) (I : mI) : cd_307 pc = some I → mchk 307 pc I = true := (fun h => bif_ok h (fun h => chunk_ok ck_307_0 h) (fun h => chunk_ok ck_307_1 h))
theorem ck_308_0 : cl_308_0.all (fun q => mchk 308 q.1 q.2) = true := by decide +kernel
theorem ck_308_1 : cl_308_1.all (fun q => mchk 308 q.1 q.2) = true := by decide +kernel
theorem ck_308_2 : cl_308_2.all (fun q => mchk 308 q.1 q.2) = true := by decide +kernel
theorem ck_308_3 : cl_308_3.all (fun q => mchk 308 q.1 q.2) = true := by decide +kernel
theorem ck_308_4 : cl_308_4.all (fun q => mchk 308 q.1 q.2) = true := by decide +kernel
theorem ck_308_5 : cl_308_5.all (fun q => mchk 308 q.1 q.2) = true := by decide +kernel
theorem ck_308_6 : cl_308_6.all (fun q => mchk 308 q.1 q.2) = true := by decide +kernel
theorem ck_308_7 : cl_308_7.all (fun q => mchk 308 q.1 q.2) = true := by decide +kernel
theorem ck_308_8 : cl_308_8.all (fun q => mchk 308 q.1 q.2) = true := by decide +kernel
theorem cdok_308 (pc : Nat) (I : mI) : cd_308 pc = some I → mchk 308 pc I = true := (fun h => bif_ok h (fun h => bif_ok h (fun h => bif_ok h (fun h => chunk_ok ck_308_0 h) (fun h => chunk_ok ck_308_1 h)) (fun h => bif_ok h (fun h => chunk_ok ck_308_2 h) (fun h => chunk_ok ck_308_3 h))) (fun h => bif_ok h (fun h => bif_ok h (fun h => chunk_ok ck_308_4 h) (fun h => chunk_ok ck_308_5 h)) (fun h => bif_ok h (fun h => chunk_ok ck_308_6 h) (fun h => bif_ok h (fun h => chunk_ok ck_308_7 h) (fun h => chunk_ok ck_308_8 h)))))
theorem ck_309_0 : cl_309_0.all (fun q => mchk 309 q.1 q.2) = true := by decide +kernel
theorem ck_309_1 : cl_309_1.all (fun q => mchk 309 q.1 q.2) = true := by decide +kernel
theorem ck_309_2 : cl_309_2.all (fun q => mchk 309 q.1 q.2) = true := by decide +kernel
theorem cdok_309 (pc : Nat) (I : mI) : cd_309 pc = some I → mchk 309 pc I = true := (fun h => bif_ok h (fun h => chunk_ok ck_309_0 h) (fun h => bif_ok h (fun h => chunk_ok ck_309_1 h) (fun h => chunk_ok ck_309_2 h)))
theorem ck_310_0 : cl_310_0.all (fun q => mchk 310 q.1 q.2) = true := by decide +kernel
theorem cdok_310 (pc : Nat) (I : mI) : cd_310 pc = some I → mchk 310 pc I = true := (fun h => chunk_ok ck_310_0 h)
theorem ck_311_0 : cl_311_0.all (fun q => mchk 311 q.1 q.2) = true := by decide +kernel
theorem cdok_311 (pc : Nat) (I : mI) : cd_311 pc = some I → mchk 311 pc I = true := (fun h => chunk_ok ck_311_0 h)
theorem ck_312_0 : cl_312_0.all (fun q => mchk 312 q.1 q.2) = true := by decide +kernel
theorem ck_312_1 : cl_312_1.all (fun q => mchk 312 q.1 q.2) = true := by decide +kernel
theorem cdok_312 (pc : Nat) (I : mI) : cd_312 pc = some I → mchk 312 pc I = true := (fun h => bif_ok h (fun h => chunk_ok ck_312_0 h) (fun h => chunk_ok ck_312_1 h))
theorem ck_313_0 : cl_313_0.all (fun q => mchk 313 q.1 q.2) = true := by decide +kernel
theorem cdok_313 (pc : Nat) (I : mI) : cd_313 pc = some I → mchk 313 pc I = true := (fun h => chunk_ok ck_313_0 h)
theorem ck_314_0 : cl_314_0.all (fun q => mchk 314 q.1 q.2) = true := by decide +kernel
theorem ck_314_1 : cl_314_1.all (fun q => mchk 314 q.1 q.2) = true := by decide +kernel
theorem ck_314_2 : cl_314_2.all (fun q => mchk 314 q.1 q.2) = true := by decide +kernel
theorem ck_314_3 : cl_314_3.all (fun q => mchk 314 q.1 q.2) = true := by decide +kernel
theorem cdok_314 (pc : Nat) (I : mI) : cd_314 pc = some I → mchk 314 pc I = true := (fun h => bif_ok h (fun h => bif_ok h (fun h => chunk_ok ck_314_0 h) (fun h => chunk_ok ck_314_1 h)) (fun h => bif_ok h (fun h => chunk_ok ck_314_2 h) (fun h => chunk_ok ck_314_3 h)))
theorem ck_315_0 : cl_315_0.all (fun q => mchk 315 q.1 q.2) = true := by decide +kernel
theorem ck_315_1 : cl_315_1.all (fun q => mchk 315 q.1 q.2) = true := by decide +kernel
theorem ck_315_2 : cl_315_2.all (fun q => mchk 315 q.1 q.2) = true := by decide +kernel
theorem ck_315_3 : cl_315_3.all (fun q => mchk 315 q.1 q.2) = true := by decide +kernel
theorem ck_315_4 : cl_315_4.all (fun q => mchk 315 q.1 q.2) = true := by decide +kernel
theorem cdok_315 (pc : Nat) (I : mI) : cd_315 pc = some I → mchk 315 pc I = true := (fun h => bif_ok h (fun h => bif_ok h (fun h => chunk_ok ck_315_0 h) (fun h => chunk_ok ck_315_1 h)) (fun h => bif_ok h (fun h => chunk_ok ck_315_2 h) (fun h => bif_ok h (fun h => chunk_ok ck_315_3 h) (fun h => chunk_ok ck_315_4 h))))
theorem ck_316_0 : cl_316_0.all (fun q => mchk 316 q.1 q.2) = true := by decide +kernel
theorem ck_316_1 : cl_316_1.all (fun q => mchk 316 q.1 q.2) = true := by decide +kernel
theorem ck_316_2 : cl_316_2.all (fun q => mchk 316 q.1 q.2) = true := by decide +kernel
theorem cdok_316 (pc : Nat) (I : mI) : cd_316 pc = some I → mchk 316 pc I = true := (fun h => bif_ok h (fun h => chunk_ok ck_316_0 h) (fun h => bif_ok h (fun h => chunk_ok ck_316_1 h) (fun h => chunk_ok ck_316_2 h)))
theorem ck_317_0 : cl_317_0.all (fun q => mchk 317 q.1 q.2) = true := by decide +kernel
theorem ck_317_1 : cl_317_1.all (fun q => mchk 317 q.1 q.2) = true := by decide +kernel
theorem cdok_317 (pc : Nat) (I : mI) : cd_317 pc = some I → mchk 317 pc I = true := (fun h => bif_ok h (fun h => chunk_ok ck_317_0 h) (fun h => chunk_ok ck_317_1 h))
theorem ck_318_0 : cl_318_0.all (fun q => mchk 318 q.1 q.2) = true := by decide +kernel
theorem ck_318_1 : cl_318_1.all (fun q => mchk 318 q.1 q.2) = true := by decide +kernel
theorem cdok_318 (pc : Nat) (I : mI) : cd_318 pc = some I → mchk 318 pc I = true := (fun h => bif_ok h (fun h => chunk_ok ck_318_0 h) (fun h => chunk_ok ck_318_1 h))
theorem ck_319_0 : cl_319_0.all (fun q => mchk 319 q.1 q.2) = true := by decide +kernel
theorem cdok_319 (pc : Nat) (I : mI) : cd_319 pc = some I → mchk 319 pc I = true := (fun h => chunk_ok ck_319_0 h)
theorem ck_320_0 : cl_320_0.all (fun q => mchk 320 q.1 q.2) = true := by decide +kernel
theorem cdok_320 (pc : Nat) (I : mI) : cd_320 pc = some I → mchk 320 pc I = true := (fun h => chunk_ok ck_320_0 h)
theorem ck_321_0 : cl_321_0.all (fun q => mchk 321 q.1 q.2) = true := by decide +kernel
theorem cdok_321 (pc : Nat) (I : mI) : cd_321 pc = some I → mchk 321 pc I = true := (fun h => chunk_ok ck_321_0 h)
theorem ck_323_0 : cl_323_0.all (fun q => mchk 323 q.1 q.2) = true := by decide +kernel
theorem cdok_323 (pc : Nat) (I : mI) : cd_323 pc = some I → mchk 323 pc I = true := (fun h => chunk_ok ck_323_0 h)
theorem ck_324_0 : cl_324_0.all (fun q => mchk 324 q.1 q.2) = true := by decide +kernel
theorem cdok_324 (pc : Nat) (I : mI) : cd_324 pc = some I → mchk 324 pc I = true := (fun h => chunk_ok ck_324_0 h)
theorem ck_326_0 : cl_326_0.all (fun q => mchk 326 q.1 q.2) = true := by decide +kernel
theorem cdok_326 (pc : Nat) (I : mI) : cd_326 pc = some I → mchk 326 pc I = true := (fun h => chunk_ok ck_326_0 h)
theorem ck_327_0 : cl_327_0.all (fun q => mchk 327 q.1 q.2) = true := by decide +kernel
theorem ck_327_1 : cl_327_1.all (fun q => mchk 327 q.1 q.2) = true := by decide +kernel
theorem ck_327_2 : cl_327_2.all (fun q => mchk 327 q.1 q.2) = true := by decide +kernel
theorem ck_327_3 : cl_327_3.all (fun q => mchk 327 q.1 q.2) = true := by decide +kernel
theorem ck_327_4 : cl_327_4.all (fun q => mchk 327 q.1 q.2) = true := by decide +kernel
theorem ck_327_5 : cl_327_5.all (fun q => mchk 327 q.1 q.2) = true := by decide +kernel
theorem ck_327_6 : cl_327_6.all (fun q => mchk 327 q.1 q.2) = true := by decide +kernel
theorem cdok_327 (pc : Nat) (I : mI) : cd_327 pc = some I → mchk 327 pc I = true := (fun h => bif_ok h (fun h => bif_ok h (fun h => chunk_ok ck_327_0 h) (fun h => bif_ok h (fun h => chunk_ok ck_327_1 h) (fun h => chunk_ok ck_327_2 h))) (fun h => bif_ok h (fun h => bif_ok h (fun h => chunk_ok ck_327_3 h) (fun h => chunk_ok ck_327_4 h)) (fun h => bif_ok h (fun h => chunk_ok ck_327_5 h) (fun h => chunk_ok ck_327_6 h))))
theorem ck_328_0 : cl_328_0.all (fun q => mchk 328 q.1 q.2) = true := by decide +kernel
theorem ck_328_1 : cl_328_1.all (fun q => mchk 328 q.1 q.2) = true := by decide +kernel
theorem ck_328_2 : cl_328_2.all (fun q => mchk 328 q.1 q.2) = true := by decide +kernel
theorem ck_328_3 : cl_328_3.all (fun q => mchk 328 q.1 q.2) = true := by decide +kernel
theorem ck_328_4 : cl_328_4.all (fun q => mchk 328 q.1 q.2) = true := by decide +kernel
theorem ck_328_5 : cl_328_5.all (fun q => mchk 328 q.1 q.2) = true := by decide +kernel
theorem cdok_328 (pc : Nat) (I : mI) : cd_328 pc = some I → mchk 328 pc I = true := (fun h => bif_ok h (fun h => bif_ok h (fun h => chunk_ok ck_328_0 h) (fun h => bif_ok h (fun h => chunk_ok ck_328_1 h) (fun h => chunk_ok ck_328_2 h))) (fun h => bif_ok h (fun h => chunk_ok ck_328_3 h) (fun h => bif_ok h (fun h => chunk_ok ck_328_4 h) (fun h => chunk_ok ck_328_5 h))))
theorem ck_329_0 : cl_329_0.all (fun q => mchk 329 q.1 q.2) = true := by decide +kernel
theorem ck_329_1 : cl_329_1.all (fun q => mchk 329 q.1 q.2) = true := by decide +kernel
theorem ck_329_2 : cl_329_2.all (fun q => mchk 329 q.1 q.2) = true := by decide +kernel
theorem ck_329_3 : cl_329_3.all (fun q => mchk 329 q.1 q.2) = true := by decide +kernel
theorem ck_329_4 : cl_329_4.all (fun q => mchk 329 q.1 q.2) = true := by decide +kernel
theorem cdok_329 (pc : Nat) (I : mI) : cd_329 pc = some I → mchk 329 pc I = true := (fun h => bif_ok h (fun h => bif_ok h (fun h => chunk_ok ck_329_0 h) (fun h => chunk_ok ck_329_1 h)) (fun h => bif_ok h (fun h => chunk_ok ck_329_2 h) (fun h => bif_ok h (fun h => chunk_ok ck_329_3 h) (fun h => chunk_ok ck_329_4 h))))
theorem ck_330_0 : cl_330_0.all (fun q => mchk 330 q.1 q.2) = true := by decide +kernel
theorem ck_330_1 : cl_330_1.all (fun q => mchk 330 q.1 q.2) = true := by decide +kernel
theorem ck_330_2 : cl_330_2.all (fun q => mchk 330 q.1 q.2) = true := by decide +kernel
theorem ck_330_3 : cl_330_3.all (fun q => mchk 330 q.1 q.2) = true := by decide +kernel
theorem cdok_330 (pc : Nat) (I : mI) : cd_330 pc = some I → mchk 330 pc I = true := (fun h => bif_ok h (fun h => bif_ok h (fun h => chunk_ok ck_330_0 h) (fun h => chunk_ok ck_330_1 h)) (fun h => bif_ok h (fun h => chunk_ok ck_330_2 h) (fun h => chunk_ok ck_330_3 h)))
theorem ck_332_0 : cl_332_0.all (fun q => mchk 332 q.1 q.2) = true := by decide +kernel
theorem ck_332_1 : cl_332_1.all (fun q => mchk 332 q.1 q.2) = true := by decide +kernel
theorem ck_332_2 : cl_332_2.all (fun q => mchk 332 q.1 q.2) = true := by decide +kernel
theorem cdok_332 (pc : Nat) (I : mI) : cd_332 pc = some I → mchk 332 pc I = true := (fun h => bif_ok h (fun h => chunk_ok ck_332_0 h) (fun h => bif_ok h (fun h => chunk_ok ck_332_1 h) (fun h => chunk_ok ck_332_2 h)))
theorem ck_333_0 : cl_333_0.all (fun q => mchk 333 q.1 q.2) = true := by decide +kernel
theorem cdok_333 (pc : Nat) (I : mI) : cd_333 pc = some I → mchk 333 pc I = true := (fun h => chunk_ok ck_333_0 h)
theorem ck_334_0 : cl_334_0.all (fun q => mchk 334 q.1 q.2) = true := by decide +kernel
theorem ck_334_1 : cl_334_1.all (fun q => mchk 334 q.1 q.2) = true := by decide +kernel
theorem cdok_334 (pc : Nat) (I : mI) : cd_334 pc = some I → mchk 334 pc I = true := (fun h => bif_ok h (fun h => chunk_ok ck_334_0 h) (fun h => chunk_ok ck_334_1 h))
theorem ck_335_0 : cl_335_0.all (fun q => mchk 335 q.1 q.2) = true := by decide +kernel
theorem ck_335_1 : cl_335_1.all (fun q => mchk 335 q.1 q.2) = true := by decide +kernel
theorem ck_335_2 : cl_335_2.all (fun q => mchk 335 q.1 q.2) = true := by decide +kernel
theorem cdok_335 (pc : Nat) (I : mI) : cd_335 pc = some I → mchk 335 pc I = true := (fun h => bif_ok h (fun h => chunk_ok ck_335_0 h) (fun h => bif_ok h (fun h => chunk_ok ck_335_1 h) (fun h => chunk_ok ck_335_2 h)))
theorem ck_336_0 : cl_336_0.all (fun q => mchk 336 q.1 q.2) = true := by decide +kernel
theorem ck_336_1 : cl_336_1.all (fun q => mchk 336 q.1 q.2) = true := by decide +kernel
theorem ck_336_2 : cl_336_2.all (fun q => mchk 336 q.1 q.2) = true := by decide +kernel
theorem cdok_336 (pc : Nat) (I : mI) : cd_336 pc = some I → mchk 336 pc I = true := (fun h => bif_ok h (fun h => chunk_ok ck_336_0 h) (fun h => bif_ok h (fun h => chunk_ok ck_336_1 h) (fun h => chunk_ok ck_336_2 h)))
theorem ck_337_0 : cl_337_0.all (fun q => mchk 337 q.1 q.2) = true := by decide +kernel
theorem ck_337_1 : cl_337_1.all (fun q => mchk 337 q.1 q.2) = true := by decide +kernel
theorem cdok_337 (pc : Nat) (I : mI) : cd_337 pc = some I → mchk 337 pc I = true := (fun h => bif_ok h (fun h => chunk_ok ck_337_0 h) (fun h => chunk_ok ck_337_1 h))
theorem ck_338_0 : cl_338_0.all (fun q => mchk 338 q.1 q.2) = true := by decide +kernel
theorem cdok_338 (pc : Nat) (I : mI) : cd_338 pc = some I → mchk 338 pc I = true := (fun h => chunk_ok ck_338_0 h)
theorem ck_339_0 : cl_339_0.all (fun q => mchk 339 q.1 q.2) = true := by decide +kernel
theorem ck_339_1 : cl_339_1.all (fun q => mchk 339 q.1 q.2) = true := by decide +kernel
theorem ck_339_2 : cl_339_2.all (fun q => mchk 339 q.1 q.2) = true := by decide +kernel
theorem ck_339_3 : cl_339_3.all (fun q => mchk 339 q.1 q.2) = true := by decide +kernel
theorem cdok_339 (pc : Nat) (I : mI) : cd_339 pc = some I → mchk 339 pc I = true := (fun h => bif_ok h (fun h => bif_ok h (fun h => chunk_ok ck_339_0 h) (fun h => chunk_ok ck_339_1 h)) (fun h => bif_ok h (fun h => chunk_ok ck_339_2 h) (fun h => chunk_ok ck_339_3 h)))
theorem ck_340_0 : cl_340_0.all (fun q => mchk 340 q.1 q.2) = true := by decide +kernel
theorem ck_340_1 : cl_340_1.all (fun q => mchk 340 q.1 q.2) = true := by decide +kernel
theorem cdok_340 (pc : Nat) (I : mI) : cd_340 pc = some I → mchk 340 pc I = true := (fun h => bif_ok h (fun h => chunk_ok ck_340_0 h) (fun h => chunk_ok ck_340_1 h))
theorem ck_342_0 : cl_342_0.all (fun q => mchk 342 q.1 q.2) = true := by decide +kernel
theorem ck_342_1 : cl_342_1.all (fun q => mchk 342 q.1 q.2) = true := by decide +kernel
theorem ck_342_2 : cl_342_2.all (fun q => mchk 342 q.1 q.2) = true := by decide +kernel
theorem ck_342_3 : cl_342_3.all (fun q => mchk 342 q.1 q.2) = true := by decide +kernel
theorem ck_342_4 : cl_342_4.all (fun q => mchk 342 q.1 q.2) = true := by decide +kernel
theorem ck_342_5 : cl_342_5.all (fun q => mchk 342 q.1 q.2) = true := by decide +kernel
theorem cdok_342 (pc : Nat) (I : mI) : cd_342 pc = some I → mchk 342 pc I = true := (fun h => bif_ok h (fun h => bif_ok h (fun h => chunk_ok ck_342_0 h) (fun h => bif_ok h (fun h => chunk_ok ck_342_1 h) (fun h => chunk_ok ck_342_2 h))) (fun h => bif_ok h (fun h => chunk_ok ck_342_3 h) (fun h => bif_ok h (fun h => chunk_ok ck_342_4 h) (fun h => chunk_ok ck_342_5 h))))
theorem ck_343_0 : cl_343_0.all (fun q => mchk 343 q.1 q.2) = true := by decide +kernel
theorem ck_343_1 : cl_343_1.all (fun q => mchk 343 q.1 q.2) = true := by decide +kernel
theorem ck_343_2 : cl_343_2.all (fun q => mchk 343 q.1 q.2) = true := by decide +kernel
theorem ck_343_3 : cl_343_3.all (fun q => mchk 343 q.1 q.2) = true := by decide +kernel
theorem ck_343_4 : cl_343_4.all (fun q => mchk 343 q.1 q.2) = true := by decide +kernel
theorem ck_343_5 : cl_343_5.all (fun q => mchk 343 q.1 q.2) = true := by decide +kernel
theorem ck_343_6 : cl_343_6.all (fun q => mchk 343 q.1 q.2) = true := by decide +kernel
theorem ck_343_7 : cl_343_7.all (fun q => mchk 343 q.1 q.2) = true := by decide +kernel
theorem ck_343_8 : cl_343_8.all (fun q => mchk 343 q.1 q.2) = true := by decide +kernel
theorem cdok_343 (pc : Nat) (I : mI) : cd_343 pc = some I → mchk 343 pc I = true := (fun h => bif_ok h (fun h => bif_ok h (fun h => bif_ok h (fun h => chunk_ok ck_343_0 h) (fun h => chunk_ok ck_343_1 h)) (fun h => bif_ok h (fun h => chunk_ok ck_343_2 h) (fun h => chunk_ok ck_343_3 h))) (fun h => bif_ok h (fun h => bif_ok h (fun h => chunk_ok ck_343_4 h) (fun h => chunk_ok ck_343_5 h)) (fun h => bif_ok h (fun h => chunk_ok ck_343_6 h) (fun h => bif_ok h (fun h => chunk_ok ck_343_7 h) (fun h => chunk_ok ck_343_8 h)))))
