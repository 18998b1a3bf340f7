/-! Instructions, fields and calls of the methods, by their numbers. -/
-- 126: SpunModulesModel.bad()I
theorem d_126_0 : decode (bc 126) 0 = .ok (.aload_n 0, 1) := by decide +kernel
theorem d_126_1 : decode (bc 126) 1 = .ok (.getfield 7, 3) := by decide +kernel
theorem q_126_7 : fq 126 7 = some (10, 0, 38, 2, true) := by decide +kernel
theorem d_126_4 : decode (bc 126) 4 = .ok (.iconst 0, 1) := by decide +kernel
theorem d_126_5 : decode (bc 126) 5 = .ok (.dup2, 1) := by decide +kernel
theorem d_126_6 : decode (bc 126) 6 = .ok (.iaload, 1) := by decide +kernel
theorem d_126_7 : decode (bc 126) 7 = .ok (.iconst 1, 1) := by decide +kernel
theorem d_126_8 : decode (bc 126) 8 = .ok (.iadd, 1) := by decide +kernel
theorem d_126_9 : decode (bc 126) 9 = .ok (.iastore, 1) := by decide +kernel
theorem d_126_10 : decode (bc 126) 10 = .ok (.bipush (-2), 2) := by decide +kernel
theorem d_126_12 : decode (bc 126) 12 = .ok (.ireturn, 1) := by decide +kernel
theorem rt_126 : rty 126 = some .int := by decide +kernel
theorem mx_126 : mxl 126 = 1 := by decide +kernel
theorem ow_126 : (sta 126 = false ∧ own 126 = 10 ∧ hgt 126 = 0) := by decide +kernel
-- 127: SpunModulesModel.no()I
theorem d_127_0 : decode (bc 127) 0 = .ok (.aload_n 0, 1) := by decide +kernel
theorem d_127_1 : decode (bc 127) 1 = .ok (.getfield 7, 3) := by decide +kernel
theorem q_127_7 : fq 127 7 = some (10, 0, 38, 2, true) := by decide +kernel
theorem d_127_4 : decode (bc 127) 4 = .ok (.iconst 1, 1) := by decide +kernel
theorem d_127_5 : decode (bc 127) 5 = .ok (.dup2, 1) := by decide +kernel
theorem d_127_6 : decode (bc 127) 6 = .ok (.iaload, 1) := by decide +kernel
theorem d_127_7 : decode (bc 127) 7 = .ok (.iconst 1, 1) := by decide +kernel
theorem d_127_8 : decode (bc 127) 8 = .ok (.iadd, 1) := by decide +kernel
theorem d_127_9 : decode (bc 127) 9 = .ok (.iastore, 1) := by decide +kernel
theorem d_127_10 : decode (bc 127) 10 = .ok (.bipush (-3), 2) := by decide +kernel
theorem d_127_12 : decode (bc 127) 12 = .ok (.ireturn, 1) := by decide +kernel
theorem rt_127 : rty 127 = some .int := by decide +kernel
theorem mx_127 : mxl 127 = 1 := by decide +kernel
theorem ow_127 : (sta 127 = false ∧ own 127 = 10 ∧ hgt 127 = 0) := by decide +kernel
-- 128: SpunModulesModel.full()I
theorem d_128_0 : decode (bc 128) 0 = .ok (.aload_n 0, 1) := by decide +kernel
theorem d_128_1 : decode (bc 128) 1 = .ok (.getfield 7, 3) := by decide +kernel
theorem q_128_7 : fq 128 7 = some (10, 0, 38, 2, true) := by decide +kernel
theorem d_128_4 : decode (bc 128) 4 = .ok (.iconst 2, 1) := by decide +kernel
theorem d_128_5 : decode (bc 128) 5 = .ok (.dup2, 1) := by decide +kernel
theorem d_128_6 : decode (bc 128) 6 = .ok (.iaload, 1) := by decide +kernel
theorem d_128_7 : decode (bc 128) 7 = .ok (.iconst 1, 1) := by decide +kernel
theorem d_128_8 : decode (bc 128) 8 = .ok (.iadd, 1) := by decide +kernel
theorem d_128_9 : decode (bc 128) 9 = .ok (.iastore, 1) := by decide +kernel
theorem d_128_10 : decode (bc 128) 10 = .ok (.bipush (-4), 2) := by decide +kernel
theorem d_128_12 : decode (bc 128) 12 = .ok (.ireturn, 1) := by decide +kernel
theorem rt_128 : rty 128 = some .int := by decide +kernel
theorem mx_128 : mxl 128 = 1 := by decide +kernel
theorem ow_128 : (sta 128 = false ∧ own 128 = 10 ∧ hgt 128 = 0) := by decide +kernel
-- 129: SpunModulesModel.in(III)Z
theorem d_129_0 : decode (bc 129) 0 = .ok (.iload_n 0, 1) := by decide +kernel
theorem d_129_1 : decode (bc 129) 1 = .ok (.iload_n 1, 1) := by decide +kernel
theorem d_129_2 : decode (bc 129) 2 = .ok (.if_icmp .lt 12, 3) := by decide +kernel
theorem d_129_5 : decode (bc 129) 5 = .ok (.iload_n 0, 1) := by decide +kernel
theorem d_129_6 : decode (bc 129) 6 = .ok (.iload_n 2, 1) := by decide +kernel
theorem d_129_7 : decode (bc 129) 7 = .ok (.if_icmp .gt 7, 3) := by decide +kernel
theorem d_129_10 : decode (bc 129) 10 = .ok (.iconst 1, 1) := by decide +kernel
theorem d_129_11 : decode (bc 129) 11 = .ok (.goto 4, 3) := by decide +kernel
theorem d_129_14 : decode (bc 129) 14 = .ok (.iconst 0, 1) := by decide +kernel
theorem d_129_15 : decode (bc 129) 15 = .ok (.ireturn, 1) := by decide +kernel
theorem rt_129 : rty 129 = some .boolean := by decide +kernel
theorem mx_129 : mxl 129 = 3 := by decide +kernel
theorem ow_129 : (sta 129 = true ∧ own 129 = 10 ∧ hgt 129 = 0) := by decide +kernel
-- 130: SpunModulesModel.limit()I
theorem d_130_0 : decode (bc 130) 0 = .ok (.aload_n 0, 1) := by decide +kernel
theorem d_130_1 : decode (bc 130) 1 = .ok (.getfield 13, 3) := by decide +kernel
theorem q_130_13 : fq 130 13 = some (10, 1, 38, 0, false) := by decide +kernel
theorem d_130_4 : decode (bc 130) 4 = .ok (.iconst 2, 1) := by decide +kernel
theorem d_130_5 : decode (bc 130) 5 = .ok (.if_icmp .ne 8, 3) := by decide +kernel
theorem d_130_8 : decode (bc 130) 8 = .ok (.bipush 6, 2) := by decide +kernel
theorem d_130_10 : decode (bc 130) 10 = .ok (.goto 4, 3) := by decide +kernel
theorem d_130_13 : decode (bc 130) 13 = .ok (.iconst 5, 1) := by decide +kernel
theorem d_130_14 : decode (bc 130) 14 = .ok (.ireturn, 1) := by decide +kernel
theorem rt_130 : rty 130 = some .int := by decide +kernel
theorem mx_130 : mxl 130 = 1 := by decide +kernel
theorem ow_130 : (sta 130 = false ∧ own 130 = 10 ∧ hgt 130 = 0) := by decide +kernel
-- 131: SpunModulesModel.power(I)I
theorem d_131_0 : decode (bc 131) 0 = .ok (.iconst 1, 1) := by decide +kernel
theorem d_131_1 : decode (bc 131) 1 = .ok (.istore_n 2, 1) := by decide +kernel
theorem d_131_2 : decode (bc 131) 2 = .ok (.iconst 0, 1) := by decide +kernel
theorem d_131_3 : decode (bc 131) 3 = .ok (.istore_n 3, 1) := by decide +kernel
theorem d_131_4 : decode (bc 131) 4 = .ok (.iload_n 3, 1) := by decide +kernel
theorem d_131_5 : decode (bc 131) 5 = .ok (.iload_n 1, 1) := by decide +kernel
theorem d_131_6 : decode (bc 131) 6 = .ok (.if_icmp .ge 16, 3) := by decide +kernel
theorem d_131_9 : decode (bc 131) 9 = .ok (.iload_n 2, 1) := by decide +kernel
theorem d_131_10 : decode (bc 131) 10 = .ok (.aload_n 0, 1) := by decide +kernel
theorem d_131_11 : decode (bc 131) 11 = .ok (.getfield 13, 3) := by decide +kernel
theorem q_131_13 : fq 131 13 = some (10, 1, 38, 0, false) := by decide +kernel
theorem d_131_14 : decode (bc 131) 14 = .ok (.imul, 1) := by decide +kernel
theorem d_131_15 : decode (bc 131) 15 = .ok (.istore_n 2, 1) := by decide +kernel
theorem d_131_16 : decode (bc 131) 16 = .ok (.iinc 3 1, 3) := by decide +kernel
theorem d_131_19 : decode (bc 131) 19 = .ok (.goto (-15), 3) := by decide +kernel
theorem d_131_22 : decode (bc 131) 22 = .ok (.iload_n 2, 1) := by decide +kernel
theorem d_131_23 : decode (bc 131) 23 = .ok (.ireturn, 1) := by decide +kernel
theorem rt_131 : rty 131 = some .int := by decide +kernel
theorem mx_131 : mxl 131 = 4 := by decide +kernel
theorem ow_131 : (sta 131 = false ∧ own 131 = 10 ∧ hgt 131 = 0) := by decide +kernel
-- 132: SpunModulesModel.figure(II)I
theorem d_132_0 : decode (bc 132) 0 = .ok (.iload_n 1, 1) := by decide +kernel
theorem d_132_1 : decode (bc 132) 1 = .ok (.aload_n 0, 1) := by decide +kernel
theorem d_132_2 : decode (bc 132) 2 = .ok (.iload_n 2, 1) := by decide +kernel
theorem d_132_3 : decode (bc 132) 3 = .ok (.invokevirtual 110, 3) := by decide +kernel
theorem q_132_110 : cq 132 110 [0, 3] = some (131, 2) := by decide +kernel
theorem d_132_6 : decode (bc 132) 6 = .ok (.idiv, 1) := by decide +kernel
theorem d_132_7 : decode (bc 132) 7 = .ok (.aload_n 0, 1) := by decide +kernel
theorem d_132_8 : decode (bc 132) 8 = .ok (.getfield 13, 3) := by decide +kernel
theorem q_132_13 : fq 132 13 = some (10, 1, 38, 0, false) := by decide +kernel
theorem d_132_11 : decode (bc 132) 11 = .ok (.irem, 1) := by decide +kernel
theorem d_132_12 : decode (bc 132) 12 = .ok (.ireturn, 1) := by decide +kernel
theorem rt_132 : rty 132 = some .int := by decide +kernel
theorem mx_132 : mxl 132 = 3 := by decide +kernel
theorem ow_132 : (sta 132 = false ∧ own 132 = 10 ∧ hgt 132 = 1) := by decide +kernel
-- 133: SpunModulesModel.cell(IIII)I
theorem d_133_0 : decode (bc 133) 0 = .ok (.bipush 72, 2) := by decide +kernel
theorem d_133_2 : decode (bc 133) 2 = .ok (.iload_n 0, 1) := by decide +kernel
theorem d_133_3 : decode (bc 133) 3 = .ok (.imul, 1) := by decide +kernel
theorem d_133_4 : decode (bc 133) 4 = .ok (.bipush 36, 2) := by decide +kernel
theorem d_133_6 : decode (bc 133) 6 = .ok (.iload_n 1, 1) := by decide +kernel
theorem d_133_7 : decode (bc 133) 7 = .ok (.imul, 1) := by decide +kernel
theorem d_133_8 : decode (bc 133) 8 = .ok (.iadd, 1) := by decide +kernel
theorem d_133_9 : decode (bc 133) 9 = .ok (.bipush 6, 2) := by decide +kernel
theorem d_133_11 : decode (bc 133) 11 = .ok (.iload_n 2, 1) := by decide +kernel
theorem d_133_12 : decode (bc 133) 12 = .ok (.imul, 1) := by decide +kernel
theorem d_133_13 : decode (bc 133) 13 = .ok (.iadd, 1) := by decide +kernel
theorem d_133_14 : decode (bc 133) 14 = .ok (.iload_n 3, 1) := by decide +kernel
theorem d_133_15 : decode (bc 133) 15 = .ok (.iadd, 1) := by decide +kernel
theorem d_133_16 : decode (bc 133) 16 = .ok (.ireturn, 1) := by decide +kernel
theorem rt_133 : rty 133 = some .int := by decide +kernel
theorem mx_133 : mxl 133 = 4 := by decide +kernel
theorem ow_133 : (sta 133 = true ∧ own 133 = 10 ∧ hgt 133 = 0) := by decide +kernel
-- 134: SpunModulesModel.plus(III)I
theorem d_134_0 : decode (bc 134) 0 = .ok (.iconst 0, 1) := by decide +kernel
theorem d_134_1 : decode (bc 134) 1 = .ok (.istore 4, 2) := by decide +kernel
theorem d_134_3 : decode (bc 134) 3 = .ok (.iconst 1, 1) := by decide +kernel
theorem d_134_4 : decode (bc 134) 4 = .ok (.istore 5, 2) := by decide +kernel
theorem d_134_6 : decode (bc 134) 6 = .ok (.iconst 0, 1) := by decide +kernel
theorem d_134_7 : decode (bc 134) 7 = .ok (.istore 6, 2) := by decide +kernel
theorem d_134_9 : decode (bc 134) 9 = .ok (.iload 6, 2) := by decide +kernel
theorem d_134_11 : decode (bc 134) 11 = .ok (.bipush 6, 2) := by decide +kernel
theorem d_134_13 : decode (bc 134) 13 = .ok (.if_icmp .ge 56, 3) := by decide +kernel
theorem d_134_16 : decode (bc 134) 16 = .ok (.iload_n 1, 1) := by decide +kernel
theorem d_134_17 : decode (bc 134) 17 = .ok (.iload 5, 2) := by decide +kernel
theorem d_134_19 : decode (bc 134) 19 = .ok (.idiv, 1) := by decide +kernel
theorem d_134_20 : decode (bc 134) 20 = .ok (.aload_n 0, 1) := by decide +kernel
theorem d_134_21 : decode (bc 134) 21 = .ok (.getfield 13, 3) := by decide +kernel
theorem q_134_13 : fq 134 13 = some (10, 1, 38, 0, false) := by decide +kernel
theorem d_134_24 : decode (bc 134) 24 = .ok (.irem, 1) := by decide +kernel
theorem d_134_25 : decode (bc 134) 25 = .ok (.iload_n 3, 1) := by decide +kernel
theorem d_134_26 : decode (bc 134) 26 = .ok (.iload_n 2, 1) := by decide +kernel
theorem d_134_27 : decode (bc 134) 27 = .ok (.iload 5, 2) := by decide +kernel
theorem d_134_29 : decode (bc 134) 29 = .ok (.idiv, 1) := by decide +kernel
theorem d_134_30 : decode (bc 134) 30 = .ok (.aload_n 0, 1) := by decide +kernel
theorem d_134_31 : decode (bc 134) 31 = .ok (.getfield 13, 3) := by decide +kernel
theorem d_134_34 : decode (bc 134) 34 = .ok (.irem, 1) := by decide +kernel
theorem d_134_35 : decode (bc 134) 35 = .ok (.imul, 1) := by decide +kernel
theorem d_134_36 : decode (bc 134) 36 = .ok (.iadd, 1) := by decide +kernel
theorem d_134_37 : decode (bc 134) 37 = .ok (.istore 7, 2) := by decide +kernel
theorem d_134_39 : decode (bc 134) 39 = .ok (.iload 4, 2) := by decide +kernel
theorem d_134_41 : decode (bc 134) 41 = .ok (.iload 7, 2) := by decide +kernel
theorem d_134_43 : decode (bc 134) 43 = .ok (.aload_n 0, 1) := by decide +kernel
theorem d_134_44 : decode (bc 134) 44 = .ok (.getfield 13, 3) := by decide +kernel
theorem d_134_47 : decode (bc 134) 47 = .ok (.irem, 1) := by decide +kernel
theorem d_134_48 : decode (bc 134) 48 = .ok (.iload 5, 2) := by decide +kernel
theorem d_134_50 : decode (bc 134) 50 = .ok (.imul, 1) := by decide +kernel
theorem d_134_51 : decode (bc 134) 51 = .ok (.iadd, 1) := by decide +kernel
theorem d_134_52 : decode (bc 134) 52 = .ok (.istore 4, 2) := by decide +kernel
theorem d_134_54 : decode (bc 134) 54 = .ok (.iload 5, 2) := by decide +kernel
theorem d_134_56 : decode (bc 134) 56 = .ok (.aload_n 0, 1) := by decide +kernel
theorem d_134_57 : decode (bc 134) 57 = .ok (.getfield 13, 3) := by decide +kernel
theorem d_134_60 : decode (bc 134) 60 = .ok (.imul, 1) := by decide +kernel
theorem d_134_61 : decode (bc 134) 61 = .ok (.istore 5, 2) := by decide +kernel
theorem d_134_63 : decode (bc 134) 63 = .ok (.iinc 6 1, 3) := by decide +kernel
theorem d_134_66 : decode (bc 134) 66 = .ok (.goto (-57), 3) := by decide +kernel
theorem d_134_69 : decode (bc 134) 69 = .ok (.iload 4, 2) := by decide +kernel
theorem d_134_71 : decode (bc 134) 71 = .ok (.ireturn, 1) := by decide +kernel
theorem rt_134 : rty 134 = some .int := by decide +kernel
theorem mx_134 : mxl 134 = 8 := by decide +kernel
theorem ow_134 : (sta 134 = false ∧ own 134 = 10 ∧ hgt 134 = 0) := by decide +kernel
-- 135: SpunModulesModel.moves(III)I
theorem d_135_0 : decode (bc 135) 0 = .ok (.aload_n 0, 1) := by decide +kernel
theorem d_135_1 : decode (bc 135) 1 = .ok (.getfield 17, 3) := by decide +kernel
theorem q_135_17 : fq 135 17 = some (10, 2, 38, 2, true) := by decide +kernel
theorem d_135_4 : decode (bc 135) 4 = .ok (.iload_n 1, 1) := by decide +kernel
theorem d_135_5 : decode (bc 135) 5 = .ok (.iaload, 1) := by decide +kernel
theorem d_135_6 : decode (bc 135) 6 = .ok (.istore 4, 2) := by decide +kernel
theorem d_135_8 : decode (bc 135) 8 = .ok (.iconst 0, 1) := by decide +kernel
theorem d_135_9 : decode (bc 135) 9 = .ok (.istore 5, 2) := by decide +kernel
theorem d_135_11 : decode (bc 135) 11 = .ok (.iconst 1, 1) := by decide +kernel
theorem d_135_12 : decode (bc 135) 12 = .ok (.istore 6, 2) := by decide +kernel
theorem d_135_14 : decode (bc 135) 14 = .ok (.iconst 0, 1) := by decide +kernel
theorem d_135_15 : decode (bc 135) 15 = .ok (.istore 7, 2) := by decide +kernel
theorem d_135_17 : decode (bc 135) 17 = .ok (.iload 7, 2) := by decide +kernel
theorem d_135_19 : decode (bc 135) 19 = .ok (.iload 4, 2) := by decide +kernel
theorem d_135_21 : decode (bc 135) 21 = .ok (.if_icmp .ge 91, 3) := by decide +kernel
theorem d_135_24 : decode (bc 135) 24 = .ok (.iconst 0, 1) := by decide +kernel
theorem d_135_25 : decode (bc 135) 25 = .ok (.istore 8, 2) := by decide +kernel
theorem d_135_27 : decode (bc 135) 27 = .ok (.iload_n 3, 1) := by decide +kernel
theorem d_135_28 : decode (bc 135) 28 = .ok (.istore 9, 2) := by decide +kernel
theorem d_135_30 : decode (bc 135) 30 = .ok (.iconst 0, 1) := by decide +kernel
theorem d_135_31 : decode (bc 135) 31 = .ok (.istore 10, 2) := by decide +kernel
theorem d_135_33 : decode (bc 135) 33 = .ok (.iload 10, 2) := by decide +kernel
theorem d_135_35 : decode (bc 135) 35 = .ok (.iload 4, 2) := by decide +kernel
theorem d_135_37 : decode (bc 135) 37 = .ok (.if_icmp .ge 45, 3) := by decide +kernel
theorem d_135_40 : decode (bc 135) 40 = .ok (.iload 8, 2) := by decide +kernel
theorem d_135_42 : decode (bc 135) 42 = .ok (.iload 9, 2) := by decide +kernel
theorem d_135_44 : decode (bc 135) 44 = .ok (.aload_n 0, 1) := by decide +kernel
theorem d_135_45 : decode (bc 135) 45 = .ok (.getfield 13, 3) := by decide +kernel
theorem q_135_13 : fq 135 13 = some (10, 1, 38, 0, false) := by decide +kernel
theorem d_135_48 : decode (bc 135) 48 = .ok (.irem, 1) := by decide +kernel
theorem d_135_49 : decode (bc 135) 49 = .ok (.aload_n 0, 1) := by decide +kernel
theorem d_135_50 : decode (bc 135) 50 = .ok (.getfield 20, 3) := by decide +kernel
theorem q_135_20 : fq 135 20 = some (10, 3, 38, 2, true) := by decide +kernel
theorem d_135_53 : decode (bc 135) 53 = .ok (.iload_n 1, 1) := by decide +kernel
theorem d_135_54 : decode (bc 135) 54 = .ok (.iload_n 2, 1) := by decide +kernel
theorem d_135_55 : decode (bc 135) 55 = .ok (.iload 10, 2) := by decide +kernel
theorem d_135_57 : decode (bc 135) 57 = .ok (.iload 7, 2) := by decide +kernel
theorem d_135_59 : decode (bc 135) 59 = .ok (.invokestatic 114, 3) := by decide +kernel
theorem q_135_114 : cq 135 114 [1, 4] = some (133, 4) := by decide +kernel
theorem d_135_62 : decode (bc 135) 62 = .ok (.iaload, 1) := by decide +kernel
theorem d_135_63 : decode (bc 135) 63 = .ok (.imul, 1) := by decide +kernel
theorem d_135_64 : decode (bc 135) 64 = .ok (.iadd, 1) := by decide +kernel
theorem d_135_65 : decode (bc 135) 65 = .ok (.istore 8, 2) := by decide +kernel
theorem d_135_67 : decode (bc 135) 67 = .ok (.iload 9, 2) := by decide +kernel
theorem d_135_69 : decode (bc 135) 69 = .ok (.aload_n 0, 1) := by decide +kernel
theorem d_135_70 : decode (bc 135) 70 = .ok (.getfield 13, 3) := by decide +kernel
theorem d_135_73 : decode (bc 135) 73 = .ok (.idiv, 1) := by decide +kernel
theorem d_135_74 : decode (bc 135) 74 = .ok (.istore 9, 2) := by decide +kernel
theorem d_135_76 : decode (bc 135) 76 = .ok (.iinc 10 1, 3) := by decide +kernel
theorem d_135_79 : decode (bc 135) 79 = .ok (.goto (-46), 3) := by decide +kernel
theorem d_135_82 : decode (bc 135) 82 = .ok (.iload 5, 2) := by decide +kernel
theorem d_135_84 : decode (bc 135) 84 = .ok (.iload 8, 2) := by decide +kernel
theorem d_135_86 : decode (bc 135) 86 = .ok (.aload_n 0, 1) := by decide +kernel
theorem d_135_87 : decode (bc 135) 87 = .ok (.getfield 13, 3) := by decide +kernel
theorem d_135_90 : decode (bc 135) 90 = .ok (.irem, 1) := by decide +kernel
theorem d_135_91 : decode (bc 135) 91 = .ok (.iload 6, 2) := by decide +kernel
theorem d_135_93 : decode (bc 135) 93 = .ok (.imul, 1) := by decide +kernel
theorem d_135_94 : decode (bc 135) 94 = .ok (.iadd, 1) := by decide +kernel
theorem d_135_95 : decode (bc 135) 95 = .ok (.istore 5, 2) := by decide +kernel
theorem d_135_97 : decode (bc 135) 97 = .ok (.iload 6, 2) := by decide +kernel
theorem d_135_99 : decode (bc 135) 99 = .ok (.aload_n 0, 1) := by decide +kernel
theorem d_135_100 : decode (bc 135) 100 = .ok (.getfield 13, 3) := by decide +kernel
theorem d_135_103 : decode (bc 135) 103 = .ok (.imul, 1) := by decide +kernel
theorem d_135_104 : decode (bc 135) 104 = .ok (.istore 6, 2) := by decide +kernel
theorem d_135_106 : decode (bc 135) 106 = .ok (.iinc 7 1, 3) := by decide +kernel
theorem d_135_109 : decode (bc 135) 109 = .ok (.goto (-92), 3) := by decide +kernel
theorem d_135_112 : decode (bc 135) 112 = .ok (.iload 5, 2) := by decide +kernel
theorem d_135_114 : decode (bc 135) 114 = .ok (.ireturn, 1) := by decide +kernel
theorem rt_135 : rty 135 = some .int := by decide +kernel
theorem mx_135 : mxl 135 = 11 := by decide +kernel
theorem ow_135 : (sta 135 = false ∧ own 135 = 10 ∧ hgt 135 = 1) := by decide +kernel
-- 136: SpunModulesModel.takesFresh(II)V
theorem d_136_0 : decode (bc 136) 0 = .ok (.aload_n 0, 1) := by decide +kernel
theorem d_136_1 : decode (bc 136) 1 = .ok (.getfield 17, 3) := by decide +kernel
theorem q_136_17 : fq 136 17 = some (10, 2, 38, 2, true) := by decide +kernel
theorem d_136_4 : decode (bc 136) 4 = .ok (.iload_n 1, 1) := by decide +kernel
theorem d_136_5 : decode (bc 136) 5 = .ok (.iload_n 2, 1) := by decide +kernel
theorem d_136_6 : decode (bc 136) 6 = .ok (.iastore, 1) := by decide +kernel
theorem d_136_7 : decode (bc 136) 7 = .ok (.iconst 0, 1) := by decide +kernel
theorem d_136_8 : decode (bc 136) 8 = .ok (.istore_n 3, 1) := by decide +kernel
theorem d_136_9 : decode (bc 136) 9 = .ok (.iload_n 3, 1) := by decide +kernel
theorem d_136_10 : decode (bc 136) 10 = .ok (.bipush 72, 2) := by decide +kernel
theorem d_136_12 : decode (bc 136) 12 = .ok (.if_icmp .ge 26, 3) := by decide +kernel
theorem d_136_15 : decode (bc 136) 15 = .ok (.aload_n 0, 1) := by decide +kernel
theorem d_136_16 : decode (bc 136) 16 = .ok (.getfield 20, 3) := by decide +kernel
theorem q_136_20 : fq 136 20 = some (10, 3, 38, 2, true) := by decide +kernel
theorem d_136_19 : decode (bc 136) 19 = .ok (.bipush 72, 2) := by decide +kernel
theorem d_136_21 : decode (bc 136) 21 = .ok (.iload_n 1, 1) := by decide +kernel
theorem d_136_22 : decode (bc 136) 22 = .ok (.imul, 1) := by decide +kernel
theorem d_136_23 : decode (bc 136) 23 = .ok (.iload_n 3, 1) := by decide +kernel
theorem d_136_24 : decode (bc 136) 24 = .ok (.iadd, 1) := by decide +kernel
theorem d_136_25 : decode (bc 136) 25 = .ok (.aload_n 0, 1) := by decide +kernel
theorem d_136_26 : decode (bc 136) 26 = .ok (.getfield 23, 3) := by decide +kernel
theorem q_136_23 : fq 136 23 = some (10, 4, 38, 2, true) := by decide +kernel
theorem d_136_29 : decode (bc 136) 29 = .ok (.iload_n 3, 1) := by decide +kernel
theorem d_136_30 : decode (bc 136) 30 = .ok (.iaload, 1) := by decide +kernel
theorem d_136_31 : decode (bc 136) 31 = .ok (.iastore, 1) := by decide +kernel
theorem d_136_32 : decode (bc 136) 32 = .ok (.iinc 3 1, 3) := by decide +kernel
theorem d_136_35 : decode (bc 136) 35 = .ok (.goto (-26), 3) := by decide +kernel
theorem d_136_38 : decode (bc 136) 38 = .ok (.return_, 1) := by decide +kernel
theorem rt_136 : rty 136 = none := by decide +kernel
theorem mx_136 : mxl 136 = 4 := by decide +kernel
theorem ow_136 : (sta 136 = false ∧ own 136 = 10 ∧ hgt 136 = 0) := by decide +kernel
-- 137: SpunModulesModel.clearsFresh()V
theorem d_137_0 : decode (bc 137) 0 = .ok (.iconst 0, 1) := by decide +kernel
theorem d_137_1 : decode (bc 137) 1 = .ok (.istore_n 1, 1) := by decide +kernel
theorem d_137_2 : decode (bc 137) 2 = .ok (.iload_n 1, 1) := by decide +kernel
theorem d_137_3 : decode (bc 137) 3 = .ok (.bipush 72, 2) := by decide +kernel
theorem d_137_5 : decode (bc 137) 5 = .ok (.if_icmp .ge 16, 3) := by decide +kernel
theorem d_137_8 : decode (bc 137) 8 = .ok (.aload_n 0, 1) := by decide +kernel
theorem d_137_9 : decode (bc 137) 9 = .ok (.getfield 23, 3) := by decide +kernel
theorem q_137_23 : fq 137 23 = some (10, 4, 38, 2, true) := by decide +kernel
theorem d_137_12 : decode (bc 137) 12 = .ok (.iload_n 1, 1) := by decide +kernel
theorem d_137_13 : decode (bc 137) 13 = .ok (.iconst 0, 1) := by decide +kernel
theorem d_137_14 : decode (bc 137) 14 = .ok (.iastore, 1) := by decide +kernel
theorem d_137_15 : decode (bc 137) 15 = .ok (.iinc 1 1, 3) := by decide +kernel
theorem d_137_18 : decode (bc 137) 18 = .ok (.goto (-16), 3) := by decide +kernel
theorem d_137_21 : decode (bc 137) 21 = .ok (.return_, 1) := by decide +kernel
theorem rt_137 : rty 137 = none := by decide +kernel
theorem mx_137 : mxl 137 = 2 := by decide +kernel
theorem ow_137 : (sta 137 = false ∧ own 137 = 10 ∧ hgt 137 = 0) := by decide +kernel
-- 138: SpunModulesModel.isModule(I)Z
theorem d_138_0 : decode (bc 138) 0 = .ok (.iload_n 0, 1) := by decide +kernel
theorem d_138_1 : decode (bc 138) 1 = .ok (.iconst 0, 1) := by decide +kernel
theorem d_138_2 : decode (bc 138) 2 = .ok (.iconst 3, 1) := by decide +kernel
theorem d_138_3 : decode (bc 138) 3 = .ok (.invokestatic 118, 3) := by decide +kernel
theorem q_138_118 : cq 138 118 [1, 4] = some (129, 3) := by decide +kernel
theorem d_138_6 : decode (bc 138) 6 = .ok (.ireturn, 1) := by decide +kernel
theorem rt_138 : rty 138 = some .boolean := by decide +kernel
theorem mx_138 : mxl 138 = 1 := by decide +kernel
theorem ow_138 : (sta 138 = true ∧ own 138 = 10 ∧ hgt 138 = 1) := by decide +kernel
-- 139: SpunModulesModel.isPlace(II)Z
theorem d_139_0 : decode (bc 139) 0 = .ok (.iload_n 2, 1) := by decide +kernel
theorem d_139_1 : decode (bc 139) 1 = .ok (.iconst 0, 1) := by decide +kernel
theorem d_139_2 : decode (bc 139) 2 = .ok (.aload_n 0, 1) := by decide +kernel
theorem d_139_3 : decode (bc 139) 3 = .ok (.getfield 17, 3) := by decide +kernel
theorem q_139_17 : fq 139 17 = some (10, 2, 38, 2, true) := by decide +kernel
theorem d_139_6 : decode (bc 139) 6 = .ok (.iload_n 1, 1) := by decide +kernel
theorem d_139_7 : decode (bc 139) 7 = .ok (.iaload, 1) := by decide +kernel
theorem d_139_8 : decode (bc 139) 8 = .ok (.iconst 1, 1) := by decide +kernel
theorem d_139_9 : decode (bc 139) 9 = .ok (.isub, 1) := by decide +kernel
theorem d_139_10 : decode (bc 139) 10 = .ok (.invokestatic 118, 3) := by decide +kernel
theorem q_139_118 : cq 139 118 [1, 4] = some (129, 3) := by decide +kernel
theorem d_139_13 : decode (bc 139) 13 = .ok (.ireturn, 1) := by decide +kernel
theorem rt_139 : rty 139 = some .boolean := by decide +kernel
theorem mx_139 : mxl 139 = 3 := by decide +kernel
theorem ow_139 : (sta 139 = false ∧ own 139 = 10 ∧ hgt 139 = 1) := by decide +kernel
-- 140: SpunModulesModel.isVector(II)Z
theorem d_140_0 : decode (bc 140) 0 = .ok (.iload_n 2, 1) := by decide +kernel
theorem d_140_1 : decode (bc 140) 1 = .ok (.iconst 0, 1) := by decide +kernel
theorem d_140_2 : decode (bc 140) 2 = .ok (.aload_n 0, 1) := by decide +kernel
theorem d_140_3 : decode (bc 140) 3 = .ok (.aload_n 0, 1) := by decide +kernel
theorem d_140_4 : decode (bc 140) 4 = .ok (.getfield 17, 3) := by decide +kernel
theorem q_140_17 : fq 140 17 = some (10, 2, 38, 2, true) := by decide +kernel
theorem d_140_7 : decode (bc 140) 7 = .ok (.iload_n 1, 1) := by decide +kernel
theorem d_140_8 : decode (bc 140) 8 = .ok (.iaload, 1) := by decide +kernel
theorem d_140_9 : decode (bc 140) 9 = .ok (.invokevirtual 110, 3) := by decide +kernel
theorem q_140_110 : cq 140 110 [0, 3] = some (131, 2) := by decide +kernel
theorem d_140_12 : decode (bc 140) 12 = .ok (.iconst 1, 1) := by decide +kernel
theorem d_140_13 : decode (bc 140) 13 = .ok (.isub, 1) := by decide +kernel
theorem d_140_14 : decode (bc 140) 14 = .ok (.invokestatic 118, 3) := by decide +kernel
theorem q_140_118 : cq 140 118 [1, 4] = some (129, 3) := by decide +kernel
theorem d_140_17 : decode (bc 140) 17 = .ok (.ireturn, 1) := by decide +kernel
theorem rt_140 : rty 140 = some .boolean := by decide +kernel
theorem mx_140 : mxl 140 = 3 := by decide +kernel
theorem ow_140 : (sta 140 = false ∧ own 140 = 10 ∧ hgt 140 = 1) := by decide +kernel
-- 141: SpunModulesModel.nothing()V
theorem d_141_0 : decode (bc 141) 0 = .ok (.iconst 0, 1) := by decide +kernel
theorem d_141_1 : decode (bc 141) 1 = .ok (.istore_n 1, 1) := by decide +kernel
theorem d_141_2 : decode (bc 141) 2 = .ok (.iload_n 1, 1) := by decide +kernel
theorem d_141_3 : decode (bc 141) 3 = .ok (.sipush 243, 3) := by decide +kernel
theorem d_141_6 : decode (bc 141) 6 = .ok (.if_icmp .ge 16, 3) := by decide +kernel
theorem d_141_9 : decode (bc 141) 9 = .ok (.aload_n 0, 1) := by decide +kernel
theorem d_141_10 : decode (bc 141) 10 = .ok (.getfield 29, 3) := by decide +kernel
theorem q_141_29 : fq 141 29 = some (10, 6, 38, 2, true) := by decide +kernel
theorem d_141_13 : decode (bc 141) 13 = .ok (.iload_n 1, 1) := by decide +kernel
theorem d_141_14 : decode (bc 141) 14 = .ok (.iconst 0, 1) := by decide +kernel
theorem d_141_15 : decode (bc 141) 15 = .ok (.iastore, 1) := by decide +kernel
theorem d_141_16 : decode (bc 141) 16 = .ok (.iinc 1 1, 3) := by decide +kernel
theorem d_141_19 : decode (bc 141) 19 = .ok (.goto (-17), 3) := by decide +kernel
theorem d_141_22 : decode (bc 141) 22 = .ok (.aload_n 0, 1) := by decide +kernel
theorem d_141_23 : decode (bc 141) 23 = .ok (.getfield 29, 3) := by decide +kernel
theorem d_141_26 : decode (bc 141) 26 = .ok (.iconst 0, 1) := by decide +kernel
theorem d_141_27 : decode (bc 141) 27 = .ok (.iconst 1, 1) := by decide +kernel
theorem d_141_28 : decode (bc 141) 28 = .ok (.iastore, 1) := by decide +kernel
theorem d_141_29 : decode (bc 141) 29 = .ok (.aload_n 0, 1) := by decide +kernel
theorem d_141_30 : decode (bc 141) 30 = .ok (.iconst 0, 1) := by decide +kernel
theorem d_141_31 : decode (bc 141) 31 = .ok (.putfield 122, 3) := by decide +kernel
theorem q_141_122 : fq 141 122 = some (10, 7, 38, 0, false) := by decide +kernel
theorem d_141_34 : decode (bc 141) 34 = .ok (.return_, 1) := by decide +kernel
theorem rt_141 : rty 141 = none := by decide +kernel
theorem mx_141 : mxl 141 = 2 := by decide +kernel
theorem ow_141 : (sta 141 = false ∧ own 141 = 10 ∧ hgt 141 = 0) := by decide +kernel
-- 142: SpunModulesModel.joins(II)V
theorem d_142_0 : decode (bc 142) 0 = .ok (.aload_n 0, 1) := by decide +kernel
theorem d_142_1 : decode (bc 142) 1 = .ok (.iload_n 2, 1) := by decide +kernel
theorem d_142_2 : decode (bc 142) 2 = .ok (.invokevirtual 110, 3) := by decide +kernel
theorem q_142_110 : cq 142 110 [0, 3] = some (131, 2) := by decide +kernel
theorem d_142_5 : decode (bc 142) 5 = .ok (.istore_n 3, 1) := by decide +kernel
theorem d_142_6 : decode (bc 142) 6 = .ok (.iconst 0, 1) := by decide +kernel
theorem d_142_7 : decode (bc 142) 7 = .ok (.istore 4, 2) := by decide +kernel
theorem d_142_9 : decode (bc 142) 9 = .ok (.iload 4, 2) := by decide +kernel
theorem d_142_11 : decode (bc 142) 11 = .ok (.iload_n 3, 1) := by decide +kernel
theorem d_142_12 : decode (bc 142) 12 = .ok (.if_icmp .ge 53, 3) := by decide +kernel
theorem d_142_15 : decode (bc 142) 15 = .ok (.iconst 1, 1) := by decide +kernel
theorem d_142_16 : decode (bc 142) 16 = .ok (.istore 5, 2) := by decide +kernel
theorem d_142_18 : decode (bc 142) 18 = .ok (.iload 5, 2) := by decide +kernel
theorem d_142_20 : decode (bc 142) 20 = .ok (.aload_n 0, 1) := by decide +kernel
theorem d_142_21 : decode (bc 142) 21 = .ok (.getfield 13, 3) := by decide +kernel
theorem q_142_13 : fq 142 13 = some (10, 1, 38, 0, false) := by decide +kernel
theorem d_142_24 : decode (bc 142) 24 = .ok (.if_icmp .ge 35, 3) := by decide +kernel
theorem d_142_27 : decode (bc 142) 27 = .ok (.aload_n 0, 1) := by decide +kernel
theorem d_142_28 : decode (bc 142) 28 = .ok (.getfield 29, 3) := by decide +kernel
theorem q_142_29 : fq 142 29 = some (10, 6, 38, 2, true) := by decide +kernel
theorem d_142_31 : decode (bc 142) 31 = .ok (.iload 4, 2) := by decide +kernel
theorem d_142_33 : decode (bc 142) 33 = .ok (.iaload, 1) := by decide +kernel
theorem d_142_34 : decode (bc 142) 34 = .ok (.iconst 1, 1) := by decide +kernel
theorem d_142_35 : decode (bc 142) 35 = .ok (.if_icmp .ne 24, 3) := by decide +kernel
theorem d_142_38 : decode (bc 142) 38 = .ok (.aload_n 0, 1) := by decide +kernel
theorem d_142_39 : decode (bc 142) 39 = .ok (.getfield 29, 3) := by decide +kernel
theorem d_142_42 : decode (bc 142) 42 = .ok (.aload_n 0, 1) := by decide +kernel
theorem d_142_43 : decode (bc 142) 43 = .ok (.iload 4, 2) := by decide +kernel
theorem d_142_45 : decode (bc 142) 45 = .ok (.iload_n 1, 1) := by decide +kernel
theorem d_142_46 : decode (bc 142) 46 = .ok (.iload 5, 2) := by decide +kernel
theorem d_142_48 : decode (bc 142) 48 = .ok (.invokevirtual 125, 3) := by decide +kernel
theorem q_142_125 : cq 142 125 [0, 3] = some (134, 4) := by decide +kernel
theorem d_142_51 : decode (bc 142) 51 = .ok (.iconst 2, 1) := by decide +kernel
theorem d_142_52 : decode (bc 142) 52 = .ok (.iastore, 1) := by decide +kernel
theorem d_142_53 : decode (bc 142) 53 = .ok (.iinc 5 1, 3) := by decide +kernel
theorem d_142_56 : decode (bc 142) 56 = .ok (.goto (-38), 3) := by decide +kernel
theorem d_142_59 : decode (bc 142) 59 = .ok (.iinc 4 1, 3) := by decide +kernel
theorem d_142_62 : decode (bc 142) 62 = .ok (.goto (-53), 3) := by decide +kernel
theorem d_142_65 : decode (bc 142) 65 = .ok (.iconst 0, 1) := by decide +kernel
theorem d_142_66 : decode (bc 142) 66 = .ok (.istore 4, 2) := by decide +kernel
theorem d_142_68 : decode (bc 142) 68 = .ok (.iload 4, 2) := by decide +kernel
theorem d_142_70 : decode (bc 142) 70 = .ok (.iload_n 3, 1) := by decide +kernel
theorem d_142_71 : decode (bc 142) 71 = .ok (.if_icmp .ge 38, 3) := by decide +kernel
theorem d_142_74 : decode (bc 142) 74 = .ok (.aload_n 0, 1) := by decide +kernel
theorem d_142_75 : decode (bc 142) 75 = .ok (.getfield 29, 3) := by decide +kernel
theorem d_142_78 : decode (bc 142) 78 = .ok (.iload 4, 2) := by decide +kernel
theorem d_142_80 : decode (bc 142) 80 = .ok (.aload_n 0, 1) := by decide +kernel
theorem d_142_81 : decode (bc 142) 81 = .ok (.getfield 29, 3) := by decide +kernel
theorem d_142_84 : decode (bc 142) 84 = .ok (.iload 4, 2) := by decide +kernel
theorem d_142_86 : decode (bc 142) 86 = .ok (.iaload, 1) := by decide +kernel
theorem d_142_87 : decode (bc 142) 87 = .ok (.iconst 2, 1) := by decide +kernel
theorem d_142_88 : decode (bc 142) 88 = .ok (.if_icmp .ne 7, 3) := by decide +kernel
theorem d_142_91 : decode (bc 142) 91 = .ok (.iconst 1, 1) := by decide +kernel
theorem d_142_92 : decode (bc 142) 92 = .ok (.goto 10, 3) := by decide +kernel
theorem d_142_95 : decode (bc 142) 95 = .ok (.aload_n 0, 1) := by decide +kernel
theorem d_142_96 : decode (bc 142) 96 = .ok (.getfield 29, 3) := by decide +kernel
theorem d_142_99 : decode (bc 142) 99 = .ok (.iload 4, 2) := by decide +kernel
theorem d_142_101 : decode (bc 142) 101 = .ok (.iaload, 1) := by decide +kernel
theorem d_142_102 : decode (bc 142) 102 = .ok (.iastore, 1) := by decide +kernel
theorem d_142_103 : decode (bc 142) 103 = .ok (.iinc 4 1, 3) := by decide +kernel
theorem d_142_106 : decode (bc 142) 106 = .ok (.goto (-38), 3) := by decide +kernel
theorem d_142_109 : decode (bc 142) 109 = .ok (.aload_n 0, 1) := by decide +kernel
theorem d_142_110 : decode (bc 142) 110 = .ok (.getfield 32, 3) := by decide +kernel
theorem q_142_32 : fq 142 32 = some (10, 8, 38, 2, true) := by decide +kernel
theorem d_142_113 : decode (bc 142) 113 = .ok (.aload_n 0, 1) := by decide +kernel
theorem d_142_114 : decode (bc 142) 114 = .ok (.getfield 122, 3) := by decide +kernel
theorem q_142_122 : fq 142 122 = some (10, 7, 38, 0, false) := by decide +kernel
theorem d_142_117 : decode (bc 142) 117 = .ok (.iload_n 1, 1) := by decide +kernel
theorem d_142_118 : decode (bc 142) 118 = .ok (.iastore, 1) := by decide +kernel
theorem d_142_119 : decode (bc 142) 119 = .ok (.aload_n 0, 1) := by decide +kernel
theorem d_142_120 : decode (bc 142) 120 = .ok (.dup, 1) := by decide +kernel
theorem d_142_121 : decode (bc 142) 121 = .ok (.getfield 122, 3) := by decide +kernel
theorem d_142_124 : decode (bc 142) 124 = .ok (.iconst 1, 1) := by decide +kernel
theorem d_142_125 : decode (bc 142) 125 = .ok (.iadd, 1) := by decide +kernel
theorem d_142_126 : decode (bc 142) 126 = .ok (.putfield 122, 3) := by decide +kernel
theorem d_142_129 : decode (bc 142) 129 = .ok (.return_, 1) := by decide +kernel
theorem rt_142 : rty 142 = none := by decide +kernel
theorem mx_142 : mxl 142 = 6 := by decide +kernel
theorem ow_142 : (sta 142 = false ∧ own 142 = 10 ∧ hgt 142 = 1) := by decide +kernel
-- 143: SpunModulesModel.spinsOn(II)V
theorem d_143_0 : decode (bc 143) 0 = .ok (.iconst 1, 1) := by decide +kernel
theorem d_143_1 : decode (bc 143) 1 = .ok (.istore_n 3, 1) := by decide +kernel
theorem d_143_2 : decode (bc 143) 2 = .ok (.aload_n 0, 1) := by decide +kernel
theorem d_143_3 : decode (bc 143) 3 = .ok (.getfield 35, 3) := by decide +kernel
theorem q_143_35 : fq 143 35 = some (10, 9, 38, 2, true) := by decide +kernel
theorem d_143_6 : decode (bc 143) 6 = .ok (.iconst 0, 1) := by decide +kernel
theorem d_143_7 : decode (bc 143) 7 = .ok (.iload_n 2, 1) := by decide +kernel
theorem d_143_8 : decode (bc 143) 8 = .ok (.iastore, 1) := by decide +kernel
theorem d_143_9 : decode (bc 143) 9 = .ok (.iconst 0, 1) := by decide +kernel
theorem d_143_10 : decode (bc 143) 10 = .ok (.istore 4, 2) := by decide +kernel
theorem d_143_12 : decode (bc 143) 12 = .ok (.iload 4, 2) := by decide +kernel
theorem d_143_14 : decode (bc 143) 14 = .ok (.iload_n 3, 1) := by decide +kernel
theorem d_143_15 : decode (bc 143) 15 = .ok (.if_icmp .ge 73, 3) := by decide +kernel
theorem d_143_18 : decode (bc 143) 18 = .ok (.aload_n 0, 1) := by decide +kernel
theorem d_143_19 : decode (bc 143) 19 = .ok (.getfield 35, 3) := by decide +kernel
theorem d_143_22 : decode (bc 143) 22 = .ok (.iload 4, 2) := by decide +kernel
theorem d_143_24 : decode (bc 143) 24 = .ok (.iaload, 1) := by decide +kernel
theorem d_143_25 : decode (bc 143) 25 = .ok (.istore 5, 2) := by decide +kernel
theorem d_143_27 : decode (bc 143) 27 = .ok (.aload_n 0, 1) := by decide +kernel
theorem d_143_28 : decode (bc 143) 28 = .ok (.getfield 29, 3) := by decide +kernel
theorem q_143_29 : fq 143 29 = some (10, 6, 38, 2, true) := by decide +kernel
theorem d_143_31 : decode (bc 143) 31 = .ok (.iload 5, 2) := by decide +kernel
theorem d_143_33 : decode (bc 143) 33 = .ok (.iaload, 1) := by decide +kernel
theorem d_143_34 : decode (bc 143) 34 = .ok (.ifCond .ne 48, 3) := by decide +kernel
theorem d_143_37 : decode (bc 143) 37 = .ok (.aload_n 0, 1) := by decide +kernel
theorem d_143_38 : decode (bc 143) 38 = .ok (.iload 5, 2) := by decide +kernel
theorem d_143_40 : decode (bc 143) 40 = .ok (.aload_n 0, 1) := by decide +kernel
theorem d_143_41 : decode (bc 143) 41 = .ok (.getfield 17, 3) := by decide +kernel
theorem q_143_17 : fq 143 17 = some (10, 2, 38, 2, true) := by decide +kernel
theorem d_143_44 : decode (bc 143) 44 = .ok (.iload_n 1, 1) := by decide +kernel
theorem d_143_45 : decode (bc 143) 45 = .ok (.iaload, 1) := by decide +kernel
theorem d_143_46 : decode (bc 143) 46 = .ok (.invokevirtual 129, 3) := by decide +kernel
theorem q_143_129 : cq 143 129 [0, 3] = some (142, 3) := by decide +kernel
theorem d_143_49 : decode (bc 143) 49 = .ok (.aload_n 0, 1) := by decide +kernel
theorem d_143_50 : decode (bc 143) 50 = .ok (.getfield 35, 3) := by decide +kernel
theorem d_143_53 : decode (bc 143) 53 = .ok (.iload_n 3, 1) := by decide +kernel
theorem d_143_54 : decode (bc 143) 54 = .ok (.aload_n 0, 1) := by decide +kernel
theorem d_143_55 : decode (bc 143) 55 = .ok (.iload_n 1, 1) := by decide +kernel
theorem d_143_56 : decode (bc 143) 56 = .ok (.iconst 0, 1) := by decide +kernel
theorem d_143_57 : decode (bc 143) 57 = .ok (.iload 5, 2) := by decide +kernel
theorem d_143_59 : decode (bc 143) 59 = .ok (.invokevirtual 133, 3) := by decide +kernel
theorem q_143_133 : cq 143 133 [0, 3] = some (135, 4) := by decide +kernel
theorem d_143_62 : decode (bc 143) 62 = .ok (.iastore, 1) := by decide +kernel
theorem d_143_63 : decode (bc 143) 63 = .ok (.aload_n 0, 1) := by decide +kernel
theorem d_143_64 : decode (bc 143) 64 = .ok (.getfield 35, 3) := by decide +kernel
theorem d_143_67 : decode (bc 143) 67 = .ok (.iload_n 3, 1) := by decide +kernel
theorem d_143_68 : decode (bc 143) 68 = .ok (.iconst 1, 1) := by decide +kernel
theorem d_143_69 : decode (bc 143) 69 = .ok (.iadd, 1) := by decide +kernel
theorem d_143_70 : decode (bc 143) 70 = .ok (.aload_n 0, 1) := by decide +kernel
theorem d_143_71 : decode (bc 143) 71 = .ok (.iload_n 1, 1) := by decide +kernel
theorem d_143_72 : decode (bc 143) 72 = .ok (.iconst 1, 1) := by decide +kernel
theorem d_143_73 : decode (bc 143) 73 = .ok (.iload 5, 2) := by decide +kernel
theorem d_143_75 : decode (bc 143) 75 = .ok (.invokevirtual 133, 3) := by decide +kernel
theorem d_143_78 : decode (bc 143) 78 = .ok (.iastore, 1) := by decide +kernel
theorem d_143_79 : decode (bc 143) 79 = .ok (.iinc 3 2, 3) := by decide +kernel
theorem d_143_82 : decode (bc 143) 82 = .ok (.iinc 4 1, 3) := by decide +kernel
theorem d_143_85 : decode (bc 143) 85 = .ok (.goto (-73), 3) := by decide +kernel
theorem d_143_88 : decode (bc 143) 88 = .ok (.return_, 1) := by decide +kernel
theorem rt_143 : rty 143 = none := by decide +kernel
theorem mx_143 : mxl 143 = 6 := by decide +kernel
theorem ow_143 : (sta 143 = false ∧ own 143 = 10 ∧ hgt 143 = 2) := by decide +kernel
-- 144: SpunModulesModel.spins(II)V
theorem d_144_0 : decode (bc 144) 0 = .ok (.aload_n 0, 1) := by decide +kernel
theorem d_144_1 : decode (bc 144) 1 = .ok (.invokevirtual 136, 3) := by decide +kernel
theorem q_144_136 : cq 144 136 [0, 3] = some (141, 1) := by decide +kernel
theorem d_144_4 : decode (bc 144) 4 = .ok (.aload_n 0, 1) := by decide +kernel
theorem d_144_5 : decode (bc 144) 5 = .ok (.iload_n 1, 1) := by decide +kernel
theorem d_144_6 : decode (bc 144) 6 = .ok (.iload_n 2, 1) := by decide +kernel
theorem d_144_7 : decode (bc 144) 7 = .ok (.invokevirtual 139, 3) := by decide +kernel
theorem q_144_139 : cq 144 139 [0, 3] = some (143, 3) := by decide +kernel
theorem d_144_10 : decode (bc 144) 10 = .ok (.return_, 1) := by decide +kernel
theorem rt_144 : rty 144 = none := by decide +kernel
theorem mx_144 : mxl 144 = 3 := by decide +kernel
theorem ow_144 : (sta 144 = false ∧ own 144 = 10 ∧ hgt 144 = 3) := by decide +kernel
-- 145: SpunModulesModel.firstOf(II)I
theorem d_145_0 : decode (bc 145) 0 = .ok (.iconst 0, 1) := by decide +kernel
theorem d_145_1 : decode (bc 145) 1 = .ok (.istore_n 3, 1) := by decide +kernel
theorem d_145_2 : decode (bc 145) 2 = .ok (.iload_n 3, 1) := by decide +kernel
theorem d_145_3 : decode (bc 145) 3 = .ok (.iload_n 2, 1) := by decide +kernel
theorem d_145_4 : decode (bc 145) 4 = .ok (.if_icmp .ge 18, 3) := by decide +kernel
theorem d_145_7 : decode (bc 145) 7 = .ok (.aload_n 0, 1) := by decide +kernel
theorem d_145_8 : decode (bc 145) 8 = .ok (.iload_n 1, 1) := by decide +kernel
theorem d_145_9 : decode (bc 145) 9 = .ok (.iload_n 3, 1) := by decide +kernel
theorem d_145_10 : decode (bc 145) 10 = .ok (.invokevirtual 142, 3) := by decide +kernel
theorem q_145_142 : cq 145 142 [0, 3] = some (132, 3) := by decide +kernel
theorem d_145_13 : decode (bc 145) 13 = .ok (.ifCond .ne 9, 3) := by decide +kernel
theorem d_145_16 : decode (bc 145) 16 = .ok (.iinc 3 1, 3) := by decide +kernel
theorem d_145_19 : decode (bc 145) 19 = .ok (.goto (-17), 3) := by decide +kernel
theorem d_145_22 : decode (bc 145) 22 = .ok (.iload_n 3, 1) := by decide +kernel
theorem d_145_23 : decode (bc 145) 23 = .ok (.ireturn, 1) := by decide +kernel
theorem rt_145 : rty 145 = some .int := by decide +kernel
theorem mx_145 : mxl 145 = 4 := by decide +kernel
theorem ow_145 : (sta 145 = false ∧ own 145 = 10 ∧ hgt 145 = 2) := by decide +kernel
-- 146: SpunModulesModel.isRow(III)Z
theorem d_146_0 : decode (bc 146) 0 = .ok (.aload_n 0, 1) := by decide +kernel
theorem d_146_1 : decode (bc 146) 1 = .ok (.iload_n 1, 1) := by decide +kernel
theorem d_146_2 : decode (bc 146) 2 = .ok (.iload_n 3, 1) := by decide +kernel
theorem d_146_3 : decode (bc 146) 3 = .ok (.invokevirtual 146, 3) := by decide +kernel
theorem q_146_146 : cq 146 146 [0, 3] = some (145, 3) := by decide +kernel
theorem d_146_6 : decode (bc 146) 6 = .ok (.iload_n 2, 1) := by decide +kernel
theorem d_146_7 : decode (bc 146) 7 = .ok (.if_icmp .ne 17, 3) := by decide +kernel
theorem d_146_10 : decode (bc 146) 10 = .ok (.aload_n 0, 1) := by decide +kernel
theorem d_146_11 : decode (bc 146) 11 = .ok (.iload_n 1, 1) := by decide +kernel
theorem d_146_12 : decode (bc 146) 12 = .ok (.iload_n 2, 1) := by decide +kernel
theorem d_146_13 : decode (bc 146) 13 = .ok (.invokevirtual 142, 3) := by decide +kernel
theorem q_146_142 : cq 146 142 [0, 3] = some (132, 3) := by decide +kernel
theorem d_146_16 : decode (bc 146) 16 = .ok (.iconst 1, 1) := by decide +kernel
theorem d_146_17 : decode (bc 146) 17 = .ok (.if_icmp .ne 7, 3) := by decide +kernel
theorem d_146_20 : decode (bc 146) 20 = .ok (.iconst 1, 1) := by decide +kernel
theorem d_146_21 : decode (bc 146) 21 = .ok (.goto 4, 3) := by decide +kernel
theorem d_146_24 : decode (bc 146) 24 = .ok (.iconst 0, 1) := by decide +kernel
theorem d_146_25 : decode (bc 146) 25 = .ok (.istore 4, 2) := by decide +kernel
theorem d_146_27 : decode (bc 146) 27 = .ok (.iconst 0, 1) := by decide +kernel
theorem d_146_28 : decode (bc 146) 28 = .ok (.istore 5, 2) := by decide +kernel
theorem d_146_30 : decode (bc 146) 30 = .ok (.iload 5, 2) := by decide +kernel
theorem d_146_32 : decode (bc 146) 32 = .ok (.iload_n 3, 1) := by decide +kernel
theorem d_146_33 : decode (bc 146) 33 = .ok (.if_icmp .ge 47, 3) := by decide +kernel
theorem d_146_36 : decode (bc 146) 36 = .ok (.iload 4, 2) := by decide +kernel
theorem d_146_38 : decode (bc 146) 38 = .ok (.ifCond .eq 33, 3) := by decide +kernel
theorem d_146_41 : decode (bc 146) 41 = .ok (.iload 5, 2) := by decide +kernel
theorem d_146_43 : decode (bc 146) 43 = .ok (.iload_n 2, 1) := by decide +kernel
theorem d_146_44 : decode (bc 146) 44 = .ok (.if_icmp .eq 23, 3) := by decide +kernel
theorem d_146_47 : decode (bc 146) 47 = .ok (.aload_n 0, 1) := by decide +kernel
theorem d_146_48 : decode (bc 146) 48 = .ok (.getfield 38, 3) := by decide +kernel
theorem q_146_38 : fq 146 38 = some (10, 10, 38, 2, true) := by decide +kernel
theorem d_146_51 : decode (bc 146) 51 = .ok (.iload 5, 2) := by decide +kernel
theorem d_146_53 : decode (bc 146) 53 = .ok (.iaload, 1) := by decide +kernel
theorem d_146_54 : decode (bc 146) 54 = .ok (.ifCond .eq 13, 3) := by decide +kernel
theorem d_146_57 : decode (bc 146) 57 = .ok (.aload_n 0, 1) := by decide +kernel
theorem d_146_58 : decode (bc 146) 58 = .ok (.iload_n 1, 1) := by decide +kernel
theorem d_146_59 : decode (bc 146) 59 = .ok (.iload 5, 2) := by decide +kernel
theorem d_146_61 : decode (bc 146) 61 = .ok (.invokevirtual 142, 3) := by decide +kernel
theorem d_146_64 : decode (bc 146) 64 = .ok (.ifCond .ne 7, 3) := by decide +kernel
theorem d_146_67 : decode (bc 146) 67 = .ok (.iconst 1, 1) := by decide +kernel
theorem d_146_68 : decode (bc 146) 68 = .ok (.goto 4, 3) := by decide +kernel
theorem d_146_71 : decode (bc 146) 71 = .ok (.iconst 0, 1) := by decide +kernel
theorem d_146_72 : decode (bc 146) 72 = .ok (.istore 4, 2) := by decide +kernel
theorem d_146_74 : decode (bc 146) 74 = .ok (.iinc 5 1, 3) := by decide +kernel
theorem d_146_77 : decode (bc 146) 77 = .ok (.goto (-47), 3) := by decide +kernel
theorem d_146_80 : decode (bc 146) 80 = .ok (.iload 4, 2) := by decide +kernel
theorem d_146_82 : decode (bc 146) 82 = .ok (.ireturn, 1) := by decide +kernel
theorem rt_146 : rty 146 = some .boolean := by decide +kernel
theorem mx_146 : mxl 146 = 6 := by decide +kernel
theorem ow_146 : (sta 146 = false ∧ own 146 = 10 ∧ hgt 146 = 3) := by decide +kernel
-- 147: SpunModulesModel.findsRows(I)V
theorem d_147_0 : decode (bc 147) 0 = .ok (.aload_n 0, 1) := by decide +kernel
theorem d_147_1 : decode (bc 147) 1 = .ok (.iload_n 1, 1) := by decide +kernel
theorem d_147_2 : decode (bc 147) 2 = .ok (.invokevirtual 110, 3) := by decide +kernel
theorem q_147_110 : cq 147 110 [0, 3] = some (131, 2) := by decide +kernel
theorem d_147_5 : decode (bc 147) 5 = .ok (.istore_n 2, 1) := by decide +kernel
theorem d_147_6 : decode (bc 147) 6 = .ok (.iconst 0, 1) := by decide +kernel
theorem d_147_7 : decode (bc 147) 7 = .ok (.istore_n 3, 1) := by decide +kernel
theorem d_147_8 : decode (bc 147) 8 = .ok (.iload_n 3, 1) := by decide +kernel
theorem d_147_9 : decode (bc 147) 9 = .ok (.bipush 6, 2) := by decide +kernel
theorem d_147_11 : decode (bc 147) 11 = .ok (.if_icmp .ge 16, 3) := by decide +kernel
theorem d_147_14 : decode (bc 147) 14 = .ok (.aload_n 0, 1) := by decide +kernel
theorem d_147_15 : decode (bc 147) 15 = .ok (.getfield 38, 3) := by decide +kernel
theorem q_147_38 : fq 147 38 = some (10, 10, 38, 2, true) := by decide +kernel
theorem d_147_18 : decode (bc 147) 18 = .ok (.iload_n 3, 1) := by decide +kernel
theorem d_147_19 : decode (bc 147) 19 = .ok (.iconst 0, 1) := by decide +kernel
theorem d_147_20 : decode (bc 147) 20 = .ok (.iastore, 1) := by decide +kernel
theorem d_147_21 : decode (bc 147) 21 = .ok (.iinc 3 1, 3) := by decide +kernel
theorem d_147_24 : decode (bc 147) 24 = .ok (.goto (-16), 3) := by decide +kernel
theorem d_147_27 : decode (bc 147) 27 = .ok (.iconst 1, 1) := by decide +kernel
theorem d_147_28 : decode (bc 147) 28 = .ok (.istore_n 3, 1) := by decide +kernel
theorem d_147_29 : decode (bc 147) 29 = .ok (.iload_n 3, 1) := by decide +kernel
theorem d_147_30 : decode (bc 147) 30 = .ok (.iload_n 2, 1) := by decide +kernel
theorem d_147_31 : decode (bc 147) 31 = .ok (.if_icmp .ge 31, 3) := by decide +kernel
theorem d_147_34 : decode (bc 147) 34 = .ok (.aload_n 0, 1) := by decide +kernel
theorem d_147_35 : decode (bc 147) 35 = .ok (.getfield 29, 3) := by decide +kernel
theorem q_147_29 : fq 147 29 = some (10, 6, 38, 2, true) := by decide +kernel
theorem d_147_38 : decode (bc 147) 38 = .ok (.iload_n 3, 1) := by decide +kernel
theorem d_147_39 : decode (bc 147) 39 = .ok (.iaload, 1) := by decide +kernel
theorem d_147_40 : decode (bc 147) 40 = .ok (.iconst 1, 1) := by decide +kernel
theorem d_147_41 : decode (bc 147) 41 = .ok (.if_icmp .ne 15, 3) := by decide +kernel
theorem d_147_44 : decode (bc 147) 44 = .ok (.aload_n 0, 1) := by decide +kernel
theorem d_147_45 : decode (bc 147) 45 = .ok (.getfield 38, 3) := by decide +kernel
theorem d_147_48 : decode (bc 147) 48 = .ok (.aload_n 0, 1) := by decide +kernel
theorem d_147_49 : decode (bc 147) 49 = .ok (.iload_n 3, 1) := by decide +kernel
theorem d_147_50 : decode (bc 147) 50 = .ok (.iload_n 1, 1) := by decide +kernel
theorem d_147_51 : decode (bc 147) 51 = .ok (.invokevirtual 146, 3) := by decide +kernel
theorem q_147_146 : cq 147 146 [0, 3] = some (145, 3) := by decide +kernel
theorem d_147_54 : decode (bc 147) 54 = .ok (.iconst 1, 1) := by decide +kernel
theorem d_147_55 : decode (bc 147) 55 = .ok (.iastore, 1) := by decide +kernel
theorem d_147_56 : decode (bc 147) 56 = .ok (.iinc 3 1, 3) := by decide +kernel
theorem d_147_59 : decode (bc 147) 59 = .ok (.goto (-30), 3) := by decide +kernel
theorem d_147_62 : decode (bc 147) 62 = .ok (.iconst 0, 1) := by decide +kernel
theorem d_147_63 : decode (bc 147) 63 = .ok (.istore_n 3, 1) := by decide +kernel
theorem d_147_64 : decode (bc 147) 64 = .ok (.iconst 0, 1) := by decide +kernel
theorem d_147_65 : decode (bc 147) 65 = .ok (.istore 4, 2) := by decide +kernel
theorem d_147_67 : decode (bc 147) 67 = .ok (.iload 4, 2) := by decide +kernel
theorem d_147_69 : decode (bc 147) 69 = .ok (.iload_n 1, 1) := by decide +kernel
theorem d_147_70 : decode (bc 147) 70 = .ok (.if_icmp .ge 84, 3) := by decide +kernel
theorem d_147_73 : decode (bc 147) 73 = .ok (.iconst 1, 1) := by decide +kernel
theorem d_147_74 : decode (bc 147) 74 = .ok (.istore 5, 2) := by decide +kernel
theorem d_147_76 : decode (bc 147) 76 = .ok (.iload 5, 2) := by decide +kernel
theorem d_147_78 : decode (bc 147) 78 = .ok (.iload_n 2, 1) := by decide +kernel
theorem d_147_79 : decode (bc 147) 79 = .ok (.if_icmp .ge 59, 3) := by decide +kernel
theorem d_147_82 : decode (bc 147) 82 = .ok (.aload_n 0, 1) := by decide +kernel
theorem d_147_83 : decode (bc 147) 83 = .ok (.getfield 38, 3) := by decide +kernel
theorem d_147_86 : decode (bc 147) 86 = .ok (.iload 4, 2) := by decide +kernel
theorem d_147_88 : decode (bc 147) 88 = .ok (.iaload, 1) := by decide +kernel
theorem d_147_89 : decode (bc 147) 89 = .ok (.iconst 1, 1) := by decide +kernel
theorem d_147_90 : decode (bc 147) 90 = .ok (.if_icmp .ne 48, 3) := by decide +kernel
theorem d_147_93 : decode (bc 147) 93 = .ok (.aload_n 0, 1) := by decide +kernel
theorem d_147_94 : decode (bc 147) 94 = .ok (.getfield 29, 3) := by decide +kernel
theorem d_147_97 : decode (bc 147) 97 = .ok (.iload 5, 2) := by decide +kernel
theorem d_147_99 : decode (bc 147) 99 = .ok (.iaload, 1) := by decide +kernel
theorem d_147_100 : decode (bc 147) 100 = .ok (.iconst 1, 1) := by decide +kernel
theorem d_147_101 : decode (bc 147) 101 = .ok (.if_icmp .ne 31, 3) := by decide +kernel
theorem d_147_104 : decode (bc 147) 104 = .ok (.aload_n 0, 1) := by decide +kernel
theorem d_147_105 : decode (bc 147) 105 = .ok (.iload 5, 2) := by decide +kernel
theorem d_147_107 : decode (bc 147) 107 = .ok (.iload 4, 2) := by decide +kernel
theorem d_147_109 : decode (bc 147) 109 = .ok (.iload_n 1, 1) := by decide +kernel
theorem d_147_110 : decode (bc 147) 110 = .ok (.invokevirtual 149, 3) := by decide +kernel
theorem q_147_149 : cq 147 149 [0, 3] = some (146, 4) := by decide +kernel
theorem d_147_113 : decode (bc 147) 113 = .ok (.ifCond .eq 19, 3) := by decide +kernel
theorem d_147_116 : decode (bc 147) 116 = .ok (.aload_n 0, 1) := by decide +kernel
theorem d_147_117 : decode (bc 147) 117 = .ok (.getfield 41, 3) := by decide +kernel
theorem q_147_41 : fq 147 41 = some (10, 11, 38, 2, true) := by decide +kernel
theorem d_147_120 : decode (bc 147) 120 = .ok (.iload_n 3, 1) := by decide +kernel
theorem d_147_121 : decode (bc 147) 121 = .ok (.iload 5, 2) := by decide +kernel
theorem d_147_123 : decode (bc 147) 123 = .ok (.iastore, 1) := by decide +kernel
theorem d_147_124 : decode (bc 147) 124 = .ok (.aload_n 0, 1) := by decide +kernel
theorem d_147_125 : decode (bc 147) 125 = .ok (.getfield 44, 3) := by decide +kernel
theorem q_147_44 : fq 147 44 = some (10, 12, 38, 2, true) := by decide +kernel
theorem d_147_128 : decode (bc 147) 128 = .ok (.iload_n 3, 1) := by decide +kernel
theorem d_147_129 : decode (bc 147) 129 = .ok (.iload 4, 2) := by decide +kernel
theorem d_147_131 : decode (bc 147) 131 = .ok (.iastore, 1) := by decide +kernel
theorem d_147_132 : decode (bc 147) 132 = .ok (.iinc 5 1, 3) := by decide +kernel
theorem d_147_135 : decode (bc 147) 135 = .ok (.goto (-59), 3) := by decide +kernel
theorem d_147_138 : decode (bc 147) 138 = .ok (.iload_n 3, 1) := by decide +kernel
theorem d_147_139 : decode (bc 147) 139 = .ok (.aload_n 0, 1) := by decide +kernel
theorem d_147_140 : decode (bc 147) 140 = .ok (.getfield 38, 3) := by decide +kernel
theorem d_147_143 : decode (bc 147) 143 = .ok (.iload 4, 2) := by decide +kernel
theorem d_147_145 : decode (bc 147) 145 = .ok (.iaload, 1) := by decide +kernel
theorem d_147_146 : decode (bc 147) 146 = .ok (.iadd, 1) := by decide +kernel
theorem d_147_147 : decode (bc 147) 147 = .ok (.istore_n 3, 1) := by decide +kernel
theorem d_147_148 : decode (bc 147) 148 = .ok (.iinc 4 1, 3) := by decide +kernel
theorem d_147_151 : decode (bc 147) 151 = .ok (.goto (-84), 3) := by decide +kernel
theorem d_147_154 : decode (bc 147) 154 = .ok (.return_, 1) := by decide +kernel
theorem rt_147 : rty 147 = none := by decide +kernel
theorem mx_147 : mxl 147 = 6 := by decide +kernel
theorem ow_147 : (sta 147 = false ∧ own 147 = 10 ∧ hgt 147 = 4) := by decide +kernel
-- 148: SpunModulesModel.tellsPart(II)V
theorem d_148_0 : decode (bc 148) 0 = .ok (.aload_n 0, 1) := by decide +kernel
theorem d_148_1 : decode (bc 148) 1 = .ok (.aload_n 0, 1) := by decide +kernel
theorem d_148_2 : decode (bc 148) 2 = .ok (.getfield 17, 3) := by decide +kernel
theorem q_148_17 : fq 148 17 = some (10, 2, 38, 2, true) := by decide +kernel
theorem d_148_5 : decode (bc 148) 5 = .ok (.iload_n 1, 1) := by decide +kernel
theorem d_148_6 : decode (bc 148) 6 = .ok (.iaload, 1) := by decide +kernel
theorem d_148_7 : decode (bc 148) 7 = .ok (.invokevirtual 152, 3) := by decide +kernel
theorem q_148_152 : cq 148 152 [0, 3] = some (147, 2) := by decide +kernel
theorem d_148_10 : decode (bc 148) 10 = .ok (.aload_n 0, 1) := by decide +kernel
theorem d_148_11 : decode (bc 148) 11 = .ok (.invokevirtual 156, 3) := by decide +kernel
theorem q_148_156 : cq 148 156 [0, 3] = some (137, 1) := by decide +kernel
theorem d_148_14 : decode (bc 148) 14 = .ok (.iconst 0, 1) := by decide +kernel
theorem d_148_15 : decode (bc 148) 15 = .ok (.istore_n 3, 1) := by decide +kernel
theorem d_148_16 : decode (bc 148) 16 = .ok (.iload_n 3, 1) := by decide +kernel
theorem d_148_17 : decode (bc 148) 17 = .ok (.iconst 2, 1) := by decide +kernel
theorem d_148_18 : decode (bc 148) 18 = .ok (.if_icmp .ge 87, 3) := by decide +kernel
theorem d_148_21 : decode (bc 148) 21 = .ok (.iconst 0, 1) := by decide +kernel
theorem d_148_22 : decode (bc 148) 22 = .ok (.istore 4, 2) := by decide +kernel
theorem d_148_24 : decode (bc 148) 24 = .ok (.iload 4, 2) := by decide +kernel
theorem d_148_26 : decode (bc 148) 26 = .ok (.aload_n 0, 1) := by decide +kernel
theorem d_148_27 : decode (bc 148) 27 = .ok (.getfield 122, 3) := by decide +kernel
theorem q_148_122 : fq 148 122 = some (10, 7, 38, 0, false) := by decide +kernel
theorem d_148_30 : decode (bc 148) 30 = .ok (.if_icmp .ge 69, 3) := by decide +kernel
theorem d_148_33 : decode (bc 148) 33 = .ok (.aload_n 0, 1) := by decide +kernel
theorem d_148_34 : decode (bc 148) 34 = .ok (.iload_n 1, 1) := by decide +kernel
theorem d_148_35 : decode (bc 148) 35 = .ok (.iload_n 3, 1) := by decide +kernel
theorem d_148_36 : decode (bc 148) 36 = .ok (.aload_n 0, 1) := by decide +kernel
theorem d_148_37 : decode (bc 148) 37 = .ok (.getfield 41, 3) := by decide +kernel
theorem q_148_41 : fq 148 41 = some (10, 11, 38, 2, true) := by decide +kernel
theorem d_148_40 : decode (bc 148) 40 = .ok (.iload 4, 2) := by decide +kernel
theorem d_148_42 : decode (bc 148) 42 = .ok (.iaload, 1) := by decide +kernel
theorem d_148_43 : decode (bc 148) 43 = .ok (.invokevirtual 133, 3) := by decide +kernel
theorem q_148_133 : cq 148 133 [0, 3] = some (135, 4) := by decide +kernel
theorem d_148_46 : decode (bc 148) 46 = .ok (.istore 5, 2) := by decide +kernel
theorem d_148_48 : decode (bc 148) 48 = .ok (.iconst 0, 1) := by decide +kernel
theorem d_148_49 : decode (bc 148) 49 = .ok (.istore 6, 2) := by decide +kernel
theorem d_148_51 : decode (bc 148) 51 = .ok (.iload 6, 2) := by decide +kernel
theorem d_148_53 : decode (bc 148) 53 = .ok (.aload_n 0, 1) := by decide +kernel
theorem d_148_54 : decode (bc 148) 54 = .ok (.getfield 122, 3) := by decide +kernel
theorem d_148_57 : decode (bc 148) 57 = .ok (.if_icmp .ge 36, 3) := by decide +kernel
theorem d_148_60 : decode (bc 148) 60 = .ok (.aload_n 0, 1) := by decide +kernel
theorem d_148_61 : decode (bc 148) 61 = .ok (.getfield 23, 3) := by decide +kernel
theorem q_148_23 : fq 148 23 = some (10, 4, 38, 2, true) := by decide +kernel
theorem d_148_64 : decode (bc 148) 64 = .ok (.iconst 0, 1) := by decide +kernel
theorem d_148_65 : decode (bc 148) 65 = .ok (.iload_n 3, 1) := by decide +kernel
theorem d_148_66 : decode (bc 148) 66 = .ok (.iload 4, 2) := by decide +kernel
theorem d_148_68 : decode (bc 148) 68 = .ok (.iload 6, 2) := by decide +kernel
theorem d_148_70 : decode (bc 148) 70 = .ok (.invokestatic 114, 3) := by decide +kernel
theorem q_148_114 : cq 148 114 [1, 4] = some (133, 4) := by decide +kernel
theorem d_148_73 : decode (bc 148) 73 = .ok (.aload_n 0, 1) := by decide +kernel
theorem d_148_74 : decode (bc 148) 74 = .ok (.iload 5, 2) := by decide +kernel
theorem d_148_76 : decode (bc 148) 76 = .ok (.aload_n 0, 1) := by decide +kernel
theorem d_148_77 : decode (bc 148) 77 = .ok (.getfield 44, 3) := by decide +kernel
theorem q_148_44 : fq 148 44 = some (10, 12, 38, 2, true) := by decide +kernel
theorem d_148_80 : decode (bc 148) 80 = .ok (.iload 6, 2) := by decide +kernel
theorem d_148_82 : decode (bc 148) 82 = .ok (.iaload, 1) := by decide +kernel
theorem d_148_83 : decode (bc 148) 83 = .ok (.invokevirtual 142, 3) := by decide +kernel
theorem q_148_142 : cq 148 142 [0, 3] = some (132, 3) := by decide +kernel
theorem d_148_86 : decode (bc 148) 86 = .ok (.iastore, 1) := by decide +kernel
theorem d_148_87 : decode (bc 148) 87 = .ok (.iinc 6 1, 3) := by decide +kernel
theorem d_148_90 : decode (bc 148) 90 = .ok (.goto (-39), 3) := by decide +kernel
theorem d_148_93 : decode (bc 148) 93 = .ok (.iinc 4 1, 3) := by decide +kernel
theorem d_148_96 : decode (bc 148) 96 = .ok (.goto (-72), 3) := by decide +kernel
theorem d_148_99 : decode (bc 148) 99 = .ok (.iinc 3 1, 3) := by decide +kernel
theorem d_148_102 : decode (bc 148) 102 = .ok (.goto (-86), 3) := by decide +kernel
theorem d_148_105 : decode (bc 148) 105 = .ok (.aload_n 0, 1) := by decide +kernel
theorem d_148_106 : decode (bc 148) 106 = .ok (.iload_n 2, 1) := by decide +kernel
theorem d_148_107 : decode (bc 148) 107 = .ok (.aload_n 0, 1) := by decide +kernel
theorem d_148_108 : decode (bc 148) 108 = .ok (.getfield 122, 3) := by decide +kernel
theorem d_148_111 : decode (bc 148) 111 = .ok (.invokevirtual 159, 3) := by decide +kernel
theorem q_148_159 : cq 148 159 [0, 3] = some (136, 3) := by decide +kernel
theorem d_148_114 : decode (bc 148) 114 = .ok (.return_, 1) := by decide +kernel
theorem rt_148 : rty 148 = none := by decide +kernel
theorem mx_148 : mxl 148 = 7 := by decide +kernel
theorem ow_148 : (sta 148 = false ∧ own 148 = 10 ∧ hgt 148 = 5) := by decide +kernel
-- 149: SpunModulesModel.without(I)I
theorem d_149_0 : decode (bc 149) 0 = .ok (.iload_n 1, 1) := by decide +kernel
theorem d_149_1 : decode (bc 149) 1 = .ok (.istore_n 2, 1) := by decide +kernel
theorem d_149_2 : decode (bc 149) 2 = .ok (.iconst 0, 1) := by decide +kernel
theorem d_149_3 : decode (bc 149) 3 = .ok (.istore_n 3, 1) := by decide +kernel
theorem d_149_4 : decode (bc 149) 4 = .ok (.iload_n 3, 1) := by decide +kernel
theorem d_149_5 : decode (bc 149) 5 = .ok (.aload_n 0, 1) := by decide +kernel
theorem d_149_6 : decode (bc 149) 6 = .ok (.getfield 122, 3) := by decide +kernel
theorem q_149_122 : fq 149 122 = some (10, 7, 38, 0, false) := by decide +kernel
theorem d_149_9 : decode (bc 149) 9 = .ok (.if_icmp .ge 41, 3) := by decide +kernel
theorem d_149_12 : decode (bc 149) 12 = .ok (.aload_n 0, 1) := by decide +kernel
theorem d_149_13 : decode (bc 149) 13 = .ok (.iload_n 1, 1) := by decide +kernel
theorem d_149_14 : decode (bc 149) 14 = .ok (.aload_n 0, 1) := by decide +kernel
theorem d_149_15 : decode (bc 149) 15 = .ok (.getfield 44, 3) := by decide +kernel
theorem q_149_44 : fq 149 44 = some (10, 12, 38, 2, true) := by decide +kernel
theorem d_149_18 : decode (bc 149) 18 = .ok (.iload_n 3, 1) := by decide +kernel
theorem d_149_19 : decode (bc 149) 19 = .ok (.iaload, 1) := by decide +kernel
theorem d_149_20 : decode (bc 149) 20 = .ok (.invokevirtual 142, 3) := by decide +kernel
theorem q_149_142 : cq 149 142 [0, 3] = some (132, 3) := by decide +kernel
theorem d_149_23 : decode (bc 149) 23 = .ok (.istore 4, 2) := by decide +kernel
theorem d_149_25 : decode (bc 149) 25 = .ok (.aload_n 0, 1) := by decide +kernel
theorem d_149_26 : decode (bc 149) 26 = .ok (.iload_n 2, 1) := by decide +kernel
theorem d_149_27 : decode (bc 149) 27 = .ok (.aload_n 0, 1) := by decide +kernel
theorem d_149_28 : decode (bc 149) 28 = .ok (.getfield 41, 3) := by decide +kernel
theorem q_149_41 : fq 149 41 = some (10, 11, 38, 2, true) := by decide +kernel
theorem d_149_31 : decode (bc 149) 31 = .ok (.iload_n 3, 1) := by decide +kernel
theorem d_149_32 : decode (bc 149) 32 = .ok (.iaload, 1) := by decide +kernel
theorem d_149_33 : decode (bc 149) 33 = .ok (.aload_n 0, 1) := by decide +kernel
theorem d_149_34 : decode (bc 149) 34 = .ok (.getfield 13, 3) := by decide +kernel
theorem q_149_13 : fq 149 13 = some (10, 1, 38, 0, false) := by decide +kernel
theorem d_149_37 : decode (bc 149) 37 = .ok (.iload 4, 2) := by decide +kernel
theorem d_149_39 : decode (bc 149) 39 = .ok (.isub, 1) := by decide +kernel
theorem d_149_40 : decode (bc 149) 40 = .ok (.invokevirtual 125, 3) := by decide +kernel
theorem q_149_125 : cq 149 125 [0, 3] = some (134, 4) := by decide +kernel
theorem d_149_43 : decode (bc 149) 43 = .ok (.istore_n 2, 1) := by decide +kernel
theorem d_149_44 : decode (bc 149) 44 = .ok (.iinc 3 1, 3) := by decide +kernel
theorem d_149_47 : decode (bc 149) 47 = .ok (.goto (-43), 3) := by decide +kernel
theorem d_149_50 : decode (bc 149) 50 = .ok (.iload_n 2, 1) := by decide +kernel
theorem d_149_51 : decode (bc 149) 51 = .ok (.ireturn, 1) := by decide +kernel
theorem rt_149 : rty 149 = some .int := by decide +kernel
theorem mx_149 : mxl 149 = 5 := by decide +kernel
theorem ow_149 : (sta 149 = false ∧ own 149 = 10 ∧ hgt 149 = 2) := by decide +kernel
-- 150: SpunModulesModel.tellsRest(II)V
theorem d_150_0 : decode (bc 150) 0 = .ok (.aload_n 0, 1) := by decide +kernel
theorem d_150_1 : decode (bc 150) 1 = .ok (.getfield 17, 3) := by decide +kernel
theorem q_150_17 : fq 150 17 = some (10, 2, 38, 2, true) := by decide +kernel
theorem d_150_4 : decode (bc 150) 4 = .ok (.iload_n 1, 1) := by decide +kernel
theorem d_150_5 : decode (bc 150) 5 = .ok (.iaload, 1) := by decide +kernel
theorem d_150_6 : decode (bc 150) 6 = .ok (.istore_n 3, 1) := by decide +kernel
theorem d_150_7 : decode (bc 150) 7 = .ok (.aload_n 0, 1) := by decide +kernel
theorem d_150_8 : decode (bc 150) 8 = .ok (.iload_n 3, 1) := by decide +kernel
theorem d_150_9 : decode (bc 150) 9 = .ok (.invokevirtual 152, 3) := by decide +kernel
theorem q_150_152 : cq 150 152 [0, 3] = some (147, 2) := by decide +kernel
theorem d_150_12 : decode (bc 150) 12 = .ok (.aload_n 0, 1) := by decide +kernel
theorem d_150_13 : decode (bc 150) 13 = .ok (.invokevirtual 156, 3) := by decide +kernel
theorem q_150_156 : cq 150 156 [0, 3] = some (137, 1) := by decide +kernel
theorem d_150_16 : decode (bc 150) 16 = .ok (.iconst 0, 1) := by decide +kernel
theorem d_150_17 : decode (bc 150) 17 = .ok (.istore 4, 2) := by decide +kernel
theorem d_150_19 : decode (bc 150) 19 = .ok (.iload 4, 2) := by decide +kernel
theorem d_150_21 : decode (bc 150) 21 = .ok (.iconst 2, 1) := by decide +kernel
theorem d_150_22 : decode (bc 150) 22 = .ok (.if_icmp .ge 113, 3) := by decide +kernel
theorem d_150_25 : decode (bc 150) 25 = .ok (.iconst 0, 1) := by decide +kernel
theorem d_150_26 : decode (bc 150) 26 = .ok (.istore 5, 2) := by decide +kernel
theorem d_150_28 : decode (bc 150) 28 = .ok (.iconst 0, 1) := by decide +kernel
theorem d_150_29 : decode (bc 150) 29 = .ok (.istore 6, 2) := by decide +kernel
theorem d_150_31 : decode (bc 150) 31 = .ok (.iload 6, 2) := by decide +kernel
theorem d_150_33 : decode (bc 150) 33 = .ok (.iload_n 3, 1) := by decide +kernel
theorem d_150_34 : decode (bc 150) 34 = .ok (.if_icmp .ge 95, 3) := by decide +kernel
theorem d_150_37 : decode (bc 150) 37 = .ok (.aload_n 0, 1) := by decide +kernel
theorem d_150_38 : decode (bc 150) 38 = .ok (.getfield 38, 3) := by decide +kernel
theorem q_150_38 : fq 150 38 = some (10, 10, 38, 2, true) := by decide +kernel
theorem d_150_41 : decode (bc 150) 41 = .ok (.iload 6, 2) := by decide +kernel
theorem d_150_43 : decode (bc 150) 43 = .ok (.iaload, 1) := by decide +kernel
theorem d_150_44 : decode (bc 150) 44 = .ok (.ifCond .ne 79, 3) := by decide +kernel
theorem d_150_47 : decode (bc 150) 47 = .ok (.aload_n 0, 1) := by decide +kernel
theorem d_150_48 : decode (bc 150) 48 = .ok (.aload_n 0, 1) := by decide +kernel
theorem d_150_49 : decode (bc 150) 49 = .ok (.iload_n 1, 1) := by decide +kernel
theorem d_150_50 : decode (bc 150) 50 = .ok (.iload 4, 2) := by decide +kernel
theorem d_150_52 : decode (bc 150) 52 = .ok (.aload_n 0, 1) := by decide +kernel
theorem d_150_53 : decode (bc 150) 53 = .ok (.iload 6, 2) := by decide +kernel
theorem d_150_55 : decode (bc 150) 55 = .ok (.invokevirtual 110, 3) := by decide +kernel
theorem q_150_110 : cq 150 110 [0, 3] = some (131, 2) := by decide +kernel
theorem d_150_58 : decode (bc 150) 58 = .ok (.invokevirtual 133, 3) := by decide +kernel
theorem q_150_133 : cq 150 133 [0, 3] = some (135, 4) := by decide +kernel
theorem d_150_61 : decode (bc 150) 61 = .ok (.invokevirtual 162, 3) := by decide +kernel
theorem q_150_162 : cq 150 162 [0, 3] = some (149, 2) := by decide +kernel
theorem d_150_64 : decode (bc 150) 64 = .ok (.istore 7, 2) := by decide +kernel
theorem d_150_66 : decode (bc 150) 66 = .ok (.iconst 0, 1) := by decide +kernel
theorem d_150_67 : decode (bc 150) 67 = .ok (.istore 8, 2) := by decide +kernel
theorem d_150_69 : decode (bc 150) 69 = .ok (.iconst 0, 1) := by decide +kernel
theorem d_150_70 : decode (bc 150) 70 = .ok (.istore 9, 2) := by decide +kernel
theorem d_150_72 : decode (bc 150) 72 = .ok (.iload 9, 2) := by decide +kernel
theorem d_150_74 : decode (bc 150) 74 = .ok (.iload_n 3, 1) := by decide +kernel
theorem d_150_75 : decode (bc 150) 75 = .ok (.if_icmp .ge 45, 3) := by decide +kernel
theorem d_150_78 : decode (bc 150) 78 = .ok (.aload_n 0, 1) := by decide +kernel
theorem d_150_79 : decode (bc 150) 79 = .ok (.getfield 38, 3) := by decide +kernel
theorem d_150_82 : decode (bc 150) 82 = .ok (.iload 9, 2) := by decide +kernel
theorem d_150_84 : decode (bc 150) 84 = .ok (.iaload, 1) := by decide +kernel
theorem d_150_85 : decode (bc 150) 85 = .ok (.ifCond .ne 29, 3) := by decide +kernel
theorem d_150_88 : decode (bc 150) 88 = .ok (.aload_n 0, 1) := by decide +kernel
theorem d_150_89 : decode (bc 150) 89 = .ok (.getfield 23, 3) := by decide +kernel
theorem q_150_23 : fq 150 23 = some (10, 4, 38, 2, true) := by decide +kernel
theorem d_150_92 : decode (bc 150) 92 = .ok (.iconst 0, 1) := by decide +kernel
theorem d_150_93 : decode (bc 150) 93 = .ok (.iload 4, 2) := by decide +kernel
theorem d_150_95 : decode (bc 150) 95 = .ok (.iload 5, 2) := by decide +kernel
theorem d_150_97 : decode (bc 150) 97 = .ok (.iload 8, 2) := by decide +kernel
theorem d_150_99 : decode (bc 150) 99 = .ok (.invokestatic 114, 3) := by decide +kernel
theorem q_150_114 : cq 150 114 [1, 4] = some (133, 4) := by decide +kernel
theorem d_150_102 : decode (bc 150) 102 = .ok (.aload_n 0, 1) := by decide +kernel
theorem d_150_103 : decode (bc 150) 103 = .ok (.iload 7, 2) := by decide +kernel
theorem d_150_105 : decode (bc 150) 105 = .ok (.iload 9, 2) := by decide +kernel
theorem d_150_107 : decode (bc 150) 107 = .ok (.invokevirtual 142, 3) := by decide +kernel
theorem q_150_142 : cq 150 142 [0, 3] = some (132, 3) := by decide +kernel
theorem d_150_110 : decode (bc 150) 110 = .ok (.iastore, 1) := by decide +kernel
theorem d_150_111 : decode (bc 150) 111 = .ok (.iinc 8 1, 3) := by decide +kernel
theorem d_150_114 : decode (bc 150) 114 = .ok (.iinc 9 1, 3) := by decide +kernel
theorem d_150_117 : decode (bc 150) 117 = .ok (.goto (-45), 3) := by decide +kernel
theorem d_150_120 : decode (bc 150) 120 = .ok (.iinc 5 1, 3) := by decide +kernel
theorem d_150_123 : decode (bc 150) 123 = .ok (.iinc 6 1, 3) := by decide +kernel
theorem d_150_126 : decode (bc 150) 126 = .ok (.goto (-95), 3) := by decide +kernel
theorem d_150_129 : decode (bc 150) 129 = .ok (.iinc 4 1, 3) := by decide +kernel
theorem d_150_132 : decode (bc 150) 132 = .ok (.goto (-113), 3) := by decide +kernel
theorem d_150_135 : decode (bc 150) 135 = .ok (.aload_n 0, 1) := by decide +kernel
theorem d_150_136 : decode (bc 150) 136 = .ok (.iload_n 2, 1) := by decide +kernel
theorem d_150_137 : decode (bc 150) 137 = .ok (.iload_n 3, 1) := by decide +kernel
theorem d_150_138 : decode (bc 150) 138 = .ok (.aload_n 0, 1) := by decide +kernel
theorem d_150_139 : decode (bc 150) 139 = .ok (.getfield 122, 3) := by decide +kernel
theorem q_150_122 : fq 150 122 = some (10, 7, 38, 0, false) := by decide +kernel
theorem d_150_142 : decode (bc 150) 142 = .ok (.isub, 1) := by decide +kernel
theorem d_150_143 : decode (bc 150) 143 = .ok (.invokevirtual 159, 3) := by decide +kernel
theorem q_150_159 : cq 150 159 [0, 3] = some (136, 3) := by decide +kernel
theorem d_150_146 : decode (bc 150) 146 = .ok (.return_, 1) := by decide +kernel
theorem rt_150 : rty 150 = none := by decide +kernel
theorem mx_150 : mxl 150 = 10 := by decide +kernel
theorem ow_150 : (sta 150 = false ∧ own 150 = 10 ∧ hgt 150 = 5) := by decide +kernel
-- 151: SpunModulesModel.leavesState()V
theorem d_151_0 : decode (bc 151) 0 = .ok (.aload_n 0, 1) := by decide +kernel
theorem d_151_1 : decode (bc 151) 1 = .ok (.getfield 165, 3) := by decide +kernel
theorem q_151_165 : fq 151 165 = some (10, 13, 38, 0, false) := by decide +kernel
theorem d_151_4 : decode (bc 151) 4 = .ok (.bipush 8, 2) := by decide +kernel
theorem d_151_6 : decode (bc 151) 6 = .ok (.if_icmp .ne 44, 3) := by decide +kernel
theorem d_151_9 : decode (bc 151) 9 = .ok (.iconst 0, 1) := by decide +kernel
theorem d_151_10 : decode (bc 151) 10 = .ok (.istore_n 1, 1) := by decide +kernel
theorem d_151_11 : decode (bc 151) 11 = .ok (.iload_n 1, 1) := by decide +kernel
theorem d_151_12 : decode (bc 151) 12 = .ok (.sipush 2051, 3) := by decide +kernel
theorem d_151_15 : decode (bc 151) 15 = .ok (.if_icmp .ge 25, 3) := by decide +kernel
theorem d_151_18 : decode (bc 151) 18 = .ok (.aload_n 0, 1) := by decide +kernel
theorem d_151_19 : decode (bc 151) 19 = .ok (.getfield 47, 3) := by decide +kernel
theorem q_151_47 : fq 151 47 = some (10, 14, 38, 2, true) := by decide +kernel
theorem d_151_22 : decode (bc 151) 22 = .ok (.iload_n 1, 1) := by decide +kernel
theorem d_151_23 : decode (bc 151) 23 = .ok (.aload_n 0, 1) := by decide +kernel
theorem d_151_24 : decode (bc 151) 24 = .ok (.getfield 47, 3) := by decide +kernel
theorem d_151_27 : decode (bc 151) 27 = .ok (.iload_n 1, 1) := by decide +kernel
theorem d_151_28 : decode (bc 151) 28 = .ok (.sipush 293, 3) := by decide +kernel
theorem d_151_31 : decode (bc 151) 31 = .ok (.iadd, 1) := by decide +kernel
theorem d_151_32 : decode (bc 151) 32 = .ok (.iaload, 1) := by decide +kernel
theorem d_151_33 : decode (bc 151) 33 = .ok (.iastore, 1) := by decide +kernel
theorem d_151_34 : decode (bc 151) 34 = .ok (.iinc 1 1, 3) := by decide +kernel
theorem d_151_37 : decode (bc 151) 37 = .ok (.goto (-26), 3) := by decide +kernel
theorem d_151_40 : decode (bc 151) 40 = .ok (.aload_n 0, 1) := by decide +kernel
theorem d_151_41 : decode (bc 151) 41 = .ok (.dup, 1) := by decide +kernel
theorem d_151_42 : decode (bc 151) 42 = .ok (.getfield 165, 3) := by decide +kernel
theorem d_151_45 : decode (bc 151) 45 = .ok (.iconst 1, 1) := by decide +kernel
theorem d_151_46 : decode (bc 151) 46 = .ok (.isub, 1) := by decide +kernel
theorem d_151_47 : decode (bc 151) 47 = .ok (.putfield 165, 3) := by decide +kernel
theorem d_151_50 : decode (bc 151) 50 = .ok (.sipush 293, 3) := by decide +kernel
theorem d_151_53 : decode (bc 151) 53 = .ok (.aload_n 0, 1) := by decide +kernel
theorem d_151_54 : decode (bc 151) 54 = .ok (.getfield 165, 3) := by decide +kernel
theorem d_151_57 : decode (bc 151) 57 = .ok (.imul, 1) := by decide +kernel
theorem d_151_58 : decode (bc 151) 58 = .ok (.istore_n 1, 1) := by decide +kernel
theorem d_151_59 : decode (bc 151) 59 = .ok (.aload_n 0, 1) := by decide +kernel
theorem d_151_60 : decode (bc 151) 60 = .ok (.getfield 47, 3) := by decide +kernel
theorem d_151_63 : decode (bc 151) 63 = .ok (.iload_n 1, 1) := by decide +kernel
theorem d_151_64 : decode (bc 151) 64 = .ok (.aload_n 0, 1) := by decide +kernel
theorem d_151_65 : decode (bc 151) 65 = .ok (.getfield 13, 3) := by decide +kernel
theorem q_151_13 : fq 151 13 = some (10, 1, 38, 0, false) := by decide +kernel
theorem d_151_68 : decode (bc 151) 68 = .ok (.iastore, 1) := by decide +kernel
theorem d_151_69 : decode (bc 151) 69 = .ok (.iconst 0, 1) := by decide +kernel
theorem d_151_70 : decode (bc 151) 70 = .ok (.istore_n 2, 1) := by decide +kernel
theorem d_151_71 : decode (bc 151) 71 = .ok (.iload_n 2, 1) := by decide +kernel
theorem d_151_72 : decode (bc 151) 72 = .ok (.iconst 4, 1) := by decide +kernel
theorem d_151_73 : decode (bc 151) 73 = .ok (.if_icmp .ge 25, 3) := by decide +kernel
theorem d_151_76 : decode (bc 151) 76 = .ok (.aload_n 0, 1) := by decide +kernel
theorem d_151_77 : decode (bc 151) 77 = .ok (.getfield 47, 3) := by decide +kernel
theorem d_151_80 : decode (bc 151) 80 = .ok (.iload_n 1, 1) := by decide +kernel
theorem d_151_81 : decode (bc 151) 81 = .ok (.iconst 1, 1) := by decide +kernel
theorem d_151_82 : decode (bc 151) 82 = .ok (.iadd, 1) := by decide +kernel
theorem d_151_83 : decode (bc 151) 83 = .ok (.iload_n 2, 1) := by decide +kernel
theorem d_151_84 : decode (bc 151) 84 = .ok (.iadd, 1) := by decide +kernel
theorem d_151_85 : decode (bc 151) 85 = .ok (.aload_n 0, 1) := by decide +kernel
theorem d_151_86 : decode (bc 151) 86 = .ok (.getfield 17, 3) := by decide +kernel
theorem q_151_17 : fq 151 17 = some (10, 2, 38, 2, true) := by decide +kernel
theorem d_151_89 : decode (bc 151) 89 = .ok (.iload_n 2, 1) := by decide +kernel
theorem d_151_90 : decode (bc 151) 90 = .ok (.iaload, 1) := by decide +kernel
theorem d_151_91 : decode (bc 151) 91 = .ok (.iastore, 1) := by decide +kernel
theorem d_151_92 : decode (bc 151) 92 = .ok (.iinc 2 1, 3) := by decide +kernel
theorem d_151_95 : decode (bc 151) 95 = .ok (.goto (-24), 3) := by decide +kernel
theorem d_151_98 : decode (bc 151) 98 = .ok (.iconst 0, 1) := by decide +kernel
theorem d_151_99 : decode (bc 151) 99 = .ok (.istore_n 2, 1) := by decide +kernel
theorem d_151_100 : decode (bc 151) 100 = .ok (.iload_n 2, 1) := by decide +kernel
theorem d_151_101 : decode (bc 151) 101 = .ok (.sipush 288, 3) := by decide +kernel
theorem d_151_104 : decode (bc 151) 104 = .ok (.if_icmp .ge 25, 3) := by decide +kernel
theorem d_151_107 : decode (bc 151) 107 = .ok (.aload_n 0, 1) := by decide +kernel
theorem d_151_108 : decode (bc 151) 108 = .ok (.getfield 47, 3) := by decide +kernel
theorem d_151_111 : decode (bc 151) 111 = .ok (.iload_n 1, 1) := by decide +kernel
theorem d_151_112 : decode (bc 151) 112 = .ok (.iconst 5, 1) := by decide +kernel
theorem d_151_113 : decode (bc 151) 113 = .ok (.iadd, 1) := by decide +kernel
theorem d_151_114 : decode (bc 151) 114 = .ok (.iload_n 2, 1) := by decide +kernel
theorem d_151_115 : decode (bc 151) 115 = .ok (.iadd, 1) := by decide +kernel
theorem d_151_116 : decode (bc 151) 116 = .ok (.aload_n 0, 1) := by decide +kernel
theorem d_151_117 : decode (bc 151) 117 = .ok (.getfield 20, 3) := by decide +kernel
theorem q_151_20 : fq 151 20 = some (10, 3, 38, 2, true) := by decide +kernel
theorem d_151_120 : decode (bc 151) 120 = .ok (.iload_n 2, 1) := by decide +kernel
theorem d_151_121 : decode (bc 151) 121 = .ok (.iaload, 1) := by decide +kernel
theorem d_151_122 : decode (bc 151) 122 = .ok (.iastore, 1) := by decide +kernel
theorem d_151_123 : decode (bc 151) 123 = .ok (.iinc 2 1, 3) := by decide +kernel
theorem d_151_126 : decode (bc 151) 126 = .ok (.goto (-26), 3) := by decide +kernel
theorem d_151_129 : decode (bc 151) 129 = .ok (.aload_n 0, 1) := by decide +kernel
theorem d_151_130 : decode (bc 151) 130 = .ok (.dup, 1) := by decide +kernel
theorem d_151_131 : decode (bc 151) 131 = .ok (.getfield 165, 3) := by decide +kernel
theorem d_151_134 : decode (bc 151) 134 = .ok (.iconst 1, 1) := by decide +kernel
theorem d_151_135 : decode (bc 151) 135 = .ok (.iadd, 1) := by decide +kernel
theorem d_151_136 : decode (bc 151) 136 = .ok (.putfield 165, 3) := by decide +kernel
theorem d_151_139 : decode (bc 151) 139 = .ok (.aload_n 0, 1) := by decide +kernel
theorem d_151_140 : decode (bc 151) 140 = .ok (.iconst (-1), 1) := by decide +kernel
theorem d_151_141 : decode (bc 151) 141 = .ok (.putfield 26, 3) := by decide +kernel
theorem q_151_26 : fq 151 26 = some (10, 5, 38, 0, false) := by decide +kernel
theorem d_151_144 : decode (bc 151) 144 = .ok (.return_, 1) := by decide +kernel
theorem rt_151 : rty 151 = none := by decide +kernel
theorem mx_151 : mxl 151 = 3 := by decide +kernel
theorem ow_151 : (sta 151 = false ∧ own 151 = 10 ∧ hgt 151 = 0) := by decide +kernel
-- 152: SpunModulesModel.back()I
theorem d_152_0 : decode (bc 152) 0 = .ok (.aload_n 0, 1) := by decide +kernel
theorem d_152_1 : decode (bc 152) 1 = .ok (.getfield 165, 3) := by decide +kernel
theorem q_152_165 : fq 152 165 = some (10, 13, 38, 0, false) := by decide +kernel
theorem d_152_4 : decode (bc 152) 4 = .ok (.ifCond .ne 8, 3) := by decide +kernel
theorem d_152_7 : decode (bc 152) 7 = .ok (.aload_n 0, 1) := by decide +kernel
theorem d_152_8 : decode (bc 152) 8 = .ok (.invokevirtual 168, 3) := by decide +kernel
theorem q_152_168 : cq 152 168 [0, 3] = some (127, 1) := by decide +kernel
theorem d_152_11 : decode (bc 152) 11 = .ok (.ireturn, 1) := by decide +kernel
theorem d_152_12 : decode (bc 152) 12 = .ok (.aload_n 0, 1) := by decide +kernel
theorem d_152_13 : decode (bc 152) 13 = .ok (.dup, 1) := by decide +kernel
theorem d_152_14 : decode (bc 152) 14 = .ok (.getfield 165, 3) := by decide +kernel
theorem d_152_17 : decode (bc 152) 17 = .ok (.iconst 1, 1) := by decide +kernel
theorem d_152_18 : decode (bc 152) 18 = .ok (.isub, 1) := by decide +kernel
theorem d_152_19 : decode (bc 152) 19 = .ok (.putfield 165, 3) := by decide +kernel
theorem d_152_22 : decode (bc 152) 22 = .ok (.sipush 293, 3) := by decide +kernel
theorem d_152_25 : decode (bc 152) 25 = .ok (.aload_n 0, 1) := by decide +kernel
theorem d_152_26 : decode (bc 152) 26 = .ok (.getfield 165, 3) := by decide +kernel
theorem d_152_29 : decode (bc 152) 29 = .ok (.imul, 1) := by decide +kernel
theorem d_152_30 : decode (bc 152) 30 = .ok (.istore_n 1, 1) := by decide +kernel
theorem d_152_31 : decode (bc 152) 31 = .ok (.aload_n 0, 1) := by decide +kernel
theorem d_152_32 : decode (bc 152) 32 = .ok (.aload_n 0, 1) := by decide +kernel
theorem d_152_33 : decode (bc 152) 33 = .ok (.getfield 47, 3) := by decide +kernel
theorem q_152_47 : fq 152 47 = some (10, 14, 38, 2, true) := by decide +kernel
theorem d_152_36 : decode (bc 152) 36 = .ok (.iload_n 1, 1) := by decide +kernel
theorem d_152_37 : decode (bc 152) 37 = .ok (.iaload, 1) := by decide +kernel
theorem d_152_38 : decode (bc 152) 38 = .ok (.putfield 13, 3) := by decide +kernel
theorem q_152_13 : fq 152 13 = some (10, 1, 38, 0, false) := by decide +kernel
theorem d_152_41 : decode (bc 152) 41 = .ok (.iconst 0, 1) := by decide +kernel
theorem d_152_42 : decode (bc 152) 42 = .ok (.istore_n 2, 1) := by decide +kernel
theorem d_152_43 : decode (bc 152) 43 = .ok (.iload_n 2, 1) := by decide +kernel
theorem d_152_44 : decode (bc 152) 44 = .ok (.iconst 4, 1) := by decide +kernel
theorem d_152_45 : decode (bc 152) 45 = .ok (.if_icmp .ge 25, 3) := by decide +kernel
theorem d_152_48 : decode (bc 152) 48 = .ok (.aload_n 0, 1) := by decide +kernel
theorem d_152_49 : decode (bc 152) 49 = .ok (.getfield 17, 3) := by decide +kernel
theorem q_152_17 : fq 152 17 = some (10, 2, 38, 2, true) := by decide +kernel
theorem d_152_52 : decode (bc 152) 52 = .ok (.iload_n 2, 1) := by decide +kernel
theorem d_152_53 : decode (bc 152) 53 = .ok (.aload_n 0, 1) := by decide +kernel
theorem d_152_54 : decode (bc 152) 54 = .ok (.getfield 47, 3) := by decide +kernel
theorem d_152_57 : decode (bc 152) 57 = .ok (.iload_n 1, 1) := by decide +kernel
theorem d_152_58 : decode (bc 152) 58 = .ok (.iconst 1, 1) := by decide +kernel
theorem d_152_59 : decode (bc 152) 59 = .ok (.iadd, 1) := by decide +kernel
theorem d_152_60 : decode (bc 152) 60 = .ok (.iload_n 2, 1) := by decide +kernel
theorem d_152_61 : decode (bc 152) 61 = .ok (.iadd, 1) := by decide +kernel
theorem d_152_62 : decode (bc 152) 62 = .ok (.iaload, 1) := by decide +kernel
theorem d_152_63 : decode (bc 152) 63 = .ok (.iastore, 1) := by decide +kernel
theorem d_152_64 : decode (bc 152) 64 = .ok (.iinc 2 1, 3) := by decide +kernel
theorem d_152_67 : decode (bc 152) 67 = .ok (.goto (-24), 3) := by decide +kernel
theorem d_152_70 : decode (bc 152) 70 = .ok (.iconst 0, 1) := by decide +kernel
theorem d_152_71 : decode (bc 152) 71 = .ok (.istore_n 2, 1) := by decide +kernel
theorem d_152_72 : decode (bc 152) 72 = .ok (.iload_n 2, 1) := by decide +kernel
theorem d_152_73 : decode (bc 152) 73 = .ok (.sipush 288, 3) := by decide +kernel
theorem d_152_76 : decode (bc 152) 76 = .ok (.if_icmp .ge 25, 3) := by decide +kernel
theorem d_152_79 : decode (bc 152) 79 = .ok (.aload_n 0, 1) := by decide +kernel
theorem d_152_80 : decode (bc 152) 80 = .ok (.getfield 20, 3) := by decide +kernel
theorem q_152_20 : fq 152 20 = some (10, 3, 38, 2, true) := by decide +kernel
theorem d_152_83 : decode (bc 152) 83 = .ok (.iload_n 2, 1) := by decide +kernel
theorem d_152_84 : decode (bc 152) 84 = .ok (.aload_n 0, 1) := by decide +kernel
theorem d_152_85 : decode (bc 152) 85 = .ok (.getfield 47, 3) := by decide +kernel
theorem d_152_88 : decode (bc 152) 88 = .ok (.iload_n 1, 1) := by decide +kernel
theorem d_152_89 : decode (bc 152) 89 = .ok (.iconst 5, 1) := by decide +kernel
theorem d_152_90 : decode (bc 152) 90 = .ok (.iadd, 1) := by decide +kernel
theorem d_152_91 : decode (bc 152) 91 = .ok (.iload_n 2, 1) := by decide +kernel
theorem d_152_92 : decode (bc 152) 92 = .ok (.iadd, 1) := by decide +kernel
theorem d_152_93 : decode (bc 152) 93 = .ok (.iaload, 1) := by decide +kernel
theorem d_152_94 : decode (bc 152) 94 = .ok (.iastore, 1) := by decide +kernel
theorem d_152_95 : decode (bc 152) 95 = .ok (.iinc 2 1, 3) := by decide +kernel
theorem d_152_98 : decode (bc 152) 98 = .ok (.goto (-26), 3) := by decide +kernel
theorem d_152_101 : decode (bc 152) 101 = .ok (.aload_n 0, 1) := by decide +kernel
theorem d_152_102 : decode (bc 152) 102 = .ok (.iconst (-1), 1) := by decide +kernel
theorem d_152_103 : decode (bc 152) 103 = .ok (.putfield 26, 3) := by decide +kernel
theorem q_152_26 : fq 152 26 = some (10, 5, 38, 0, false) := by decide +kernel
theorem d_152_106 : decode (bc 152) 106 = .ok (.aload_n 0, 1) := by decide +kernel
theorem d_152_107 : decode (bc 152) 107 = .ok (.getfield 165, 3) := by decide +kernel
theorem d_152_110 : decode (bc 152) 110 = .ok (.ireturn, 1) := by decide +kernel
theorem rt_152 : rty 152 = some .int := by decide +kernel
theorem mx_152 : mxl 152 = 3 := by decide +kernel
theorem ow_152 : (sta 152 = false ∧ own 152 = 10 ∧ hgt 152 = 1) := by decide +kernel
-- 153: SpunModulesModel.begins(I)I
theorem d_153_0 : decode (bc 153) 0 = .ok (.iload_n 1, 1) := by decide +kernel
theorem d_153_1 : decode (bc 153) 1 = .ok (.iconst 2, 1) := by decide +kernel
theorem d_153_2 : decode (bc 153) 2 = .ok (.iconst 3, 1) := by decide +kernel
theorem d_153_3 : decode (bc 153) 3 = .ok (.invokestatic 118, 3) := by decide +kernel
theorem q_153_118 : cq 153 118 [1, 4] = some (129, 3) := by decide +kernel
theorem d_153_6 : decode (bc 153) 6 = .ok (.ifCond .ne 8, 3) := by decide +kernel
theorem d_153_9 : decode (bc 153) 9 = .ok (.aload_n 0, 1) := by decide +kernel
theorem d_153_10 : decode (bc 153) 10 = .ok (.invokevirtual 172, 3) := by decide +kernel
theorem q_153_172 : cq 153 172 [0, 3] = some (126, 1) := by decide +kernel
theorem d_153_13 : decode (bc 153) 13 = .ok (.ireturn, 1) := by decide +kernel
theorem d_153_14 : decode (bc 153) 14 = .ok (.aload_n 0, 1) := by decide +kernel
theorem d_153_15 : decode (bc 153) 15 = .ok (.invokevirtual 175, 3) := by decide +kernel
theorem q_153_175 : cq 153 175 [0, 3] = some (151, 1) := by decide +kernel
theorem d_153_18 : decode (bc 153) 18 = .ok (.aload_n 0, 1) := by decide +kernel
theorem d_153_19 : decode (bc 153) 19 = .ok (.iload_n 1, 1) := by decide +kernel
theorem d_153_20 : decode (bc 153) 20 = .ok (.putfield 13, 3) := by decide +kernel
theorem q_153_13 : fq 153 13 = some (10, 1, 38, 0, false) := by decide +kernel
theorem d_153_23 : decode (bc 153) 23 = .ok (.aload_n 0, 1) := by decide +kernel
theorem d_153_24 : decode (bc 153) 24 = .ok (.invokevirtual 156, 3) := by decide +kernel
theorem q_153_156 : cq 153 156 [0, 3] = some (137, 1) := by decide +kernel
theorem d_153_27 : decode (bc 153) 27 = .ok (.iconst 0, 1) := by decide +kernel
theorem d_153_28 : decode (bc 153) 28 = .ok (.istore_n 2, 1) := by decide +kernel
theorem d_153_29 : decode (bc 153) 29 = .ok (.iload_n 2, 1) := by decide +kernel
theorem d_153_30 : decode (bc 153) 30 = .ok (.iconst 4, 1) := by decide +kernel
theorem d_153_31 : decode (bc 153) 31 = .ok (.if_icmp .ge 15, 3) := by decide +kernel
theorem d_153_34 : decode (bc 153) 34 = .ok (.aload_n 0, 1) := by decide +kernel
theorem d_153_35 : decode (bc 153) 35 = .ok (.iload_n 2, 1) := by decide +kernel
theorem d_153_36 : decode (bc 153) 36 = .ok (.iconst 1, 1) := by decide +kernel
theorem d_153_37 : decode (bc 153) 37 = .ok (.invokevirtual 159, 3) := by decide +kernel
theorem q_153_159 : cq 153 159 [0, 3] = some (136, 3) := by decide +kernel
theorem d_153_40 : decode (bc 153) 40 = .ok (.iinc 2 1, 3) := by decide +kernel
theorem d_153_43 : decode (bc 153) 43 = .ok (.goto (-14), 3) := by decide +kernel
theorem d_153_46 : decode (bc 153) 46 = .ok (.aload_n 0, 1) := by decide +kernel
theorem d_153_47 : decode (bc 153) 47 = .ok (.getfield 13, 3) := by decide +kernel
theorem d_153_50 : decode (bc 153) 50 = .ok (.ireturn, 1) := by decide +kernel
theorem rt_153 : rty 153 = some .int := by decide +kernel
theorem mx_153 : mxl 153 = 3 := by decide +kernel
theorem ow_153 : (sta 153 = false ∧ own 153 = 10 ∧ hgt 153 = 1) := by decide +kernel
-- 154: SpunModulesModel.sizes(II)I
theorem d_154_0 : decode (bc 154) 0 = .ok (.iload_n 1, 1) := by decide +kernel
theorem d_154_1 : decode (bc 154) 1 = .ok (.invokestatic 178, 3) := by decide +kernel
theorem q_154_178 : cq 154 178 [1, 4] = some (138, 1) := by decide +kernel
theorem d_154_4 : decode (bc 154) 4 = .ok (.ifCond .eq 15, 3) := by decide +kernel
theorem d_154_7 : decode (bc 154) 7 = .ok (.iload_n 2, 1) := by decide +kernel
theorem d_154_8 : decode (bc 154) 8 = .ok (.iconst 1, 1) := by decide +kernel
theorem d_154_9 : decode (bc 154) 9 = .ok (.aload_n 0, 1) := by decide +kernel
theorem d_154_10 : decode (bc 154) 10 = .ok (.invokevirtual 182, 3) := by decide +kernel
theorem q_154_182 : cq 154 182 [0, 3] = some (130, 1) := by decide +kernel
theorem d_154_13 : decode (bc 154) 13 = .ok (.invokestatic 118, 3) := by decide +kernel
theorem q_154_118 : cq 154 118 [1, 4] = some (129, 3) := by decide +kernel
theorem d_154_16 : decode (bc 154) 16 = .ok (.ifCond .ne 8, 3) := by decide +kernel
theorem d_154_19 : decode (bc 154) 19 = .ok (.aload_n 0, 1) := by decide +kernel
theorem d_154_20 : decode (bc 154) 20 = .ok (.invokevirtual 172, 3) := by decide +kernel
theorem q_154_172 : cq 154 172 [0, 3] = some (126, 1) := by decide +kernel
theorem d_154_23 : decode (bc 154) 23 = .ok (.ireturn, 1) := by decide +kernel
theorem d_154_24 : decode (bc 154) 24 = .ok (.aload_n 0, 1) := by decide +kernel
theorem d_154_25 : decode (bc 154) 25 = .ok (.invokevirtual 175, 3) := by decide +kernel
theorem q_154_175 : cq 154 175 [0, 3] = some (151, 1) := by decide +kernel
theorem d_154_28 : decode (bc 154) 28 = .ok (.aload_n 0, 1) := by decide +kernel
theorem d_154_29 : decode (bc 154) 29 = .ok (.invokevirtual 156, 3) := by decide +kernel
theorem q_154_156 : cq 154 156 [0, 3] = some (137, 1) := by decide +kernel
theorem d_154_32 : decode (bc 154) 32 = .ok (.aload_n 0, 1) := by decide +kernel
theorem d_154_33 : decode (bc 154) 33 = .ok (.iload_n 1, 1) := by decide +kernel
theorem d_154_34 : decode (bc 154) 34 = .ok (.iload_n 2, 1) := by decide +kernel
theorem d_154_35 : decode (bc 154) 35 = .ok (.invokevirtual 159, 3) := by decide +kernel
theorem q_154_159 : cq 154 159 [0, 3] = some (136, 3) := by decide +kernel
theorem d_154_38 : decode (bc 154) 38 = .ok (.iload_n 2, 1) := by decide +kernel
theorem d_154_39 : decode (bc 154) 39 = .ok (.ireturn, 1) := by decide +kernel
theorem rt_154 : rty 154 = some .int := by decide +kernel
theorem mx_154 : mxl 154 = 3 := by decide +kernel
theorem ow_154 : (sta 154 = false ∧ own 154 = 10 ∧ hgt 154 = 2) := by decide +kernel
-- 155: SpunModulesModel.sets(IIIII)I
theorem d_155_0 : decode (bc 155) 0 = .ok (.iload_n 1, 1) := by decide +kernel
theorem d_155_1 : decode (bc 155) 1 = .ok (.invokestatic 178, 3) := by decide +kernel
theorem q_155_178 : cq 155 178 [1, 4] = some (138, 1) := by decide +kernel
theorem d_155_4 : decode (bc 155) 4 = .ok (.ifCond .eq 46, 3) := by decide +kernel
theorem d_155_7 : decode (bc 155) 7 = .ok (.iload_n 2, 1) := by decide +kernel
theorem d_155_8 : decode (bc 155) 8 = .ok (.iconst 0, 1) := by decide +kernel
theorem d_155_9 : decode (bc 155) 9 = .ok (.iconst 1, 1) := by decide +kernel
theorem d_155_10 : decode (bc 155) 10 = .ok (.invokestatic 118, 3) := by decide +kernel
theorem q_155_118 : cq 155 118 [1, 4] = some (129, 3) := by decide +kernel
theorem d_155_13 : decode (bc 155) 13 = .ok (.ifCond .eq 37, 3) := by decide +kernel
theorem d_155_16 : decode (bc 155) 16 = .ok (.aload_n 0, 1) := by decide +kernel
theorem d_155_17 : decode (bc 155) 17 = .ok (.iload_n 1, 1) := by decide +kernel
theorem d_155_18 : decode (bc 155) 18 = .ok (.iload_n 3, 1) := by decide +kernel
theorem d_155_19 : decode (bc 155) 19 = .ok (.invokevirtual 185, 3) := by decide +kernel
theorem q_155_185 : cq 155 185 [0, 3] = some (139, 3) := by decide +kernel
theorem d_155_22 : decode (bc 155) 22 = .ok (.ifCond .eq 28, 3) := by decide +kernel
theorem d_155_25 : decode (bc 155) 25 = .ok (.aload_n 0, 1) := by decide +kernel
theorem d_155_26 : decode (bc 155) 26 = .ok (.iload_n 1, 1) := by decide +kernel
theorem d_155_27 : decode (bc 155) 27 = .ok (.iload 4, 2) := by decide +kernel
theorem d_155_29 : decode (bc 155) 29 = .ok (.invokevirtual 185, 3) := by decide +kernel
theorem d_155_32 : decode (bc 155) 32 = .ok (.ifCond .eq 18, 3) := by decide +kernel
theorem d_155_35 : decode (bc 155) 35 = .ok (.iload 5, 2) := by decide +kernel
theorem d_155_37 : decode (bc 155) 37 = .ok (.iconst 0, 1) := by decide +kernel
theorem d_155_38 : decode (bc 155) 38 = .ok (.aload_n 0, 1) := by decide +kernel
theorem d_155_39 : decode (bc 155) 39 = .ok (.getfield 13, 3) := by decide +kernel
theorem q_155_13 : fq 155 13 = some (10, 1, 38, 0, false) := by decide +kernel
theorem d_155_42 : decode (bc 155) 42 = .ok (.iconst 1, 1) := by decide +kernel
theorem d_155_43 : decode (bc 155) 43 = .ok (.isub, 1) := by decide +kernel
theorem d_155_44 : decode (bc 155) 44 = .ok (.invokestatic 118, 3) := by decide +kernel
theorem d_155_47 : decode (bc 155) 47 = .ok (.ifCond .ne 8, 3) := by decide +kernel
theorem d_155_50 : decode (bc 155) 50 = .ok (.aload_n 0, 1) := by decide +kernel
theorem d_155_51 : decode (bc 155) 51 = .ok (.invokevirtual 172, 3) := by decide +kernel
theorem q_155_172 : cq 155 172 [0, 3] = some (126, 1) := by decide +kernel
theorem d_155_54 : decode (bc 155) 54 = .ok (.ireturn, 1) := by decide +kernel
theorem d_155_55 : decode (bc 155) 55 = .ok (.aload_n 0, 1) := by decide +kernel
theorem d_155_56 : decode (bc 155) 56 = .ok (.invokevirtual 175, 3) := by decide +kernel
theorem q_155_175 : cq 155 175 [0, 3] = some (151, 1) := by decide +kernel
theorem d_155_59 : decode (bc 155) 59 = .ok (.aload_n 0, 1) := by decide +kernel
theorem d_155_60 : decode (bc 155) 60 = .ok (.getfield 20, 3) := by decide +kernel
theorem q_155_20 : fq 155 20 = some (10, 3, 38, 2, true) := by decide +kernel
theorem d_155_63 : decode (bc 155) 63 = .ok (.iload_n 1, 1) := by decide +kernel
theorem d_155_64 : decode (bc 155) 64 = .ok (.iload_n 2, 1) := by decide +kernel
theorem d_155_65 : decode (bc 155) 65 = .ok (.iload_n 3, 1) := by decide +kernel
theorem d_155_66 : decode (bc 155) 66 = .ok (.iload 4, 2) := by decide +kernel
theorem d_155_68 : decode (bc 155) 68 = .ok (.invokestatic 114, 3) := by decide +kernel
theorem q_155_114 : cq 155 114 [1, 4] = some (133, 4) := by decide +kernel
theorem d_155_71 : decode (bc 155) 71 = .ok (.iaload, 1) := by decide +kernel
theorem d_155_72 : decode (bc 155) 72 = .ok (.istore 6, 2) := by decide +kernel
theorem d_155_74 : decode (bc 155) 74 = .ok (.aload_n 0, 1) := by decide +kernel
theorem d_155_75 : decode (bc 155) 75 = .ok (.getfield 20, 3) := by decide +kernel
theorem d_155_78 : decode (bc 155) 78 = .ok (.iload_n 1, 1) := by decide +kernel
theorem d_155_79 : decode (bc 155) 79 = .ok (.iload_n 2, 1) := by decide +kernel
theorem d_155_80 : decode (bc 155) 80 = .ok (.iload_n 3, 1) := by decide +kernel
theorem d_155_81 : decode (bc 155) 81 = .ok (.iload 4, 2) := by decide +kernel
theorem d_155_83 : decode (bc 155) 83 = .ok (.invokestatic 114, 3) := by decide +kernel
theorem d_155_86 : decode (bc 155) 86 = .ok (.iload 5, 2) := by decide +kernel
theorem d_155_88 : decode (bc 155) 88 = .ok (.iastore, 1) := by decide +kernel
theorem d_155_89 : decode (bc 155) 89 = .ok (.iload 6, 2) := by decide +kernel
theorem d_155_91 : decode (bc 155) 91 = .ok (.ireturn, 1) := by decide +kernel
theorem rt_155 : rty 155 = some .int := by decide +kernel
theorem mx_155 : mxl 155 = 7 := by decide +kernel
theorem ow_155 : (sta 155 = false ∧ own 155 = 10 ∧ hgt 155 = 2) := by decide +kernel
-- 156: SpunModulesModel.draws(II)I
theorem d_156_0 : decode (bc 156) 0 = .ok (.iload_n 1, 1) := by decide +kernel
theorem d_156_1 : decode (bc 156) 1 = .ok (.invokestatic 178, 3) := by decide +kernel
theorem q_156_178 : cq 156 178 [1, 4] = some (138, 1) := by decide +kernel
theorem d_156_4 : decode (bc 156) 4 = .ok (.ifCond .eq 13, 3) := by decide +kernel
theorem d_156_7 : decode (bc 156) 7 = .ok (.iload_n 2, 1) := by decide +kernel
theorem d_156_8 : decode (bc 156) 8 = .ok (.iconst 0, 1) := by decide +kernel
theorem d_156_9 : decode (bc 156) 9 = .ok (.ldc 189, 2) := by decide +kernel
theorem q_156_189 : klk (own 156) 189 = some (10, 189, 999999, 0, 5074) := by decide +kernel
theorem d_156_11 : decode (bc 156) 11 = .ok (.invokestatic 118, 3) := by decide +kernel
theorem q_156_118 : cq 156 118 [1, 4] = some (129, 3) := by decide +kernel
theorem d_156_14 : decode (bc 156) 14 = .ok (.ifCond .ne 8, 3) := by decide +kernel
theorem d_156_17 : decode (bc 156) 17 = .ok (.aload_n 0, 1) := by decide +kernel
theorem d_156_18 : decode (bc 156) 18 = .ok (.invokevirtual 172, 3) := by decide +kernel
theorem q_156_172 : cq 156 172 [0, 3] = some (126, 1) := by decide +kernel
theorem d_156_21 : decode (bc 156) 21 = .ok (.ireturn, 1) := by decide +kernel
theorem d_156_22 : decode (bc 156) 22 = .ok (.aload_n 0, 1) := by decide +kernel
theorem d_156_23 : decode (bc 156) 23 = .ok (.invokevirtual 175, 3) := by decide +kernel
theorem q_156_175 : cq 156 175 [0, 3] = some (151, 1) := by decide +kernel
theorem d_156_26 : decode (bc 156) 26 = .ok (.iload_n 2, 1) := by decide +kernel
theorem d_156_27 : decode (bc 156) 27 = .ok (.i2l, 1) := by decide +kernel
theorem d_156_28 : decode (bc 156) 28 = .ok (.lstore_n 3, 1) := by decide +kernel
theorem d_156_29 : decode (bc 156) 29 = .ok (.aload_n 0, 1) := by decide +kernel
theorem d_156_30 : decode (bc 156) 30 = .ok (.getfield 17, 3) := by decide +kernel
theorem q_156_17 : fq 156 17 = some (10, 2, 38, 2, true) := by decide +kernel
theorem d_156_33 : decode (bc 156) 33 = .ok (.iload_n 1, 1) := by decide +kernel
theorem d_156_34 : decode (bc 156) 34 = .ok (.iaload, 1) := by decide +kernel
theorem d_156_35 : decode (bc 156) 35 = .ok (.istore 5, 2) := by decide +kernel
theorem d_156_37 : decode (bc 156) 37 = .ok (.iconst 0, 1) := by decide +kernel
theorem d_156_38 : decode (bc 156) 38 = .ok (.istore 6, 2) := by decide +kernel
theorem d_156_40 : decode (bc 156) 40 = .ok (.iconst 0, 1) := by decide +kernel
theorem d_156_41 : decode (bc 156) 41 = .ok (.istore 7, 2) := by decide +kernel
theorem d_156_43 : decode (bc 156) 43 = .ok (.iload 7, 2) := by decide +kernel
theorem d_156_45 : decode (bc 156) 45 = .ok (.iconst 2, 1) := by decide +kernel
theorem d_156_46 : decode (bc 156) 46 = .ok (.iload 5, 2) := by decide +kernel
theorem d_156_48 : decode (bc 156) 48 = .ok (.imul, 1) := by decide +kernel
theorem d_156_49 : decode (bc 156) 49 = .ok (.iload 5, 2) := by decide +kernel
theorem d_156_51 : decode (bc 156) 51 = .ok (.imul, 1) := by decide +kernel
theorem d_156_52 : decode (bc 156) 52 = .ok (.if_icmp .ge 91, 3) := by decide +kernel
theorem d_156_55 : decode (bc 156) 55 = .ok (.lload_n 3, 1) := by decide +kernel
theorem d_156_56 : decode (bc 156) 56 = .ok (.ldc2_w 190, 3) := by decide +kernel
theorem q_156_190 : klk (own 156) 190 = some (10, 190, 1103515245, 1, 5075) := by decide +kernel
theorem d_156_59 : decode (bc 156) 59 = .ok (.lmul, 1) := by decide +kernel
theorem d_156_60 : decode (bc 156) 60 = .ok (.ldc2_w 192, 3) := by decide +kernel
theorem q_156_192 : klk (own 156) 192 = some (10, 192, 12345, 1, 5076) := by decide +kernel
theorem d_156_63 : decode (bc 156) 63 = .ok (.ladd, 1) := by decide +kernel
theorem d_156_64 : decode (bc 156) 64 = .ok (.ldc2_w 194, 3) := by decide +kernel
theorem q_156_194 : klk (own 156) 194 = some (10, 194, 2147483648, 1, 5077) := by decide +kernel
theorem d_156_67 : decode (bc 156) 67 = .ok (.lrem, 1) := by decide +kernel
theorem d_156_68 : decode (bc 156) 68 = .ok (.lstore_n 3, 1) := by decide +kernel
theorem d_156_69 : decode (bc 156) 69 = .ok (.lload_n 3, 1) := by decide +kernel
theorem d_156_70 : decode (bc 156) 70 = .ok (.ldc2_w 196, 3) := by decide +kernel
theorem q_156_196 : klk (own 156) 196 = some (10, 196, 65536, 1, 5078) := by decide +kernel
theorem d_156_73 : decode (bc 156) 73 = .ok (.ldiv, 1) := by decide +kernel
theorem d_156_74 : decode (bc 156) 74 = .ok (.aload_n 0, 1) := by decide +kernel
theorem d_156_75 : decode (bc 156) 75 = .ok (.getfield 13, 3) := by decide +kernel
theorem q_156_13 : fq 156 13 = some (10, 1, 38, 0, false) := by decide +kernel
theorem d_156_78 : decode (bc 156) 78 = .ok (.i2l, 1) := by decide +kernel
theorem d_156_79 : decode (bc 156) 79 = .ok (.lrem, 1) := by decide +kernel
theorem d_156_80 : decode (bc 156) 80 = .ok (.l2i, 1) := by decide +kernel
theorem d_156_81 : decode (bc 156) 81 = .ok (.istore 8, 2) := by decide +kernel
theorem d_156_83 : decode (bc 156) 83 = .ok (.iload 7, 2) := by decide +kernel
theorem d_156_85 : decode (bc 156) 85 = .ok (.iload 5, 2) := by decide +kernel
theorem d_156_87 : decode (bc 156) 87 = .ok (.iload 5, 2) := by decide +kernel
theorem d_156_89 : decode (bc 156) 89 = .ok (.imul, 1) := by decide +kernel
theorem d_156_90 : decode (bc 156) 90 = .ok (.irem, 1) := by decide +kernel
theorem d_156_91 : decode (bc 156) 91 = .ok (.istore 9, 2) := by decide +kernel
theorem d_156_93 : decode (bc 156) 93 = .ok (.aload_n 0, 1) := by decide +kernel
theorem d_156_94 : decode (bc 156) 94 = .ok (.getfield 20, 3) := by decide +kernel
theorem q_156_20 : fq 156 20 = some (10, 3, 38, 2, true) := by decide +kernel
theorem d_156_97 : decode (bc 156) 97 = .ok (.iload_n 1, 1) := by decide +kernel
theorem d_156_98 : decode (bc 156) 98 = .ok (.iload 7, 2) := by decide +kernel
theorem d_156_100 : decode (bc 156) 100 = .ok (.iload 5, 2) := by decide +kernel
theorem d_156_102 : decode (bc 156) 102 = .ok (.iload 5, 2) := by decide +kernel
theorem d_156_104 : decode (bc 156) 104 = .ok (.imul, 1) := by decide +kernel
theorem d_156_105 : decode (bc 156) 105 = .ok (.idiv, 1) := by decide +kernel
theorem d_156_106 : decode (bc 156) 106 = .ok (.iload 9, 2) := by decide +kernel
theorem d_156_108 : decode (bc 156) 108 = .ok (.iload 5, 2) := by decide +kernel
theorem d_156_110 : decode (bc 156) 110 = .ok (.idiv, 1) := by decide +kernel
theorem d_156_111 : decode (bc 156) 111 = .ok (.iload 9, 2) := by decide +kernel
theorem d_156_113 : decode (bc 156) 113 = .ok (.iload 5, 2) := by decide +kernel
theorem d_156_115 : decode (bc 156) 115 = .ok (.irem, 1) := by decide +kernel
theorem d_156_116 : decode (bc 156) 116 = .ok (.invokestatic 114, 3) := by decide +kernel
theorem q_156_114 : cq 156 114 [1, 4] = some (133, 4) := by decide +kernel
theorem d_156_119 : decode (bc 156) 119 = .ok (.iload 8, 2) := by decide +kernel
theorem d_156_121 : decode (bc 156) 121 = .ok (.iastore, 1) := by decide +kernel
theorem d_156_122 : decode (bc 156) 122 = .ok (.iload 6, 2) := by decide +kernel
theorem d_156_124 : decode (bc 156) 124 = .ok (.iload 8, 2) := by decide +kernel
theorem d_156_126 : decode (bc 156) 126 = .ok (.ifCond .ne 7, 3) := by decide +kernel
theorem d_156_129 : decode (bc 156) 129 = .ok (.iconst 0, 1) := by decide +kernel
theorem d_156_130 : decode (bc 156) 130 = .ok (.goto 4, 3) := by decide +kernel
theorem d_156_133 : decode (bc 156) 133 = .ok (.iconst 1, 1) := by decide +kernel
theorem d_156_134 : decode (bc 156) 134 = .ok (.iadd, 1) := by decide +kernel
theorem d_156_135 : decode (bc 156) 135 = .ok (.istore 6, 2) := by decide +kernel
theorem d_156_137 : decode (bc 156) 137 = .ok (.iinc 7 1, 3) := by decide +kernel
theorem d_156_140 : decode (bc 156) 140 = .ok (.goto (-97), 3) := by decide +kernel
theorem d_156_143 : decode (bc 156) 143 = .ok (.iload 6, 2) := by decide +kernel
theorem d_156_145 : decode (bc 156) 145 = .ok (.ireturn, 1) := by decide +kernel
theorem rt_156 : rty 156 = some .int := by decide +kernel
theorem mx_156 : mxl 156 = 10 := by decide +kernel
theorem ow_156 : (sta 156 = false ∧ own 156 = 10 ∧ hgt 156 = 2) := by decide +kernel
-- 157: SpunModulesModel.turned(IIII[I)I
theorem d_157_0 : decode (bc 157) 0 = .ok (.aload_n 0, 1) := by decide +kernel
theorem d_157_1 : decode (bc 157) 1 = .ok (.getfield 20, 3) := by decide +kernel
theorem q_157_20 : fq 157 20 = some (10, 3, 38, 2, true) := by decide +kernel
theorem d_157_4 : decode (bc 157) 4 = .ok (.iload_n 1, 1) := by decide +kernel
theorem d_157_5 : decode (bc 157) 5 = .ok (.iload_n 2, 1) := by decide +kernel
theorem d_157_6 : decode (bc 157) 6 = .ok (.iload_n 3, 1) := by decide +kernel
theorem d_157_7 : decode (bc 157) 7 = .ok (.iload 4, 2) := by decide +kernel
theorem d_157_9 : decode (bc 157) 9 = .ok (.invokestatic 114, 3) := by decide +kernel
theorem q_157_114 : cq 157 114 [1, 4] = some (133, 4) := by decide +kernel
theorem d_157_12 : decode (bc 157) 12 = .ok (.iaload, 1) := by decide +kernel
theorem d_157_13 : decode (bc 157) 13 = .ok (.iload_n 3, 1) := by decide +kernel
theorem d_157_14 : decode (bc 157) 14 = .ok (.aload 5, 2) := by decide +kernel
theorem d_157_16 : decode (bc 157) 16 = .ok (.iconst 0, 1) := by decide +kernel
theorem d_157_17 : decode (bc 157) 17 = .ok (.iaload, 1) := by decide +kernel
theorem d_157_18 : decode (bc 157) 18 = .ok (.if_icmp .ne 27, 3) := by decide +kernel
theorem d_157_21 : decode (bc 157) 21 = .ok (.aload 5, 2) := by decide +kernel
theorem d_157_23 : decode (bc 157) 23 = .ok (.iconst 2, 1) := by decide +kernel
theorem d_157_24 : decode (bc 157) 24 = .ok (.iaload, 1) := by decide +kernel
theorem d_157_25 : decode (bc 157) 25 = .ok (.aload_n 0, 1) := by decide +kernel
theorem d_157_26 : decode (bc 157) 26 = .ok (.getfield 20, 3) := by decide +kernel
theorem d_157_29 : decode (bc 157) 29 = .ok (.iload_n 1, 1) := by decide +kernel
theorem d_157_30 : decode (bc 157) 30 = .ok (.iload_n 2, 1) := by decide +kernel
theorem d_157_31 : decode (bc 157) 31 = .ok (.aload 5, 2) := by decide +kernel
theorem d_157_33 : decode (bc 157) 33 = .ok (.iconst 1, 1) := by decide +kernel
theorem d_157_34 : decode (bc 157) 34 = .ok (.iaload, 1) := by decide +kernel
theorem d_157_35 : decode (bc 157) 35 = .ok (.iload 4, 2) := by decide +kernel
theorem d_157_37 : decode (bc 157) 37 = .ok (.invokestatic 114, 3) := by decide +kernel
theorem d_157_40 : decode (bc 157) 40 = .ok (.iaload, 1) := by decide +kernel
theorem d_157_41 : decode (bc 157) 41 = .ok (.imul, 1) := by decide +kernel
theorem d_157_42 : decode (bc 157) 42 = .ok (.goto 4, 3) := by decide +kernel
theorem d_157_45 : decode (bc 157) 45 = .ok (.iconst 0, 1) := by decide +kernel
theorem d_157_46 : decode (bc 157) 46 = .ok (.iadd, 1) := by decide +kernel
theorem d_157_47 : decode (bc 157) 47 = .ok (.istore 6, 2) := by decide +kernel
theorem d_157_49 : decode (bc 157) 49 = .ok (.aload_n 0, 1) := by decide +kernel
theorem d_157_50 : decode (bc 157) 50 = .ok (.getfield 20, 3) := by decide +kernel
theorem d_157_53 : decode (bc 157) 53 = .ok (.iload_n 1, 1) := by decide +kernel
theorem d_157_54 : decode (bc 157) 54 = .ok (.iload_n 2, 1) := by decide +kernel
theorem d_157_55 : decode (bc 157) 55 = .ok (.iload_n 3, 1) := by decide +kernel
theorem d_157_56 : decode (bc 157) 56 = .ok (.aload 5, 2) := by decide +kernel
theorem d_157_58 : decode (bc 157) 58 = .ok (.iconst 0, 1) := by decide +kernel
theorem d_157_59 : decode (bc 157) 59 = .ok (.iaload, 1) := by decide +kernel
theorem d_157_60 : decode (bc 157) 60 = .ok (.invokestatic 114, 3) := by decide +kernel
theorem d_157_63 : decode (bc 157) 63 = .ok (.iaload, 1) := by decide +kernel
theorem d_157_64 : decode (bc 157) 64 = .ok (.iload_n 3, 1) := by decide +kernel
theorem d_157_65 : decode (bc 157) 65 = .ok (.aload 5, 2) := by decide +kernel
theorem d_157_67 : decode (bc 157) 67 = .ok (.iconst 0, 1) := by decide +kernel
theorem d_157_68 : decode (bc 157) 68 = .ok (.iaload, 1) := by decide +kernel
theorem d_157_69 : decode (bc 157) 69 = .ok (.if_icmp .ne 29, 3) := by decide +kernel
theorem d_157_72 : decode (bc 157) 72 = .ok (.aload 5, 2) := by decide +kernel
theorem d_157_74 : decode (bc 157) 74 = .ok (.iconst 2, 1) := by decide +kernel
theorem d_157_75 : decode (bc 157) 75 = .ok (.iaload, 1) := by decide +kernel
theorem d_157_76 : decode (bc 157) 76 = .ok (.aload_n 0, 1) := by decide +kernel
theorem d_157_77 : decode (bc 157) 77 = .ok (.getfield 20, 3) := by decide +kernel
theorem d_157_80 : decode (bc 157) 80 = .ok (.iload_n 1, 1) := by decide +kernel
theorem d_157_81 : decode (bc 157) 81 = .ok (.iload_n 2, 1) := by decide +kernel
theorem d_157_82 : decode (bc 157) 82 = .ok (.aload 5, 2) := by decide +kernel
theorem d_157_84 : decode (bc 157) 84 = .ok (.iconst 1, 1) := by decide +kernel
theorem d_157_85 : decode (bc 157) 85 = .ok (.iaload, 1) := by decide +kernel
theorem d_157_86 : decode (bc 157) 86 = .ok (.aload 5, 2) := by decide +kernel
theorem d_157_88 : decode (bc 157) 88 = .ok (.iconst 0, 1) := by decide +kernel
theorem d_157_89 : decode (bc 157) 89 = .ok (.iaload, 1) := by decide +kernel
theorem d_157_90 : decode (bc 157) 90 = .ok (.invokestatic 114, 3) := by decide +kernel
theorem d_157_93 : decode (bc 157) 93 = .ok (.iaload, 1) := by decide +kernel
theorem d_157_94 : decode (bc 157) 94 = .ok (.imul, 1) := by decide +kernel
theorem d_157_95 : decode (bc 157) 95 = .ok (.goto 4, 3) := by decide +kernel
theorem d_157_98 : decode (bc 157) 98 = .ok (.iconst 0, 1) := by decide +kernel
theorem d_157_99 : decode (bc 157) 99 = .ok (.iadd, 1) := by decide +kernel
theorem d_157_100 : decode (bc 157) 100 = .ok (.istore 7, 2) := by decide +kernel
theorem d_157_102 : decode (bc 157) 102 = .ok (.iload 4, 2) := by decide +kernel
theorem d_157_104 : decode (bc 157) 104 = .ok (.aload 5, 2) := by decide +kernel
theorem d_157_106 : decode (bc 157) 106 = .ok (.iconst 1, 1) := by decide +kernel
theorem d_157_107 : decode (bc 157) 107 = .ok (.iaload, 1) := by decide +kernel
theorem d_157_108 : decode (bc 157) 108 = .ok (.if_icmp .ne 26, 3) := by decide +kernel
theorem d_157_111 : decode (bc 157) 111 = .ok (.iload 6, 2) := by decide +kernel
theorem d_157_113 : decode (bc 157) 113 = .ok (.aload_n 0, 1) := by decide +kernel
theorem d_157_114 : decode (bc 157) 114 = .ok (.getfield 13, 3) := by decide +kernel
theorem q_157_13 : fq 157 13 = some (10, 1, 38, 0, false) := by decide +kernel
theorem d_157_117 : decode (bc 157) 117 = .ok (.aload 5, 2) := by decide +kernel
theorem d_157_119 : decode (bc 157) 119 = .ok (.iconst 2, 1) := by decide +kernel
theorem d_157_120 : decode (bc 157) 120 = .ok (.iaload, 1) := by decide +kernel
theorem d_157_121 : decode (bc 157) 121 = .ok (.isub, 1) := by decide +kernel
theorem d_157_122 : decode (bc 157) 122 = .ok (.iload 7, 2) := by decide +kernel
theorem d_157_124 : decode (bc 157) 124 = .ok (.imul, 1) := by decide +kernel
theorem d_157_125 : decode (bc 157) 125 = .ok (.iadd, 1) := by decide +kernel
theorem d_157_126 : decode (bc 157) 126 = .ok (.aload_n 0, 1) := by decide +kernel
theorem d_157_127 : decode (bc 157) 127 = .ok (.getfield 13, 3) := by decide +kernel
theorem d_157_130 : decode (bc 157) 130 = .ok (.irem, 1) := by decide +kernel
theorem d_157_131 : decode (bc 157) 131 = .ok (.goto 10, 3) := by decide +kernel
theorem d_157_134 : decode (bc 157) 134 = .ok (.iload 6, 2) := by decide +kernel
theorem d_157_136 : decode (bc 157) 136 = .ok (.aload_n 0, 1) := by decide +kernel
theorem d_157_137 : decode (bc 157) 137 = .ok (.getfield 13, 3) := by decide +kernel
theorem d_157_140 : decode (bc 157) 140 = .ok (.irem, 1) := by decide +kernel
theorem d_157_141 : decode (bc 157) 141 = .ok (.ireturn, 1) := by decide +kernel
theorem rt_157 : rty 157 = some .int := by decide +kernel
theorem mx_157 : mxl 157 = 8 := by decide +kernel
theorem ow_157 : (sta 157 = false ∧ own 157 = 10 ∧ hgt 157 = 1) := by decide +kernel
-- 158: SpunModulesModel.turns(IIII)I
theorem d_158_0 : decode (bc 158) 0 = .ok (.iload_n 1, 1) := by decide +kernel
theorem d_158_1 : decode (bc 158) 1 = .ok (.invokestatic 178, 3) := by decide +kernel
theorem q_158_178 : cq 158 178 [1, 4] = some (138, 1) := by decide +kernel
theorem d_158_4 : decode (bc 158) 4 = .ok (.ifCond .eq 41, 3) := by decide +kernel
theorem d_158_7 : decode (bc 158) 7 = .ok (.aload_n 0, 1) := by decide +kernel
theorem d_158_8 : decode (bc 158) 8 = .ok (.iload_n 1, 1) := by decide +kernel
theorem d_158_9 : decode (bc 158) 9 = .ok (.iload_n 2, 1) := by decide +kernel
theorem d_158_10 : decode (bc 158) 10 = .ok (.invokevirtual 185, 3) := by decide +kernel
theorem q_158_185 : cq 158 185 [0, 3] = some (139, 3) := by decide +kernel
theorem d_158_13 : decode (bc 158) 13 = .ok (.ifCond .eq 32, 3) := by decide +kernel
theorem d_158_16 : decode (bc 158) 16 = .ok (.aload_n 0, 1) := by decide +kernel
theorem d_158_17 : decode (bc 158) 17 = .ok (.iload_n 1, 1) := by decide +kernel
theorem d_158_18 : decode (bc 158) 18 = .ok (.iload_n 3, 1) := by decide +kernel
theorem d_158_19 : decode (bc 158) 19 = .ok (.invokevirtual 185, 3) := by decide +kernel
theorem d_158_22 : decode (bc 158) 22 = .ok (.ifCond .eq 23, 3) := by decide +kernel
theorem d_158_25 : decode (bc 158) 25 = .ok (.iload_n 2, 1) := by decide +kernel
theorem d_158_26 : decode (bc 158) 26 = .ok (.iload_n 3, 1) := by decide +kernel
theorem d_158_27 : decode (bc 158) 27 = .ok (.if_icmp .eq 18, 3) := by decide +kernel
theorem d_158_30 : decode (bc 158) 30 = .ok (.iload 4, 2) := by decide +kernel
theorem d_158_32 : decode (bc 158) 32 = .ok (.iconst 0, 1) := by decide +kernel
theorem d_158_33 : decode (bc 158) 33 = .ok (.aload_n 0, 1) := by decide +kernel
theorem d_158_34 : decode (bc 158) 34 = .ok (.getfield 13, 3) := by decide +kernel
theorem q_158_13 : fq 158 13 = some (10, 1, 38, 0, false) := by decide +kernel
theorem d_158_37 : decode (bc 158) 37 = .ok (.iconst 1, 1) := by decide +kernel
theorem d_158_38 : decode (bc 158) 38 = .ok (.isub, 1) := by decide +kernel
theorem d_158_39 : decode (bc 158) 39 = .ok (.invokestatic 118, 3) := by decide +kernel
theorem q_158_118 : cq 158 118 [1, 4] = some (129, 3) := by decide +kernel
theorem d_158_42 : decode (bc 158) 42 = .ok (.ifCond .ne 8, 3) := by decide +kernel
theorem d_158_45 : decode (bc 158) 45 = .ok (.aload_n 0, 1) := by decide +kernel
theorem d_158_46 : decode (bc 158) 46 = .ok (.invokevirtual 172, 3) := by decide +kernel
theorem q_158_172 : cq 158 172 [0, 3] = some (126, 1) := by decide +kernel
theorem d_158_49 : decode (bc 158) 49 = .ok (.ireturn, 1) := by decide +kernel
theorem d_158_50 : decode (bc 158) 50 = .ok (.aload_n 0, 1) := by decide +kernel
theorem d_158_51 : decode (bc 158) 51 = .ok (.invokevirtual 175, 3) := by decide +kernel
theorem q_158_175 : cq 158 175 [0, 3] = some (151, 1) := by decide +kernel
theorem d_158_54 : decode (bc 158) 54 = .ok (.aload_n 0, 1) := by decide +kernel
theorem d_158_55 : decode (bc 158) 55 = .ok (.getfield 50, 3) := by decide +kernel
theorem q_158_50 : fq 158 50 = some (10, 15, 38, 2, true) := by decide +kernel
theorem d_158_58 : decode (bc 158) 58 = .ok (.iconst 0, 1) := by decide +kernel
theorem d_158_59 : decode (bc 158) 59 = .ok (.iload_n 2, 1) := by decide +kernel
theorem d_158_60 : decode (bc 158) 60 = .ok (.iastore, 1) := by decide +kernel
theorem d_158_61 : decode (bc 158) 61 = .ok (.aload_n 0, 1) := by decide +kernel
theorem d_158_62 : decode (bc 158) 62 = .ok (.getfield 50, 3) := by decide +kernel
theorem d_158_65 : decode (bc 158) 65 = .ok (.iconst 1, 1) := by decide +kernel
theorem d_158_66 : decode (bc 158) 66 = .ok (.iload_n 3, 1) := by decide +kernel
theorem d_158_67 : decode (bc 158) 67 = .ok (.iastore, 1) := by decide +kernel
theorem d_158_68 : decode (bc 158) 68 = .ok (.aload_n 0, 1) := by decide +kernel
theorem d_158_69 : decode (bc 158) 69 = .ok (.getfield 50, 3) := by decide +kernel
theorem d_158_72 : decode (bc 158) 72 = .ok (.iconst 2, 1) := by decide +kernel
theorem d_158_73 : decode (bc 158) 73 = .ok (.iload 4, 2) := by decide +kernel
theorem d_158_75 : decode (bc 158) 75 = .ok (.iastore, 1) := by decide +kernel
theorem d_158_76 : decode (bc 158) 76 = .ok (.aload_n 0, 1) := by decide +kernel
theorem d_158_77 : decode (bc 158) 77 = .ok (.getfield 17, 3) := by decide +kernel
theorem q_158_17 : fq 158 17 = some (10, 2, 38, 2, true) := by decide +kernel
theorem d_158_80 : decode (bc 158) 80 = .ok (.iload_n 1, 1) := by decide +kernel
theorem d_158_81 : decode (bc 158) 81 = .ok (.iaload, 1) := by decide +kernel
theorem d_158_82 : decode (bc 158) 82 = .ok (.istore 5, 2) := by decide +kernel
theorem d_158_84 : decode (bc 158) 84 = .ok (.iconst 0, 1) := by decide +kernel
theorem d_158_85 : decode (bc 158) 85 = .ok (.istore 6, 2) := by decide +kernel
theorem d_158_87 : decode (bc 158) 87 = .ok (.aload_n 0, 1) := by decide +kernel
theorem d_158_88 : decode (bc 158) 88 = .ok (.invokevirtual 156, 3) := by decide +kernel
theorem q_158_156 : cq 158 156 [0, 3] = some (137, 1) := by decide +kernel
theorem d_158_91 : decode (bc 158) 91 = .ok (.iconst 0, 1) := by decide +kernel
theorem d_158_92 : decode (bc 158) 92 = .ok (.istore 7, 2) := by decide +kernel
theorem d_158_94 : decode (bc 158) 94 = .ok (.iload 7, 2) := by decide +kernel
theorem d_158_96 : decode (bc 158) 96 = .ok (.iconst 2, 1) := by decide +kernel
theorem d_158_97 : decode (bc 158) 97 = .ok (.if_icmp .ge 110, 3) := by decide +kernel
theorem d_158_100 : decode (bc 158) 100 = .ok (.iconst 0, 1) := by decide +kernel
theorem d_158_101 : decode (bc 158) 101 = .ok (.istore 8, 2) := by decide +kernel
theorem d_158_103 : decode (bc 158) 103 = .ok (.iload 8, 2) := by decide +kernel
theorem d_158_105 : decode (bc 158) 105 = .ok (.iload 5, 2) := by decide +kernel
theorem d_158_107 : decode (bc 158) 107 = .ok (.iload 5, 2) := by decide +kernel
theorem d_158_109 : decode (bc 158) 109 = .ok (.imul, 1) := by decide +kernel
theorem d_158_110 : decode (bc 158) 110 = .ok (.if_icmp .ge 91, 3) := by decide +kernel
theorem d_158_113 : decode (bc 158) 113 = .ok (.aload_n 0, 1) := by decide +kernel
theorem d_158_114 : decode (bc 158) 114 = .ok (.iload_n 1, 1) := by decide +kernel
theorem d_158_115 : decode (bc 158) 115 = .ok (.iload 7, 2) := by decide +kernel
theorem d_158_117 : decode (bc 158) 117 = .ok (.iload 8, 2) := by decide +kernel
theorem d_158_119 : decode (bc 158) 119 = .ok (.iload 5, 2) := by decide +kernel
theorem d_158_121 : decode (bc 158) 121 = .ok (.idiv, 1) := by decide +kernel
theorem d_158_122 : decode (bc 158) 122 = .ok (.iload 8, 2) := by decide +kernel
theorem d_158_124 : decode (bc 158) 124 = .ok (.iload 5, 2) := by decide +kernel
theorem d_158_126 : decode (bc 158) 126 = .ok (.irem, 1) := by decide +kernel
theorem d_158_127 : decode (bc 158) 127 = .ok (.aload_n 0, 1) := by decide +kernel
theorem d_158_128 : decode (bc 158) 128 = .ok (.getfield 50, 3) := by decide +kernel
theorem d_158_131 : decode (bc 158) 131 = .ok (.invokevirtual 198, 3) := by decide +kernel
theorem q_158_198 : cq 158 198 [0, 3] = some (157, 6) := by decide +kernel
theorem d_158_134 : decode (bc 158) 134 = .ok (.istore 9, 2) := by decide +kernel
theorem d_158_136 : decode (bc 158) 136 = .ok (.aload_n 0, 1) := by decide +kernel
theorem d_158_137 : decode (bc 158) 137 = .ok (.getfield 23, 3) := by decide +kernel
theorem q_158_23 : fq 158 23 = some (10, 4, 38, 2, true) := by decide +kernel
theorem d_158_140 : decode (bc 158) 140 = .ok (.iconst 0, 1) := by decide +kernel
theorem d_158_141 : decode (bc 158) 141 = .ok (.iload 7, 2) := by decide +kernel
theorem d_158_143 : decode (bc 158) 143 = .ok (.iload 8, 2) := by decide +kernel
theorem d_158_145 : decode (bc 158) 145 = .ok (.iload 5, 2) := by decide +kernel
theorem d_158_147 : decode (bc 158) 147 = .ok (.idiv, 1) := by decide +kernel
theorem d_158_148 : decode (bc 158) 148 = .ok (.iload 8, 2) := by decide +kernel
theorem d_158_150 : decode (bc 158) 150 = .ok (.iload 5, 2) := by decide +kernel
theorem d_158_152 : decode (bc 158) 152 = .ok (.irem, 1) := by decide +kernel
theorem d_158_153 : decode (bc 158) 153 = .ok (.invokestatic 114, 3) := by decide +kernel
theorem q_158_114 : cq 158 114 [1, 4] = some (133, 4) := by decide +kernel
theorem d_158_156 : decode (bc 158) 156 = .ok (.iload 9, 2) := by decide +kernel
theorem d_158_158 : decode (bc 158) 158 = .ok (.iastore, 1) := by decide +kernel
theorem d_158_159 : decode (bc 158) 159 = .ok (.iload 6, 2) := by decide +kernel
theorem d_158_161 : decode (bc 158) 161 = .ok (.iload 9, 2) := by decide +kernel
theorem d_158_163 : decode (bc 158) 163 = .ok (.aload_n 0, 1) := by decide +kernel
theorem d_158_164 : decode (bc 158) 164 = .ok (.getfield 20, 3) := by decide +kernel
theorem q_158_20 : fq 158 20 = some (10, 3, 38, 2, true) := by decide +kernel
theorem d_158_167 : decode (bc 158) 167 = .ok (.iload_n 1, 1) := by decide +kernel
theorem d_158_168 : decode (bc 158) 168 = .ok (.iload 7, 2) := by decide +kernel
theorem d_158_170 : decode (bc 158) 170 = .ok (.iload 8, 2) := by decide +kernel
theorem d_158_172 : decode (bc 158) 172 = .ok (.iload 5, 2) := by decide +kernel
theorem d_158_174 : decode (bc 158) 174 = .ok (.idiv, 1) := by decide +kernel
theorem d_158_175 : decode (bc 158) 175 = .ok (.iload 8, 2) := by decide +kernel
theorem d_158_177 : decode (bc 158) 177 = .ok (.iload 5, 2) := by decide +kernel
theorem d_158_179 : decode (bc 158) 179 = .ok (.irem, 1) := by decide +kernel
theorem d_158_180 : decode (bc 158) 180 = .ok (.invokestatic 114, 3) := by decide +kernel
theorem d_158_183 : decode (bc 158) 183 = .ok (.iaload, 1) := by decide +kernel
theorem d_158_184 : decode (bc 158) 184 = .ok (.if_icmp .ne 7, 3) := by decide +kernel
theorem d_158_187 : decode (bc 158) 187 = .ok (.iconst 0, 1) := by decide +kernel
theorem d_158_188 : decode (bc 158) 188 = .ok (.goto 4, 3) := by decide +kernel
theorem d_158_191 : decode (bc 158) 191 = .ok (.iconst 1, 1) := by decide +kernel
theorem d_158_192 : decode (bc 158) 192 = .ok (.iadd, 1) := by decide +kernel
theorem d_158_193 : decode (bc 158) 193 = .ok (.istore 6, 2) := by decide +kernel
theorem d_158_195 : decode (bc 158) 195 = .ok (.iinc 8 1, 3) := by decide +kernel
theorem d_158_198 : decode (bc 158) 198 = .ok (.goto (-95), 3) := by decide +kernel
theorem d_158_201 : decode (bc 158) 201 = .ok (.iinc 7 1, 3) := by decide +kernel
theorem d_158_204 : decode (bc 158) 204 = .ok (.goto (-110), 3) := by decide +kernel
theorem d_158_207 : decode (bc 158) 207 = .ok (.aload_n 0, 1) := by decide +kernel
theorem d_158_208 : decode (bc 158) 208 = .ok (.iload_n 1, 1) := by decide +kernel
theorem d_158_209 : decode (bc 158) 209 = .ok (.iload 5, 2) := by decide +kernel
theorem d_158_211 : decode (bc 158) 211 = .ok (.invokevirtual 159, 3) := by decide +kernel
theorem q_158_159 : cq 158 159 [0, 3] = some (136, 3) := by decide +kernel
theorem d_158_214 : decode (bc 158) 214 = .ok (.iload 6, 2) := by decide +kernel
theorem d_158_216 : decode (bc 158) 216 = .ok (.ireturn, 1) := by decide +kernel
theorem rt_158 : rty 158 = some .int := by decide +kernel
theorem mx_158 : mxl 158 = 10 := by decide +kernel
theorem ow_158 : (sta 158 = false ∧ own 158 = 10 ∧ hgt 158 = 2) := by decide +kernel
-- 159: SpunModulesModel.adds(III)I
theorem d_159_0 : decode (bc 159) 0 = .ok (.iload_n 1, 1) := by decide +kernel
theorem d_159_1 : decode (bc 159) 1 = .ok (.invokestatic 178, 3) := by decide +kernel
theorem q_159_178 : cq 159 178 [1, 4] = some (138, 1) := by decide +kernel
theorem d_159_4 : decode (bc 159) 4 = .ok (.ifCond .eq 17, 3) := by decide +kernel
theorem d_159_7 : decode (bc 159) 7 = .ok (.iload_n 2, 1) := by decide +kernel
theorem d_159_8 : decode (bc 159) 8 = .ok (.invokestatic 178, 3) := by decide +kernel
theorem d_159_11 : decode (bc 159) 11 = .ok (.ifCond .eq 10, 3) := by decide +kernel
theorem d_159_14 : decode (bc 159) 14 = .ok (.iload_n 3, 1) := by decide +kernel
theorem d_159_15 : decode (bc 159) 15 = .ok (.invokestatic 178, 3) := by decide +kernel
theorem d_159_18 : decode (bc 159) 18 = .ok (.ifCond .ne 8, 3) := by decide +kernel
theorem d_159_21 : decode (bc 159) 21 = .ok (.aload_n 0, 1) := by decide +kernel
theorem d_159_22 : decode (bc 159) 22 = .ok (.invokevirtual 172, 3) := by decide +kernel
theorem q_159_172 : cq 159 172 [0, 3] = some (126, 1) := by decide +kernel
theorem d_159_25 : decode (bc 159) 25 = .ok (.ireturn, 1) := by decide +kernel
theorem d_159_26 : decode (bc 159) 26 = .ok (.aload_n 0, 1) := by decide +kernel
theorem d_159_27 : decode (bc 159) 27 = .ok (.getfield 17, 3) := by decide +kernel
theorem q_159_17 : fq 159 17 = some (10, 2, 38, 2, true) := by decide +kernel
theorem d_159_30 : decode (bc 159) 30 = .ok (.iload_n 2, 1) := by decide +kernel
theorem d_159_31 : decode (bc 159) 31 = .ok (.iaload, 1) := by decide +kernel
theorem d_159_32 : decode (bc 159) 32 = .ok (.aload_n 0, 1) := by decide +kernel
theorem d_159_33 : decode (bc 159) 33 = .ok (.getfield 17, 3) := by decide +kernel
theorem d_159_36 : decode (bc 159) 36 = .ok (.iload_n 3, 1) := by decide +kernel
theorem d_159_37 : decode (bc 159) 37 = .ok (.iaload, 1) := by decide +kernel
theorem d_159_38 : decode (bc 159) 38 = .ok (.iadd, 1) := by decide +kernel
theorem d_159_39 : decode (bc 159) 39 = .ok (.istore 4, 2) := by decide +kernel
theorem d_159_41 : decode (bc 159) 41 = .ok (.iload 4, 2) := by decide +kernel
theorem d_159_43 : decode (bc 159) 43 = .ok (.aload_n 0, 1) := by decide +kernel
theorem d_159_44 : decode (bc 159) 44 = .ok (.invokevirtual 182, 3) := by decide +kernel
theorem q_159_182 : cq 159 182 [0, 3] = some (130, 1) := by decide +kernel
theorem d_159_47 : decode (bc 159) 47 = .ok (.if_icmp .le 8, 3) := by decide +kernel
theorem d_159_50 : decode (bc 159) 50 = .ok (.aload_n 0, 1) := by decide +kernel
theorem d_159_51 : decode (bc 159) 51 = .ok (.invokevirtual 168, 3) := by decide +kernel
theorem q_159_168 : cq 159 168 [0, 3] = some (127, 1) := by decide +kernel
theorem d_159_54 : decode (bc 159) 54 = .ok (.ireturn, 1) := by decide +kernel
theorem d_159_55 : decode (bc 159) 55 = .ok (.aload_n 0, 1) := by decide +kernel
theorem d_159_56 : decode (bc 159) 56 = .ok (.invokevirtual 175, 3) := by decide +kernel
theorem q_159_175 : cq 159 175 [0, 3] = some (151, 1) := by decide +kernel
theorem d_159_59 : decode (bc 159) 59 = .ok (.aload_n 0, 1) := by decide +kernel
theorem d_159_60 : decode (bc 159) 60 = .ok (.invokevirtual 156, 3) := by decide +kernel
theorem q_159_156 : cq 159 156 [0, 3] = some (137, 1) := by decide +kernel
theorem d_159_63 : decode (bc 159) 63 = .ok (.aload_n 0, 1) := by decide +kernel
theorem d_159_64 : decode (bc 159) 64 = .ok (.getfield 17, 3) := by decide +kernel
theorem d_159_67 : decode (bc 159) 67 = .ok (.iload_n 2, 1) := by decide +kernel
theorem d_159_68 : decode (bc 159) 68 = .ok (.iaload, 1) := by decide +kernel
theorem d_159_69 : decode (bc 159) 69 = .ok (.istore 5, 2) := by decide +kernel
theorem d_159_71 : decode (bc 159) 71 = .ok (.iconst 0, 1) := by decide +kernel
theorem d_159_72 : decode (bc 159) 72 = .ok (.istore 6, 2) := by decide +kernel
theorem d_159_74 : decode (bc 159) 74 = .ok (.iload 6, 2) := by decide +kernel
theorem d_159_76 : decode (bc 159) 76 = .ok (.iconst 2, 1) := by decide +kernel
theorem d_159_77 : decode (bc 159) 77 = .ok (.if_icmp .ge 151, 3) := by decide +kernel
theorem d_159_80 : decode (bc 159) 80 = .ok (.iconst 0, 1) := by decide +kernel
theorem d_159_81 : decode (bc 159) 81 = .ok (.istore 7, 2) := by decide +kernel
theorem d_159_83 : decode (bc 159) 83 = .ok (.iload 7, 2) := by decide +kernel
theorem d_159_85 : decode (bc 159) 85 = .ok (.iload 4, 2) := by decide +kernel
theorem d_159_87 : decode (bc 159) 87 = .ok (.if_icmp .ge 135, 3) := by decide +kernel
theorem d_159_90 : decode (bc 159) 90 = .ok (.iconst 0, 1) := by decide +kernel
theorem d_159_91 : decode (bc 159) 91 = .ok (.istore 8, 2) := by decide +kernel
theorem d_159_93 : decode (bc 159) 93 = .ok (.iload 8, 2) := by decide +kernel
theorem d_159_95 : decode (bc 159) 95 = .ok (.iload 4, 2) := by decide +kernel
theorem d_159_97 : decode (bc 159) 97 = .ok (.if_icmp .ge 119, 3) := by decide +kernel
theorem d_159_100 : decode (bc 159) 100 = .ok (.iload 7, 2) := by decide +kernel
theorem d_159_102 : decode (bc 159) 102 = .ok (.iload 5, 2) := by decide +kernel
theorem d_159_104 : decode (bc 159) 104 = .ok (.if_icmp .ge 14, 3) := by decide +kernel
theorem d_159_107 : decode (bc 159) 107 = .ok (.iload 8, 2) := by decide +kernel
theorem d_159_109 : decode (bc 159) 109 = .ok (.iload 5, 2) := by decide +kernel
theorem d_159_111 : decode (bc 159) 111 = .ok (.if_icmp .ge 7, 3) := by decide +kernel
theorem d_159_114 : decode (bc 159) 114 = .ok (.iconst 1, 1) := by decide +kernel
theorem d_159_115 : decode (bc 159) 115 = .ok (.goto 4, 3) := by decide +kernel
theorem d_159_118 : decode (bc 159) 118 = .ok (.iconst 0, 1) := by decide +kernel
theorem d_159_119 : decode (bc 159) 119 = .ok (.istore 9, 2) := by decide +kernel
theorem d_159_121 : decode (bc 159) 121 = .ok (.iload 7, 2) := by decide +kernel
theorem d_159_123 : decode (bc 159) 123 = .ok (.iload 5, 2) := by decide +kernel
theorem d_159_125 : decode (bc 159) 125 = .ok (.if_icmp .lt 14, 3) := by decide +kernel
theorem d_159_128 : decode (bc 159) 128 = .ok (.iload 8, 2) := by decide +kernel
theorem d_159_130 : decode (bc 159) 130 = .ok (.iload 5, 2) := by decide +kernel
theorem d_159_132 : decode (bc 159) 132 = .ok (.if_icmp .lt 7, 3) := by decide +kernel
theorem d_159_135 : decode (bc 159) 135 = .ok (.iconst 1, 1) := by decide +kernel
theorem d_159_136 : decode (bc 159) 136 = .ok (.goto 4, 3) := by decide +kernel
theorem d_159_139 : decode (bc 159) 139 = .ok (.iconst 0, 1) := by decide +kernel
theorem d_159_140 : decode (bc 159) 140 = .ok (.istore 10, 2) := by decide +kernel
theorem d_159_142 : decode (bc 159) 142 = .ok (.aload_n 0, 1) := by decide +kernel
theorem d_159_143 : decode (bc 159) 143 = .ok (.getfield 23, 3) := by decide +kernel
theorem q_159_23 : fq 159 23 = some (10, 4, 38, 2, true) := by decide +kernel
theorem d_159_146 : decode (bc 159) 146 = .ok (.iconst 0, 1) := by decide +kernel
theorem d_159_147 : decode (bc 159) 147 = .ok (.iload 6, 2) := by decide +kernel
theorem d_159_149 : decode (bc 159) 149 = .ok (.iload 7, 2) := by decide +kernel
theorem d_159_151 : decode (bc 159) 151 = .ok (.iload 8, 2) := by decide +kernel
theorem d_159_153 : decode (bc 159) 153 = .ok (.invokestatic 114, 3) := by decide +kernel
theorem q_159_114 : cq 159 114 [1, 4] = some (133, 4) := by decide +kernel
theorem d_159_156 : decode (bc 159) 156 = .ok (.iload 9, 2) := by decide +kernel
theorem d_159_158 : decode (bc 159) 158 = .ok (.ifCond .eq 21, 3) := by decide +kernel
theorem d_159_161 : decode (bc 159) 161 = .ok (.aload_n 0, 1) := by decide +kernel
theorem d_159_162 : decode (bc 159) 162 = .ok (.getfield 20, 3) := by decide +kernel
theorem q_159_20 : fq 159 20 = some (10, 3, 38, 2, true) := by decide +kernel
theorem d_159_165 : decode (bc 159) 165 = .ok (.iload_n 2, 1) := by decide +kernel
theorem d_159_166 : decode (bc 159) 166 = .ok (.iload 6, 2) := by decide +kernel
theorem d_159_168 : decode (bc 159) 168 = .ok (.iload 7, 2) := by decide +kernel
theorem d_159_170 : decode (bc 159) 170 = .ok (.iload 8, 2) := by decide +kernel
theorem d_159_172 : decode (bc 159) 172 = .ok (.invokestatic 114, 3) := by decide +kernel
theorem d_159_175 : decode (bc 159) 175 = .ok (.iaload, 1) := by decide +kernel
theorem d_159_176 : decode (bc 159) 176 = .ok (.goto 33, 3) := by decide +kernel
theorem d_159_179 : decode (bc 159) 179 = .ok (.iload 10, 2) := by decide +kernel
theorem d_159_181 : decode (bc 159) 181 = .ok (.ifCond .eq 27, 3) := by decide +kernel
theorem d_159_184 : decode (bc 159) 184 = .ok (.aload_n 0, 1) := by decide +kernel
theorem d_159_185 : decode (bc 159) 185 = .ok (.getfield 20, 3) := by decide +kernel
theorem d_159_188 : decode (bc 159) 188 = .ok (.iload_n 3, 1) := by decide +kernel
theorem d_159_189 : decode (bc 159) 189 = .ok (.iload 6, 2) := by decide +kernel
theorem d_159_191 : decode (bc 159) 191 = .ok (.iload 7, 2) := by decide +kernel
theorem d_159_193 : decode (bc 159) 193 = .ok (.iload 5, 2) := by decide +kernel
theorem d_159_195 : decode (bc 159) 195 = .ok (.isub, 1) := by decide +kernel
theorem d_159_196 : decode (bc 159) 196 = .ok (.iload 8, 2) := by decide +kernel
theorem d_159_198 : decode (bc 159) 198 = .ok (.iload 5, 2) := by decide +kernel
theorem d_159_200 : decode (bc 159) 200 = .ok (.isub, 1) := by decide +kernel
theorem d_159_201 : decode (bc 159) 201 = .ok (.invokestatic 114, 3) := by decide +kernel
theorem d_159_204 : decode (bc 159) 204 = .ok (.iaload, 1) := by decide +kernel
theorem d_159_205 : decode (bc 159) 205 = .ok (.goto 4, 3) := by decide +kernel
theorem d_159_208 : decode (bc 159) 208 = .ok (.iconst 0, 1) := by decide +kernel
theorem d_159_209 : decode (bc 159) 209 = .ok (.iastore, 1) := by decide +kernel
theorem d_159_210 : decode (bc 159) 210 = .ok (.iinc 8 1, 3) := by decide +kernel
theorem d_159_213 : decode (bc 159) 213 = .ok (.goto (-120), 3) := by decide +kernel
theorem d_159_216 : decode (bc 159) 216 = .ok (.iinc 7 1, 3) := by decide +kernel
theorem d_159_219 : decode (bc 159) 219 = .ok (.goto (-136), 3) := by decide +kernel
theorem d_159_222 : decode (bc 159) 222 = .ok (.iinc 6 1, 3) := by decide +kernel
theorem d_159_225 : decode (bc 159) 225 = .ok (.goto (-151), 3) := by decide +kernel
theorem d_159_228 : decode (bc 159) 228 = .ok (.aload_n 0, 1) := by decide +kernel
theorem d_159_229 : decode (bc 159) 229 = .ok (.iload_n 1, 1) := by decide +kernel
theorem d_159_230 : decode (bc 159) 230 = .ok (.iload 4, 2) := by decide +kernel
theorem d_159_232 : decode (bc 159) 232 = .ok (.invokevirtual 159, 3) := by decide +kernel
theorem q_159_159 : cq 159 159 [0, 3] = some (136, 3) := by decide +kernel
theorem d_159_235 : decode (bc 159) 235 = .ok (.iload 4, 2) := by decide +kernel
theorem d_159_237 : decode (bc 159) 237 = .ok (.ireturn, 1) := by decide +kernel
theorem rt_159 : rty 159 = some .int := by decide +kernel
theorem mx_159 : mxl 159 = 11 := by decide +kernel
theorem ow_159 : (sta 159 = false ∧ own 159 = 10 ∧ hgt 159 = 2) := by decide +kernel
-- 160: SpunModulesModel.times(III)I
theorem d_160_0 : decode (bc 160) 0 = .ok (.iload_n 1, 1) := by decide +kernel
theorem d_160_1 : decode (bc 160) 1 = .ok (.invokestatic 178, 3) := by decide +kernel
theorem q_160_178 : cq 160 178 [1, 4] = some (138, 1) := by decide +kernel
theorem d_160_4 : decode (bc 160) 4 = .ok (.ifCond .eq 17, 3) := by decide +kernel
theorem d_160_7 : decode (bc 160) 7 = .ok (.iload_n 2, 1) := by decide +kernel
theorem d_160_8 : decode (bc 160) 8 = .ok (.invokestatic 178, 3) := by decide +kernel
theorem d_160_11 : decode (bc 160) 11 = .ok (.ifCond .eq 10, 3) := by decide +kernel
theorem d_160_14 : decode (bc 160) 14 = .ok (.iload_n 3, 1) := by decide +kernel
theorem d_160_15 : decode (bc 160) 15 = .ok (.invokestatic 178, 3) := by decide +kernel
theorem d_160_18 : decode (bc 160) 18 = .ok (.ifCond .ne 8, 3) := by decide +kernel
theorem d_160_21 : decode (bc 160) 21 = .ok (.aload_n 0, 1) := by decide +kernel
theorem d_160_22 : decode (bc 160) 22 = .ok (.invokevirtual 172, 3) := by decide +kernel
theorem q_160_172 : cq 160 172 [0, 3] = some (126, 1) := by decide +kernel
theorem d_160_25 : decode (bc 160) 25 = .ok (.ireturn, 1) := by decide +kernel
theorem d_160_26 : decode (bc 160) 26 = .ok (.aload_n 0, 1) := by decide +kernel
theorem d_160_27 : decode (bc 160) 27 = .ok (.getfield 17, 3) := by decide +kernel
theorem q_160_17 : fq 160 17 = some (10, 2, 38, 2, true) := by decide +kernel
theorem d_160_30 : decode (bc 160) 30 = .ok (.iload_n 2, 1) := by decide +kernel
theorem d_160_31 : decode (bc 160) 31 = .ok (.iaload, 1) := by decide +kernel
theorem d_160_32 : decode (bc 160) 32 = .ok (.aload_n 0, 1) := by decide +kernel
theorem d_160_33 : decode (bc 160) 33 = .ok (.getfield 17, 3) := by decide +kernel
theorem d_160_36 : decode (bc 160) 36 = .ok (.iload_n 3, 1) := by decide +kernel
theorem d_160_37 : decode (bc 160) 37 = .ok (.iaload, 1) := by decide +kernel
theorem d_160_38 : decode (bc 160) 38 = .ok (.imul, 1) := by decide +kernel
theorem d_160_39 : decode (bc 160) 39 = .ok (.istore 4, 2) := by decide +kernel
theorem d_160_41 : decode (bc 160) 41 = .ok (.iload 4, 2) := by decide +kernel
theorem d_160_43 : decode (bc 160) 43 = .ok (.aload_n 0, 1) := by decide +kernel
theorem d_160_44 : decode (bc 160) 44 = .ok (.invokevirtual 182, 3) := by decide +kernel
theorem q_160_182 : cq 160 182 [0, 3] = some (130, 1) := by decide +kernel
theorem d_160_47 : decode (bc 160) 47 = .ok (.if_icmp .le 8, 3) := by decide +kernel
theorem d_160_50 : decode (bc 160) 50 = .ok (.aload_n 0, 1) := by decide +kernel
theorem d_160_51 : decode (bc 160) 51 = .ok (.invokevirtual 168, 3) := by decide +kernel
theorem q_160_168 : cq 160 168 [0, 3] = some (127, 1) := by decide +kernel
theorem d_160_54 : decode (bc 160) 54 = .ok (.ireturn, 1) := by decide +kernel
theorem d_160_55 : decode (bc 160) 55 = .ok (.aload_n 0, 1) := by decide +kernel
theorem d_160_56 : decode (bc 160) 56 = .ok (.invokevirtual 175, 3) := by decide +kernel
theorem q_160_175 : cq 160 175 [0, 3] = some (151, 1) := by decide +kernel
theorem d_160_59 : decode (bc 160) 59 = .ok (.aload_n 0, 1) := by decide +kernel
theorem d_160_60 : decode (bc 160) 60 = .ok (.invokevirtual 156, 3) := by decide +kernel
theorem q_160_156 : cq 160 156 [0, 3] = some (137, 1) := by decide +kernel
theorem d_160_63 : decode (bc 160) 63 = .ok (.aload_n 0, 1) := by decide +kernel
theorem d_160_64 : decode (bc 160) 64 = .ok (.getfield 17, 3) := by decide +kernel
theorem d_160_67 : decode (bc 160) 67 = .ok (.iload_n 3, 1) := by decide +kernel
theorem d_160_68 : decode (bc 160) 68 = .ok (.iaload, 1) := by decide +kernel
theorem d_160_69 : decode (bc 160) 69 = .ok (.istore 5, 2) := by decide +kernel
theorem d_160_71 : decode (bc 160) 71 = .ok (.iconst 0, 1) := by decide +kernel
theorem d_160_72 : decode (bc 160) 72 = .ok (.istore 6, 2) := by decide +kernel
theorem d_160_74 : decode (bc 160) 74 = .ok (.iload 6, 2) := by decide +kernel
theorem d_160_76 : decode (bc 160) 76 = .ok (.iconst 2, 1) := by decide +kernel
theorem d_160_77 : decode (bc 160) 77 = .ok (.if_icmp .ge 108, 3) := by decide +kernel
theorem d_160_80 : decode (bc 160) 80 = .ok (.iconst 0, 1) := by decide +kernel
theorem d_160_81 : decode (bc 160) 81 = .ok (.istore 7, 2) := by decide +kernel
theorem d_160_83 : decode (bc 160) 83 = .ok (.iload 7, 2) := by decide +kernel
theorem d_160_85 : decode (bc 160) 85 = .ok (.iload 4, 2) := by decide +kernel
theorem d_160_87 : decode (bc 160) 87 = .ok (.if_icmp .ge 92, 3) := by decide +kernel
theorem d_160_90 : decode (bc 160) 90 = .ok (.iconst 0, 1) := by decide +kernel
theorem d_160_91 : decode (bc 160) 91 = .ok (.istore 8, 2) := by decide +kernel
theorem d_160_93 : decode (bc 160) 93 = .ok (.iload 8, 2) := by decide +kernel
theorem d_160_95 : decode (bc 160) 95 = .ok (.iload 4, 2) := by decide +kernel
theorem d_160_97 : decode (bc 160) 97 = .ok (.if_icmp .ge 76, 3) := by decide +kernel
theorem d_160_100 : decode (bc 160) 100 = .ok (.aload_n 0, 1) := by decide +kernel
theorem d_160_101 : decode (bc 160) 101 = .ok (.getfield 20, 3) := by decide +kernel
theorem q_160_20 : fq 160 20 = some (10, 3, 38, 2, true) := by decide +kernel
theorem d_160_104 : decode (bc 160) 104 = .ok (.iload_n 2, 1) := by decide +kernel
theorem d_160_105 : decode (bc 160) 105 = .ok (.iload 6, 2) := by decide +kernel
theorem d_160_107 : decode (bc 160) 107 = .ok (.iload 7, 2) := by decide +kernel
theorem d_160_109 : decode (bc 160) 109 = .ok (.iload 5, 2) := by decide +kernel
theorem d_160_111 : decode (bc 160) 111 = .ok (.idiv, 1) := by decide +kernel
theorem d_160_112 : decode (bc 160) 112 = .ok (.iload 8, 2) := by decide +kernel
theorem d_160_114 : decode (bc 160) 114 = .ok (.iload 5, 2) := by decide +kernel
theorem d_160_116 : decode (bc 160) 116 = .ok (.idiv, 1) := by decide +kernel
theorem d_160_117 : decode (bc 160) 117 = .ok (.invokestatic 114, 3) := by decide +kernel
theorem q_160_114 : cq 160 114 [1, 4] = some (133, 4) := by decide +kernel
theorem d_160_120 : decode (bc 160) 120 = .ok (.iaload, 1) := by decide +kernel
theorem d_160_121 : decode (bc 160) 121 = .ok (.aload_n 0, 1) := by decide +kernel
theorem d_160_122 : decode (bc 160) 122 = .ok (.getfield 20, 3) := by decide +kernel
theorem d_160_125 : decode (bc 160) 125 = .ok (.iload_n 3, 1) := by decide +kernel
theorem d_160_126 : decode (bc 160) 126 = .ok (.iload 6, 2) := by decide +kernel
theorem d_160_128 : decode (bc 160) 128 = .ok (.iload 7, 2) := by decide +kernel
theorem d_160_130 : decode (bc 160) 130 = .ok (.iload 5, 2) := by decide +kernel
theorem d_160_132 : decode (bc 160) 132 = .ok (.irem, 1) := by decide +kernel
theorem d_160_133 : decode (bc 160) 133 = .ok (.iload 8, 2) := by decide +kernel
theorem d_160_135 : decode (bc 160) 135 = .ok (.iload 5, 2) := by decide +kernel
theorem d_160_137 : decode (bc 160) 137 = .ok (.irem, 1) := by decide +kernel
theorem d_160_138 : decode (bc 160) 138 = .ok (.invokestatic 114, 3) := by decide +kernel
theorem d_160_141 : decode (bc 160) 141 = .ok (.iaload, 1) := by decide +kernel
theorem d_160_142 : decode (bc 160) 142 = .ok (.imul, 1) := by decide +kernel
theorem d_160_143 : decode (bc 160) 143 = .ok (.istore 9, 2) := by decide +kernel
theorem d_160_145 : decode (bc 160) 145 = .ok (.aload_n 0, 1) := by decide +kernel
theorem d_160_146 : decode (bc 160) 146 = .ok (.getfield 23, 3) := by decide +kernel
theorem q_160_23 : fq 160 23 = some (10, 4, 38, 2, true) := by decide +kernel
theorem d_160_149 : decode (bc 160) 149 = .ok (.iconst 0, 1) := by decide +kernel
theorem d_160_150 : decode (bc 160) 150 = .ok (.iload 6, 2) := by decide +kernel
theorem d_160_152 : decode (bc 160) 152 = .ok (.iload 7, 2) := by decide +kernel
theorem d_160_154 : decode (bc 160) 154 = .ok (.iload 8, 2) := by decide +kernel
theorem d_160_156 : decode (bc 160) 156 = .ok (.invokestatic 114, 3) := by decide +kernel
theorem d_160_159 : decode (bc 160) 159 = .ok (.iload 9, 2) := by decide +kernel
theorem d_160_161 : decode (bc 160) 161 = .ok (.aload_n 0, 1) := by decide +kernel
theorem d_160_162 : decode (bc 160) 162 = .ok (.getfield 13, 3) := by decide +kernel
theorem q_160_13 : fq 160 13 = some (10, 1, 38, 0, false) := by decide +kernel
theorem d_160_165 : decode (bc 160) 165 = .ok (.irem, 1) := by decide +kernel
theorem d_160_166 : decode (bc 160) 166 = .ok (.iastore, 1) := by decide +kernel
theorem d_160_167 : decode (bc 160) 167 = .ok (.iinc 8 1, 3) := by decide +kernel
theorem d_160_170 : decode (bc 160) 170 = .ok (.goto (-77), 3) := by decide +kernel
theorem d_160_173 : decode (bc 160) 173 = .ok (.iinc 7 1, 3) := by decide +kernel
theorem d_160_176 : decode (bc 160) 176 = .ok (.goto (-93), 3) := by decide +kernel
theorem d_160_179 : decode (bc 160) 179 = .ok (.iinc 6 1, 3) := by decide +kernel
theorem d_160_182 : decode (bc 160) 182 = .ok (.goto (-108), 3) := by decide +kernel
theorem d_160_185 : decode (bc 160) 185 = .ok (.aload_n 0, 1) := by decide +kernel
theorem d_160_186 : decode (bc 160) 186 = .ok (.iload_n 1, 1) := by decide +kernel
theorem d_160_187 : decode (bc 160) 187 = .ok (.iload 4, 2) := by decide +kernel
theorem d_160_189 : decode (bc 160) 189 = .ok (.invokevirtual 159, 3) := by decide +kernel
theorem q_160_159 : cq 160 159 [0, 3] = some (136, 3) := by decide +kernel
theorem d_160_192 : decode (bc 160) 192 = .ok (.iload 4, 2) := by decide +kernel
theorem d_160_194 : decode (bc 160) 194 = .ok (.ireturn, 1) := by decide +kernel
theorem rt_160 : rty 160 = some .int := by decide +kernel
theorem mx_160 : mxl 160 = 10 := by decide +kernel
theorem ow_160 : (sta 160 = false ∧ own 160 = 10 ∧ hgt 160 = 2) := by decide +kernel
-- 161: SpunModulesModel.over(II)I
theorem d_161_0 : decode (bc 161) 0 = .ok (.iload_n 1, 1) := by decide +kernel
theorem d_161_1 : decode (bc 161) 1 = .ok (.invokestatic 178, 3) := by decide +kernel
theorem q_161_178 : cq 161 178 [1, 4] = some (138, 1) := by decide +kernel
theorem d_161_4 : decode (bc 161) 4 = .ok (.ifCond .eq 10, 3) := by decide +kernel
theorem d_161_7 : decode (bc 161) 7 = .ok (.iload_n 2, 1) := by decide +kernel
theorem d_161_8 : decode (bc 161) 8 = .ok (.invokestatic 178, 3) := by decide +kernel
theorem d_161_11 : decode (bc 161) 11 = .ok (.ifCond .ne 8, 3) := by decide +kernel
theorem d_161_14 : decode (bc 161) 14 = .ok (.aload_n 0, 1) := by decide +kernel
theorem d_161_15 : decode (bc 161) 15 = .ok (.invokevirtual 172, 3) := by decide +kernel
theorem q_161_172 : cq 161 172 [0, 3] = some (126, 1) := by decide +kernel
theorem d_161_18 : decode (bc 161) 18 = .ok (.ireturn, 1) := by decide +kernel
theorem d_161_19 : decode (bc 161) 19 = .ok (.aload_n 0, 1) := by decide +kernel
theorem d_161_20 : decode (bc 161) 20 = .ok (.invokevirtual 175, 3) := by decide +kernel
theorem q_161_175 : cq 161 175 [0, 3] = some (151, 1) := by decide +kernel
theorem d_161_23 : decode (bc 161) 23 = .ok (.aload_n 0, 1) := by decide +kernel
theorem d_161_24 : decode (bc 161) 24 = .ok (.invokevirtual 156, 3) := by decide +kernel
theorem q_161_156 : cq 161 156 [0, 3] = some (137, 1) := by decide +kernel
theorem d_161_27 : decode (bc 161) 27 = .ok (.aload_n 0, 1) := by decide +kernel
theorem d_161_28 : decode (bc 161) 28 = .ok (.getfield 17, 3) := by decide +kernel
theorem q_161_17 : fq 161 17 = some (10, 2, 38, 2, true) := by decide +kernel
theorem d_161_31 : decode (bc 161) 31 = .ok (.iload_n 2, 1) := by decide +kernel
theorem d_161_32 : decode (bc 161) 32 = .ok (.iaload, 1) := by decide +kernel
theorem d_161_33 : decode (bc 161) 33 = .ok (.istore_n 3, 1) := by decide +kernel
theorem d_161_34 : decode (bc 161) 34 = .ok (.iconst 0, 1) := by decide +kernel
theorem d_161_35 : decode (bc 161) 35 = .ok (.istore 4, 2) := by decide +kernel
theorem d_161_37 : decode (bc 161) 37 = .ok (.iload 4, 2) := by decide +kernel
theorem d_161_39 : decode (bc 161) 39 = .ok (.iconst 2, 1) := by decide +kernel
theorem d_161_40 : decode (bc 161) 40 = .ok (.if_icmp .ge 69, 3) := by decide +kernel
theorem d_161_43 : decode (bc 161) 43 = .ok (.iconst 0, 1) := by decide +kernel
theorem d_161_44 : decode (bc 161) 44 = .ok (.istore 5, 2) := by decide +kernel
theorem d_161_46 : decode (bc 161) 46 = .ok (.iload 5, 2) := by decide +kernel
theorem d_161_48 : decode (bc 161) 48 = .ok (.iload_n 3, 1) := by decide +kernel
theorem d_161_49 : decode (bc 161) 49 = .ok (.if_icmp .ge 54, 3) := by decide +kernel
theorem d_161_52 : decode (bc 161) 52 = .ok (.iconst 0, 1) := by decide +kernel
theorem d_161_53 : decode (bc 161) 53 = .ok (.istore 6, 2) := by decide +kernel
theorem d_161_55 : decode (bc 161) 55 = .ok (.iload 6, 2) := by decide +kernel
theorem d_161_57 : decode (bc 161) 57 = .ok (.iload_n 3, 1) := by decide +kernel
theorem d_161_58 : decode (bc 161) 58 = .ok (.if_icmp .ge 39, 3) := by decide +kernel
theorem d_161_61 : decode (bc 161) 61 = .ok (.aload_n 0, 1) := by decide +kernel
theorem d_161_62 : decode (bc 161) 62 = .ok (.getfield 23, 3) := by decide +kernel
theorem q_161_23 : fq 161 23 = some (10, 4, 38, 2, true) := by decide +kernel
theorem d_161_65 : decode (bc 161) 65 = .ok (.iconst 0, 1) := by decide +kernel
theorem d_161_66 : decode (bc 161) 66 = .ok (.iload 4, 2) := by decide +kernel
theorem d_161_68 : decode (bc 161) 68 = .ok (.iload 5, 2) := by decide +kernel
theorem d_161_70 : decode (bc 161) 70 = .ok (.iload 6, 2) := by decide +kernel
theorem d_161_72 : decode (bc 161) 72 = .ok (.invokestatic 114, 3) := by decide +kernel
theorem q_161_114 : cq 161 114 [1, 4] = some (133, 4) := by decide +kernel
theorem d_161_75 : decode (bc 161) 75 = .ok (.aload_n 0, 1) := by decide +kernel
theorem d_161_76 : decode (bc 161) 76 = .ok (.getfield 20, 3) := by decide +kernel
theorem q_161_20 : fq 161 20 = some (10, 3, 38, 2, true) := by decide +kernel
theorem d_161_79 : decode (bc 161) 79 = .ok (.iload_n 2, 1) := by decide +kernel
theorem d_161_80 : decode (bc 161) 80 = .ok (.iload 4, 2) := by decide +kernel
theorem d_161_82 : decode (bc 161) 82 = .ok (.iload 6, 2) := by decide +kernel
theorem d_161_84 : decode (bc 161) 84 = .ok (.iload 5, 2) := by decide +kernel
theorem d_161_86 : decode (bc 161) 86 = .ok (.invokestatic 114, 3) := by decide +kernel
theorem d_161_89 : decode (bc 161) 89 = .ok (.iaload, 1) := by decide +kernel
theorem d_161_90 : decode (bc 161) 90 = .ok (.iastore, 1) := by decide +kernel
theorem d_161_91 : decode (bc 161) 91 = .ok (.iinc 6 1, 3) := by decide +kernel
theorem d_161_94 : decode (bc 161) 94 = .ok (.goto (-39), 3) := by decide +kernel
theorem d_161_97 : decode (bc 161) 97 = .ok (.iinc 5 1, 3) := by decide +kernel
theorem d_161_100 : decode (bc 161) 100 = .ok (.goto (-54), 3) := by decide +kernel
theorem d_161_103 : decode (bc 161) 103 = .ok (.iinc 4 1, 3) := by decide +kernel
theorem d_161_106 : decode (bc 161) 106 = .ok (.goto (-69), 3) := by decide +kernel
theorem d_161_109 : decode (bc 161) 109 = .ok (.aload_n 0, 1) := by decide +kernel
theorem d_161_110 : decode (bc 161) 110 = .ok (.iload_n 1, 1) := by decide +kernel
theorem d_161_111 : decode (bc 161) 111 = .ok (.iload_n 3, 1) := by decide +kernel
theorem d_161_112 : decode (bc 161) 112 = .ok (.invokevirtual 159, 3) := by decide +kernel
theorem q_161_159 : cq 161 159 [0, 3] = some (136, 3) := by decide +kernel
theorem d_161_115 : decode (bc 161) 115 = .ok (.iload_n 3, 1) := by decide +kernel
theorem d_161_116 : decode (bc 161) 116 = .ok (.ireturn, 1) := by decide +kernel
theorem rt_161 : rty 161 = some .int := by decide +kernel
theorem mx_161 : mxl 161 = 7 := by decide +kernel
theorem ow_161 : (sta 161 = false ∧ own 161 = 10 ∧ hgt 161 = 2) := by decide +kernel
-- 162: SpunModulesModel.parts(III)I
theorem d_162_0 : decode (bc 162) 0 = .ok (.iload_n 1, 1) := by decide +kernel
theorem d_162_1 : decode (bc 162) 1 = .ok (.invokestatic 178, 3) := by decide +kernel
theorem q_162_178 : cq 162 178 [1, 4] = some (138, 1) := by decide +kernel
theorem d_162_4 : decode (bc 162) 4 = .ok (.ifCond .eq 19, 3) := by decide +kernel
theorem d_162_7 : decode (bc 162) 7 = .ok (.iload_n 2, 1) := by decide +kernel
theorem d_162_8 : decode (bc 162) 8 = .ok (.invokestatic 178, 3) := by decide +kernel
theorem d_162_11 : decode (bc 162) 11 = .ok (.ifCond .eq 12, 3) := by decide +kernel
theorem d_162_14 : decode (bc 162) 14 = .ok (.aload_n 0, 1) := by decide +kernel
theorem d_162_15 : decode (bc 162) 15 = .ok (.iload_n 2, 1) := by decide +kernel
theorem d_162_16 : decode (bc 162) 16 = .ok (.iload_n 3, 1) := by decide +kernel
theorem d_162_17 : decode (bc 162) 17 = .ok (.invokevirtual 202, 3) := by decide +kernel
theorem q_162_202 : cq 162 202 [0, 3] = some (140, 3) := by decide +kernel
theorem d_162_20 : decode (bc 162) 20 = .ok (.ifCond .ne 8, 3) := by decide +kernel
theorem d_162_23 : decode (bc 162) 23 = .ok (.aload_n 0, 1) := by decide +kernel
theorem d_162_24 : decode (bc 162) 24 = .ok (.invokevirtual 172, 3) := by decide +kernel
theorem q_162_172 : cq 162 172 [0, 3] = some (126, 1) := by decide +kernel
theorem d_162_27 : decode (bc 162) 27 = .ok (.ireturn, 1) := by decide +kernel
theorem d_162_28 : decode (bc 162) 28 = .ok (.iload_n 3, 1) := by decide +kernel
theorem d_162_29 : decode (bc 162) 29 = .ok (.ifCond .ne 8, 3) := by decide +kernel
theorem d_162_32 : decode (bc 162) 32 = .ok (.aload_n 0, 1) := by decide +kernel
theorem d_162_33 : decode (bc 162) 33 = .ok (.invokevirtual 168, 3) := by decide +kernel
theorem q_162_168 : cq 162 168 [0, 3] = some (127, 1) := by decide +kernel
theorem d_162_36 : decode (bc 162) 36 = .ok (.ireturn, 1) := by decide +kernel
theorem d_162_37 : decode (bc 162) 37 = .ok (.aload_n 0, 1) := by decide +kernel
theorem d_162_38 : decode (bc 162) 38 = .ok (.invokevirtual 175, 3) := by decide +kernel
theorem q_162_175 : cq 162 175 [0, 3] = some (151, 1) := by decide +kernel
theorem d_162_41 : decode (bc 162) 41 = .ok (.aload_n 0, 1) := by decide +kernel
theorem d_162_42 : decode (bc 162) 42 = .ok (.iload_n 2, 1) := by decide +kernel
theorem d_162_43 : decode (bc 162) 43 = .ok (.iload_n 3, 1) := by decide +kernel
theorem d_162_44 : decode (bc 162) 44 = .ok (.invokevirtual 205, 3) := by decide +kernel
theorem q_162_205 : cq 162 205 [0, 3] = some (144, 3) := by decide +kernel
theorem d_162_47 : decode (bc 162) 47 = .ok (.aload_n 0, 1) := by decide +kernel
theorem d_162_48 : decode (bc 162) 48 = .ok (.iload_n 2, 1) := by decide +kernel
theorem d_162_49 : decode (bc 162) 49 = .ok (.iload_n 1, 1) := by decide +kernel
theorem d_162_50 : decode (bc 162) 50 = .ok (.invokevirtual 208, 3) := by decide +kernel
theorem q_162_208 : cq 162 208 [0, 3] = some (148, 3) := by decide +kernel
theorem d_162_53 : decode (bc 162) 53 = .ok (.aload_n 0, 1) := by decide +kernel
theorem d_162_54 : decode (bc 162) 54 = .ok (.getfield 17, 3) := by decide +kernel
theorem q_162_17 : fq 162 17 = some (10, 2, 38, 2, true) := by decide +kernel
theorem d_162_57 : decode (bc 162) 57 = .ok (.iload_n 1, 1) := by decide +kernel
theorem d_162_58 : decode (bc 162) 58 = .ok (.iaload, 1) := by decide +kernel
theorem d_162_59 : decode (bc 162) 59 = .ok (.ireturn, 1) := by decide +kernel
theorem rt_162 : rty 162 = some .int := by decide +kernel
theorem mx_162 : mxl 162 = 4 := by decide +kernel
theorem ow_162 : (sta 162 = false ∧ own 162 = 10 ∧ hgt 162 = 6) := by decide +kernel
-- 163: SpunModulesModel.rests(III)I
theorem d_163_0 : decode (bc 163) 0 = .ok (.iload_n 1, 1) := by decide +kernel
theorem d_163_1 : decode (bc 163) 1 = .ok (.invokestatic 178, 3) := by decide +kernel
theorem q_163_178 : cq 163 178 [1, 4] = some (138, 1) := by decide +kernel
theorem d_163_4 : decode (bc 163) 4 = .ok (.ifCond .eq 19, 3) := by decide +kernel
theorem d_163_7 : decode (bc 163) 7 = .ok (.iload_n 2, 1) := by decide +kernel
theorem d_163_8 : decode (bc 163) 8 = .ok (.invokestatic 178, 3) := by decide +kernel
theorem d_163_11 : decode (bc 163) 11 = .ok (.ifCond .eq 12, 3) := by decide +kernel
theorem d_163_14 : decode (bc 163) 14 = .ok (.aload_n 0, 1) := by decide +kernel
theorem d_163_15 : decode (bc 163) 15 = .ok (.iload_n 2, 1) := by decide +kernel
theorem d_163_16 : decode (bc 163) 16 = .ok (.iload_n 3, 1) := by decide +kernel
theorem d_163_17 : decode (bc 163) 17 = .ok (.invokevirtual 202, 3) := by decide +kernel
theorem q_163_202 : cq 163 202 [0, 3] = some (140, 3) := by decide +kernel
theorem d_163_20 : decode (bc 163) 20 = .ok (.ifCond .ne 8, 3) := by decide +kernel
theorem d_163_23 : decode (bc 163) 23 = .ok (.aload_n 0, 1) := by decide +kernel
theorem d_163_24 : decode (bc 163) 24 = .ok (.invokevirtual 172, 3) := by decide +kernel
theorem q_163_172 : cq 163 172 [0, 3] = some (126, 1) := by decide +kernel
theorem d_163_27 : decode (bc 163) 27 = .ok (.ireturn, 1) := by decide +kernel
theorem d_163_28 : decode (bc 163) 28 = .ok (.aload_n 0, 1) := by decide +kernel
theorem d_163_29 : decode (bc 163) 29 = .ok (.iload_n 2, 1) := by decide +kernel
theorem d_163_30 : decode (bc 163) 30 = .ok (.iload_n 3, 1) := by decide +kernel
theorem d_163_31 : decode (bc 163) 31 = .ok (.invokevirtual 205, 3) := by decide +kernel
theorem q_163_205 : cq 163 205 [0, 3] = some (144, 3) := by decide +kernel
theorem d_163_34 : decode (bc 163) 34 = .ok (.aload_n 0, 1) := by decide +kernel
theorem d_163_35 : decode (bc 163) 35 = .ok (.getfield 122, 3) := by decide +kernel
theorem q_163_122 : fq 163 122 = some (10, 7, 38, 0, false) := by decide +kernel
theorem d_163_38 : decode (bc 163) 38 = .ok (.aload_n 0, 1) := by decide +kernel
theorem d_163_39 : decode (bc 163) 39 = .ok (.getfield 17, 3) := by decide +kernel
theorem q_163_17 : fq 163 17 = some (10, 2, 38, 2, true) := by decide +kernel
theorem d_163_42 : decode (bc 163) 42 = .ok (.iload_n 2, 1) := by decide +kernel
theorem d_163_43 : decode (bc 163) 43 = .ok (.iaload, 1) := by decide +kernel
theorem d_163_44 : decode (bc 163) 44 = .ok (.if_icmp .ne 8, 3) := by decide +kernel
theorem d_163_47 : decode (bc 163) 47 = .ok (.aload_n 0, 1) := by decide +kernel
theorem d_163_48 : decode (bc 163) 48 = .ok (.invokevirtual 168, 3) := by decide +kernel
theorem q_163_168 : cq 163 168 [0, 3] = some (127, 1) := by decide +kernel
theorem d_163_51 : decode (bc 163) 51 = .ok (.ireturn, 1) := by decide +kernel
theorem d_163_52 : decode (bc 163) 52 = .ok (.aload_n 0, 1) := by decide +kernel
theorem d_163_53 : decode (bc 163) 53 = .ok (.invokevirtual 175, 3) := by decide +kernel
theorem q_163_175 : cq 163 175 [0, 3] = some (151, 1) := by decide +kernel
theorem d_163_56 : decode (bc 163) 56 = .ok (.aload_n 0, 1) := by decide +kernel
theorem d_163_57 : decode (bc 163) 57 = .ok (.iload_n 2, 1) := by decide +kernel
theorem d_163_58 : decode (bc 163) 58 = .ok (.iload_n 1, 1) := by decide +kernel
theorem d_163_59 : decode (bc 163) 59 = .ok (.invokevirtual 211, 3) := by decide +kernel
theorem q_163_211 : cq 163 211 [0, 3] = some (150, 3) := by decide +kernel
theorem d_163_62 : decode (bc 163) 62 = .ok (.aload_n 0, 1) := by decide +kernel
theorem d_163_63 : decode (bc 163) 63 = .ok (.getfield 17, 3) := by decide +kernel
theorem d_163_66 : decode (bc 163) 66 = .ok (.iload_n 1, 1) := by decide +kernel
theorem d_163_67 : decode (bc 163) 67 = .ok (.iaload, 1) := by decide +kernel
theorem d_163_68 : decode (bc 163) 68 = .ok (.ireturn, 1) := by decide +kernel
theorem rt_163 : rty 163 = some .int := by decide +kernel
theorem mx_163 : mxl 163 = 4 := by decide +kernel
theorem ow_163 : (sta 163 = false ∧ own 163 = 10 ∧ hgt 163 = 6) := by decide +kernel
-- 164: SpunModulesModel.size(I)I
theorem d_164_0 : decode (bc 164) 0 = .ok (.iload_n 1, 1) := by decide +kernel
theorem d_164_1 : decode (bc 164) 1 = .ok (.invokestatic 178, 3) := by decide +kernel
theorem q_164_178 : cq 164 178 [1, 4] = some (138, 1) := by decide +kernel
theorem d_164_4 : decode (bc 164) 4 = .ok (.ifCond .eq 12, 3) := by decide +kernel
theorem d_164_7 : decode (bc 164) 7 = .ok (.aload_n 0, 1) := by decide +kernel
theorem d_164_8 : decode (bc 164) 8 = .ok (.getfield 17, 3) := by decide +kernel
theorem q_164_17 : fq 164 17 = some (10, 2, 38, 2, true) := by decide +kernel
theorem d_164_11 : decode (bc 164) 11 = .ok (.iload_n 1, 1) := by decide +kernel
theorem d_164_12 : decode (bc 164) 12 = .ok (.iaload, 1) := by decide +kernel
theorem d_164_13 : decode (bc 164) 13 = .ok (.goto 7, 3) := by decide +kernel
theorem d_164_16 : decode (bc 164) 16 = .ok (.aload_n 0, 1) := by decide +kernel
theorem d_164_17 : decode (bc 164) 17 = .ok (.invokevirtual 172, 3) := by decide +kernel
theorem q_164_172 : cq 164 172 [0, 3] = some (126, 1) := by decide +kernel
theorem d_164_20 : decode (bc 164) 20 = .ok (.ireturn, 1) := by decide +kernel
theorem rt_164 : rty 164 = some .int := by decide +kernel
theorem mx_164 : mxl 164 = 2 := by decide +kernel
theorem ow_164 : (sta 164 = false ∧ own 164 = 10 ∧ hgt 164 = 2) := by decide +kernel
-- 165: SpunModulesModel.at(IIII)I
theorem d_165_0 : decode (bc 165) 0 = .ok (.iload_n 1, 1) := by decide +kernel
theorem d_165_1 : decode (bc 165) 1 = .ok (.invokestatic 178, 3) := by decide +kernel
theorem q_165_178 : cq 165 178 [1, 4] = some (138, 1) := by decide +kernel
theorem d_165_4 : decode (bc 165) 4 = .ok (.ifCond .eq 31, 3) := by decide +kernel
theorem d_165_7 : decode (bc 165) 7 = .ok (.iload_n 2, 1) := by decide +kernel
theorem d_165_8 : decode (bc 165) 8 = .ok (.iconst 0, 1) := by decide +kernel
theorem d_165_9 : decode (bc 165) 9 = .ok (.iconst 1, 1) := by decide +kernel
theorem d_165_10 : decode (bc 165) 10 = .ok (.invokestatic 118, 3) := by decide +kernel
theorem q_165_118 : cq 165 118 [1, 4] = some (129, 3) := by decide +kernel
theorem d_165_13 : decode (bc 165) 13 = .ok (.ifCond .eq 22, 3) := by decide +kernel
theorem d_165_16 : decode (bc 165) 16 = .ok (.aload_n 0, 1) := by decide +kernel
theorem d_165_17 : decode (bc 165) 17 = .ok (.iload_n 1, 1) := by decide +kernel
theorem d_165_18 : decode (bc 165) 18 = .ok (.iload_n 3, 1) := by decide +kernel
theorem d_165_19 : decode (bc 165) 19 = .ok (.invokevirtual 185, 3) := by decide +kernel
theorem q_165_185 : cq 165 185 [0, 3] = some (139, 3) := by decide +kernel
theorem d_165_22 : decode (bc 165) 22 = .ok (.ifCond .eq 13, 3) := by decide +kernel
theorem d_165_25 : decode (bc 165) 25 = .ok (.aload_n 0, 1) := by decide +kernel
theorem d_165_26 : decode (bc 165) 26 = .ok (.iload_n 1, 1) := by decide +kernel
theorem d_165_27 : decode (bc 165) 27 = .ok (.iload 4, 2) := by decide +kernel
theorem d_165_29 : decode (bc 165) 29 = .ok (.invokevirtual 185, 3) := by decide +kernel
theorem d_165_32 : decode (bc 165) 32 = .ok (.ifCond .ne 8, 3) := by decide +kernel
theorem d_165_35 : decode (bc 165) 35 = .ok (.aload_n 0, 1) := by decide +kernel
theorem d_165_36 : decode (bc 165) 36 = .ok (.invokevirtual 172, 3) := by decide +kernel
theorem q_165_172 : cq 165 172 [0, 3] = some (126, 1) := by decide +kernel
theorem d_165_39 : decode (bc 165) 39 = .ok (.ireturn, 1) := by decide +kernel
theorem d_165_40 : decode (bc 165) 40 = .ok (.aload_n 0, 1) := by decide +kernel
theorem d_165_41 : decode (bc 165) 41 = .ok (.getfield 20, 3) := by decide +kernel
theorem q_165_20 : fq 165 20 = some (10, 3, 38, 2, true) := by decide +kernel
theorem d_165_44 : decode (bc 165) 44 = .ok (.iload_n 1, 1) := by decide +kernel
theorem d_165_45 : decode (bc 165) 45 = .ok (.iload_n 2, 1) := by decide +kernel
theorem d_165_46 : decode (bc 165) 46 = .ok (.iload_n 3, 1) := by decide +kernel
theorem d_165_47 : decode (bc 165) 47 = .ok (.iload 4, 2) := by decide +kernel
theorem d_165_49 : decode (bc 165) 49 = .ok (.invokestatic 114, 3) := by decide +kernel
theorem q_165_114 : cq 165 114 [1, 4] = some (133, 4) := by decide +kernel
theorem d_165_52 : decode (bc 165) 52 = .ok (.iaload, 1) := by decide +kernel
theorem d_165_53 : decode (bc 165) 53 = .ok (.ireturn, 1) := by decide +kernel
theorem rt_165 : rty 165 = some .int := by decide +kernel
theorem mx_165 : mxl 165 = 5 := by decide +kernel
theorem ow_165 : (sta 165 = false ∧ own 165 = 10 ∧ hgt 165 = 2) := by decide +kernel
-- 166: SpunModulesModel.moved(III)I
theorem d_166_0 : decode (bc 166) 0 = .ok (.iload_n 1, 1) := by decide +kernel
theorem d_166_1 : decode (bc 166) 1 = .ok (.invokestatic 178, 3) := by decide +kernel
theorem q_166_178 : cq 166 178 [1, 4] = some (138, 1) := by decide +kernel
theorem d_166_4 : decode (bc 166) 4 = .ok (.ifCond .eq 21, 3) := by decide +kernel
theorem d_166_7 : decode (bc 166) 7 = .ok (.iload_n 2, 1) := by decide +kernel
theorem d_166_8 : decode (bc 166) 8 = .ok (.iconst 0, 1) := by decide +kernel
theorem d_166_9 : decode (bc 166) 9 = .ok (.iconst 1, 1) := by decide +kernel
theorem d_166_10 : decode (bc 166) 10 = .ok (.invokestatic 118, 3) := by decide +kernel
theorem q_166_118 : cq 166 118 [1, 4] = some (129, 3) := by decide +kernel
theorem d_166_13 : decode (bc 166) 13 = .ok (.ifCond .eq 12, 3) := by decide +kernel
theorem d_166_16 : decode (bc 166) 16 = .ok (.aload_n 0, 1) := by decide +kernel
theorem d_166_17 : decode (bc 166) 17 = .ok (.iload_n 1, 1) := by decide +kernel
theorem d_166_18 : decode (bc 166) 18 = .ok (.iload_n 3, 1) := by decide +kernel
theorem d_166_19 : decode (bc 166) 19 = .ok (.invokevirtual 202, 3) := by decide +kernel
theorem q_166_202 : cq 166 202 [0, 3] = some (140, 3) := by decide +kernel
theorem d_166_22 : decode (bc 166) 22 = .ok (.ifCond .ne 8, 3) := by decide +kernel
theorem d_166_25 : decode (bc 166) 25 = .ok (.aload_n 0, 1) := by decide +kernel
theorem d_166_26 : decode (bc 166) 26 = .ok (.invokevirtual 172, 3) := by decide +kernel
theorem q_166_172 : cq 166 172 [0, 3] = some (126, 1) := by decide +kernel
theorem d_166_29 : decode (bc 166) 29 = .ok (.ireturn, 1) := by decide +kernel
theorem d_166_30 : decode (bc 166) 30 = .ok (.aload_n 0, 1) := by decide +kernel
theorem d_166_31 : decode (bc 166) 31 = .ok (.iload_n 1, 1) := by decide +kernel
theorem d_166_32 : decode (bc 166) 32 = .ok (.iload_n 2, 1) := by decide +kernel
theorem d_166_33 : decode (bc 166) 33 = .ok (.iload_n 3, 1) := by decide +kernel
theorem d_166_34 : decode (bc 166) 34 = .ok (.invokevirtual 133, 3) := by decide +kernel
theorem q_166_133 : cq 166 133 [0, 3] = some (135, 4) := by decide +kernel
theorem d_166_37 : decode (bc 166) 37 = .ok (.ireturn, 1) := by decide +kernel
theorem rt_166 : rty 166 = some .int := by decide +kernel
theorem mx_166 : mxl 166 = 4 := by decide +kernel
theorem ow_166 : (sta 166 = false ∧ own 166 = 10 ∧ hgt 166 = 2) := by decide +kernel
-- 167: SpunModulesModel.spun(II)I
theorem d_167_0 : decode (bc 167) 0 = .ok (.iload_n 1, 1) := by decide +kernel
theorem d_167_1 : decode (bc 167) 1 = .ok (.invokestatic 178, 3) := by decide +kernel
theorem q_167_178 : cq 167 178 [1, 4] = some (138, 1) := by decide +kernel
theorem d_167_4 : decode (bc 167) 4 = .ok (.ifCond .eq 12, 3) := by decide +kernel
theorem d_167_7 : decode (bc 167) 7 = .ok (.aload_n 0, 1) := by decide +kernel
theorem d_167_8 : decode (bc 167) 8 = .ok (.iload_n 1, 1) := by decide +kernel
theorem d_167_9 : decode (bc 167) 9 = .ok (.iload_n 2, 1) := by decide +kernel
theorem d_167_10 : decode (bc 167) 10 = .ok (.invokevirtual 202, 3) := by decide +kernel
theorem q_167_202 : cq 167 202 [0, 3] = some (140, 3) := by decide +kernel
theorem d_167_13 : decode (bc 167) 13 = .ok (.ifCond .ne 8, 3) := by decide +kernel
theorem d_167_16 : decode (bc 167) 16 = .ok (.aload_n 0, 1) := by decide +kernel
theorem d_167_17 : decode (bc 167) 17 = .ok (.invokevirtual 172, 3) := by decide +kernel
theorem q_167_172 : cq 167 172 [0, 3] = some (126, 1) := by decide +kernel
theorem d_167_20 : decode (bc 167) 20 = .ok (.ireturn, 1) := by decide +kernel
theorem d_167_21 : decode (bc 167) 21 = .ok (.aload_n 0, 1) := by decide +kernel
theorem d_167_22 : decode (bc 167) 22 = .ok (.iload_n 1, 1) := by decide +kernel
theorem d_167_23 : decode (bc 167) 23 = .ok (.iload_n 2, 1) := by decide +kernel
theorem d_167_24 : decode (bc 167) 24 = .ok (.invokevirtual 205, 3) := by decide +kernel
theorem q_167_205 : cq 167 205 [0, 3] = some (144, 3) := by decide +kernel
theorem d_167_27 : decode (bc 167) 27 = .ok (.aload_n 0, 1) := by decide +kernel
theorem d_167_28 : decode (bc 167) 28 = .ok (.getfield 122, 3) := by decide +kernel
theorem q_167_122 : fq 167 122 = some (10, 7, 38, 0, false) := by decide +kernel
theorem d_167_31 : decode (bc 167) 31 = .ok (.ireturn, 1) := by decide +kernel
theorem rt_167 : rty 167 = some .int := by decide +kernel
theorem mx_167 : mxl 167 = 3 := by decide +kernel
theorem ow_167 : (sta 167 = false ∧ own 167 = 10 ∧ hgt 167 = 4) := by decide +kernel
-- 168: SpunModulesModel.row(III)I
theorem d_168_0 : decode (bc 168) 0 = .ok (.iload_n 1, 1) := by decide +kernel
theorem d_168_1 : decode (bc 168) 1 = .ok (.invokestatic 178, 3) := by decide +kernel
theorem q_168_178 : cq 168 178 [1, 4] = some (138, 1) := by decide +kernel
theorem d_168_4 : decode (bc 168) 4 = .ok (.ifCond .eq 16, 3) := by decide +kernel
theorem d_168_7 : decode (bc 168) 7 = .ok (.aload_n 0, 1) := by decide +kernel
theorem d_168_8 : decode (bc 168) 8 = .ok (.iload_n 1, 1) := by decide +kernel
theorem d_168_9 : decode (bc 168) 9 = .ok (.iload_n 2, 1) := by decide +kernel
theorem d_168_10 : decode (bc 168) 10 = .ok (.invokevirtual 202, 3) := by decide +kernel
theorem q_168_202 : cq 168 202 [0, 3] = some (140, 3) := by decide +kernel
theorem d_168_13 : decode (bc 168) 13 = .ok (.ifCond .eq 7, 3) := by decide +kernel
theorem d_168_16 : decode (bc 168) 16 = .ok (.iload_n 3, 1) := by decide +kernel
theorem d_168_17 : decode (bc 168) 17 = .ok (.ifCond .ge 8, 3) := by decide +kernel
theorem d_168_20 : decode (bc 168) 20 = .ok (.aload_n 0, 1) := by decide +kernel
theorem d_168_21 : decode (bc 168) 21 = .ok (.invokevirtual 172, 3) := by decide +kernel
theorem q_168_172 : cq 168 172 [0, 3] = some (126, 1) := by decide +kernel
theorem d_168_24 : decode (bc 168) 24 = .ok (.ireturn, 1) := by decide +kernel
theorem d_168_25 : decode (bc 168) 25 = .ok (.aload_n 0, 1) := by decide +kernel
theorem d_168_26 : decode (bc 168) 26 = .ok (.iload_n 1, 1) := by decide +kernel
theorem d_168_27 : decode (bc 168) 27 = .ok (.iload_n 2, 1) := by decide +kernel
theorem d_168_28 : decode (bc 168) 28 = .ok (.invokevirtual 205, 3) := by decide +kernel
theorem q_168_205 : cq 168 205 [0, 3] = some (144, 3) := by decide +kernel
theorem d_168_31 : decode (bc 168) 31 = .ok (.aload_n 0, 1) := by decide +kernel
theorem d_168_32 : decode (bc 168) 32 = .ok (.aload_n 0, 1) := by decide +kernel
theorem d_168_33 : decode (bc 168) 33 = .ok (.getfield 17, 3) := by decide +kernel
theorem q_168_17 : fq 168 17 = some (10, 2, 38, 2, true) := by decide +kernel
theorem d_168_36 : decode (bc 168) 36 = .ok (.iload_n 1, 1) := by decide +kernel
theorem d_168_37 : decode (bc 168) 37 = .ok (.iaload, 1) := by decide +kernel
theorem d_168_38 : decode (bc 168) 38 = .ok (.invokevirtual 152, 3) := by decide +kernel
theorem q_168_152 : cq 168 152 [0, 3] = some (147, 2) := by decide +kernel
theorem d_168_41 : decode (bc 168) 41 = .ok (.iload_n 3, 1) := by decide +kernel
theorem d_168_42 : decode (bc 168) 42 = .ok (.aload_n 0, 1) := by decide +kernel
theorem d_168_43 : decode (bc 168) 43 = .ok (.getfield 122, 3) := by decide +kernel
theorem q_168_122 : fq 168 122 = some (10, 7, 38, 0, false) := by decide +kernel
theorem d_168_46 : decode (bc 168) 46 = .ok (.if_icmp .ge 12, 3) := by decide +kernel
theorem d_168_49 : decode (bc 168) 49 = .ok (.aload_n 0, 1) := by decide +kernel
theorem d_168_50 : decode (bc 168) 50 = .ok (.getfield 41, 3) := by decide +kernel
theorem q_168_41 : fq 168 41 = some (10, 11, 38, 2, true) := by decide +kernel
theorem d_168_53 : decode (bc 168) 53 = .ok (.iload_n 3, 1) := by decide +kernel
theorem d_168_54 : decode (bc 168) 54 = .ok (.iaload, 1) := by decide +kernel
theorem d_168_55 : decode (bc 168) 55 = .ok (.goto 4, 3) := by decide +kernel
theorem d_168_58 : decode (bc 168) 58 = .ok (.iconst (-1), 1) := by decide +kernel
theorem d_168_59 : decode (bc 168) 59 = .ok (.ireturn, 1) := by decide +kernel
theorem rt_168 : rty 168 = some .int := by decide +kernel
theorem mx_168 : mxl 168 = 4 := by decide +kernel
theorem ow_168 : (sta 168 = false ∧ own 168 = 10 ∧ hgt 168 = 5) := by decide +kernel
-- 169: SpunModulesModel.splitter(I)I
theorem d_169_0 : decode (bc 169) 0 = .ok (.aload_n 0, 1) := by decide +kernel
theorem d_169_1 : decode (bc 169) 1 = .ok (.aload_n 0, 1) := by decide +kernel
theorem d_169_2 : decode (bc 169) 2 = .ok (.getfield 17, 3) := by decide +kernel
theorem q_169_17 : fq 169 17 = some (10, 2, 38, 2, true) := by decide +kernel
theorem d_169_5 : decode (bc 169) 5 = .ok (.iload_n 1, 1) := by decide +kernel
theorem d_169_6 : decode (bc 169) 6 = .ok (.iaload, 1) := by decide +kernel
theorem d_169_7 : decode (bc 169) 7 = .ok (.invokevirtual 110, 3) := by decide +kernel
theorem q_169_110 : cq 169 110 [0, 3] = some (131, 2) := by decide +kernel
theorem d_169_10 : decode (bc 169) 10 = .ok (.istore_n 2, 1) := by decide +kernel
theorem d_169_11 : decode (bc 169) 11 = .ok (.iconst 1, 1) := by decide +kernel
theorem d_169_12 : decode (bc 169) 12 = .ok (.istore_n 3, 1) := by decide +kernel
theorem d_169_13 : decode (bc 169) 13 = .ok (.iload_n 3, 1) := by decide +kernel
theorem d_169_14 : decode (bc 169) 14 = .ok (.iload_n 2, 1) := by decide +kernel
theorem d_169_15 : decode (bc 169) 15 = .ok (.if_icmp .ge 30, 3) := by decide +kernel
theorem d_169_18 : decode (bc 169) 18 = .ok (.aload_n 0, 1) := by decide +kernel
theorem d_169_19 : decode (bc 169) 19 = .ok (.iload_n 1, 1) := by decide +kernel
theorem d_169_20 : decode (bc 169) 20 = .ok (.iload_n 3, 1) := by decide +kernel
theorem d_169_21 : decode (bc 169) 21 = .ok (.invokevirtual 205, 3) := by decide +kernel
theorem q_169_205 : cq 169 205 [0, 3] = some (144, 3) := by decide +kernel
theorem d_169_24 : decode (bc 169) 24 = .ok (.aload_n 0, 1) := by decide +kernel
theorem d_169_25 : decode (bc 169) 25 = .ok (.getfield 122, 3) := by decide +kernel
theorem q_169_122 : fq 169 122 = some (10, 7, 38, 0, false) := by decide +kernel
theorem d_169_28 : decode (bc 169) 28 = .ok (.aload_n 0, 1) := by decide +kernel
theorem d_169_29 : decode (bc 169) 29 = .ok (.getfield 17, 3) := by decide +kernel
theorem d_169_32 : decode (bc 169) 32 = .ok (.iload_n 1, 1) := by decide +kernel
theorem d_169_33 : decode (bc 169) 33 = .ok (.iaload, 1) := by decide +kernel
theorem d_169_34 : decode (bc 169) 34 = .ok (.if_icmp .ge 5, 3) := by decide +kernel
theorem d_169_37 : decode (bc 169) 37 = .ok (.iload_n 3, 1) := by decide +kernel
theorem d_169_38 : decode (bc 169) 38 = .ok (.ireturn, 1) := by decide +kernel
theorem d_169_39 : decode (bc 169) 39 = .ok (.iinc 3 1, 3) := by decide +kernel
theorem d_169_42 : decode (bc 169) 42 = .ok (.goto (-29), 3) := by decide +kernel
theorem d_169_45 : decode (bc 169) 45 = .ok (.iconst (-1), 1) := by decide +kernel
theorem d_169_46 : decode (bc 169) 46 = .ok (.ireturn, 1) := by decide +kernel
theorem rt_169 : rty 169 = some .int := by decide +kernel
theorem mx_169 : mxl 169 = 4 := by decide +kernel
theorem ow_169 : (sta 169 = false ∧ own 169 = 10 ∧ hgt 169 = 4) := by decide +kernel
-- 170: SpunModulesModel.simple(I)I
theorem d_170_0 : decode (bc 170) 0 = .ok (.iload_n 1, 1) := by decide +kernel
theorem d_170_1 : decode (bc 170) 1 = .ok (.invokestatic 178, 3) := by decide +kernel
theorem q_170_178 : cq 170 178 [1, 4] = some (138, 1) := by decide +kernel
theorem d_170_4 : decode (bc 170) 4 = .ok (.ifCond .ne 8, 3) := by decide +kernel
theorem d_170_7 : decode (bc 170) 7 = .ok (.aload_n 0, 1) := by decide +kernel
theorem d_170_8 : decode (bc 170) 8 = .ok (.invokevirtual 172, 3) := by decide +kernel
theorem q_170_172 : cq 170 172 [0, 3] = some (126, 1) := by decide +kernel
theorem d_170_11 : decode (bc 170) 11 = .ok (.ireturn, 1) := by decide +kernel
theorem d_170_12 : decode (bc 170) 12 = .ok (.aload_n 0, 1) := by decide +kernel
theorem d_170_13 : decode (bc 170) 13 = .ok (.iload_n 1, 1) := by decide +kernel
theorem d_170_14 : decode (bc 170) 14 = .ok (.invokevirtual 214, 3) := by decide +kernel
theorem q_170_214 : cq 170 214 [0, 3] = some (169, 2) := by decide +kernel
theorem d_170_17 : decode (bc 170) 17 = .ok (.iconst (-1), 1) := by decide +kernel
theorem d_170_18 : decode (bc 170) 18 = .ok (.if_icmp .ne 7, 3) := by decide +kernel
theorem d_170_21 : decode (bc 170) 21 = .ok (.iconst 1, 1) := by decide +kernel
theorem d_170_22 : decode (bc 170) 22 = .ok (.goto 4, 3) := by decide +kernel
theorem d_170_25 : decode (bc 170) 25 = .ok (.iconst 0, 1) := by decide +kernel
theorem d_170_26 : decode (bc 170) 26 = .ok (.ireturn, 1) := by decide +kernel
theorem rt_170 : rty 170 = some .int := by decide +kernel
theorem mx_170 : mxl 170 = 2 := by decide +kernel
theorem ow_170 : (sta 170 = false ∧ own 170 = 10 ∧ hgt 170 = 5) := by decide +kernel
-- 171: SpunModulesModel.least(I)I
theorem d_171_0 : decode (bc 171) 0 = .ok (.iload_n 1, 1) := by decide +kernel
theorem d_171_1 : decode (bc 171) 1 = .ok (.invokestatic 178, 3) := by decide +kernel
theorem q_171_178 : cq 171 178 [1, 4] = some (138, 1) := by decide +kernel
theorem d_171_4 : decode (bc 171) 4 = .ok (.ifCond .ne 8, 3) := by decide +kernel
theorem d_171_7 : decode (bc 171) 7 = .ok (.aload_n 0, 1) := by decide +kernel
theorem d_171_8 : decode (bc 171) 8 = .ok (.invokevirtual 172, 3) := by decide +kernel
theorem q_171_172 : cq 171 172 [0, 3] = some (126, 1) := by decide +kernel
theorem d_171_11 : decode (bc 171) 11 = .ok (.ireturn, 1) := by decide +kernel
theorem d_171_12 : decode (bc 171) 12 = .ok (.aload_n 0, 1) := by decide +kernel
theorem d_171_13 : decode (bc 171) 13 = .ok (.aload_n 0, 1) := by decide +kernel
theorem d_171_14 : decode (bc 171) 14 = .ok (.getfield 17, 3) := by decide +kernel
theorem q_171_17 : fq 171 17 = some (10, 2, 38, 2, true) := by decide +kernel
theorem d_171_17 : decode (bc 171) 17 = .ok (.iload_n 1, 1) := by decide +kernel
theorem d_171_18 : decode (bc 171) 18 = .ok (.iaload, 1) := by decide +kernel
theorem d_171_19 : decode (bc 171) 19 = .ok (.invokevirtual 110, 3) := by decide +kernel
theorem q_171_110 : cq 171 110 [0, 3] = some (131, 2) := by decide +kernel
theorem d_171_22 : decode (bc 171) 22 = .ok (.istore_n 2, 1) := by decide +kernel
theorem d_171_23 : decode (bc 171) 23 = .ok (.aload_n 0, 1) := by decide +kernel
theorem d_171_24 : decode (bc 171) 24 = .ok (.getfield 17, 3) := by decide +kernel
theorem d_171_27 : decode (bc 171) 27 = .ok (.iload_n 1, 1) := by decide +kernel
theorem d_171_28 : decode (bc 171) 28 = .ok (.iaload, 1) := by decide +kernel
theorem d_171_29 : decode (bc 171) 29 = .ok (.istore_n 3, 1) := by decide +kernel
theorem d_171_30 : decode (bc 171) 30 = .ok (.iconst 1, 1) := by decide +kernel
theorem d_171_31 : decode (bc 171) 31 = .ok (.istore 4, 2) := by decide +kernel
theorem d_171_33 : decode (bc 171) 33 = .ok (.iload 4, 2) := by decide +kernel
theorem d_171_35 : decode (bc 171) 35 = .ok (.iload_n 2, 1) := by decide +kernel
theorem d_171_36 : decode (bc 171) 36 = .ok (.if_icmp .ge 33, 3) := by decide +kernel
theorem d_171_39 : decode (bc 171) 39 = .ok (.aload_n 0, 1) := by decide +kernel
theorem d_171_40 : decode (bc 171) 40 = .ok (.iload_n 1, 1) := by decide +kernel
theorem d_171_41 : decode (bc 171) 41 = .ok (.iload 4, 2) := by decide +kernel
theorem d_171_43 : decode (bc 171) 43 = .ok (.invokevirtual 205, 3) := by decide +kernel
theorem q_171_205 : cq 171 205 [0, 3] = some (144, 3) := by decide +kernel
theorem d_171_46 : decode (bc 171) 46 = .ok (.aload_n 0, 1) := by decide +kernel
theorem d_171_47 : decode (bc 171) 47 = .ok (.getfield 122, 3) := by decide +kernel
theorem q_171_122 : fq 171 122 = some (10, 7, 38, 0, false) := by decide +kernel
theorem d_171_50 : decode (bc 171) 50 = .ok (.iload_n 3, 1) := by decide +kernel
theorem d_171_51 : decode (bc 171) 51 = .ok (.if_icmp .ge 10, 3) := by decide +kernel
theorem d_171_54 : decode (bc 171) 54 = .ok (.aload_n 0, 1) := by decide +kernel
theorem d_171_55 : decode (bc 171) 55 = .ok (.getfield 122, 3) := by decide +kernel
theorem d_171_58 : decode (bc 171) 58 = .ok (.goto 4, 3) := by decide +kernel
theorem d_171_61 : decode (bc 171) 61 = .ok (.iload_n 3, 1) := by decide +kernel
theorem d_171_62 : decode (bc 171) 62 = .ok (.istore_n 3, 1) := by decide +kernel
theorem d_171_63 : decode (bc 171) 63 = .ok (.iinc 4 1, 3) := by decide +kernel
theorem d_171_66 : decode (bc 171) 66 = .ok (.goto (-33), 3) := by decide +kernel
theorem d_171_69 : decode (bc 171) 69 = .ok (.iload_n 3, 1) := by decide +kernel
theorem d_171_70 : decode (bc 171) 70 = .ok (.ireturn, 1) := by decide +kernel
theorem rt_171 : rty 171 = some .int := by decide +kernel
theorem mx_171 : mxl 171 = 5 := by decide +kernel
theorem ow_171 : (sta 171 = false ∧ own 171 = 10 ∧ hgt 171 = 4) := by decide +kernel
-- 172: SpunModulesModel.findsCodes(I)V
theorem d_172_0 : decode (bc 172) 0 = .ok (.aload_n 0, 1) := by decide +kernel
theorem d_172_1 : decode (bc 172) 1 = .ok (.iload_n 1, 1) := by decide +kernel
theorem d_172_2 : decode (bc 172) 2 = .ok (.invokevirtual 110, 3) := by decide +kernel
theorem q_172_110 : cq 172 110 [0, 3] = some (131, 2) := by decide +kernel
theorem d_172_5 : decode (bc 172) 5 = .ok (.istore_n 2, 1) := by decide +kernel
theorem d_172_6 : decode (bc 172) 6 = .ok (.iconst 0, 1) := by decide +kernel
theorem d_172_7 : decode (bc 172) 7 = .ok (.istore_n 3, 1) := by decide +kernel
theorem d_172_8 : decode (bc 172) 8 = .ok (.iload_n 3, 1) := by decide +kernel
theorem d_172_9 : decode (bc 172) 9 = .ok (.iload_n 2, 1) := by decide +kernel
theorem d_172_10 : decode (bc 172) 10 = .ok (.if_icmp .ge 57, 3) := by decide +kernel
theorem d_172_13 : decode (bc 172) 13 = .ok (.iconst 0, 1) := by decide +kernel
theorem d_172_14 : decode (bc 172) 14 = .ok (.istore 4, 2) := by decide +kernel
theorem d_172_16 : decode (bc 172) 16 = .ok (.iconst 0, 1) := by decide +kernel
theorem d_172_17 : decode (bc 172) 17 = .ok (.istore 5, 2) := by decide +kernel
theorem d_172_19 : decode (bc 172) 19 = .ok (.iload 5, 2) := by decide +kernel
theorem d_172_21 : decode (bc 172) 21 = .ok (.iload_n 1, 1) := by decide +kernel
theorem d_172_22 : decode (bc 172) 22 = .ok (.if_icmp .ge 31, 3) := by decide +kernel
theorem d_172_25 : decode (bc 172) 25 = .ok (.aload_n 0, 1) := by decide +kernel
theorem d_172_26 : decode (bc 172) 26 = .ok (.iload 4, 2) := by decide +kernel
theorem d_172_28 : decode (bc 172) 28 = .ok (.aload_n 0, 1) := by decide +kernel
theorem d_172_29 : decode (bc 172) 29 = .ok (.getfield 32, 3) := by decide +kernel
theorem q_172_32 : fq 172 32 = some (10, 8, 38, 2, true) := by decide +kernel
theorem d_172_32 : decode (bc 172) 32 = .ok (.iload 5, 2) := by decide +kernel
theorem d_172_34 : decode (bc 172) 34 = .ok (.iaload, 1) := by decide +kernel
theorem d_172_35 : decode (bc 172) 35 = .ok (.aload_n 0, 1) := by decide +kernel
theorem d_172_36 : decode (bc 172) 36 = .ok (.iload_n 3, 1) := by decide +kernel
theorem d_172_37 : decode (bc 172) 37 = .ok (.iload 5, 2) := by decide +kernel
theorem d_172_39 : decode (bc 172) 39 = .ok (.invokevirtual 142, 3) := by decide +kernel
theorem q_172_142 : cq 172 142 [0, 3] = some (132, 3) := by decide +kernel
theorem d_172_42 : decode (bc 172) 42 = .ok (.invokevirtual 125, 3) := by decide +kernel
theorem q_172_125 : cq 172 125 [0, 3] = some (134, 4) := by decide +kernel
theorem d_172_45 : decode (bc 172) 45 = .ok (.istore 4, 2) := by decide +kernel
theorem d_172_47 : decode (bc 172) 47 = .ok (.iinc 5 1, 3) := by decide +kernel
theorem d_172_50 : decode (bc 172) 50 = .ok (.goto (-31), 3) := by decide +kernel
theorem d_172_53 : decode (bc 172) 53 = .ok (.aload_n 0, 1) := by decide +kernel
theorem d_172_54 : decode (bc 172) 54 = .ok (.getfield 62, 3) := by decide +kernel
theorem q_172_62 : fq 172 62 = some (10, 20, 38, 2, true) := by decide +kernel
theorem d_172_57 : decode (bc 172) 57 = .ok (.iload 4, 2) := by decide +kernel
theorem d_172_59 : decode (bc 172) 59 = .ok (.iload_n 3, 1) := by decide +kernel
theorem d_172_60 : decode (bc 172) 60 = .ok (.iastore, 1) := by decide +kernel
theorem d_172_61 : decode (bc 172) 61 = .ok (.iinc 3 1, 3) := by decide +kernel
theorem d_172_64 : decode (bc 172) 64 = .ok (.goto (-56), 3) := by decide +kernel
theorem d_172_67 : decode (bc 172) 67 = .ok (.return_, 1) := by decide +kernel
theorem rt_172 : rty 172 = none := by decide +kernel
theorem mx_172 : mxl 172 = 6 := by decide +kernel
theorem ow_172 : (sta 172 = false ∧ own 172 = 10 ∧ hgt 172 = 2) := by decide +kernel
-- 173: SpunModulesModel.tries(II)V
theorem d_173_0 : decode (bc 173) 0 = .ok (.aload_n 0, 1) := by decide +kernel
theorem d_173_1 : decode (bc 173) 1 = .ok (.getfield 17, 3) := by decide +kernel
theorem q_173_17 : fq 173 17 = some (10, 2, 38, 2, true) := by decide +kernel
theorem d_173_4 : decode (bc 173) 4 = .ok (.iload_n 1, 1) := by decide +kernel
theorem d_173_5 : decode (bc 173) 5 = .ok (.iaload, 1) := by decide +kernel
theorem d_173_6 : decode (bc 173) 6 = .ok (.istore_n 3, 1) := by decide +kernel
theorem d_173_7 : decode (bc 173) 7 = .ok (.aload_n 0, 1) := by decide +kernel
theorem d_173_8 : decode (bc 173) 8 = .ok (.iload_n 1, 1) := by decide +kernel
theorem d_173_9 : decode (bc 173) 9 = .ok (.iload_n 2, 1) := by decide +kernel
theorem d_173_10 : decode (bc 173) 10 = .ok (.invokevirtual 205, 3) := by decide +kernel
theorem q_173_205 : cq 173 205 [0, 3] = some (144, 3) := by decide +kernel
theorem d_173_13 : decode (bc 173) 13 = .ok (.aload_n 0, 1) := by decide +kernel
theorem d_173_14 : decode (bc 173) 14 = .ok (.iload_n 3, 1) := by decide +kernel
theorem d_173_15 : decode (bc 173) 15 = .ok (.invokevirtual 217, 3) := by decide +kernel
theorem q_173_217 : cq 173 217 [0, 3] = some (172, 2) := by decide +kernel
theorem d_173_18 : decode (bc 173) 18 = .ok (.iconst 0, 1) := by decide +kernel
theorem d_173_19 : decode (bc 173) 19 = .ok (.istore 4, 2) := by decide +kernel
theorem d_173_21 : decode (bc 173) 21 = .ok (.iload 4, 2) := by decide +kernel
theorem d_173_23 : decode (bc 173) 23 = .ok (.iconst 2, 1) := by decide +kernel
theorem d_173_24 : decode (bc 173) 24 = .ok (.iload_n 3, 1) := by decide +kernel
theorem d_173_25 : decode (bc 173) 25 = .ok (.imul, 1) := by decide +kernel
theorem d_173_26 : decode (bc 173) 26 = .ok (.iload_n 3, 1) := by decide +kernel
theorem d_173_27 : decode (bc 173) 27 = .ok (.imul, 1) := by decide +kernel
theorem d_173_28 : decode (bc 173) 28 = .ok (.if_icmp .ge 61, 3) := by decide +kernel
theorem d_173_31 : decode (bc 173) 31 = .ok (.iload 4, 2) := by decide +kernel
theorem d_173_33 : decode (bc 173) 33 = .ok (.iload_n 3, 1) := by decide +kernel
theorem d_173_34 : decode (bc 173) 34 = .ok (.iload_n 3, 1) := by decide +kernel
theorem d_173_35 : decode (bc 173) 35 = .ok (.imul, 1) := by decide +kernel
theorem d_173_36 : decode (bc 173) 36 = .ok (.irem, 1) := by decide +kernel
theorem d_173_37 : decode (bc 173) 37 = .ok (.istore 5, 2) := by decide +kernel
theorem d_173_39 : decode (bc 173) 39 = .ok (.aload_n 0, 1) := by decide +kernel
theorem d_173_40 : decode (bc 173) 40 = .ok (.iload_n 1, 1) := by decide +kernel
theorem d_173_41 : decode (bc 173) 41 = .ok (.iload 4, 2) := by decide +kernel
theorem d_173_43 : decode (bc 173) 43 = .ok (.iload_n 3, 1) := by decide +kernel
theorem d_173_44 : decode (bc 173) 44 = .ok (.iload_n 3, 1) := by decide +kernel
theorem d_173_45 : decode (bc 173) 45 = .ok (.imul, 1) := by decide +kernel
theorem d_173_46 : decode (bc 173) 46 = .ok (.idiv, 1) := by decide +kernel
theorem d_173_47 : decode (bc 173) 47 = .ok (.aload_n 0, 1) := by decide +kernel
theorem d_173_48 : decode (bc 173) 48 = .ok (.getfield 32, 3) := by decide +kernel
theorem q_173_32 : fq 173 32 = some (10, 8, 38, 2, true) := by decide +kernel
theorem d_173_51 : decode (bc 173) 51 = .ok (.iload 5, 2) := by decide +kernel
theorem d_173_53 : decode (bc 173) 53 = .ok (.iload_n 3, 1) := by decide +kernel
theorem d_173_54 : decode (bc 173) 54 = .ok (.idiv, 1) := by decide +kernel
theorem d_173_55 : decode (bc 173) 55 = .ok (.iaload, 1) := by decide +kernel
theorem d_173_56 : decode (bc 173) 56 = .ok (.invokevirtual 133, 3) := by decide +kernel
theorem q_173_133 : cq 173 133 [0, 3] = some (135, 4) := by decide +kernel
theorem d_173_59 : decode (bc 173) 59 = .ok (.istore 6, 2) := by decide +kernel
theorem d_173_61 : decode (bc 173) 61 = .ok (.aload_n 0, 1) := by decide +kernel
theorem d_173_62 : decode (bc 173) 62 = .ok (.getfield 59, 3) := by decide +kernel
theorem q_173_59 : fq 173 59 = some (10, 19, 38, 2, true) := by decide +kernel
theorem d_173_65 : decode (bc 173) 65 = .ok (.iload 4, 2) := by decide +kernel
theorem d_173_67 : decode (bc 173) 67 = .ok (.aload_n 0, 1) := by decide +kernel
theorem d_173_68 : decode (bc 173) 68 = .ok (.aload_n 0, 1) := by decide +kernel
theorem d_173_69 : decode (bc 173) 69 = .ok (.getfield 62, 3) := by decide +kernel
theorem q_173_62 : fq 173 62 = some (10, 20, 38, 2, true) := by decide +kernel
theorem d_173_72 : decode (bc 173) 72 = .ok (.iload 6, 2) := by decide +kernel
theorem d_173_74 : decode (bc 173) 74 = .ok (.iaload, 1) := by decide +kernel
theorem d_173_75 : decode (bc 173) 75 = .ok (.iload 5, 2) := by decide +kernel
theorem d_173_77 : decode (bc 173) 77 = .ok (.iload_n 3, 1) := by decide +kernel
theorem d_173_78 : decode (bc 173) 78 = .ok (.irem, 1) := by decide +kernel
theorem d_173_79 : decode (bc 173) 79 = .ok (.invokevirtual 142, 3) := by decide +kernel
theorem q_173_142 : cq 173 142 [0, 3] = some (132, 3) := by decide +kernel
theorem d_173_82 : decode (bc 173) 82 = .ok (.iastore, 1) := by decide +kernel
theorem d_173_83 : decode (bc 173) 83 = .ok (.iinc 4 1, 3) := by decide +kernel
theorem d_173_86 : decode (bc 173) 86 = .ok (.goto (-65), 3) := by decide +kernel
theorem d_173_89 : decode (bc 173) 89 = .ok (.return_, 1) := by decide +kernel
theorem rt_173 : rty 173 = none := by decide +kernel
theorem mx_173 : mxl 173 = 7 := by decide +kernel
theorem ow_173 : (sta 173 = false ∧ own 173 = 10 ∧ hgt 173 = 4) := by decide +kernel
-- 174: SpunModulesModel.isLess(II)Z
theorem d_174_0 : decode (bc 174) 0 = .ok (.iconst 0, 1) := by decide +kernel
theorem d_174_1 : decode (bc 174) 1 = .ok (.istore_n 3, 1) := by decide +kernel
theorem d_174_2 : decode (bc 174) 2 = .ok (.iload_n 3, 1) := by decide +kernel
theorem d_174_3 : decode (bc 174) 3 = .ok (.iconst 2, 1) := by decide +kernel
theorem d_174_4 : decode (bc 174) 4 = .ok (.iload_n 1, 1) := by decide +kernel
theorem d_174_5 : decode (bc 174) 5 = .ok (.imul, 1) := by decide +kernel
theorem d_174_6 : decode (bc 174) 6 = .ok (.iload_n 1, 1) := by decide +kernel
theorem d_174_7 : decode (bc 174) 7 = .ok (.imul, 1) := by decide +kernel
theorem d_174_8 : decode (bc 174) 8 = .ok (.if_icmp .ge 26, 3) := by decide +kernel
theorem d_174_11 : decode (bc 174) 11 = .ok (.aload_n 0, 1) := by decide +kernel
theorem d_174_12 : decode (bc 174) 12 = .ok (.getfield 59, 3) := by decide +kernel
theorem q_174_59 : fq 174 59 = some (10, 19, 38, 2, true) := by decide +kernel
theorem d_174_15 : decode (bc 174) 15 = .ok (.iload_n 3, 1) := by decide +kernel
theorem d_174_16 : decode (bc 174) 16 = .ok (.iaload, 1) := by decide +kernel
theorem d_174_17 : decode (bc 174) 17 = .ok (.aload_n 0, 1) := by decide +kernel
theorem d_174_18 : decode (bc 174) 18 = .ok (.getfield 53, 3) := by decide +kernel
theorem q_174_53 : fq 174 53 = some (10, 17, 38, 2, true) := by decide +kernel
theorem d_174_21 : decode (bc 174) 21 = .ok (.iload_n 2, 1) := by decide +kernel
theorem d_174_22 : decode (bc 174) 22 = .ok (.iload_n 3, 1) := by decide +kernel
theorem d_174_23 : decode (bc 174) 23 = .ok (.iadd, 1) := by decide +kernel
theorem d_174_24 : decode (bc 174) 24 = .ok (.iaload, 1) := by decide +kernel
theorem d_174_25 : decode (bc 174) 25 = .ok (.if_icmp .ne 9, 3) := by decide +kernel
theorem d_174_28 : decode (bc 174) 28 = .ok (.iinc 3 1, 3) := by decide +kernel
theorem d_174_31 : decode (bc 174) 31 = .ok (.goto (-29), 3) := by decide +kernel
theorem d_174_34 : decode (bc 174) 34 = .ok (.iload_n 3, 1) := by decide +kernel
theorem d_174_35 : decode (bc 174) 35 = .ok (.iconst 2, 1) := by decide +kernel
theorem d_174_36 : decode (bc 174) 36 = .ok (.iload_n 1, 1) := by decide +kernel
theorem d_174_37 : decode (bc 174) 37 = .ok (.imul, 1) := by decide +kernel
theorem d_174_38 : decode (bc 174) 38 = .ok (.iload_n 1, 1) := by decide +kernel
theorem d_174_39 : decode (bc 174) 39 = .ok (.imul, 1) := by decide +kernel
theorem d_174_40 : decode (bc 174) 40 = .ok (.if_icmp .ge 24, 3) := by decide +kernel
theorem d_174_43 : decode (bc 174) 43 = .ok (.aload_n 0, 1) := by decide +kernel
theorem d_174_44 : decode (bc 174) 44 = .ok (.getfield 59, 3) := by decide +kernel
theorem d_174_47 : decode (bc 174) 47 = .ok (.iload_n 3, 1) := by decide +kernel
theorem d_174_48 : decode (bc 174) 48 = .ok (.iaload, 1) := by decide +kernel
theorem d_174_49 : decode (bc 174) 49 = .ok (.aload_n 0, 1) := by decide +kernel
theorem d_174_50 : decode (bc 174) 50 = .ok (.getfield 53, 3) := by decide +kernel
theorem d_174_53 : decode (bc 174) 53 = .ok (.iload_n 2, 1) := by decide +kernel
theorem d_174_54 : decode (bc 174) 54 = .ok (.iload_n 3, 1) := by decide +kernel
theorem d_174_55 : decode (bc 174) 55 = .ok (.iadd, 1) := by decide +kernel
theorem d_174_56 : decode (bc 174) 56 = .ok (.iaload, 1) := by decide +kernel
theorem d_174_57 : decode (bc 174) 57 = .ok (.if_icmp .ge 7, 3) := by decide +kernel
theorem d_174_60 : decode (bc 174) 60 = .ok (.iconst 1, 1) := by decide +kernel
theorem d_174_61 : decode (bc 174) 61 = .ok (.goto 4, 3) := by decide +kernel
theorem d_174_64 : decode (bc 174) 64 = .ok (.iconst 0, 1) := by decide +kernel
theorem d_174_65 : decode (bc 174) 65 = .ok (.ireturn, 1) := by decide +kernel
theorem rt_174 : rty 174 = some .boolean := by decide +kernel
theorem mx_174 : mxl 174 = 4 := by decide +kernel
theorem ow_174 : (sta 174 = false ∧ own 174 = 10 ∧ hgt 174 = 0) := by decide +kernel
-- 175: SpunModulesModel.tellsPiece(I)V
theorem d_175_0 : decode (bc 175) 0 = .ok (.iconst 4, 1) := by decide +kernel
theorem d_175_1 : decode (bc 175) 1 = .ok (.iload_n 1, 1) := by decide +kernel
theorem d_175_2 : decode (bc 175) 2 = .ok (.iadd, 1) := by decide +kernel
theorem d_175_3 : decode (bc 175) 3 = .ok (.istore_n 2, 1) := by decide +kernel
theorem d_175_4 : decode (bc 175) 4 = .ok (.aload_n 0, 1) := by decide +kernel
theorem d_175_5 : decode (bc 175) 5 = .ok (.getfield 17, 3) := by decide +kernel
theorem q_175_17 : fq 175 17 = some (10, 2, 38, 2, true) := by decide +kernel
theorem d_175_8 : decode (bc 175) 8 = .ok (.iload_n 2, 1) := by decide +kernel
theorem d_175_9 : decode (bc 175) 9 = .ok (.iaload, 1) := by decide +kernel
theorem d_175_10 : decode (bc 175) 10 = .ok (.istore_n 3, 1) := by decide +kernel
theorem d_175_11 : decode (bc 175) 11 = .ok (.aload_n 0, 1) := by decide +kernel
theorem d_175_12 : decode (bc 175) 12 = .ok (.iload_n 3, 1) := by decide +kernel
theorem d_175_13 : decode (bc 175) 13 = .ok (.invokevirtual 110, 3) := by decide +kernel
theorem q_175_110 : cq 175 110 [0, 3] = some (131, 2) := by decide +kernel
theorem d_175_16 : decode (bc 175) 16 = .ok (.istore 4, 2) := by decide +kernel
theorem d_175_18 : decode (bc 175) 18 = .ok (.bipush 72, 2) := by decide +kernel
theorem d_175_20 : decode (bc 175) 20 = .ok (.iload_n 1, 1) := by decide +kernel
theorem d_175_21 : decode (bc 175) 21 = .ok (.imul, 1) := by decide +kernel
theorem d_175_22 : decode (bc 175) 22 = .ok (.istore 5, 2) := by decide +kernel
theorem d_175_24 : decode (bc 175) 24 = .ok (.iconst 1, 1) := by decide +kernel
theorem d_175_25 : decode (bc 175) 25 = .ok (.istore 6, 2) := by decide +kernel
theorem d_175_27 : decode (bc 175) 27 = .ok (.iload 6, 2) := by decide +kernel
theorem d_175_29 : decode (bc 175) 29 = .ok (.iload 4, 2) := by decide +kernel
theorem d_175_31 : decode (bc 175) 31 = .ok (.if_icmp .ge 68, 3) := by decide +kernel
theorem d_175_34 : decode (bc 175) 34 = .ok (.aload_n 0, 1) := by decide +kernel
theorem d_175_35 : decode (bc 175) 35 = .ok (.iload_n 2, 1) := by decide +kernel
theorem d_175_36 : decode (bc 175) 36 = .ok (.iload 6, 2) := by decide +kernel
theorem d_175_38 : decode (bc 175) 38 = .ok (.invokevirtual 220, 3) := by decide +kernel
theorem q_175_220 : cq 175 220 [0, 3] = some (173, 3) := by decide +kernel
theorem d_175_41 : decode (bc 175) 41 = .ok (.iload 6, 2) := by decide +kernel
theorem d_175_43 : decode (bc 175) 43 = .ok (.iconst 1, 1) := by decide +kernel
theorem d_175_44 : decode (bc 175) 44 = .ok (.if_icmp .eq 13, 3) := by decide +kernel
theorem d_175_47 : decode (bc 175) 47 = .ok (.aload_n 0, 1) := by decide +kernel
theorem d_175_48 : decode (bc 175) 48 = .ok (.iload_n 3, 1) := by decide +kernel
theorem d_175_49 : decode (bc 175) 49 = .ok (.iload 5, 2) := by decide +kernel
theorem d_175_51 : decode (bc 175) 51 = .ok (.invokevirtual 223, 3) := by decide +kernel
theorem q_175_223 : cq 175 223 [0, 3] = some (174, 3) := by decide +kernel
theorem d_175_54 : decode (bc 175) 54 = .ok (.ifCond .eq 39, 3) := by decide +kernel
theorem d_175_57 : decode (bc 175) 57 = .ok (.iconst 0, 1) := by decide +kernel
theorem d_175_58 : decode (bc 175) 58 = .ok (.istore 7, 2) := by decide +kernel
theorem d_175_60 : decode (bc 175) 60 = .ok (.iload 7, 2) := by decide +kernel
theorem d_175_62 : decode (bc 175) 62 = .ok (.iconst 2, 1) := by decide +kernel
theorem d_175_63 : decode (bc 175) 63 = .ok (.iload_n 3, 1) := by decide +kernel
theorem d_175_64 : decode (bc 175) 64 = .ok (.imul, 1) := by decide +kernel
theorem d_175_65 : decode (bc 175) 65 = .ok (.iload_n 3, 1) := by decide +kernel
theorem d_175_66 : decode (bc 175) 66 = .ok (.imul, 1) := by decide +kernel
theorem d_175_67 : decode (bc 175) 67 = .ok (.if_icmp .ge 26, 3) := by decide +kernel
theorem d_175_70 : decode (bc 175) 70 = .ok (.aload_n 0, 1) := by decide +kernel
theorem d_175_71 : decode (bc 175) 71 = .ok (.getfield 53, 3) := by decide +kernel
theorem q_175_53 : fq 175 53 = some (10, 17, 38, 2, true) := by decide +kernel
theorem d_175_74 : decode (bc 175) 74 = .ok (.iload 5, 2) := by decide +kernel
theorem d_175_76 : decode (bc 175) 76 = .ok (.iload 7, 2) := by decide +kernel
theorem d_175_78 : decode (bc 175) 78 = .ok (.iadd, 1) := by decide +kernel
theorem d_175_79 : decode (bc 175) 79 = .ok (.aload_n 0, 1) := by decide +kernel
theorem d_175_80 : decode (bc 175) 80 = .ok (.getfield 59, 3) := by decide +kernel
theorem q_175_59 : fq 175 59 = some (10, 19, 38, 2, true) := by decide +kernel
theorem d_175_83 : decode (bc 175) 83 = .ok (.iload 7, 2) := by decide +kernel
theorem d_175_85 : decode (bc 175) 85 = .ok (.iaload, 1) := by decide +kernel
theorem d_175_86 : decode (bc 175) 86 = .ok (.iastore, 1) := by decide +kernel
theorem d_175_87 : decode (bc 175) 87 = .ok (.iinc 7 1, 3) := by decide +kernel
theorem d_175_90 : decode (bc 175) 90 = .ok (.goto (-30), 3) := by decide +kernel
theorem d_175_93 : decode (bc 175) 93 = .ok (.iinc 6 1, 3) := by decide +kernel
theorem d_175_96 : decode (bc 175) 96 = .ok (.goto (-69), 3) := by decide +kernel
theorem d_175_99 : decode (bc 175) 99 = .ok (.return_, 1) := by decide +kernel
theorem rt_175 : rty 175 = none := by decide +kernel
theorem mx_175 : mxl 175 = 8 := by decide +kernel
theorem ow_175 : (sta 175 = false ∧ own 175 = 10 ∧ hgt 175 = 5) := by decide +kernel
-- 176: SpunModulesModel.compare(II)I
theorem d_176_0 : decode (bc 176) 0 = .ok (.aload_n 0, 1) := by decide +kernel
theorem d_176_1 : decode (bc 176) 1 = .ok (.getfield 17, 3) := by decide +kernel
theorem q_176_17 : fq 176 17 = some (10, 2, 38, 2, true) := by decide +kernel
theorem d_176_4 : decode (bc 176) 4 = .ok (.iconst 4, 1) := by decide +kernel
theorem d_176_5 : decode (bc 176) 5 = .ok (.iload_n 1, 1) := by decide +kernel
theorem d_176_6 : decode (bc 176) 6 = .ok (.iadd, 1) := by decide +kernel
theorem d_176_7 : decode (bc 176) 7 = .ok (.iaload, 1) := by decide +kernel
theorem d_176_8 : decode (bc 176) 8 = .ok (.istore_n 3, 1) := by decide +kernel
theorem d_176_9 : decode (bc 176) 9 = .ok (.aload_n 0, 1) := by decide +kernel
theorem d_176_10 : decode (bc 176) 10 = .ok (.getfield 17, 3) := by decide +kernel
theorem d_176_13 : decode (bc 176) 13 = .ok (.iconst 4, 1) := by decide +kernel
theorem d_176_14 : decode (bc 176) 14 = .ok (.iload_n 2, 1) := by decide +kernel
theorem d_176_15 : decode (bc 176) 15 = .ok (.iadd, 1) := by decide +kernel
theorem d_176_16 : decode (bc 176) 16 = .ok (.iaload, 1) := by decide +kernel
theorem d_176_17 : decode (bc 176) 17 = .ok (.istore 4, 2) := by decide +kernel
theorem d_176_19 : decode (bc 176) 19 = .ok (.iload_n 3, 1) := by decide +kernel
theorem d_176_20 : decode (bc 176) 20 = .ok (.iload 4, 2) := by decide +kernel
theorem d_176_22 : decode (bc 176) 22 = .ok (.if_icmp .eq 8, 3) := by decide +kernel
theorem d_176_25 : decode (bc 176) 25 = .ok (.iload_n 3, 1) := by decide +kernel
theorem d_176_26 : decode (bc 176) 26 = .ok (.iload 4, 2) := by decide +kernel
theorem d_176_28 : decode (bc 176) 28 = .ok (.isub, 1) := by decide +kernel
theorem d_176_29 : decode (bc 176) 29 = .ok (.ireturn, 1) := by decide +kernel
theorem d_176_30 : decode (bc 176) 30 = .ok (.iconst 0, 1) := by decide +kernel
theorem d_176_31 : decode (bc 176) 31 = .ok (.istore 5, 2) := by decide +kernel
theorem d_176_33 : decode (bc 176) 33 = .ok (.iload 5, 2) := by decide +kernel
theorem d_176_35 : decode (bc 176) 35 = .ok (.iconst 2, 1) := by decide +kernel
theorem d_176_36 : decode (bc 176) 36 = .ok (.iload_n 3, 1) := by decide +kernel
theorem d_176_37 : decode (bc 176) 37 = .ok (.imul, 1) := by decide +kernel
theorem d_176_38 : decode (bc 176) 38 = .ok (.iload_n 3, 1) := by decide +kernel
theorem d_176_39 : decode (bc 176) 39 = .ok (.imul, 1) := by decide +kernel
theorem d_176_40 : decode (bc 176) 40 = .ok (.if_icmp .ge 44, 3) := by decide +kernel
theorem d_176_43 : decode (bc 176) 43 = .ok (.aload_n 0, 1) := by decide +kernel
theorem d_176_44 : decode (bc 176) 44 = .ok (.getfield 53, 3) := by decide +kernel
theorem q_176_53 : fq 176 53 = some (10, 17, 38, 2, true) := by decide +kernel
theorem d_176_47 : decode (bc 176) 47 = .ok (.bipush 72, 2) := by decide +kernel
theorem d_176_49 : decode (bc 176) 49 = .ok (.iload_n 1, 1) := by decide +kernel
theorem d_176_50 : decode (bc 176) 50 = .ok (.imul, 1) := by decide +kernel
theorem d_176_51 : decode (bc 176) 51 = .ok (.iload 5, 2) := by decide +kernel
theorem d_176_53 : decode (bc 176) 53 = .ok (.iadd, 1) := by decide +kernel
theorem d_176_54 : decode (bc 176) 54 = .ok (.iaload, 1) := by decide +kernel
theorem d_176_55 : decode (bc 176) 55 = .ok (.aload_n 0, 1) := by decide +kernel
theorem d_176_56 : decode (bc 176) 56 = .ok (.getfield 53, 3) := by decide +kernel
theorem d_176_59 : decode (bc 176) 59 = .ok (.bipush 72, 2) := by decide +kernel
theorem d_176_61 : decode (bc 176) 61 = .ok (.iload_n 2, 1) := by decide +kernel
theorem d_176_62 : decode (bc 176) 62 = .ok (.imul, 1) := by decide +kernel
theorem d_176_63 : decode (bc 176) 63 = .ok (.iload 5, 2) := by decide +kernel
theorem d_176_65 : decode (bc 176) 65 = .ok (.iadd, 1) := by decide +kernel
theorem d_176_66 : decode (bc 176) 66 = .ok (.iaload, 1) := by decide +kernel
theorem d_176_67 : decode (bc 176) 67 = .ok (.isub, 1) := by decide +kernel
theorem d_176_68 : decode (bc 176) 68 = .ok (.istore 6, 2) := by decide +kernel
theorem d_176_70 : decode (bc 176) 70 = .ok (.iload 6, 2) := by decide +kernel
theorem d_176_72 : decode (bc 176) 72 = .ok (.ifCond .eq 6, 3) := by decide +kernel
theorem d_176_75 : decode (bc 176) 75 = .ok (.iload 6, 2) := by decide +kernel
theorem d_176_77 : decode (bc 176) 77 = .ok (.ireturn, 1) := by decide +kernel
theorem d_176_78 : decode (bc 176) 78 = .ok (.iinc 5 1, 3) := by decide +kernel
theorem d_176_81 : decode (bc 176) 81 = .ok (.goto (-48), 3) := by decide +kernel
theorem d_176_84 : decode (bc 176) 84 = .ok (.iconst 0, 1) := by decide +kernel
theorem d_176_85 : decode (bc 176) 85 = .ok (.ireturn, 1) := by decide +kernel
theorem rt_176 : rty 176 = some .int := by decide +kernel
theorem mx_176 : mxl 176 = 7 := by decide +kernel
theorem ow_176 : (sta 176 = false ∧ own 176 = 10 ∧ hgt 176 = 0) := by decide +kernel
-- 177: SpunModulesModel.sorts()V
theorem d_177_0 : decode (bc 177) 0 = .ok (.iconst 0, 1) := by decide +kernel
theorem d_177_1 : decode (bc 177) 1 = .ok (.istore_n 1, 1) := by decide +kernel
theorem d_177_2 : decode (bc 177) 2 = .ok (.iload_n 1, 1) := by decide +kernel
theorem d_177_3 : decode (bc 177) 3 = .ok (.aload_n 0, 1) := by decide +kernel
theorem d_177_4 : decode (bc 177) 4 = .ok (.getfield 226, 3) := by decide +kernel
theorem q_177_226 : fq 177 226 = some (10, 16, 38, 0, false) := by decide +kernel
theorem d_177_7 : decode (bc 177) 7 = .ok (.if_icmp .ge 58, 3) := by decide +kernel
theorem d_177_10 : decode (bc 177) 10 = .ok (.iload_n 1, 1) := by decide +kernel
theorem d_177_11 : decode (bc 177) 11 = .ok (.istore_n 2, 1) := by decide +kernel
theorem d_177_12 : decode (bc 177) 12 = .ok (.iload_n 2, 1) := by decide +kernel
theorem d_177_13 : decode (bc 177) 13 = .ok (.ifCond .le 39, 3) := by decide +kernel
theorem d_177_16 : decode (bc 177) 16 = .ok (.aload_n 0, 1) := by decide +kernel
theorem d_177_17 : decode (bc 177) 17 = .ok (.iload_n 1, 1) := by decide +kernel
theorem d_177_18 : decode (bc 177) 18 = .ok (.aload_n 0, 1) := by decide +kernel
theorem d_177_19 : decode (bc 177) 19 = .ok (.getfield 56, 3) := by decide +kernel
theorem q_177_56 : fq 177 56 = some (10, 18, 38, 2, true) := by decide +kernel
theorem d_177_22 : decode (bc 177) 22 = .ok (.iload_n 2, 1) := by decide +kernel
theorem d_177_23 : decode (bc 177) 23 = .ok (.iconst 1, 1) := by decide +kernel
theorem d_177_24 : decode (bc 177) 24 = .ok (.isub, 1) := by decide +kernel
theorem d_177_25 : decode (bc 177) 25 = .ok (.iaload, 1) := by decide +kernel
theorem d_177_26 : decode (bc 177) 26 = .ok (.invokevirtual 229, 3) := by decide +kernel
theorem q_177_229 : cq 177 229 [0, 3] = some (176, 3) := by decide +kernel
theorem d_177_29 : decode (bc 177) 29 = .ok (.ifCond .ge 23, 3) := by decide +kernel
theorem d_177_32 : decode (bc 177) 32 = .ok (.aload_n 0, 1) := by decide +kernel
theorem d_177_33 : decode (bc 177) 33 = .ok (.getfield 56, 3) := by decide +kernel
theorem d_177_36 : decode (bc 177) 36 = .ok (.iload_n 2, 1) := by decide +kernel
theorem d_177_37 : decode (bc 177) 37 = .ok (.aload_n 0, 1) := by decide +kernel
theorem d_177_38 : decode (bc 177) 38 = .ok (.getfield 56, 3) := by decide +kernel
theorem d_177_41 : decode (bc 177) 41 = .ok (.iload_n 2, 1) := by decide +kernel
theorem d_177_42 : decode (bc 177) 42 = .ok (.iconst 1, 1) := by decide +kernel
theorem d_177_43 : decode (bc 177) 43 = .ok (.isub, 1) := by decide +kernel
theorem d_177_44 : decode (bc 177) 44 = .ok (.iaload, 1) := by decide +kernel
theorem d_177_45 : decode (bc 177) 45 = .ok (.iastore, 1) := by decide +kernel
theorem d_177_46 : decode (bc 177) 46 = .ok (.iinc 2 (-1), 3) := by decide +kernel
theorem d_177_49 : decode (bc 177) 49 = .ok (.goto (-37), 3) := by decide +kernel
theorem d_177_52 : decode (bc 177) 52 = .ok (.aload_n 0, 1) := by decide +kernel
theorem d_177_53 : decode (bc 177) 53 = .ok (.getfield 56, 3) := by decide +kernel
theorem d_177_56 : decode (bc 177) 56 = .ok (.iload_n 2, 1) := by decide +kernel
theorem d_177_57 : decode (bc 177) 57 = .ok (.iload_n 1, 1) := by decide +kernel
theorem d_177_58 : decode (bc 177) 58 = .ok (.iastore, 1) := by decide +kernel
theorem d_177_59 : decode (bc 177) 59 = .ok (.iinc 1 1, 3) := by decide +kernel
theorem d_177_62 : decode (bc 177) 62 = .ok (.goto (-60), 3) := by decide +kernel
theorem d_177_65 : decode (bc 177) 65 = .ok (.return_, 1) := by decide +kernel
theorem rt_177 : rty 177 = none := by decide +kernel
theorem mx_177 : mxl 177 = 3 := by decide +kernel
theorem ow_177 : (sta 177 = false ∧ own 177 = 10 ∧ hgt 177 = 1) := by decide +kernel
-- 178: SpunModulesModel.cuts(I)V
theorem d_178_0 : decode (bc 178) 0 = .ok (.aload_n 0, 1) := by decide +kernel
theorem d_178_1 : decode (bc 178) 1 = .ok (.getfield 26, 3) := by decide +kernel
theorem q_178_26 : fq 178 26 = some (10, 5, 38, 0, false) := by decide +kernel
theorem d_178_4 : decode (bc 178) 4 = .ok (.iload_n 1, 1) := by decide +kernel
theorem d_178_5 : decode (bc 178) 5 = .ok (.if_icmp .ne 4, 3) := by decide +kernel
theorem d_178_8 : decode (bc 178) 8 = .ok (.return_, 1) := by decide +kernel
theorem d_178_9 : decode (bc 178) 9 = .ok (.iconst 0, 1) := by decide +kernel
theorem d_178_10 : decode (bc 178) 10 = .ok (.istore_n 2, 1) := by decide +kernel
theorem d_178_11 : decode (bc 178) 11 = .ok (.iload_n 2, 1) := by decide +kernel
theorem d_178_12 : decode (bc 178) 12 = .ok (.bipush 72, 2) := by decide +kernel
theorem d_178_14 : decode (bc 178) 14 = .ok (.if_icmp .ge 26, 3) := by decide +kernel
theorem d_178_17 : decode (bc 178) 17 = .ok (.aload_n 0, 1) := by decide +kernel
theorem d_178_18 : decode (bc 178) 18 = .ok (.getfield 23, 3) := by decide +kernel
theorem q_178_23 : fq 178 23 = some (10, 4, 38, 2, true) := by decide +kernel
theorem d_178_21 : decode (bc 178) 21 = .ok (.iload_n 2, 1) := by decide +kernel
theorem d_178_22 : decode (bc 178) 22 = .ok (.aload_n 0, 1) := by decide +kernel
theorem d_178_23 : decode (bc 178) 23 = .ok (.getfield 20, 3) := by decide +kernel
theorem q_178_20 : fq 178 20 = some (10, 3, 38, 2, true) := by decide +kernel
theorem d_178_26 : decode (bc 178) 26 = .ok (.bipush 72, 2) := by decide +kernel
theorem d_178_28 : decode (bc 178) 28 = .ok (.iload_n 1, 1) := by decide +kernel
theorem d_178_29 : decode (bc 178) 29 = .ok (.imul, 1) := by decide +kernel
theorem d_178_30 : decode (bc 178) 30 = .ok (.iload_n 2, 1) := by decide +kernel
theorem d_178_31 : decode (bc 178) 31 = .ok (.iadd, 1) := by decide +kernel
theorem d_178_32 : decode (bc 178) 32 = .ok (.iaload, 1) := by decide +kernel
theorem d_178_33 : decode (bc 178) 33 = .ok (.iastore, 1) := by decide +kernel
theorem d_178_34 : decode (bc 178) 34 = .ok (.iinc 2 1, 3) := by decide +kernel
theorem d_178_37 : decode (bc 178) 37 = .ok (.goto (-26), 3) := by decide +kernel
theorem d_178_40 : decode (bc 178) 40 = .ok (.aload_n 0, 1) := by decide +kernel
theorem d_178_41 : decode (bc 178) 41 = .ok (.iconst 4, 1) := by decide +kernel
theorem d_178_42 : decode (bc 178) 42 = .ok (.aload_n 0, 1) := by decide +kernel
theorem d_178_43 : decode (bc 178) 43 = .ok (.getfield 17, 3) := by decide +kernel
theorem q_178_17 : fq 178 17 = some (10, 2, 38, 2, true) := by decide +kernel
theorem d_178_46 : decode (bc 178) 46 = .ok (.iload_n 1, 1) := by decide +kernel
theorem d_178_47 : decode (bc 178) 47 = .ok (.iaload, 1) := by decide +kernel
theorem d_178_48 : decode (bc 178) 48 = .ok (.invokevirtual 159, 3) := by decide +kernel
theorem q_178_159 : cq 178 159 [0, 3] = some (136, 3) := by decide +kernel
theorem d_178_51 : decode (bc 178) 51 = .ok (.aload_n 0, 1) := by decide +kernel
theorem d_178_52 : decode (bc 178) 52 = .ok (.iconst 1, 1) := by decide +kernel
theorem d_178_53 : decode (bc 178) 53 = .ok (.putfield 226, 3) := by decide +kernel
theorem q_178_226 : fq 178 226 = some (10, 16, 38, 0, false) := by decide +kernel
theorem d_178_56 : decode (bc 178) 56 = .ok (.iconst 0, 1) := by decide +kernel
theorem d_178_57 : decode (bc 178) 57 = .ok (.istore_n 2, 1) := by decide +kernel
theorem d_178_58 : decode (bc 178) 58 = .ok (.iload_n 2, 1) := by decide +kernel
theorem d_178_59 : decode (bc 178) 59 = .ok (.aload_n 0, 1) := by decide +kernel
theorem d_178_60 : decode (bc 178) 60 = .ok (.getfield 226, 3) := by decide +kernel
theorem d_178_63 : decode (bc 178) 63 = .ok (.if_icmp .ge 66, 3) := by decide +kernel
theorem d_178_66 : decode (bc 178) 66 = .ok (.aload_n 0, 1) := by decide +kernel
theorem d_178_67 : decode (bc 178) 67 = .ok (.iconst 4, 1) := by decide +kernel
theorem d_178_68 : decode (bc 178) 68 = .ok (.iload_n 2, 1) := by decide +kernel
theorem d_178_69 : decode (bc 178) 69 = .ok (.iadd, 1) := by decide +kernel
theorem d_178_70 : decode (bc 178) 70 = .ok (.invokevirtual 214, 3) := by decide +kernel
theorem q_178_214 : cq 178 214 [0, 3] = some (169, 2) := by decide +kernel
theorem d_178_73 : decode (bc 178) 73 = .ok (.istore_n 3, 1) := by decide +kernel
theorem d_178_74 : decode (bc 178) 74 = .ok (.iload_n 3, 1) := by decide +kernel
theorem d_178_75 : decode (bc 178) 75 = .ok (.iconst (-1), 1) := by decide +kernel
theorem d_178_76 : decode (bc 178) 76 = .ok (.if_icmp .ne 9, 3) := by decide +kernel
theorem d_178_79 : decode (bc 178) 79 = .ok (.iinc 2 1, 3) := by decide +kernel
theorem d_178_82 : decode (bc 178) 82 = .ok (.goto 44, 3) := by decide +kernel
theorem d_178_85 : decode (bc 178) 85 = .ok (.aload_n 0, 1) := by decide +kernel
theorem d_178_86 : decode (bc 178) 86 = .ok (.iconst 4, 1) := by decide +kernel
theorem d_178_87 : decode (bc 178) 87 = .ok (.iload_n 2, 1) := by decide +kernel
theorem d_178_88 : decode (bc 178) 88 = .ok (.iadd, 1) := by decide +kernel
theorem d_178_89 : decode (bc 178) 89 = .ok (.iload_n 3, 1) := by decide +kernel
theorem d_178_90 : decode (bc 178) 90 = .ok (.invokevirtual 205, 3) := by decide +kernel
theorem q_178_205 : cq 178 205 [0, 3] = some (144, 3) := by decide +kernel
theorem d_178_93 : decode (bc 178) 93 = .ok (.aload_n 0, 1) := by decide +kernel
theorem d_178_94 : decode (bc 178) 94 = .ok (.iconst 4, 1) := by decide +kernel
theorem d_178_95 : decode (bc 178) 95 = .ok (.iload_n 2, 1) := by decide +kernel
theorem d_178_96 : decode (bc 178) 96 = .ok (.iadd, 1) := by decide +kernel
theorem d_178_97 : decode (bc 178) 97 = .ok (.iconst 4, 1) := by decide +kernel
theorem d_178_98 : decode (bc 178) 98 = .ok (.aload_n 0, 1) := by decide +kernel
theorem d_178_99 : decode (bc 178) 99 = .ok (.getfield 226, 3) := by decide +kernel
theorem d_178_102 : decode (bc 178) 102 = .ok (.iadd, 1) := by decide +kernel
theorem d_178_103 : decode (bc 178) 103 = .ok (.invokevirtual 211, 3) := by decide +kernel
theorem q_178_211 : cq 178 211 [0, 3] = some (150, 3) := by decide +kernel
theorem d_178_106 : decode (bc 178) 106 = .ok (.aload_n 0, 1) := by decide +kernel
theorem d_178_107 : decode (bc 178) 107 = .ok (.iconst 4, 1) := by decide +kernel
theorem d_178_108 : decode (bc 178) 108 = .ok (.iload_n 2, 1) := by decide +kernel
theorem d_178_109 : decode (bc 178) 109 = .ok (.iadd, 1) := by decide +kernel
theorem d_178_110 : decode (bc 178) 110 = .ok (.iconst 4, 1) := by decide +kernel
theorem d_178_111 : decode (bc 178) 111 = .ok (.iload_n 2, 1) := by decide +kernel
theorem d_178_112 : decode (bc 178) 112 = .ok (.iadd, 1) := by decide +kernel
theorem d_178_113 : decode (bc 178) 113 = .ok (.invokevirtual 208, 3) := by decide +kernel
theorem q_178_208 : cq 178 208 [0, 3] = some (148, 3) := by decide +kernel
theorem d_178_116 : decode (bc 178) 116 = .ok (.aload_n 0, 1) := by decide +kernel
theorem d_178_117 : decode (bc 178) 117 = .ok (.dup, 1) := by decide +kernel
theorem d_178_118 : decode (bc 178) 118 = .ok (.getfield 226, 3) := by decide +kernel
theorem d_178_121 : decode (bc 178) 121 = .ok (.iconst 1, 1) := by decide +kernel
theorem d_178_122 : decode (bc 178) 122 = .ok (.iadd, 1) := by decide +kernel
theorem d_178_123 : decode (bc 178) 123 = .ok (.putfield 226, 3) := by decide +kernel
theorem d_178_126 : decode (bc 178) 126 = .ok (.goto (-68), 3) := by decide +kernel
theorem d_178_129 : decode (bc 178) 129 = .ok (.iconst 0, 1) := by decide +kernel
theorem d_178_130 : decode (bc 178) 130 = .ok (.istore_n 3, 1) := by decide +kernel
theorem d_178_131 : decode (bc 178) 131 = .ok (.iload_n 3, 1) := by decide +kernel
theorem d_178_132 : decode (bc 178) 132 = .ok (.aload_n 0, 1) := by decide +kernel
theorem d_178_133 : decode (bc 178) 133 = .ok (.getfield 226, 3) := by decide +kernel
theorem d_178_136 : decode (bc 178) 136 = .ok (.if_icmp .ge 14, 3) := by decide +kernel
theorem d_178_139 : decode (bc 178) 139 = .ok (.aload_n 0, 1) := by decide +kernel
theorem d_178_140 : decode (bc 178) 140 = .ok (.iload_n 3, 1) := by decide +kernel
theorem d_178_141 : decode (bc 178) 141 = .ok (.invokevirtual 232, 3) := by decide +kernel
theorem q_178_232 : cq 178 232 [0, 3] = some (175, 2) := by decide +kernel
theorem d_178_144 : decode (bc 178) 144 = .ok (.iinc 3 1, 3) := by decide +kernel
theorem d_178_147 : decode (bc 178) 147 = .ok (.goto (-16), 3) := by decide +kernel
theorem d_178_150 : decode (bc 178) 150 = .ok (.aload_n 0, 1) := by decide +kernel
theorem d_178_151 : decode (bc 178) 151 = .ok (.invokevirtual 235, 3) := by decide +kernel
theorem q_178_235 : cq 178 235 [0, 3] = some (177, 1) := by decide +kernel
theorem d_178_154 : decode (bc 178) 154 = .ok (.aload_n 0, 1) := by decide +kernel
theorem d_178_155 : decode (bc 178) 155 = .ok (.iload_n 1, 1) := by decide +kernel
theorem d_178_156 : decode (bc 178) 156 = .ok (.putfield 26, 3) := by decide +kernel
theorem d_178_159 : decode (bc 178) 159 = .ok (.return_, 1) := by decide +kernel
theorem rt_178 : rty 178 = none := by decide +kernel
theorem mx_178 : mxl 178 = 4 := by decide +kernel
theorem ow_178 : (sta 178 = false ∧ own 178 = 10 ∧ hgt 178 = 6) := by decide +kernel
-- 179: SpunModulesModel.factors(I)I
theorem d_179_0 : decode (bc 179) 0 = .ok (.iload_n 1, 1) := by decide +kernel
theorem d_179_1 : decode (bc 179) 1 = .ok (.invokestatic 178, 3) := by decide +kernel
theorem q_179_178 : cq 179 178 [1, 4] = some (138, 1) := by decide +kernel
theorem d_179_4 : decode (bc 179) 4 = .ok (.ifCond .ne 8, 3) := by decide +kernel
theorem d_179_7 : decode (bc 179) 7 = .ok (.aload_n 0, 1) := by decide +kernel
theorem d_179_8 : decode (bc 179) 8 = .ok (.invokevirtual 172, 3) := by decide +kernel
theorem q_179_172 : cq 179 172 [0, 3] = some (126, 1) := by decide +kernel
theorem d_179_11 : decode (bc 179) 11 = .ok (.ireturn, 1) := by decide +kernel
theorem d_179_12 : decode (bc 179) 12 = .ok (.aload_n 0, 1) := by decide +kernel
theorem d_179_13 : decode (bc 179) 13 = .ok (.iload_n 1, 1) := by decide +kernel
theorem d_179_14 : decode (bc 179) 14 = .ok (.invokevirtual 238, 3) := by decide +kernel
theorem q_179_238 : cq 179 238 [0, 3] = some (178, 2) := by decide +kernel
theorem d_179_17 : decode (bc 179) 17 = .ok (.aload_n 0, 1) := by decide +kernel
theorem d_179_18 : decode (bc 179) 18 = .ok (.getfield 226, 3) := by decide +kernel
theorem q_179_226 : fq 179 226 = some (10, 16, 38, 0, false) := by decide +kernel
theorem d_179_21 : decode (bc 179) 21 = .ok (.ireturn, 1) := by decide +kernel
theorem rt_179 : rty 179 = some .int := by decide +kernel
theorem mx_179 : mxl 179 = 2 := by decide +kernel
theorem ow_179 : (sta 179 = false ∧ own 179 = 10 ∧ hgt 179 = 7) := by decide +kernel
-- 180: SpunModulesModel.alikeTo(I)I
theorem d_180_0 : decode (bc 180) 0 = .ok (.iconst 0, 1) := by decide +kernel
theorem d_180_1 : decode (bc 180) 1 = .ok (.istore_n 2, 1) := by decide +kernel
theorem d_180_2 : decode (bc 180) 2 = .ok (.iconst 0, 1) := by decide +kernel
theorem d_180_3 : decode (bc 180) 3 = .ok (.istore_n 3, 1) := by decide +kernel
theorem d_180_4 : decode (bc 180) 4 = .ok (.iload_n 3, 1) := by decide +kernel
theorem d_180_5 : decode (bc 180) 5 = .ok (.aload_n 0, 1) := by decide +kernel
theorem d_180_6 : decode (bc 180) 6 = .ok (.getfield 226, 3) := by decide +kernel
theorem q_180_226 : fq 180 226 = some (10, 16, 38, 0, false) := by decide +kernel
theorem d_180_9 : decode (bc 180) 9 = .ok (.if_icmp .ge 26, 3) := by decide +kernel
theorem d_180_12 : decode (bc 180) 12 = .ok (.iload_n 2, 1) := by decide +kernel
theorem d_180_13 : decode (bc 180) 13 = .ok (.aload_n 0, 1) := by decide +kernel
theorem d_180_14 : decode (bc 180) 14 = .ok (.iload_n 3, 1) := by decide +kernel
theorem d_180_15 : decode (bc 180) 15 = .ok (.iload_n 1, 1) := by decide +kernel
theorem d_180_16 : decode (bc 180) 16 = .ok (.invokevirtual 229, 3) := by decide +kernel
theorem q_180_229 : cq 180 229 [0, 3] = some (176, 3) := by decide +kernel
theorem d_180_19 : decode (bc 180) 19 = .ok (.ifCond .ne 7, 3) := by decide +kernel
theorem d_180_22 : decode (bc 180) 22 = .ok (.iconst 1, 1) := by decide +kernel
theorem d_180_23 : decode (bc 180) 23 = .ok (.goto 4, 3) := by decide +kernel
theorem d_180_26 : decode (bc 180) 26 = .ok (.iconst 0, 1) := by decide +kernel
theorem d_180_27 : decode (bc 180) 27 = .ok (.iadd, 1) := by decide +kernel
theorem d_180_28 : decode (bc 180) 28 = .ok (.istore_n 2, 1) := by decide +kernel
theorem d_180_29 : decode (bc 180) 29 = .ok (.iinc 3 1, 3) := by decide +kernel
theorem d_180_32 : decode (bc 180) 32 = .ok (.goto (-28), 3) := by decide +kernel
theorem d_180_35 : decode (bc 180) 35 = .ok (.iload_n 2, 1) := by decide +kernel
theorem d_180_36 : decode (bc 180) 36 = .ok (.ireturn, 1) := by decide +kernel
theorem rt_180 : rty 180 = some .int := by decide +kernel
theorem mx_180 : mxl 180 = 4 := by decide +kernel
theorem ow_180 : (sta 180 = false ∧ own 180 = 10 ∧ hgt 180 = 1) := by decide +kernel
-- 181: SpunModulesModel.factor(III)I
theorem d_181_0 : decode (bc 181) 0 = .ok (.iload_n 1, 1) := by decide +kernel
theorem d_181_1 : decode (bc 181) 1 = .ok (.invokestatic 178, 3) := by decide +kernel
theorem q_181_178 : cq 181 178 [1, 4] = some (138, 1) := by decide +kernel
theorem d_181_4 : decode (bc 181) 4 = .ok (.ifCond .eq 16, 3) := by decide +kernel
theorem d_181_7 : decode (bc 181) 7 = .ok (.iload_n 2, 1) := by decide +kernel
theorem d_181_8 : decode (bc 181) 8 = .ok (.ifCond .lt 12, 3) := by decide +kernel
theorem d_181_11 : decode (bc 181) 11 = .ok (.iload_n 3, 1) := by decide +kernel
theorem d_181_12 : decode (bc 181) 12 = .ok (.iconst 0, 1) := by decide +kernel
theorem d_181_13 : decode (bc 181) 13 = .ok (.iconst 3, 1) := by decide +kernel
theorem d_181_14 : decode (bc 181) 14 = .ok (.invokestatic 118, 3) := by decide +kernel
theorem q_181_118 : cq 181 118 [1, 4] = some (129, 3) := by decide +kernel
theorem d_181_17 : decode (bc 181) 17 = .ok (.ifCond .ne 8, 3) := by decide +kernel
theorem d_181_20 : decode (bc 181) 20 = .ok (.aload_n 0, 1) := by decide +kernel
theorem d_181_21 : decode (bc 181) 21 = .ok (.invokevirtual 172, 3) := by decide +kernel
theorem q_181_172 : cq 181 172 [0, 3] = some (126, 1) := by decide +kernel
theorem d_181_24 : decode (bc 181) 24 = .ok (.ireturn, 1) := by decide +kernel
theorem d_181_25 : decode (bc 181) 25 = .ok (.aload_n 0, 1) := by decide +kernel
theorem d_181_26 : decode (bc 181) 26 = .ok (.iload_n 1, 1) := by decide +kernel
theorem d_181_27 : decode (bc 181) 27 = .ok (.invokevirtual 238, 3) := by decide +kernel
theorem q_181_238 : cq 181 238 [0, 3] = some (178, 2) := by decide +kernel
theorem d_181_30 : decode (bc 181) 30 = .ok (.iload_n 2, 1) := by decide +kernel
theorem d_181_31 : decode (bc 181) 31 = .ok (.aload_n 0, 1) := by decide +kernel
theorem d_181_32 : decode (bc 181) 32 = .ok (.getfield 226, 3) := by decide +kernel
theorem q_181_226 : fq 181 226 = some (10, 16, 38, 0, false) := by decide +kernel
theorem d_181_35 : decode (bc 181) 35 = .ok (.if_icmp .lt 5, 3) := by decide +kernel
theorem d_181_38 : decode (bc 181) 38 = .ok (.iconst (-1), 1) := by decide +kernel
theorem d_181_39 : decode (bc 181) 39 = .ok (.ireturn, 1) := by decide +kernel
theorem d_181_40 : decode (bc 181) 40 = .ok (.iconst 4, 1) := by decide +kernel
theorem d_181_41 : decode (bc 181) 41 = .ok (.aload_n 0, 1) := by decide +kernel
theorem d_181_42 : decode (bc 181) 42 = .ok (.getfield 56, 3) := by decide +kernel
theorem q_181_56 : fq 181 56 = some (10, 18, 38, 2, true) := by decide +kernel
theorem d_181_45 : decode (bc 181) 45 = .ok (.iload_n 2, 1) := by decide +kernel
theorem d_181_46 : decode (bc 181) 46 = .ok (.iaload, 1) := by decide +kernel
theorem d_181_47 : decode (bc 181) 47 = .ok (.iadd, 1) := by decide +kernel
theorem d_181_48 : decode (bc 181) 48 = .ok (.istore 4, 2) := by decide +kernel
theorem d_181_50 : decode (bc 181) 50 = .ok (.iload_n 3, 1) := by decide +kernel
theorem d_181_51 : decode (bc 181) 51 = .ok (.tableswitch 53 0 2 #[25, 33, 44], 25) := by decide +kernel
theorem d_181_76 : decode (bc 181) 76 = .ok (.aload_n 0, 1) := by decide +kernel
theorem d_181_77 : decode (bc 181) 77 = .ok (.getfield 17, 3) := by decide +kernel
theorem q_181_17 : fq 181 17 = some (10, 2, 38, 2, true) := by decide +kernel
theorem d_181_80 : decode (bc 181) 80 = .ok (.iload 4, 2) := by decide +kernel
theorem d_181_82 : decode (bc 181) 82 = .ok (.iaload, 1) := by decide +kernel
theorem d_181_83 : decode (bc 181) 83 = .ok (.ireturn, 1) := by decide +kernel
theorem d_181_84 : decode (bc 181) 84 = .ok (.aload_n 0, 1) := by decide +kernel
theorem d_181_85 : decode (bc 181) 85 = .ok (.aload_n 0, 1) := by decide +kernel
theorem d_181_86 : decode (bc 181) 86 = .ok (.getfield 56, 3) := by decide +kernel
theorem d_181_89 : decode (bc 181) 89 = .ok (.iload_n 2, 1) := by decide +kernel
theorem d_181_90 : decode (bc 181) 90 = .ok (.iaload, 1) := by decide +kernel
theorem d_181_91 : decode (bc 181) 91 = .ok (.invokevirtual 241, 3) := by decide +kernel
theorem q_181_241 : cq 181 241 [0, 3] = some (180, 2) := by decide +kernel
theorem d_181_94 : decode (bc 181) 94 = .ok (.ireturn, 1) := by decide +kernel
theorem d_181_95 : decode (bc 181) 95 = .ok (.aload_n 0, 1) := by decide +kernel
theorem d_181_96 : decode (bc 181) 96 = .ok (.iload 4, 2) := by decide +kernel
theorem d_181_98 : decode (bc 181) 98 = .ok (.iload 4, 2) := by decide +kernel
theorem d_181_100 : decode (bc 181) 100 = .ok (.invokevirtual 244, 3) := by decide +kernel
theorem q_181_244 : cq 181 244 [0, 3] = some (187, 3) := by decide +kernel
theorem d_181_103 : decode (bc 181) 103 = .ok (.ireturn, 1) := by decide +kernel
theorem d_181_104 : decode (bc 181) 104 = .ok (.aload_n 0, 1) := by decide +kernel
theorem d_181_105 : decode (bc 181) 105 = .ok (.iload 4, 2) := by decide +kernel
theorem d_181_107 : decode (bc 181) 107 = .ok (.iload_n 1, 1) := by decide +kernel
theorem d_181_108 : decode (bc 181) 108 = .ok (.invokevirtual 244, 3) := by decide +kernel
theorem d_181_111 : decode (bc 181) 111 = .ok (.ireturn, 1) := by decide +kernel
theorem rt_181 : rty 181 = some .int := by decide +kernel
theorem mx_181 : mxl 181 = 5 := by decide +kernel
theorem ow_181 : (sta 181 = false ∧ own 181 = 10 ∧ hgt 181 = 7) := by decide +kernel
-- 182: SpunModulesModel.telling(III)I
theorem d_182_0 : decode (bc 182) 0 = .ok (.iload_n 1, 1) := by decide +kernel
theorem d_182_1 : decode (bc 182) 1 = .ok (.invokestatic 178, 3) := by decide +kernel
theorem q_182_178 : cq 182 178 [1, 4] = some (138, 1) := by decide +kernel
theorem d_182_4 : decode (bc 182) 4 = .ok (.ifCond .eq 11, 3) := by decide +kernel
theorem d_182_7 : decode (bc 182) 7 = .ok (.iload_n 2, 1) := by decide +kernel
theorem d_182_8 : decode (bc 182) 8 = .ok (.ifCond .lt 7, 3) := by decide +kernel
theorem d_182_11 : decode (bc 182) 11 = .ok (.iload_n 3, 1) := by decide +kernel
theorem d_182_12 : decode (bc 182) 12 = .ok (.ifCond .ge 8, 3) := by decide +kernel
theorem d_182_15 : decode (bc 182) 15 = .ok (.aload_n 0, 1) := by decide +kernel
theorem d_182_16 : decode (bc 182) 16 = .ok (.invokevirtual 172, 3) := by decide +kernel
theorem q_182_172 : cq 182 172 [0, 3] = some (126, 1) := by decide +kernel
theorem d_182_19 : decode (bc 182) 19 = .ok (.ireturn, 1) := by decide +kernel
theorem d_182_20 : decode (bc 182) 20 = .ok (.aload_n 0, 1) := by decide +kernel
theorem d_182_21 : decode (bc 182) 21 = .ok (.iload_n 1, 1) := by decide +kernel
theorem d_182_22 : decode (bc 182) 22 = .ok (.invokevirtual 238, 3) := by decide +kernel
theorem q_182_238 : cq 182 238 [0, 3] = some (178, 2) := by decide +kernel
theorem d_182_25 : decode (bc 182) 25 = .ok (.iload_n 2, 1) := by decide +kernel
theorem d_182_26 : decode (bc 182) 26 = .ok (.aload_n 0, 1) := by decide +kernel
theorem d_182_27 : decode (bc 182) 27 = .ok (.getfield 226, 3) := by decide +kernel
theorem q_182_226 : fq 182 226 = some (10, 16, 38, 0, false) := by decide +kernel
theorem d_182_30 : decode (bc 182) 30 = .ok (.if_icmp .lt 5, 3) := by decide +kernel
theorem d_182_33 : decode (bc 182) 33 = .ok (.iconst (-1), 1) := by decide +kernel
theorem d_182_34 : decode (bc 182) 34 = .ok (.ireturn, 1) := by decide +kernel
theorem d_182_35 : decode (bc 182) 35 = .ok (.aload_n 0, 1) := by decide +kernel
theorem d_182_36 : decode (bc 182) 36 = .ok (.getfield 17, 3) := by decide +kernel
theorem q_182_17 : fq 182 17 = some (10, 2, 38, 2, true) := by decide +kernel
theorem d_182_39 : decode (bc 182) 39 = .ok (.iconst 4, 1) := by decide +kernel
theorem d_182_40 : decode (bc 182) 40 = .ok (.aload_n 0, 1) := by decide +kernel
theorem d_182_41 : decode (bc 182) 41 = .ok (.getfield 56, 3) := by decide +kernel
theorem q_182_56 : fq 182 56 = some (10, 18, 38, 2, true) := by decide +kernel
theorem d_182_44 : decode (bc 182) 44 = .ok (.iload_n 2, 1) := by decide +kernel
theorem d_182_45 : decode (bc 182) 45 = .ok (.iaload, 1) := by decide +kernel
theorem d_182_46 : decode (bc 182) 46 = .ok (.iadd, 1) := by decide +kernel
theorem d_182_47 : decode (bc 182) 47 = .ok (.iaload, 1) := by decide +kernel
theorem d_182_48 : decode (bc 182) 48 = .ok (.istore 4, 2) := by decide +kernel
theorem d_182_50 : decode (bc 182) 50 = .ok (.iload_n 3, 1) := by decide +kernel
theorem d_182_51 : decode (bc 182) 51 = .ok (.iconst 2, 1) := by decide +kernel
theorem d_182_52 : decode (bc 182) 52 = .ok (.iload 4, 2) := by decide +kernel
theorem d_182_54 : decode (bc 182) 54 = .ok (.imul, 1) := by decide +kernel
theorem d_182_55 : decode (bc 182) 55 = .ok (.iload 4, 2) := by decide +kernel
theorem d_182_57 : decode (bc 182) 57 = .ok (.imul, 1) := by decide +kernel
theorem d_182_58 : decode (bc 182) 58 = .ok (.if_icmp .ge 22, 3) := by decide +kernel
theorem d_182_61 : decode (bc 182) 61 = .ok (.aload_n 0, 1) := by decide +kernel
theorem d_182_62 : decode (bc 182) 62 = .ok (.getfield 53, 3) := by decide +kernel
theorem q_182_53 : fq 182 53 = some (10, 17, 38, 2, true) := by decide +kernel
theorem d_182_65 : decode (bc 182) 65 = .ok (.bipush 72, 2) := by decide +kernel
theorem d_182_67 : decode (bc 182) 67 = .ok (.aload_n 0, 1) := by decide +kernel
theorem d_182_68 : decode (bc 182) 68 = .ok (.getfield 56, 3) := by decide +kernel
theorem d_182_71 : decode (bc 182) 71 = .ok (.iload_n 2, 1) := by decide +kernel
theorem d_182_72 : decode (bc 182) 72 = .ok (.iaload, 1) := by decide +kernel
theorem d_182_73 : decode (bc 182) 73 = .ok (.imul, 1) := by decide +kernel
theorem d_182_74 : decode (bc 182) 74 = .ok (.iload_n 3, 1) := by decide +kernel
theorem d_182_75 : decode (bc 182) 75 = .ok (.iadd, 1) := by decide +kernel
theorem d_182_76 : decode (bc 182) 76 = .ok (.iaload, 1) := by decide +kernel
theorem d_182_77 : decode (bc 182) 77 = .ok (.goto 4, 3) := by decide +kernel
theorem d_182_80 : decode (bc 182) 80 = .ok (.iconst (-1), 1) := by decide +kernel
theorem d_182_81 : decode (bc 182) 81 = .ok (.ireturn, 1) := by decide +kernel
theorem rt_182 : rty 182 = some .int := by decide +kernel
theorem mx_182 : mxl 182 = 5 := by decide +kernel
theorem ow_182 : (sta 182 = false ∧ own 182 = 10 ∧ hgt 182 = 7) := by decide +kernel
-- 183: SpunModulesModel.areAlike(II)Z
theorem d_183_0 : decode (bc 183) 0 = .ok (.aload_n 0, 1) := by decide +kernel
theorem d_183_1 : decode (bc 183) 1 = .ok (.getfield 65, 3) := by decide +kernel
theorem q_183_65 : fq 183 65 = some (10, 22, 38, 2, true) := by decide +kernel
theorem d_183_4 : decode (bc 183) 4 = .ok (.iload_n 1, 1) := by decide +kernel
theorem d_183_5 : decode (bc 183) 5 = .ok (.iaload, 1) := by decide +kernel
theorem d_183_6 : decode (bc 183) 6 = .ok (.istore_n 3, 1) := by decide +kernel
theorem d_183_7 : decode (bc 183) 7 = .ok (.iload_n 3, 1) := by decide +kernel
theorem d_183_8 : decode (bc 183) 8 = .ok (.aload_n 0, 1) := by decide +kernel
theorem d_183_9 : decode (bc 183) 9 = .ok (.getfield 17, 3) := by decide +kernel
theorem q_183_17 : fq 183 17 = some (10, 2, 38, 2, true) := by decide +kernel
theorem d_183_12 : decode (bc 183) 12 = .ok (.iconst 4, 1) := by decide +kernel
theorem d_183_13 : decode (bc 183) 13 = .ok (.iload_n 2, 1) := by decide +kernel
theorem d_183_14 : decode (bc 183) 14 = .ok (.iadd, 1) := by decide +kernel
theorem d_183_15 : decode (bc 183) 15 = .ok (.iaload, 1) := by decide +kernel
theorem d_183_16 : decode (bc 183) 16 = .ok (.if_icmp .ne 7, 3) := by decide +kernel
theorem d_183_19 : decode (bc 183) 19 = .ok (.iconst 1, 1) := by decide +kernel
theorem d_183_20 : decode (bc 183) 20 = .ok (.goto 4, 3) := by decide +kernel
theorem d_183_23 : decode (bc 183) 23 = .ok (.iconst 0, 1) := by decide +kernel
theorem d_183_24 : decode (bc 183) 24 = .ok (.istore 4, 2) := by decide +kernel
theorem d_183_26 : decode (bc 183) 26 = .ok (.iconst 0, 1) := by decide +kernel
theorem d_183_27 : decode (bc 183) 27 = .ok (.istore 5, 2) := by decide +kernel
theorem d_183_29 : decode (bc 183) 29 = .ok (.iload 5, 2) := by decide +kernel
theorem d_183_31 : decode (bc 183) 31 = .ok (.iconst 2, 1) := by decide +kernel
theorem d_183_32 : decode (bc 183) 32 = .ok (.iload_n 3, 1) := by decide +kernel
theorem d_183_33 : decode (bc 183) 33 = .ok (.imul, 1) := by decide +kernel
theorem d_183_34 : decode (bc 183) 34 = .ok (.iload_n 3, 1) := by decide +kernel
theorem d_183_35 : decode (bc 183) 35 = .ok (.imul, 1) := by decide +kernel
theorem d_183_36 : decode (bc 183) 36 = .ok (.if_icmp .ge 48, 3) := by decide +kernel
theorem d_183_39 : decode (bc 183) 39 = .ok (.iload 4, 2) := by decide +kernel
theorem d_183_41 : decode (bc 183) 41 = .ok (.ifCond .eq 43, 3) := by decide +kernel
theorem d_183_44 : decode (bc 183) 44 = .ok (.aload_n 0, 1) := by decide +kernel
theorem d_183_45 : decode (bc 183) 45 = .ok (.getfield 68, 3) := by decide +kernel
theorem q_183_68 : fq 183 68 = some (10, 23, 38, 2, true) := by decide +kernel
theorem d_183_48 : decode (bc 183) 48 = .ok (.bipush 72, 2) := by decide +kernel
theorem d_183_50 : decode (bc 183) 50 = .ok (.iload_n 1, 1) := by decide +kernel
theorem d_183_51 : decode (bc 183) 51 = .ok (.imul, 1) := by decide +kernel
theorem d_183_52 : decode (bc 183) 52 = .ok (.iload 5, 2) := by decide +kernel
theorem d_183_54 : decode (bc 183) 54 = .ok (.iadd, 1) := by decide +kernel
theorem d_183_55 : decode (bc 183) 55 = .ok (.iaload, 1) := by decide +kernel
theorem d_183_56 : decode (bc 183) 56 = .ok (.aload_n 0, 1) := by decide +kernel
theorem d_183_57 : decode (bc 183) 57 = .ok (.getfield 53, 3) := by decide +kernel
theorem q_183_53 : fq 183 53 = some (10, 17, 38, 2, true) := by decide +kernel
theorem d_183_60 : decode (bc 183) 60 = .ok (.bipush 72, 2) := by decide +kernel
theorem d_183_62 : decode (bc 183) 62 = .ok (.iload_n 2, 1) := by decide +kernel
theorem d_183_63 : decode (bc 183) 63 = .ok (.imul, 1) := by decide +kernel
theorem d_183_64 : decode (bc 183) 64 = .ok (.iload 5, 2) := by decide +kernel
theorem d_183_66 : decode (bc 183) 66 = .ok (.iadd, 1) := by decide +kernel
theorem d_183_67 : decode (bc 183) 67 = .ok (.iaload, 1) := by decide +kernel
theorem d_183_68 : decode (bc 183) 68 = .ok (.if_icmp .ne 7, 3) := by decide +kernel
theorem d_183_71 : decode (bc 183) 71 = .ok (.iconst 1, 1) := by decide +kernel
theorem d_183_72 : decode (bc 183) 72 = .ok (.goto 4, 3) := by decide +kernel
theorem d_183_75 : decode (bc 183) 75 = .ok (.iconst 0, 1) := by decide +kernel
theorem d_183_76 : decode (bc 183) 76 = .ok (.istore 4, 2) := by decide +kernel
theorem d_183_78 : decode (bc 183) 78 = .ok (.iinc 5 1, 3) := by decide +kernel
theorem d_183_81 : decode (bc 183) 81 = .ok (.goto (-52), 3) := by decide +kernel
theorem d_183_84 : decode (bc 183) 84 = .ok (.iload 4, 2) := by decide +kernel
theorem d_183_86 : decode (bc 183) 86 = .ok (.ireturn, 1) := by decide +kernel
theorem rt_183 : rty 183 = some .boolean := by decide +kernel
theorem mx_183 : mxl 183 = 6 := by decide +kernel
theorem ow_183 : (sta 183 = false ∧ own 183 = 10 ∧ hgt 183 = 0) := by decide +kernel
-- 184: SpunModulesModel.common(II)I
theorem d_184_0 : decode (bc 184) 0 = .ok (.iload_n 1, 1) := by decide +kernel
theorem d_184_1 : decode (bc 184) 1 = .ok (.invokestatic 178, 3) := by decide +kernel
theorem q_184_178 : cq 184 178 [1, 4] = some (138, 1) := by decide +kernel
theorem d_184_4 : decode (bc 184) 4 = .ok (.ifCond .eq 10, 3) := by decide +kernel
theorem d_184_7 : decode (bc 184) 7 = .ok (.iload_n 2, 1) := by decide +kernel
theorem d_184_8 : decode (bc 184) 8 = .ok (.invokestatic 178, 3) := by decide +kernel
theorem d_184_11 : decode (bc 184) 11 = .ok (.ifCond .ne 8, 3) := by decide +kernel
theorem d_184_14 : decode (bc 184) 14 = .ok (.aload_n 0, 1) := by decide +kernel
theorem d_184_15 : decode (bc 184) 15 = .ok (.invokevirtual 172, 3) := by decide +kernel
theorem q_184_172 : cq 184 172 [0, 3] = some (126, 1) := by decide +kernel
theorem d_184_18 : decode (bc 184) 18 = .ok (.ireturn, 1) := by decide +kernel
theorem d_184_19 : decode (bc 184) 19 = .ok (.aload_n 0, 1) := by decide +kernel
theorem d_184_20 : decode (bc 184) 20 = .ok (.iload_n 1, 1) := by decide +kernel
theorem d_184_21 : decode (bc 184) 21 = .ok (.invokevirtual 238, 3) := by decide +kernel
theorem q_184_238 : cq 184 238 [0, 3] = some (178, 2) := by decide +kernel
theorem d_184_24 : decode (bc 184) 24 = .ok (.aload_n 0, 1) := by decide +kernel
theorem d_184_25 : decode (bc 184) 25 = .ok (.aload_n 0, 1) := by decide +kernel
theorem d_184_26 : decode (bc 184) 26 = .ok (.getfield 226, 3) := by decide +kernel
theorem q_184_226 : fq 184 226 = some (10, 16, 38, 0, false) := by decide +kernel
theorem d_184_29 : decode (bc 184) 29 = .ok (.putfield 247, 3) := by decide +kernel
theorem q_184_247 : fq 184 247 = some (10, 21, 38, 0, false) := by decide +kernel
theorem d_184_32 : decode (bc 184) 32 = .ok (.iconst 0, 1) := by decide +kernel
theorem d_184_33 : decode (bc 184) 33 = .ok (.istore_n 3, 1) := by decide +kernel
theorem d_184_34 : decode (bc 184) 34 = .ok (.iload_n 3, 1) := by decide +kernel
theorem d_184_35 : decode (bc 184) 35 = .ok (.aload_n 0, 1) := by decide +kernel
theorem d_184_36 : decode (bc 184) 36 = .ok (.getfield 226, 3) := by decide +kernel
theorem d_184_39 : decode (bc 184) 39 = .ok (.if_icmp .ge 70, 3) := by decide +kernel
theorem d_184_42 : decode (bc 184) 42 = .ok (.aload_n 0, 1) := by decide +kernel
theorem d_184_43 : decode (bc 184) 43 = .ok (.getfield 65, 3) := by decide +kernel
theorem q_184_65 : fq 184 65 = some (10, 22, 38, 2, true) := by decide +kernel
theorem d_184_46 : decode (bc 184) 46 = .ok (.iload_n 3, 1) := by decide +kernel
theorem d_184_47 : decode (bc 184) 47 = .ok (.aload_n 0, 1) := by decide +kernel
theorem d_184_48 : decode (bc 184) 48 = .ok (.getfield 17, 3) := by decide +kernel
theorem q_184_17 : fq 184 17 = some (10, 2, 38, 2, true) := by decide +kernel
theorem d_184_51 : decode (bc 184) 51 = .ok (.iconst 4, 1) := by decide +kernel
theorem d_184_52 : decode (bc 184) 52 = .ok (.iload_n 3, 1) := by decide +kernel
theorem d_184_53 : decode (bc 184) 53 = .ok (.iadd, 1) := by decide +kernel
theorem d_184_54 : decode (bc 184) 54 = .ok (.iaload, 1) := by decide +kernel
theorem d_184_55 : decode (bc 184) 55 = .ok (.iastore, 1) := by decide +kernel
theorem d_184_56 : decode (bc 184) 56 = .ok (.aload_n 0, 1) := by decide +kernel
theorem d_184_57 : decode (bc 184) 57 = .ok (.getfield 71, 3) := by decide +kernel
theorem q_184_71 : fq 184 71 = some (10, 24, 38, 2, true) := by decide +kernel
theorem d_184_60 : decode (bc 184) 60 = .ok (.iload_n 3, 1) := by decide +kernel
theorem d_184_61 : decode (bc 184) 61 = .ok (.iconst 0, 1) := by decide +kernel
theorem d_184_62 : decode (bc 184) 62 = .ok (.iastore, 1) := by decide +kernel
theorem d_184_63 : decode (bc 184) 63 = .ok (.iconst 0, 1) := by decide +kernel
theorem d_184_64 : decode (bc 184) 64 = .ok (.istore 4, 2) := by decide +kernel
theorem d_184_66 : decode (bc 184) 66 = .ok (.iload 4, 2) := by decide +kernel
theorem d_184_68 : decode (bc 184) 68 = .ok (.bipush 72, 2) := by decide +kernel
theorem d_184_70 : decode (bc 184) 70 = .ok (.if_icmp .ge 33, 3) := by decide +kernel
theorem d_184_73 : decode (bc 184) 73 = .ok (.aload_n 0, 1) := by decide +kernel
theorem d_184_74 : decode (bc 184) 74 = .ok (.getfield 68, 3) := by decide +kernel
theorem q_184_68 : fq 184 68 = some (10, 23, 38, 2, true) := by decide +kernel
theorem d_184_77 : decode (bc 184) 77 = .ok (.bipush 72, 2) := by decide +kernel
theorem d_184_79 : decode (bc 184) 79 = .ok (.iload_n 3, 1) := by decide +kernel
theorem d_184_80 : decode (bc 184) 80 = .ok (.imul, 1) := by decide +kernel
theorem d_184_81 : decode (bc 184) 81 = .ok (.iload 4, 2) := by decide +kernel
theorem d_184_83 : decode (bc 184) 83 = .ok (.iadd, 1) := by decide +kernel
theorem d_184_84 : decode (bc 184) 84 = .ok (.aload_n 0, 1) := by decide +kernel
theorem d_184_85 : decode (bc 184) 85 = .ok (.getfield 53, 3) := by decide +kernel
theorem q_184_53 : fq 184 53 = some (10, 17, 38, 2, true) := by decide +kernel
theorem d_184_88 : decode (bc 184) 88 = .ok (.bipush 72, 2) := by decide +kernel
theorem d_184_90 : decode (bc 184) 90 = .ok (.iload_n 3, 1) := by decide +kernel
theorem d_184_91 : decode (bc 184) 91 = .ok (.imul, 1) := by decide +kernel
theorem d_184_92 : decode (bc 184) 92 = .ok (.iload 4, 2) := by decide +kernel
theorem d_184_94 : decode (bc 184) 94 = .ok (.iadd, 1) := by decide +kernel
theorem d_184_95 : decode (bc 184) 95 = .ok (.iaload, 1) := by decide +kernel
theorem d_184_96 : decode (bc 184) 96 = .ok (.iastore, 1) := by decide +kernel
theorem d_184_97 : decode (bc 184) 97 = .ok (.iinc 4 1, 3) := by decide +kernel
theorem d_184_100 : decode (bc 184) 100 = .ok (.goto (-34), 3) := by decide +kernel
theorem d_184_103 : decode (bc 184) 103 = .ok (.iinc 3 1, 3) := by decide +kernel
theorem d_184_106 : decode (bc 184) 106 = .ok (.goto (-72), 3) := by decide +kernel
theorem d_184_109 : decode (bc 184) 109 = .ok (.aload_n 0, 1) := by decide +kernel
theorem d_184_110 : decode (bc 184) 110 = .ok (.iload_n 2, 1) := by decide +kernel
theorem d_184_111 : decode (bc 184) 111 = .ok (.invokevirtual 238, 3) := by decide +kernel
theorem d_184_114 : decode (bc 184) 114 = .ok (.iconst 0, 1) := by decide +kernel
theorem d_184_115 : decode (bc 184) 115 = .ok (.istore_n 3, 1) := by decide +kernel
theorem d_184_116 : decode (bc 184) 116 = .ok (.iconst 0, 1) := by decide +kernel
theorem d_184_117 : decode (bc 184) 117 = .ok (.istore 4, 2) := by decide +kernel
theorem d_184_119 : decode (bc 184) 119 = .ok (.iload 4, 2) := by decide +kernel
theorem d_184_121 : decode (bc 184) 121 = .ok (.aload_n 0, 1) := by decide +kernel
theorem d_184_122 : decode (bc 184) 122 = .ok (.getfield 226, 3) := by decide +kernel
theorem d_184_125 : decode (bc 184) 125 = .ok (.if_icmp .ge 70, 3) := by decide +kernel
theorem d_184_128 : decode (bc 184) 128 = .ok (.iconst 0, 1) := by decide +kernel
theorem d_184_129 : decode (bc 184) 129 = .ok (.istore 5, 2) := by decide +kernel
theorem d_184_131 : decode (bc 184) 131 = .ok (.iconst 0, 1) := by decide +kernel
theorem d_184_132 : decode (bc 184) 132 = .ok (.istore 6, 2) := by decide +kernel
theorem d_184_134 : decode (bc 184) 134 = .ok (.iload 6, 2) := by decide +kernel
theorem d_184_136 : decode (bc 184) 136 = .ok (.aload_n 0, 1) := by decide +kernel
theorem d_184_137 : decode (bc 184) 137 = .ok (.getfield 247, 3) := by decide +kernel
theorem d_184_140 : decode (bc 184) 140 = .ok (.if_icmp .ge 49, 3) := by decide +kernel
theorem d_184_143 : decode (bc 184) 143 = .ok (.iload 5, 2) := by decide +kernel
theorem d_184_145 : decode (bc 184) 145 = .ok (.ifCond .ne 44, 3) := by decide +kernel
theorem d_184_148 : decode (bc 184) 148 = .ok (.aload_n 0, 1) := by decide +kernel
theorem d_184_149 : decode (bc 184) 149 = .ok (.getfield 71, 3) := by decide +kernel
theorem d_184_152 : decode (bc 184) 152 = .ok (.iload 6, 2) := by decide +kernel
theorem d_184_154 : decode (bc 184) 154 = .ok (.iaload, 1) := by decide +kernel
theorem d_184_155 : decode (bc 184) 155 = .ok (.ifCond .ne 28, 3) := by decide +kernel
theorem d_184_158 : decode (bc 184) 158 = .ok (.aload_n 0, 1) := by decide +kernel
theorem d_184_159 : decode (bc 184) 159 = .ok (.iload 6, 2) := by decide +kernel
theorem d_184_161 : decode (bc 184) 161 = .ok (.iload 4, 2) := by decide +kernel
theorem d_184_163 : decode (bc 184) 163 = .ok (.invokevirtual 250, 3) := by decide +kernel
theorem q_184_250 : cq 184 250 [0, 3] = some (183, 3) := by decide +kernel
theorem d_184_166 : decode (bc 184) 166 = .ok (.ifCond .eq 17, 3) := by decide +kernel
theorem d_184_169 : decode (bc 184) 169 = .ok (.aload_n 0, 1) := by decide +kernel
theorem d_184_170 : decode (bc 184) 170 = .ok (.getfield 71, 3) := by decide +kernel
theorem d_184_173 : decode (bc 184) 173 = .ok (.iload 6, 2) := by decide +kernel
theorem d_184_175 : decode (bc 184) 175 = .ok (.iconst 1, 1) := by decide +kernel
theorem d_184_176 : decode (bc 184) 176 = .ok (.iastore, 1) := by decide +kernel
theorem d_184_177 : decode (bc 184) 177 = .ok (.iconst 1, 1) := by decide +kernel
theorem d_184_178 : decode (bc 184) 178 = .ok (.istore 5, 2) := by decide +kernel
theorem d_184_180 : decode (bc 184) 180 = .ok (.iinc 3 1, 3) := by decide +kernel
theorem d_184_183 : decode (bc 184) 183 = .ok (.iinc 6 1, 3) := by decide +kernel
theorem d_184_186 : decode (bc 184) 186 = .ok (.goto (-52), 3) := by decide +kernel
theorem d_184_189 : decode (bc 184) 189 = .ok (.iinc 4 1, 3) := by decide +kernel
theorem d_184_192 : decode (bc 184) 192 = .ok (.goto (-73), 3) := by decide +kernel
theorem d_184_195 : decode (bc 184) 195 = .ok (.iload_n 3, 1) := by decide +kernel
theorem d_184_196 : decode (bc 184) 196 = .ok (.ireturn, 1) := by decide +kernel
theorem rt_184 : rty 184 = some .int := by decide +kernel
theorem mx_184 : mxl 184 = 7 := by decide +kernel
theorem ow_184 : (sta 184 = false ∧ own 184 = 10 ∧ hgt 184 = 7) := by decide +kernel
-- 185: SpunModulesModel.isNew(I)Z
theorem d_185_0 : decode (bc 185) 0 = .ok (.iconst 0, 1) := by decide +kernel
theorem d_185_1 : decode (bc 185) 1 = .ok (.istore_n 2, 1) := by decide +kernel
theorem d_185_2 : decode (bc 185) 2 = .ok (.iload_n 2, 1) := by decide +kernel
theorem d_185_3 : decode (bc 185) 3 = .ok (.iload_n 1, 1) := by decide +kernel
theorem d_185_4 : decode (bc 185) 4 = .ok (.if_icmp .ge 149, 3) := by decide +kernel
theorem d_185_7 : decode (bc 185) 7 = .ok (.aload_n 0, 1) := by decide +kernel
theorem d_185_8 : decode (bc 185) 8 = .ok (.getfield 74, 3) := by decide +kernel
theorem q_185_74 : fq 185 74 = some (10, 25, 38, 2, true) := by decide +kernel
theorem d_185_11 : decode (bc 185) 11 = .ok (.iload_n 2, 1) := by decide +kernel
theorem d_185_12 : decode (bc 185) 12 = .ok (.iaload, 1) := by decide +kernel
theorem d_185_13 : decode (bc 185) 13 = .ok (.ifCond .eq 69, 3) := by decide +kernel
theorem d_185_16 : decode (bc 185) 16 = .ok (.aload_n 0, 1) := by decide +kernel
theorem d_185_17 : decode (bc 185) 17 = .ok (.getfield 80, 3) := by decide +kernel
theorem q_185_80 : fq 185 80 = some (10, 27, 38, 2, true) := by decide +kernel
theorem d_185_20 : decode (bc 185) 20 = .ok (.iload_n 2, 1) := by decide +kernel
theorem d_185_21 : decode (bc 185) 21 = .ok (.iaload, 1) := by decide +kernel
theorem d_185_22 : decode (bc 185) 22 = .ok (.ifCond .ne 60, 3) := by decide +kernel
theorem d_185_25 : decode (bc 185) 25 = .ok (.aload_n 0, 1) := by decide +kernel
theorem d_185_26 : decode (bc 185) 26 = .ok (.getfield 74, 3) := by decide +kernel
theorem d_185_29 : decode (bc 185) 29 = .ok (.iload_n 2, 1) := by decide +kernel
theorem d_185_30 : decode (bc 185) 30 = .ok (.iaload, 1) := by decide +kernel
theorem d_185_31 : decode (bc 185) 31 = .ok (.istore_n 3, 1) := by decide +kernel
theorem d_185_32 : decode (bc 185) 32 = .ok (.iconst 0, 1) := by decide +kernel
theorem d_185_33 : decode (bc 185) 33 = .ok (.istore 4, 2) := by decide +kernel
theorem d_185_35 : decode (bc 185) 35 = .ok (.iload 4, 2) := by decide +kernel
theorem d_185_37 : decode (bc 185) 37 = .ok (.iload_n 1, 1) := by decide +kernel
theorem d_185_38 : decode (bc 185) 38 = .ok (.if_icmp .ge 35, 3) := by decide +kernel
theorem d_185_41 : decode (bc 185) 41 = .ok (.aload_n 0, 1) := by decide +kernel
theorem d_185_42 : decode (bc 185) 42 = .ok (.getfield 77, 3) := by decide +kernel
theorem q_185_77 : fq 185 77 = some (10, 26, 38, 2, true) := by decide +kernel
theorem d_185_45 : decode (bc 185) 45 = .ok (.bipush 36, 2) := by decide +kernel
theorem d_185_47 : decode (bc 185) 47 = .ok (.iload_n 2, 1) := by decide +kernel
theorem d_185_48 : decode (bc 185) 48 = .ok (.imul, 1) := by decide +kernel
theorem d_185_49 : decode (bc 185) 49 = .ok (.iload 4, 2) := by decide +kernel
theorem d_185_51 : decode (bc 185) 51 = .ok (.iadd, 1) := by decide +kernel
theorem d_185_52 : decode (bc 185) 52 = .ok (.aload_n 0, 1) := by decide +kernel
theorem d_185_53 : decode (bc 185) 53 = .ok (.getfield 74, 3) := by decide +kernel
theorem d_185_56 : decode (bc 185) 56 = .ok (.iload 4, 2) := by decide +kernel
theorem d_185_58 : decode (bc 185) 58 = .ok (.iaload, 1) := by decide +kernel
theorem d_185_59 : decode (bc 185) 59 = .ok (.iload_n 3, 1) := by decide +kernel
theorem d_185_60 : decode (bc 185) 60 = .ok (.imul, 1) := by decide +kernel
theorem d_185_61 : decode (bc 185) 61 = .ok (.aload_n 0, 1) := by decide +kernel
theorem d_185_62 : decode (bc 185) 62 = .ok (.getfield 13, 3) := by decide +kernel
theorem q_185_13 : fq 185 13 = some (10, 1, 38, 0, false) := by decide +kernel
theorem d_185_65 : decode (bc 185) 65 = .ok (.irem, 1) := by decide +kernel
theorem d_185_66 : decode (bc 185) 66 = .ok (.iastore, 1) := by decide +kernel
theorem d_185_67 : decode (bc 185) 67 = .ok (.iinc 4 1, 3) := by decide +kernel
theorem d_185_70 : decode (bc 185) 70 = .ok (.goto (-35), 3) := by decide +kernel
theorem d_185_73 : decode (bc 185) 73 = .ok (.aload_n 0, 1) := by decide +kernel
theorem d_185_74 : decode (bc 185) 74 = .ok (.getfield 80, 3) := by decide +kernel
theorem d_185_77 : decode (bc 185) 77 = .ok (.iload_n 2, 1) := by decide +kernel
theorem d_185_78 : decode (bc 185) 78 = .ok (.iconst 1, 1) := by decide +kernel
theorem d_185_79 : decode (bc 185) 79 = .ok (.iastore, 1) := by decide +kernel
theorem d_185_80 : decode (bc 185) 80 = .ok (.iconst 1, 1) := by decide +kernel
theorem d_185_81 : decode (bc 185) 81 = .ok (.ireturn, 1) := by decide +kernel
theorem d_185_82 : decode (bc 185) 82 = .ok (.aload_n 0, 1) := by decide +kernel
theorem d_185_83 : decode (bc 185) 83 = .ok (.getfield 74, 3) := by decide +kernel
theorem d_185_86 : decode (bc 185) 86 = .ok (.iload_n 2, 1) := by decide +kernel
theorem d_185_87 : decode (bc 185) 87 = .ok (.iaload, 1) := by decide +kernel
theorem d_185_88 : decode (bc 185) 88 = .ok (.istore_n 3, 1) := by decide +kernel
theorem d_185_89 : decode (bc 185) 89 = .ok (.iload_n 2, 1) := by decide +kernel
theorem d_185_90 : decode (bc 185) 90 = .ok (.istore 4, 2) := by decide +kernel
theorem d_185_92 : decode (bc 185) 92 = .ok (.iload 4, 2) := by decide +kernel
theorem d_185_94 : decode (bc 185) 94 = .ok (.iload_n 1, 1) := by decide +kernel
theorem d_185_95 : decode (bc 185) 95 = .ok (.if_icmp .ge 52, 3) := by decide +kernel
theorem d_185_98 : decode (bc 185) 98 = .ok (.iload_n 3, 1) := by decide +kernel
theorem d_185_99 : decode (bc 185) 99 = .ok (.ifCond .eq 48, 3) := by decide +kernel
theorem d_185_102 : decode (bc 185) 102 = .ok (.aload_n 0, 1) := by decide +kernel
theorem d_185_103 : decode (bc 185) 103 = .ok (.getfield 74, 3) := by decide +kernel
theorem d_185_106 : decode (bc 185) 106 = .ok (.iload 4, 2) := by decide +kernel
theorem d_185_108 : decode (bc 185) 108 = .ok (.aload_n 0, 1) := by decide +kernel
theorem d_185_109 : decode (bc 185) 109 = .ok (.getfield 74, 3) := by decide +kernel
theorem d_185_112 : decode (bc 185) 112 = .ok (.iload 4, 2) := by decide +kernel
theorem d_185_114 : decode (bc 185) 114 = .ok (.iaload, 1) := by decide +kernel
theorem d_185_115 : decode (bc 185) 115 = .ok (.aload_n 0, 1) := by decide +kernel
theorem d_185_116 : decode (bc 185) 116 = .ok (.getfield 13, 3) := by decide +kernel
theorem d_185_119 : decode (bc 185) 119 = .ok (.iload_n 3, 1) := by decide +kernel
theorem d_185_120 : decode (bc 185) 120 = .ok (.isub, 1) := by decide +kernel
theorem d_185_121 : decode (bc 185) 121 = .ok (.aload_n 0, 1) := by decide +kernel
theorem d_185_122 : decode (bc 185) 122 = .ok (.getfield 77, 3) := by decide +kernel
theorem d_185_125 : decode (bc 185) 125 = .ok (.bipush 36, 2) := by decide +kernel
theorem d_185_127 : decode (bc 185) 127 = .ok (.iload_n 2, 1) := by decide +kernel
theorem d_185_128 : decode (bc 185) 128 = .ok (.imul, 1) := by decide +kernel
theorem d_185_129 : decode (bc 185) 129 = .ok (.iload 4, 2) := by decide +kernel
theorem d_185_131 : decode (bc 185) 131 = .ok (.iadd, 1) := by decide +kernel
theorem d_185_132 : decode (bc 185) 132 = .ok (.iaload, 1) := by decide +kernel
theorem d_185_133 : decode (bc 185) 133 = .ok (.imul, 1) := by decide +kernel
theorem d_185_134 : decode (bc 185) 134 = .ok (.iadd, 1) := by decide +kernel
theorem d_185_135 : decode (bc 185) 135 = .ok (.aload_n 0, 1) := by decide +kernel
theorem d_185_136 : decode (bc 185) 136 = .ok (.getfield 13, 3) := by decide +kernel
theorem d_185_139 : decode (bc 185) 139 = .ok (.irem, 1) := by decide +kernel
theorem d_185_140 : decode (bc 185) 140 = .ok (.iastore, 1) := by decide +kernel
theorem d_185_141 : decode (bc 185) 141 = .ok (.iinc 4 1, 3) := by decide +kernel
theorem d_185_144 : decode (bc 185) 144 = .ok (.goto (-52), 3) := by decide +kernel
theorem d_185_147 : decode (bc 185) 147 = .ok (.iinc 2 1, 3) := by decide +kernel
theorem d_185_150 : decode (bc 185) 150 = .ok (.goto (-148), 3) := by decide +kernel
theorem d_185_153 : decode (bc 185) 153 = .ok (.iconst 0, 1) := by decide +kernel
theorem d_185_154 : decode (bc 185) 154 = .ok (.ireturn, 1) := by decide +kernel
theorem rt_185 : rty 185 = some .boolean := by decide +kernel
theorem mx_185 : mxl 185 = 5 := by decide +kernel
theorem ow_185 : (sta 185 = false ∧ own 185 = 10 ∧ hgt 185 = 0) := by decide +kernel
-- 186: SpunModulesModel.tellsEquation(IIIII)V
theorem d_186_0 : decode (bc 186) 0 = .ok (.aload_n 0, 1) := by decide +kernel
theorem d_186_1 : decode (bc 186) 1 = .ok (.getfield 17, 3) := by decide +kernel
theorem q_186_17 : fq 186 17 = some (10, 2, 38, 2, true) := by decide +kernel
theorem d_186_4 : decode (bc 186) 4 = .ok (.iload_n 1, 1) := by decide +kernel
theorem d_186_5 : decode (bc 186) 5 = .ok (.iaload, 1) := by decide +kernel
theorem d_186_6 : decode (bc 186) 6 = .ok (.istore 6, 2) := by decide +kernel
theorem d_186_8 : decode (bc 186) 8 = .ok (.aload_n 0, 1) := by decide +kernel
theorem d_186_9 : decode (bc 186) 9 = .ok (.getfield 17, 3) := by decide +kernel
theorem d_186_12 : decode (bc 186) 12 = .ok (.iload_n 2, 1) := by decide +kernel
theorem d_186_13 : decode (bc 186) 13 = .ok (.iaload, 1) := by decide +kernel
theorem d_186_14 : decode (bc 186) 14 = .ok (.istore 7, 2) := by decide +kernel
theorem d_186_16 : decode (bc 186) 16 = .ok (.iconst 0, 1) := by decide +kernel
theorem d_186_17 : decode (bc 186) 17 = .ok (.istore 8, 2) := by decide +kernel
theorem d_186_19 : decode (bc 186) 19 = .ok (.iload 8, 2) := by decide +kernel
theorem d_186_21 : decode (bc 186) 21 = .ok (.bipush 36, 2) := by decide +kernel
theorem d_186_23 : decode (bc 186) 23 = .ok (.if_icmp .ge 17, 3) := by decide +kernel
theorem d_186_26 : decode (bc 186) 26 = .ok (.aload_n 0, 1) := by decide +kernel
theorem d_186_27 : decode (bc 186) 27 = .ok (.getfield 74, 3) := by decide +kernel
theorem q_186_74 : fq 186 74 = some (10, 25, 38, 2, true) := by decide +kernel
theorem d_186_30 : decode (bc 186) 30 = .ok (.iload 8, 2) := by decide +kernel
theorem d_186_32 : decode (bc 186) 32 = .ok (.iconst 0, 1) := by decide +kernel
theorem d_186_33 : decode (bc 186) 33 = .ok (.iastore, 1) := by decide +kernel
theorem d_186_34 : decode (bc 186) 34 = .ok (.iinc 8 1, 3) := by decide +kernel
theorem d_186_37 : decode (bc 186) 37 = .ok (.goto (-18), 3) := by decide +kernel
theorem d_186_40 : decode (bc 186) 40 = .ok (.iconst 0, 1) := by decide +kernel
theorem d_186_41 : decode (bc 186) 41 = .ok (.istore 8, 2) := by decide +kernel
theorem d_186_43 : decode (bc 186) 43 = .ok (.iload 8, 2) := by decide +kernel
theorem d_186_45 : decode (bc 186) 45 = .ok (.iload 6, 2) := by decide +kernel
theorem d_186_47 : decode (bc 186) 47 = .ok (.if_icmp .ge 39, 3) := by decide +kernel
theorem d_186_50 : decode (bc 186) 50 = .ok (.aload_n 0, 1) := by decide +kernel
theorem d_186_51 : decode (bc 186) 51 = .ok (.getfield 74, 3) := by decide +kernel
theorem d_186_54 : decode (bc 186) 54 = .ok (.iload 7, 2) := by decide +kernel
theorem d_186_56 : decode (bc 186) 56 = .ok (.iload 8, 2) := by decide +kernel
theorem d_186_58 : decode (bc 186) 58 = .ok (.imul, 1) := by decide +kernel
theorem d_186_59 : decode (bc 186) 59 = .ok (.iload 5, 2) := by decide +kernel
theorem d_186_61 : decode (bc 186) 61 = .ok (.iadd, 1) := by decide +kernel
theorem d_186_62 : decode (bc 186) 62 = .ok (.dup2, 1) := by decide +kernel
theorem d_186_63 : decode (bc 186) 63 = .ok (.iaload, 1) := by decide +kernel
theorem d_186_64 : decode (bc 186) 64 = .ok (.aload_n 0, 1) := by decide +kernel
theorem d_186_65 : decode (bc 186) 65 = .ok (.getfield 20, 3) := by decide +kernel
theorem q_186_20 : fq 186 20 = some (10, 3, 38, 2, true) := by decide +kernel
theorem d_186_68 : decode (bc 186) 68 = .ok (.iload_n 1, 1) := by decide +kernel
theorem d_186_69 : decode (bc 186) 69 = .ok (.iload_n 3, 1) := by decide +kernel
theorem d_186_70 : decode (bc 186) 70 = .ok (.iload 4, 2) := by decide +kernel
theorem d_186_72 : decode (bc 186) 72 = .ok (.iload 8, 2) := by decide +kernel
theorem d_186_74 : decode (bc 186) 74 = .ok (.invokestatic 114, 3) := by decide +kernel
theorem q_186_114 : cq 186 114 [1, 4] = some (133, 4) := by decide +kernel
theorem d_186_77 : decode (bc 186) 77 = .ok (.iaload, 1) := by decide +kernel
theorem d_186_78 : decode (bc 186) 78 = .ok (.iadd, 1) := by decide +kernel
theorem d_186_79 : decode (bc 186) 79 = .ok (.iastore, 1) := by decide +kernel
theorem d_186_80 : decode (bc 186) 80 = .ok (.iinc 8 1, 3) := by decide +kernel
theorem d_186_83 : decode (bc 186) 83 = .ok (.goto (-40), 3) := by decide +kernel
theorem d_186_86 : decode (bc 186) 86 = .ok (.iconst 0, 1) := by decide +kernel
theorem d_186_87 : decode (bc 186) 87 = .ok (.istore 8, 2) := by decide +kernel
theorem d_186_89 : decode (bc 186) 89 = .ok (.iload 8, 2) := by decide +kernel
theorem d_186_91 : decode (bc 186) 91 = .ok (.iload 7, 2) := by decide +kernel
theorem d_186_93 : decode (bc 186) 93 = .ok (.if_icmp .ge 44, 3) := by decide +kernel
theorem d_186_96 : decode (bc 186) 96 = .ok (.aload_n 0, 1) := by decide +kernel
theorem d_186_97 : decode (bc 186) 97 = .ok (.getfield 74, 3) := by decide +kernel
theorem d_186_100 : decode (bc 186) 100 = .ok (.iload 7, 2) := by decide +kernel
theorem d_186_102 : decode (bc 186) 102 = .ok (.iload 4, 2) := by decide +kernel
theorem d_186_104 : decode (bc 186) 104 = .ok (.imul, 1) := by decide +kernel
theorem d_186_105 : decode (bc 186) 105 = .ok (.iload 8, 2) := by decide +kernel
theorem d_186_107 : decode (bc 186) 107 = .ok (.iadd, 1) := by decide +kernel
theorem d_186_108 : decode (bc 186) 108 = .ok (.dup2, 1) := by decide +kernel
theorem d_186_109 : decode (bc 186) 109 = .ok (.iaload, 1) := by decide +kernel
theorem d_186_110 : decode (bc 186) 110 = .ok (.aload_n 0, 1) := by decide +kernel
theorem d_186_111 : decode (bc 186) 111 = .ok (.getfield 13, 3) := by decide +kernel
theorem q_186_13 : fq 186 13 = some (10, 1, 38, 0, false) := by decide +kernel
theorem d_186_114 : decode (bc 186) 114 = .ok (.aload_n 0, 1) := by decide +kernel
theorem d_186_115 : decode (bc 186) 115 = .ok (.getfield 20, 3) := by decide +kernel
theorem d_186_118 : decode (bc 186) 118 = .ok (.iload_n 2, 1) := by decide +kernel
theorem d_186_119 : decode (bc 186) 119 = .ok (.iload_n 3, 1) := by decide +kernel
theorem d_186_120 : decode (bc 186) 120 = .ok (.iload 8, 2) := by decide +kernel
theorem d_186_122 : decode (bc 186) 122 = .ok (.iload 5, 2) := by decide +kernel
theorem d_186_124 : decode (bc 186) 124 = .ok (.invokestatic 114, 3) := by decide +kernel
theorem d_186_127 : decode (bc 186) 127 = .ok (.iaload, 1) := by decide +kernel
theorem d_186_128 : decode (bc 186) 128 = .ok (.isub, 1) := by decide +kernel
theorem d_186_129 : decode (bc 186) 129 = .ok (.iadd, 1) := by decide +kernel
theorem d_186_130 : decode (bc 186) 130 = .ok (.iastore, 1) := by decide +kernel
theorem d_186_131 : decode (bc 186) 131 = .ok (.iinc 8 1, 3) := by decide +kernel
theorem d_186_134 : decode (bc 186) 134 = .ok (.goto (-45), 3) := by decide +kernel
theorem d_186_137 : decode (bc 186) 137 = .ok (.iconst 0, 1) := by decide +kernel
theorem d_186_138 : decode (bc 186) 138 = .ok (.istore 8, 2) := by decide +kernel
theorem d_186_140 : decode (bc 186) 140 = .ok (.iload 8, 2) := by decide +kernel
theorem d_186_142 : decode (bc 186) 142 = .ok (.bipush 36, 2) := by decide +kernel
theorem d_186_144 : decode (bc 186) 144 = .ok (.if_icmp .ge 23, 3) := by decide +kernel
theorem d_186_147 : decode (bc 186) 147 = .ok (.aload_n 0, 1) := by decide +kernel
theorem d_186_148 : decode (bc 186) 148 = .ok (.getfield 74, 3) := by decide +kernel
theorem d_186_151 : decode (bc 186) 151 = .ok (.iload 8, 2) := by decide +kernel
theorem d_186_153 : decode (bc 186) 153 = .ok (.dup2, 1) := by decide +kernel
theorem d_186_154 : decode (bc 186) 154 = .ok (.iaload, 1) := by decide +kernel
theorem d_186_155 : decode (bc 186) 155 = .ok (.aload_n 0, 1) := by decide +kernel
theorem d_186_156 : decode (bc 186) 156 = .ok (.getfield 13, 3) := by decide +kernel
theorem d_186_159 : decode (bc 186) 159 = .ok (.irem, 1) := by decide +kernel
theorem d_186_160 : decode (bc 186) 160 = .ok (.iastore, 1) := by decide +kernel
theorem d_186_161 : decode (bc 186) 161 = .ok (.iinc 8 1, 3) := by decide +kernel
theorem d_186_164 : decode (bc 186) 164 = .ok (.goto (-24), 3) := by decide +kernel
theorem d_186_167 : decode (bc 186) 167 = .ok (.return_, 1) := by decide +kernel
theorem rt_186 : rty 186 = none := by decide +kernel
theorem mx_186 : mxl 186 = 9 := by decide +kernel
theorem ow_186 : (sta 186 = false ∧ own 186 = 10 ∧ hgt 186 = 1) := by decide +kernel
-- 187: SpunModulesModel.waysOf(II)I
theorem d_187_0 : decode (bc 187) 0 = .ok (.aload_n 0, 1) := by decide +kernel
theorem d_187_1 : decode (bc 187) 1 = .ok (.getfield 17, 3) := by decide +kernel
theorem q_187_17 : fq 187 17 = some (10, 2, 38, 2, true) := by decide +kernel
theorem d_187_4 : decode (bc 187) 4 = .ok (.iload_n 1, 1) := by decide +kernel
theorem d_187_5 : decode (bc 187) 5 = .ok (.iaload, 1) := by decide +kernel
theorem d_187_6 : decode (bc 187) 6 = .ok (.aload_n 0, 1) := by decide +kernel
theorem d_187_7 : decode (bc 187) 7 = .ok (.getfield 17, 3) := by decide +kernel
theorem d_187_10 : decode (bc 187) 10 = .ok (.iload_n 2, 1) := by decide +kernel
theorem d_187_11 : decode (bc 187) 11 = .ok (.iaload, 1) := by decide +kernel
theorem d_187_12 : decode (bc 187) 12 = .ok (.imul, 1) := by decide +kernel
theorem d_187_13 : decode (bc 187) 13 = .ok (.istore_n 3, 1) := by decide +kernel
theorem d_187_14 : decode (bc 187) 14 = .ok (.iconst 0, 1) := by decide +kernel
theorem d_187_15 : decode (bc 187) 15 = .ok (.istore 4, 2) := by decide +kernel
theorem d_187_17 : decode (bc 187) 17 = .ok (.iconst 0, 1) := by decide +kernel
theorem d_187_18 : decode (bc 187) 18 = .ok (.istore 5, 2) := by decide +kernel
theorem d_187_20 : decode (bc 187) 20 = .ok (.iload 5, 2) := by decide +kernel
theorem d_187_22 : decode (bc 187) 22 = .ok (.bipush 36, 2) := by decide +kernel
theorem d_187_24 : decode (bc 187) 24 = .ok (.if_icmp .ge 17, 3) := by decide +kernel
theorem d_187_27 : decode (bc 187) 27 = .ok (.aload_n 0, 1) := by decide +kernel
theorem d_187_28 : decode (bc 187) 28 = .ok (.getfield 80, 3) := by decide +kernel
theorem q_187_80 : fq 187 80 = some (10, 27, 38, 2, true) := by decide +kernel
theorem d_187_31 : decode (bc 187) 31 = .ok (.iload 5, 2) := by decide +kernel
theorem d_187_33 : decode (bc 187) 33 = .ok (.iconst 0, 1) := by decide +kernel
theorem d_187_34 : decode (bc 187) 34 = .ok (.iastore, 1) := by decide +kernel
theorem d_187_35 : decode (bc 187) 35 = .ok (.iinc 5 1, 3) := by decide +kernel
theorem d_187_38 : decode (bc 187) 38 = .ok (.goto (-18), 3) := by decide +kernel
theorem d_187_41 : decode (bc 187) 41 = .ok (.iconst 0, 1) := by decide +kernel
theorem d_187_42 : decode (bc 187) 42 = .ok (.istore 5, 2) := by decide +kernel
theorem d_187_44 : decode (bc 187) 44 = .ok (.iload 5, 2) := by decide +kernel
theorem d_187_46 : decode (bc 187) 46 = .ok (.iconst 2, 1) := by decide +kernel
theorem d_187_47 : decode (bc 187) 47 = .ok (.if_icmp .ge 68, 3) := by decide +kernel
theorem d_187_50 : decode (bc 187) 50 = .ok (.iconst 0, 1) := by decide +kernel
theorem d_187_51 : decode (bc 187) 51 = .ok (.istore 6, 2) := by decide +kernel
theorem d_187_53 : decode (bc 187) 53 = .ok (.iload 6, 2) := by decide +kernel
theorem d_187_55 : decode (bc 187) 55 = .ok (.iload_n 3, 1) := by decide +kernel
theorem d_187_56 : decode (bc 187) 56 = .ok (.if_icmp .ge 53, 3) := by decide +kernel
theorem d_187_59 : decode (bc 187) 59 = .ok (.aload_n 0, 1) := by decide +kernel
theorem d_187_60 : decode (bc 187) 60 = .ok (.iload_n 1, 1) := by decide +kernel
theorem d_187_61 : decode (bc 187) 61 = .ok (.iload_n 2, 1) := by decide +kernel
theorem d_187_62 : decode (bc 187) 62 = .ok (.iload 5, 2) := by decide +kernel
theorem d_187_64 : decode (bc 187) 64 = .ok (.iload 6, 2) := by decide +kernel
theorem d_187_66 : decode (bc 187) 66 = .ok (.aload_n 0, 1) := by decide +kernel
theorem d_187_67 : decode (bc 187) 67 = .ok (.getfield 17, 3) := by decide +kernel
theorem d_187_70 : decode (bc 187) 70 = .ok (.iload_n 2, 1) := by decide +kernel
theorem d_187_71 : decode (bc 187) 71 = .ok (.iaload, 1) := by decide +kernel
theorem d_187_72 : decode (bc 187) 72 = .ok (.idiv, 1) := by decide +kernel
theorem d_187_73 : decode (bc 187) 73 = .ok (.iload 6, 2) := by decide +kernel
theorem d_187_75 : decode (bc 187) 75 = .ok (.aload_n 0, 1) := by decide +kernel
theorem d_187_76 : decode (bc 187) 76 = .ok (.getfield 17, 3) := by decide +kernel
theorem d_187_79 : decode (bc 187) 79 = .ok (.iload_n 2, 1) := by decide +kernel
theorem d_187_80 : decode (bc 187) 80 = .ok (.iaload, 1) := by decide +kernel
theorem d_187_81 : decode (bc 187) 81 = .ok (.irem, 1) := by decide +kernel
theorem d_187_82 : decode (bc 187) 82 = .ok (.invokevirtual 253, 3) := by decide +kernel
theorem q_187_253 : cq 187 253 [0, 3] = some (186, 6) := by decide +kernel
theorem d_187_85 : decode (bc 187) 85 = .ok (.iload 4, 2) := by decide +kernel
theorem d_187_87 : decode (bc 187) 87 = .ok (.aload_n 0, 1) := by decide +kernel
theorem d_187_88 : decode (bc 187) 88 = .ok (.iload_n 3, 1) := by decide +kernel
theorem d_187_89 : decode (bc 187) 89 = .ok (.invokevirtual 257, 3) := by decide +kernel
theorem q_187_257 : cq 187 257 [0, 3] = some (185, 2) := by decide +kernel
theorem d_187_92 : decode (bc 187) 92 = .ok (.ifCond .eq 7, 3) := by decide +kernel
theorem d_187_95 : decode (bc 187) 95 = .ok (.iconst 1, 1) := by decide +kernel
theorem d_187_96 : decode (bc 187) 96 = .ok (.goto 4, 3) := by decide +kernel
theorem d_187_99 : decode (bc 187) 99 = .ok (.iconst 0, 1) := by decide +kernel
theorem d_187_100 : decode (bc 187) 100 = .ok (.iadd, 1) := by decide +kernel
theorem d_187_101 : decode (bc 187) 101 = .ok (.istore 4, 2) := by decide +kernel
theorem d_187_103 : decode (bc 187) 103 = .ok (.iinc 6 1, 3) := by decide +kernel
theorem d_187_106 : decode (bc 187) 106 = .ok (.goto (-53), 3) := by decide +kernel
theorem d_187_109 : decode (bc 187) 109 = .ok (.iinc 5 1, 3) := by decide +kernel
theorem d_187_112 : decode (bc 187) 112 = .ok (.goto (-68), 3) := by decide +kernel
theorem d_187_115 : decode (bc 187) 115 = .ok (.iload_n 3, 1) := by decide +kernel
theorem d_187_116 : decode (bc 187) 116 = .ok (.iload 4, 2) := by decide +kernel
theorem d_187_118 : decode (bc 187) 118 = .ok (.isub, 1) := by decide +kernel
theorem d_187_119 : decode (bc 187) 119 = .ok (.ireturn, 1) := by decide +kernel
theorem rt_187 : rty 187 = some .int := by decide +kernel
theorem mx_187 : mxl 187 = 7 := by decide +kernel
theorem ow_187 : (sta 187 = false ∧ own 187 = 10 ∧ hgt 187 = 2) := by decide +kernel
-- 188: SpunModulesModel.ways(II)I
theorem d_188_0 : decode (bc 188) 0 = .ok (.iload_n 1, 1) := by decide +kernel
theorem d_188_1 : decode (bc 188) 1 = .ok (.invokestatic 178, 3) := by decide +kernel
theorem q_188_178 : cq 188 178 [1, 4] = some (138, 1) := by decide +kernel
theorem d_188_4 : decode (bc 188) 4 = .ok (.ifCond .eq 10, 3) := by decide +kernel
theorem d_188_7 : decode (bc 188) 7 = .ok (.iload_n 2, 1) := by decide +kernel
theorem d_188_8 : decode (bc 188) 8 = .ok (.invokestatic 178, 3) := by decide +kernel
theorem d_188_11 : decode (bc 188) 11 = .ok (.ifCond .ne 8, 3) := by decide +kernel
theorem d_188_14 : decode (bc 188) 14 = .ok (.aload_n 0, 1) := by decide +kernel
theorem d_188_15 : decode (bc 188) 15 = .ok (.invokevirtual 172, 3) := by decide +kernel
theorem q_188_172 : cq 188 172 [0, 3] = some (126, 1) := by decide +kernel
theorem d_188_18 : decode (bc 188) 18 = .ok (.ireturn, 1) := by decide +kernel
theorem d_188_19 : decode (bc 188) 19 = .ok (.aload_n 0, 1) := by decide +kernel
theorem d_188_20 : decode (bc 188) 20 = .ok (.iload_n 1, 1) := by decide +kernel
theorem d_188_21 : decode (bc 188) 21 = .ok (.iload_n 2, 1) := by decide +kernel
theorem d_188_22 : decode (bc 188) 22 = .ok (.invokevirtual 244, 3) := by decide +kernel
theorem q_188_244 : cq 188 244 [0, 3] = some (187, 3) := by decide +kernel
theorem d_188_25 : decode (bc 188) 25 = .ok (.ireturn, 1) := by decide +kernel
theorem rt_188 : rty 188 = some .int := by decide +kernel
theorem mx_188 : mxl 188 = 3 := by decide +kernel
theorem ow_188 : (sta 188 = false ∧ own 188 = 10 ∧ hgt 188 = 3) := by decide +kernel
-- 189: SpunModulesModel.isByEach(I)Z
theorem d_189_0 : decode (bc 189) 0 = .ok (.iconst 1, 1) := by decide +kernel
theorem d_189_1 : decode (bc 189) 1 = .ok (.istore_n 2, 1) := by decide +kernel
theorem d_189_2 : decode (bc 189) 2 = .ok (.iconst 1, 1) := by decide +kernel
theorem d_189_3 : decode (bc 189) 3 = .ok (.istore_n 3, 1) := by decide +kernel
theorem d_189_4 : decode (bc 189) 4 = .ok (.iload_n 3, 1) := by decide +kernel
theorem d_189_5 : decode (bc 189) 5 = .ok (.iload_n 1, 1) := by decide +kernel
theorem d_189_6 : decode (bc 189) 6 = .ok (.if_icmp .ge 41, 3) := by decide +kernel
theorem d_189_9 : decode (bc 189) 9 = .ok (.iload_n 2, 1) := by decide +kernel
theorem d_189_10 : decode (bc 189) 10 = .ok (.ifCond .eq 29, 3) := by decide +kernel
theorem d_189_13 : decode (bc 189) 13 = .ok (.aload_n 0, 1) := by decide +kernel
theorem d_189_14 : decode (bc 189) 14 = .ok (.getfield 29, 3) := by decide +kernel
theorem q_189_29 : fq 189 29 = some (10, 6, 38, 2, true) := by decide +kernel
theorem d_189_17 : decode (bc 189) 17 = .ok (.iload_n 3, 1) := by decide +kernel
theorem d_189_18 : decode (bc 189) 18 = .ok (.iaload, 1) := by decide +kernel
theorem d_189_19 : decode (bc 189) 19 = .ok (.ifCond .eq 16, 3) := by decide +kernel
theorem d_189_22 : decode (bc 189) 22 = .ok (.aload_n 0, 1) := by decide +kernel
theorem d_189_23 : decode (bc 189) 23 = .ok (.getfield 83, 3) := by decide +kernel
theorem q_189_83 : fq 189 83 = some (10, 28, 38, 2, true) := by decide +kernel
theorem d_189_26 : decode (bc 189) 26 = .ok (.iload_n 3, 1) := by decide +kernel
theorem d_189_27 : decode (bc 189) 27 = .ok (.iaload, 1) := by decide +kernel
theorem d_189_28 : decode (bc 189) 28 = .ok (.aload_n 0, 1) := by decide +kernel
theorem d_189_29 : decode (bc 189) 29 = .ok (.getfield 122, 3) := by decide +kernel
theorem q_189_122 : fq 189 122 = some (10, 7, 38, 0, false) := by decide +kernel
theorem d_189_32 : decode (bc 189) 32 = .ok (.if_icmp .ne 7, 3) := by decide +kernel
theorem d_189_35 : decode (bc 189) 35 = .ok (.iconst 1, 1) := by decide +kernel
theorem d_189_36 : decode (bc 189) 36 = .ok (.goto 4, 3) := by decide +kernel
theorem d_189_39 : decode (bc 189) 39 = .ok (.iconst 0, 1) := by decide +kernel
theorem d_189_40 : decode (bc 189) 40 = .ok (.istore_n 2, 1) := by decide +kernel
theorem d_189_41 : decode (bc 189) 41 = .ok (.iinc 3 1, 3) := by decide +kernel
theorem d_189_44 : decode (bc 189) 44 = .ok (.goto (-40), 3) := by decide +kernel
theorem d_189_47 : decode (bc 189) 47 = .ok (.iload_n 2, 1) := by decide +kernel
theorem d_189_48 : decode (bc 189) 48 = .ok (.ireturn, 1) := by decide +kernel
theorem rt_189 : rty 189 = some .boolean := by decide +kernel
theorem mx_189 : mxl 189 = 4 := by decide +kernel
theorem ow_189 : (sta 189 = false ∧ own 189 = 10 ∧ hgt 189 = 0) := by decide +kernel
-- 190: SpunModulesModel.findsSocle()V
theorem d_190_0 : decode (bc 190) 0 = .ok (.aload_n 0, 1) := by decide +kernel
theorem d_190_1 : decode (bc 190) 1 = .ok (.getfield 17, 3) := by decide +kernel
theorem q_190_17 : fq 190 17 = some (10, 2, 38, 2, true) := by decide +kernel
theorem d_190_4 : decode (bc 190) 4 = .ok (.bipush 10, 2) := by decide +kernel
theorem d_190_6 : decode (bc 190) 6 = .ok (.iaload, 1) := by decide +kernel
theorem d_190_7 : decode (bc 190) 7 = .ok (.istore_n 1, 1) := by decide +kernel
theorem d_190_8 : decode (bc 190) 8 = .ok (.aload_n 0, 1) := by decide +kernel
theorem d_190_9 : decode (bc 190) 9 = .ok (.iload_n 1, 1) := by decide +kernel
theorem d_190_10 : decode (bc 190) 10 = .ok (.invokevirtual 110, 3) := by decide +kernel
theorem q_190_110 : cq 190 110 [0, 3] = some (131, 2) := by decide +kernel
theorem d_190_13 : decode (bc 190) 13 = .ok (.istore_n 2, 1) := by decide +kernel
theorem d_190_14 : decode (bc 190) 14 = .ok (.iconst 1, 1) := by decide +kernel
theorem d_190_15 : decode (bc 190) 15 = .ok (.istore_n 3, 1) := by decide +kernel
theorem d_190_16 : decode (bc 190) 16 = .ok (.iload_n 3, 1) := by decide +kernel
theorem d_190_17 : decode (bc 190) 17 = .ok (.iload_n 2, 1) := by decide +kernel
theorem d_190_18 : decode (bc 190) 18 = .ok (.if_icmp .ge 26, 3) := by decide +kernel
theorem d_190_21 : decode (bc 190) 21 = .ok (.aload_n 0, 1) := by decide +kernel
theorem d_190_22 : decode (bc 190) 22 = .ok (.bipush 10, 2) := by decide +kernel
theorem d_190_24 : decode (bc 190) 24 = .ok (.iload_n 3, 1) := by decide +kernel
theorem d_190_25 : decode (bc 190) 25 = .ok (.invokevirtual 205, 3) := by decide +kernel
theorem q_190_205 : cq 190 205 [0, 3] = some (144, 3) := by decide +kernel
theorem d_190_28 : decode (bc 190) 28 = .ok (.aload_n 0, 1) := by decide +kernel
theorem d_190_29 : decode (bc 190) 29 = .ok (.getfield 83, 3) := by decide +kernel
theorem q_190_83 : fq 190 83 = some (10, 28, 38, 2, true) := by decide +kernel
theorem d_190_32 : decode (bc 190) 32 = .ok (.iload_n 3, 1) := by decide +kernel
theorem d_190_33 : decode (bc 190) 33 = .ok (.aload_n 0, 1) := by decide +kernel
theorem d_190_34 : decode (bc 190) 34 = .ok (.getfield 122, 3) := by decide +kernel
theorem q_190_122 : fq 190 122 = some (10, 7, 38, 0, false) := by decide +kernel
theorem d_190_37 : decode (bc 190) 37 = .ok (.iastore, 1) := by decide +kernel
theorem d_190_38 : decode (bc 190) 38 = .ok (.iinc 3 1, 3) := by decide +kernel
theorem d_190_41 : decode (bc 190) 41 = .ok (.goto (-25), 3) := by decide +kernel
theorem d_190_44 : decode (bc 190) 44 = .ok (.iconst 1, 1) := by decide +kernel
theorem d_190_45 : decode (bc 190) 45 = .ok (.istore_n 3, 1) := by decide +kernel
theorem d_190_46 : decode (bc 190) 46 = .ok (.iload_n 3, 1) := by decide +kernel
theorem d_190_47 : decode (bc 190) 47 = .ok (.iload_n 2, 1) := by decide +kernel
theorem d_190_48 : decode (bc 190) 48 = .ok (.if_icmp .ge 35, 3) := by decide +kernel
theorem d_190_51 : decode (bc 190) 51 = .ok (.aload_n 0, 1) := by decide +kernel
theorem d_190_52 : decode (bc 190) 52 = .ok (.bipush 10, 2) := by decide +kernel
theorem d_190_54 : decode (bc 190) 54 = .ok (.iload_n 3, 1) := by decide +kernel
theorem d_190_55 : decode (bc 190) 55 = .ok (.invokevirtual 205, 3) := by decide +kernel
theorem d_190_58 : decode (bc 190) 58 = .ok (.aload_n 0, 1) := by decide +kernel
theorem d_190_59 : decode (bc 190) 59 = .ok (.getfield 86, 3) := by decide +kernel
theorem q_190_86 : fq 190 86 = some (10, 29, 38, 2, true) := by decide +kernel
theorem d_190_62 : decode (bc 190) 62 = .ok (.iload_n 3, 1) := by decide +kernel
theorem d_190_63 : decode (bc 190) 63 = .ok (.aload_n 0, 1) := by decide +kernel
theorem d_190_64 : decode (bc 190) 64 = .ok (.iload_n 2, 1) := by decide +kernel
theorem d_190_65 : decode (bc 190) 65 = .ok (.invokevirtual 260, 3) := by decide +kernel
theorem q_190_260 : cq 190 260 [0, 3] = some (189, 2) := by decide +kernel
theorem d_190_68 : decode (bc 190) 68 = .ok (.ifCond .eq 7, 3) := by decide +kernel
theorem d_190_71 : decode (bc 190) 71 = .ok (.iconst 1, 1) := by decide +kernel
theorem d_190_72 : decode (bc 190) 72 = .ok (.goto 4, 3) := by decide +kernel
theorem d_190_75 : decode (bc 190) 75 = .ok (.iconst 0, 1) := by decide +kernel
theorem d_190_76 : decode (bc 190) 76 = .ok (.iastore, 1) := by decide +kernel
theorem d_190_77 : decode (bc 190) 77 = .ok (.iinc 3 1, 3) := by decide +kernel
theorem d_190_80 : decode (bc 190) 80 = .ok (.goto (-34), 3) := by decide +kernel
theorem d_190_83 : decode (bc 190) 83 = .ok (.aload_n 0, 1) := by decide +kernel
theorem d_190_84 : decode (bc 190) 84 = .ok (.invokevirtual 136, 3) := by decide +kernel
theorem q_190_136 : cq 190 136 [0, 3] = some (141, 1) := by decide +kernel
theorem d_190_87 : decode (bc 190) 87 = .ok (.iconst 1, 1) := by decide +kernel
theorem d_190_88 : decode (bc 190) 88 = .ok (.istore_n 3, 1) := by decide +kernel
theorem d_190_89 : decode (bc 190) 89 = .ok (.iload_n 3, 1) := by decide +kernel
theorem d_190_90 : decode (bc 190) 90 = .ok (.iload_n 2, 1) := by decide +kernel
theorem d_190_91 : decode (bc 190) 91 = .ok (.if_icmp .ge 34, 3) := by decide +kernel
theorem d_190_94 : decode (bc 190) 94 = .ok (.aload_n 0, 1) := by decide +kernel
theorem d_190_95 : decode (bc 190) 95 = .ok (.getfield 86, 3) := by decide +kernel
theorem d_190_98 : decode (bc 190) 98 = .ok (.iload_n 3, 1) := by decide +kernel
theorem d_190_99 : decode (bc 190) 99 = .ok (.iaload, 1) := by decide +kernel
theorem d_190_100 : decode (bc 190) 100 = .ok (.iconst 1, 1) := by decide +kernel
theorem d_190_101 : decode (bc 190) 101 = .ok (.if_icmp .ne 18, 3) := by decide +kernel
theorem d_190_104 : decode (bc 190) 104 = .ok (.aload_n 0, 1) := by decide +kernel
theorem d_190_105 : decode (bc 190) 105 = .ok (.getfield 29, 3) := by decide +kernel
theorem q_190_29 : fq 190 29 = some (10, 6, 38, 2, true) := by decide +kernel
theorem d_190_108 : decode (bc 190) 108 = .ok (.iload_n 3, 1) := by decide +kernel
theorem d_190_109 : decode (bc 190) 109 = .ok (.iaload, 1) := by decide +kernel
theorem d_190_110 : decode (bc 190) 110 = .ok (.ifCond .ne 9, 3) := by decide +kernel
theorem d_190_113 : decode (bc 190) 113 = .ok (.aload_n 0, 1) := by decide +kernel
theorem d_190_114 : decode (bc 190) 114 = .ok (.iload_n 3, 1) := by decide +kernel
theorem d_190_115 : decode (bc 190) 115 = .ok (.iload_n 1, 1) := by decide +kernel
theorem d_190_116 : decode (bc 190) 116 = .ok (.invokevirtual 129, 3) := by decide +kernel
theorem q_190_129 : cq 190 129 [0, 3] = some (142, 3) := by decide +kernel
theorem d_190_119 : decode (bc 190) 119 = .ok (.iinc 3 1, 3) := by decide +kernel
theorem d_190_122 : decode (bc 190) 122 = .ok (.goto (-33), 3) := by decide +kernel
theorem d_190_125 : decode (bc 190) 125 = .ok (.return_, 1) := by decide +kernel
theorem rt_190 : rty 190 = none := by decide +kernel
theorem mx_190 : mxl 190 = 4 := by decide +kernel
theorem ow_190 : (sta 190 = false ∧ own 190 = 10 ∧ hgt 190 = 4) := by decide +kernel
-- 191: SpunModulesModel.layer(II)I
theorem d_191_0 : decode (bc 191) 0 = .ok (.iload_n 1, 1) := by decide +kernel
theorem d_191_1 : decode (bc 191) 1 = .ok (.invokestatic 178, 3) := by decide +kernel
theorem q_191_178 : cq 191 178 [1, 4] = some (138, 1) := by decide +kernel
theorem d_191_4 : decode (bc 191) 4 = .ok (.ifCond .eq 7, 3) := by decide +kernel
theorem d_191_7 : decode (bc 191) 7 = .ok (.iload_n 2, 1) := by decide +kernel
theorem d_191_8 : decode (bc 191) 8 = .ok (.ifCond .ge 8, 3) := by decide +kernel
theorem d_191_11 : decode (bc 191) 11 = .ok (.aload_n 0, 1) := by decide +kernel
theorem d_191_12 : decode (bc 191) 12 = .ok (.invokevirtual 172, 3) := by decide +kernel
theorem q_191_172 : cq 191 172 [0, 3] = some (126, 1) := by decide +kernel
theorem d_191_15 : decode (bc 191) 15 = .ok (.ireturn, 1) := by decide +kernel
theorem d_191_16 : decode (bc 191) 16 = .ok (.iconst 0, 1) := by decide +kernel
theorem d_191_17 : decode (bc 191) 17 = .ok (.istore_n 3, 1) := by decide +kernel
theorem d_191_18 : decode (bc 191) 18 = .ok (.iload_n 3, 1) := by decide +kernel
theorem d_191_19 : decode (bc 191) 19 = .ok (.bipush 72, 2) := by decide +kernel
theorem d_191_21 : decode (bc 191) 21 = .ok (.if_icmp .ge 26, 3) := by decide +kernel
theorem d_191_24 : decode (bc 191) 24 = .ok (.aload_n 0, 1) := by decide +kernel
theorem d_191_25 : decode (bc 191) 25 = .ok (.getfield 23, 3) := by decide +kernel
theorem q_191_23 : fq 191 23 = some (10, 4, 38, 2, true) := by decide +kernel
theorem d_191_28 : decode (bc 191) 28 = .ok (.iload_n 3, 1) := by decide +kernel
theorem d_191_29 : decode (bc 191) 29 = .ok (.aload_n 0, 1) := by decide +kernel
theorem d_191_30 : decode (bc 191) 30 = .ok (.getfield 20, 3) := by decide +kernel
theorem q_191_20 : fq 191 20 = some (10, 3, 38, 2, true) := by decide +kernel
theorem d_191_33 : decode (bc 191) 33 = .ok (.bipush 72, 2) := by decide +kernel
theorem d_191_35 : decode (bc 191) 35 = .ok (.iload_n 1, 1) := by decide +kernel
theorem d_191_36 : decode (bc 191) 36 = .ok (.imul, 1) := by decide +kernel
theorem d_191_37 : decode (bc 191) 37 = .ok (.iload_n 3, 1) := by decide +kernel
theorem d_191_38 : decode (bc 191) 38 = .ok (.iadd, 1) := by decide +kernel
theorem d_191_39 : decode (bc 191) 39 = .ok (.iaload, 1) := by decide +kernel
theorem d_191_40 : decode (bc 191) 40 = .ok (.iastore, 1) := by decide +kernel
theorem d_191_41 : decode (bc 191) 41 = .ok (.iinc 3 1, 3) := by decide +kernel
theorem d_191_44 : decode (bc 191) 44 = .ok (.goto (-26), 3) := by decide +kernel
theorem d_191_47 : decode (bc 191) 47 = .ok (.aload_n 0, 1) := by decide +kernel
theorem d_191_48 : decode (bc 191) 48 = .ok (.bipush 10, 2) := by decide +kernel
theorem d_191_50 : decode (bc 191) 50 = .ok (.aload_n 0, 1) := by decide +kernel
theorem d_191_51 : decode (bc 191) 51 = .ok (.getfield 17, 3) := by decide +kernel
theorem q_191_17 : fq 191 17 = some (10, 2, 38, 2, true) := by decide +kernel
theorem d_191_54 : decode (bc 191) 54 = .ok (.iload_n 1, 1) := by decide +kernel
theorem d_191_55 : decode (bc 191) 55 = .ok (.iaload, 1) := by decide +kernel
theorem d_191_56 : decode (bc 191) 56 = .ok (.invokevirtual 159, 3) := by decide +kernel
theorem q_191_159 : cq 191 159 [0, 3] = some (136, 3) := by decide +kernel
theorem d_191_59 : decode (bc 191) 59 = .ok (.iconst 0, 1) := by decide +kernel
theorem d_191_60 : decode (bc 191) 60 = .ok (.istore_n 3, 1) := by decide +kernel
theorem d_191_61 : decode (bc 191) 61 = .ok (.aload_n 0, 1) := by decide +kernel
theorem d_191_62 : decode (bc 191) 62 = .ok (.getfield 17, 3) := by decide +kernel
theorem d_191_65 : decode (bc 191) 65 = .ok (.bipush 10, 2) := by decide +kernel
theorem d_191_67 : decode (bc 191) 67 = .ok (.iaload, 1) := by decide +kernel
theorem d_191_68 : decode (bc 191) 68 = .ok (.ifCond .le 31, 3) := by decide +kernel
theorem d_191_71 : decode (bc 191) 71 = .ok (.aload_n 0, 1) := by decide +kernel
theorem d_191_72 : decode (bc 191) 72 = .ok (.invokevirtual 263, 3) := by decide +kernel
theorem q_191_263 : cq 191 263 [0, 3] = some (190, 1) := by decide +kernel
theorem d_191_75 : decode (bc 191) 75 = .ok (.iload_n 3, 1) := by decide +kernel
theorem d_191_76 : decode (bc 191) 76 = .ok (.iload_n 2, 1) := by decide +kernel
theorem d_191_77 : decode (bc 191) 77 = .ok (.if_icmp .ne 8, 3) := by decide +kernel
theorem d_191_80 : decode (bc 191) 80 = .ok (.aload_n 0, 1) := by decide +kernel
theorem d_191_81 : decode (bc 191) 81 = .ok (.getfield 122, 3) := by decide +kernel
theorem q_191_122 : fq 191 122 = some (10, 7, 38, 0, false) := by decide +kernel
theorem d_191_84 : decode (bc 191) 84 = .ok (.ireturn, 1) := by decide +kernel
theorem d_191_85 : decode (bc 191) 85 = .ok (.aload_n 0, 1) := by decide +kernel
theorem d_191_86 : decode (bc 191) 86 = .ok (.bipush 10, 2) := by decide +kernel
theorem d_191_88 : decode (bc 191) 88 = .ok (.bipush 10, 2) := by decide +kernel
theorem d_191_90 : decode (bc 191) 90 = .ok (.invokevirtual 211, 3) := by decide +kernel
theorem q_191_211 : cq 191 211 [0, 3] = some (150, 3) := by decide +kernel
theorem d_191_93 : decode (bc 191) 93 = .ok (.iinc 3 1, 3) := by decide +kernel
theorem d_191_96 : decode (bc 191) 96 = .ok (.goto (-35), 3) := by decide +kernel
theorem d_191_99 : decode (bc 191) 99 = .ok (.iconst (-1), 1) := by decide +kernel
theorem d_191_100 : decode (bc 191) 100 = .ok (.ireturn, 1) := by decide +kernel
theorem rt_191 : rty 191 = some .int := by decide +kernel
theorem mx_191 : mxl 191 = 4 := by decide +kernel
theorem ow_191 : (sta 191 = false ∧ own 191 = 10 ∧ hgt 191 = 6) := by decide +kernel
-- 192: SpunModulesModel.tellsRows(III)V
theorem d_192_0 : decode (bc 192) 0 = .ok (.iload_n 2, 1) := by decide +kernel
theorem d_192_1 : decode (bc 192) 1 = .ok (.istore 4, 2) := by decide +kernel
theorem d_192_3 : decode (bc 192) 3 = .ok (.aload_n 0, 1) := by decide +kernel
theorem d_192_4 : decode (bc 192) 4 = .ok (.iconst 0, 1) := by decide +kernel
theorem d_192_5 : decode (bc 192) 5 = .ok (.putfield 122, 3) := by decide +kernel
theorem q_192_122 : fq 192 122 = some (10, 7, 38, 0, false) := by decide +kernel
theorem d_192_8 : decode (bc 192) 8 = .ok (.iconst 0, 1) := by decide +kernel
theorem d_192_9 : decode (bc 192) 9 = .ok (.istore 5, 2) := by decide +kernel
theorem d_192_11 : decode (bc 192) 11 = .ok (.iload 5, 2) := by decide +kernel
theorem d_192_13 : decode (bc 192) 13 = .ok (.iload_n 3, 1) := by decide +kernel
theorem d_192_14 : decode (bc 192) 14 = .ok (.if_icmp .ge 114, 3) := by decide +kernel
theorem d_192_17 : decode (bc 192) 17 = .ok (.iload_n 1, 1) := by decide +kernel
theorem d_192_18 : decode (bc 192) 18 = .ok (.iload 5, 2) := by decide +kernel
theorem d_192_20 : decode (bc 192) 20 = .ok (.ishr, 1) := by decide +kernel
theorem d_192_21 : decode (bc 192) 21 = .ok (.iconst 1, 1) := by decide +kernel
theorem d_192_22 : decode (bc 192) 22 = .ok (.iand, 1) := by decide +kernel
theorem d_192_23 : decode (bc 192) 23 = .ok (.iconst 1, 1) := by decide +kernel
theorem d_192_24 : decode (bc 192) 24 = .ok (.if_icmp .ne 98, 3) := by decide +kernel
theorem d_192_27 : decode (bc 192) 27 = .ok (.aload_n 0, 1) := by decide +kernel
theorem d_192_28 : decode (bc 192) 28 = .ok (.iload 5, 2) := by decide +kernel
theorem d_192_30 : decode (bc 192) 30 = .ok (.invokevirtual 110, 3) := by decide +kernel
theorem q_192_110 : cq 192 110 [0, 3] = some (131, 2) := by decide +kernel
theorem d_192_33 : decode (bc 192) 33 = .ok (.istore 6, 2) := by decide +kernel
theorem d_192_35 : decode (bc 192) 35 = .ok (.iload 5, 2) := by decide +kernel
theorem d_192_37 : decode (bc 192) 37 = .ok (.iconst 1, 1) := by decide +kernel
theorem d_192_38 : decode (bc 192) 38 = .ok (.iadd, 1) := by decide +kernel
theorem d_192_39 : decode (bc 192) 39 = .ok (.istore 7, 2) := by decide +kernel
theorem d_192_41 : decode (bc 192) 41 = .ok (.iload 7, 2) := by decide +kernel
theorem d_192_43 : decode (bc 192) 43 = .ok (.iload_n 3, 1) := by decide +kernel
theorem d_192_44 : decode (bc 192) 44 = .ok (.if_icmp .ge 46, 3) := by decide +kernel
theorem d_192_47 : decode (bc 192) 47 = .ok (.iload_n 1, 1) := by decide +kernel
theorem d_192_48 : decode (bc 192) 48 = .ok (.iload 7, 2) := by decide +kernel
theorem d_192_50 : decode (bc 192) 50 = .ok (.ishr, 1) := by decide +kernel
theorem d_192_51 : decode (bc 192) 51 = .ok (.iconst 1, 1) := by decide +kernel
theorem d_192_52 : decode (bc 192) 52 = .ok (.iand, 1) := by decide +kernel
theorem d_192_53 : decode (bc 192) 53 = .ok (.ifCond .ne 31, 3) := by decide +kernel
theorem d_192_56 : decode (bc 192) 56 = .ok (.iload 6, 2) := by decide +kernel
theorem d_192_58 : decode (bc 192) 58 = .ok (.iload 4, 2) := by decide +kernel
theorem d_192_60 : decode (bc 192) 60 = .ok (.aload_n 0, 1) := by decide +kernel
theorem d_192_61 : decode (bc 192) 61 = .ok (.getfield 13, 3) := by decide +kernel
theorem q_192_13 : fq 192 13 = some (10, 1, 38, 0, false) := by decide +kernel
theorem d_192_64 : decode (bc 192) 64 = .ok (.irem, 1) := by decide +kernel
theorem d_192_65 : decode (bc 192) 65 = .ok (.aload_n 0, 1) := by decide +kernel
theorem d_192_66 : decode (bc 192) 66 = .ok (.iload 7, 2) := by decide +kernel
theorem d_192_68 : decode (bc 192) 68 = .ok (.invokevirtual 110, 3) := by decide +kernel
theorem d_192_71 : decode (bc 192) 71 = .ok (.imul, 1) := by decide +kernel
theorem d_192_72 : decode (bc 192) 72 = .ok (.iadd, 1) := by decide +kernel
theorem d_192_73 : decode (bc 192) 73 = .ok (.istore 6, 2) := by decide +kernel
theorem d_192_75 : decode (bc 192) 75 = .ok (.iload 4, 2) := by decide +kernel
theorem d_192_77 : decode (bc 192) 77 = .ok (.aload_n 0, 1) := by decide +kernel
theorem d_192_78 : decode (bc 192) 78 = .ok (.getfield 13, 3) := by decide +kernel
theorem d_192_81 : decode (bc 192) 81 = .ok (.idiv, 1) := by decide +kernel
theorem d_192_82 : decode (bc 192) 82 = .ok (.istore 4, 2) := by decide +kernel
theorem d_192_84 : decode (bc 192) 84 = .ok (.iinc 7 1, 3) := by decide +kernel
theorem d_192_87 : decode (bc 192) 87 = .ok (.goto (-46), 3) := by decide +kernel
theorem d_192_90 : decode (bc 192) 90 = .ok (.aload_n 0, 1) := by decide +kernel
theorem d_192_91 : decode (bc 192) 91 = .ok (.getfield 41, 3) := by decide +kernel
theorem q_192_41 : fq 192 41 = some (10, 11, 38, 2, true) := by decide +kernel
theorem d_192_94 : decode (bc 192) 94 = .ok (.aload_n 0, 1) := by decide +kernel
theorem d_192_95 : decode (bc 192) 95 = .ok (.getfield 122, 3) := by decide +kernel
theorem d_192_98 : decode (bc 192) 98 = .ok (.iload 6, 2) := by decide +kernel
theorem d_192_100 : decode (bc 192) 100 = .ok (.iastore, 1) := by decide +kernel
theorem d_192_101 : decode (bc 192) 101 = .ok (.aload_n 0, 1) := by decide +kernel
theorem d_192_102 : decode (bc 192) 102 = .ok (.getfield 44, 3) := by decide +kernel
theorem q_192_44 : fq 192 44 = some (10, 12, 38, 2, true) := by decide +kernel
theorem d_192_105 : decode (bc 192) 105 = .ok (.aload_n 0, 1) := by decide +kernel
theorem d_192_106 : decode (bc 192) 106 = .ok (.getfield 122, 3) := by decide +kernel
theorem d_192_109 : decode (bc 192) 109 = .ok (.iload 5, 2) := by decide +kernel
theorem d_192_111 : decode (bc 192) 111 = .ok (.iastore, 1) := by decide +kernel
theorem d_192_112 : decode (bc 192) 112 = .ok (.aload_n 0, 1) := by decide +kernel
theorem d_192_113 : decode (bc 192) 113 = .ok (.dup, 1) := by decide +kernel
theorem d_192_114 : decode (bc 192) 114 = .ok (.getfield 122, 3) := by decide +kernel
theorem d_192_117 : decode (bc 192) 117 = .ok (.iconst 1, 1) := by decide +kernel
theorem d_192_118 : decode (bc 192) 118 = .ok (.iadd, 1) := by decide +kernel
theorem d_192_119 : decode (bc 192) 119 = .ok (.putfield 122, 3) := by decide +kernel
theorem d_192_122 : decode (bc 192) 122 = .ok (.iinc 5 1, 3) := by decide +kernel
theorem d_192_125 : decode (bc 192) 125 = .ok (.goto (-114), 3) := by decide +kernel
theorem d_192_128 : decode (bc 192) 128 = .ok (.return_, 1) := by decide +kernel
theorem rt_192 : rty 192 = none := by decide +kernel
theorem mx_192 : mxl 192 = 8 := by decide +kernel
theorem ow_192 : (sta 192 = false ∧ own 192 = 10 ∧ hgt 192 = 1) := by decide +kernel
-- 193: SpunModulesModel.freeOf(II)I
theorem d_193_0 : decode (bc 193) 0 = .ok (.iconst 0, 1) := by decide +kernel
theorem d_193_1 : decode (bc 193) 1 = .ok (.istore_n 3, 1) := by decide +kernel
theorem d_193_2 : decode (bc 193) 2 = .ok (.iconst 0, 1) := by decide +kernel
theorem d_193_3 : decode (bc 193) 3 = .ok (.istore 4, 2) := by decide +kernel
theorem d_193_5 : decode (bc 193) 5 = .ok (.iload 4, 2) := by decide +kernel
theorem d_193_7 : decode (bc 193) 7 = .ok (.iload_n 2, 1) := by decide +kernel
theorem d_193_8 : decode (bc 193) 8 = .ok (.if_icmp .ge 54, 3) := by decide +kernel
theorem d_193_11 : decode (bc 193) 11 = .ok (.iload 4, 2) := by decide +kernel
theorem d_193_13 : decode (bc 193) 13 = .ok (.iconst 1, 1) := by decide +kernel
theorem d_193_14 : decode (bc 193) 14 = .ok (.iadd, 1) := by decide +kernel
theorem d_193_15 : decode (bc 193) 15 = .ok (.istore 5, 2) := by decide +kernel
theorem d_193_17 : decode (bc 193) 17 = .ok (.iload 5, 2) := by decide +kernel
theorem d_193_19 : decode (bc 193) 19 = .ok (.iload_n 2, 1) := by decide +kernel
theorem d_193_20 : decode (bc 193) 20 = .ok (.if_icmp .ge 36, 3) := by decide +kernel
theorem d_193_23 : decode (bc 193) 23 = .ok (.iload_n 3, 1) := by decide +kernel
theorem d_193_24 : decode (bc 193) 24 = .ok (.iload_n 1, 1) := by decide +kernel
theorem d_193_25 : decode (bc 193) 25 = .ok (.iload 4, 2) := by decide +kernel
theorem d_193_27 : decode (bc 193) 27 = .ok (.ishr, 1) := by decide +kernel
theorem d_193_28 : decode (bc 193) 28 = .ok (.iconst 1, 1) := by decide +kernel
theorem d_193_29 : decode (bc 193) 29 = .ok (.iand, 1) := by decide +kernel
theorem d_193_30 : decode (bc 193) 30 = .ok (.iconst 1, 1) := by decide +kernel
theorem d_193_31 : decode (bc 193) 31 = .ok (.if_icmp .ne 16, 3) := by decide +kernel
theorem d_193_34 : decode (bc 193) 34 = .ok (.iload_n 1, 1) := by decide +kernel
theorem d_193_35 : decode (bc 193) 35 = .ok (.iload 5, 2) := by decide +kernel
theorem d_193_37 : decode (bc 193) 37 = .ok (.ishr, 1) := by decide +kernel
theorem d_193_38 : decode (bc 193) 38 = .ok (.iconst 1, 1) := by decide +kernel
theorem d_193_39 : decode (bc 193) 39 = .ok (.iand, 1) := by decide +kernel
theorem d_193_40 : decode (bc 193) 40 = .ok (.ifCond .ne 7, 3) := by decide +kernel
theorem d_193_43 : decode (bc 193) 43 = .ok (.iconst 1, 1) := by decide +kernel
theorem d_193_44 : decode (bc 193) 44 = .ok (.goto 4, 3) := by decide +kernel
theorem d_193_47 : decode (bc 193) 47 = .ok (.iconst 0, 1) := by decide +kernel
theorem d_193_48 : decode (bc 193) 48 = .ok (.iadd, 1) := by decide +kernel
theorem d_193_49 : decode (bc 193) 49 = .ok (.istore_n 3, 1) := by decide +kernel
theorem d_193_50 : decode (bc 193) 50 = .ok (.iinc 5 1, 3) := by decide +kernel
theorem d_193_53 : decode (bc 193) 53 = .ok (.goto (-36), 3) := by decide +kernel
theorem d_193_56 : decode (bc 193) 56 = .ok (.iinc 4 1, 3) := by decide +kernel
theorem d_193_59 : decode (bc 193) 59 = .ok (.goto (-54), 3) := by decide +kernel
theorem d_193_62 : decode (bc 193) 62 = .ok (.iload_n 3, 1) := by decide +kernel
theorem d_193_63 : decode (bc 193) 63 = .ok (.ireturn, 1) := by decide +kernel
theorem rt_193 : rty 193 = some .int := by decide +kernel
theorem mx_193 : mxl 193 = 6 := by decide +kernel
theorem ow_193 : (sta 193 = false ∧ own 193 = 10 ∧ hgt 193 = 0) := by decide +kernel
-- 194: SpunModulesModel.areKept(I)Z
theorem d_194_0 : decode (bc 194) 0 = .ok (.iconst 1, 1) := by decide +kernel
theorem d_194_1 : decode (bc 194) 1 = .ok (.istore_n 2, 1) := by decide +kernel
theorem d_194_2 : decode (bc 194) 2 = .ok (.iconst 0, 1) := by decide +kernel
theorem d_194_3 : decode (bc 194) 3 = .ok (.istore_n 3, 1) := by decide +kernel
theorem d_194_4 : decode (bc 194) 4 = .ok (.iload_n 3, 1) := by decide +kernel
theorem d_194_5 : decode (bc 194) 5 = .ok (.iconst 2, 1) := by decide +kernel
theorem d_194_6 : decode (bc 194) 6 = .ok (.aload_n 0, 1) := by decide +kernel
theorem d_194_7 : decode (bc 194) 7 = .ok (.getfield 122, 3) := by decide +kernel
theorem q_194_122 : fq 194 122 = some (10, 7, 38, 0, false) := by decide +kernel
theorem d_194_10 : decode (bc 194) 10 = .ok (.imul, 1) := by decide +kernel
theorem d_194_11 : decode (bc 194) 11 = .ok (.if_icmp .ge 42, 3) := by decide +kernel
theorem d_194_14 : decode (bc 194) 14 = .ok (.iload_n 2, 1) := by decide +kernel
theorem d_194_15 : decode (bc 194) 15 = .ok (.ifCond .eq 30, 3) := by decide +kernel
theorem d_194_18 : decode (bc 194) 18 = .ok (.aload_n 0, 1) := by decide +kernel
theorem d_194_19 : decode (bc 194) 19 = .ok (.aload_n 0, 1) := by decide +kernel
theorem d_194_20 : decode (bc 194) 20 = .ok (.iload_n 1, 1) := by decide +kernel
theorem d_194_21 : decode (bc 194) 21 = .ok (.iload_n 3, 1) := by decide +kernel
theorem d_194_22 : decode (bc 194) 22 = .ok (.iconst 2, 1) := by decide +kernel
theorem d_194_23 : decode (bc 194) 23 = .ok (.irem, 1) := by decide +kernel
theorem d_194_24 : decode (bc 194) 24 = .ok (.aload_n 0, 1) := by decide +kernel
theorem d_194_25 : decode (bc 194) 25 = .ok (.getfield 41, 3) := by decide +kernel
theorem q_194_41 : fq 194 41 = some (10, 11, 38, 2, true) := by decide +kernel
theorem d_194_28 : decode (bc 194) 28 = .ok (.iload_n 3, 1) := by decide +kernel
theorem d_194_29 : decode (bc 194) 29 = .ok (.iconst 2, 1) := by decide +kernel
theorem d_194_30 : decode (bc 194) 30 = .ok (.idiv, 1) := by decide +kernel
theorem d_194_31 : decode (bc 194) 31 = .ok (.iaload, 1) := by decide +kernel
theorem d_194_32 : decode (bc 194) 32 = .ok (.invokevirtual 133, 3) := by decide +kernel
theorem q_194_133 : cq 194 133 [0, 3] = some (135, 4) := by decide +kernel
theorem d_194_35 : decode (bc 194) 35 = .ok (.invokevirtual 162, 3) := by decide +kernel
theorem q_194_162 : cq 194 162 [0, 3] = some (149, 2) := by decide +kernel
theorem d_194_38 : decode (bc 194) 38 = .ok (.ifCond .ne 7, 3) := by decide +kernel
theorem d_194_41 : decode (bc 194) 41 = .ok (.iconst 1, 1) := by decide +kernel
theorem d_194_42 : decode (bc 194) 42 = .ok (.goto 4, 3) := by decide +kernel
theorem d_194_45 : decode (bc 194) 45 = .ok (.iconst 0, 1) := by decide +kernel
theorem d_194_46 : decode (bc 194) 46 = .ok (.istore_n 2, 1) := by decide +kernel
theorem d_194_47 : decode (bc 194) 47 = .ok (.iinc 3 1, 3) := by decide +kernel
theorem d_194_50 : decode (bc 194) 50 = .ok (.goto (-46), 3) := by decide +kernel
theorem d_194_53 : decode (bc 194) 53 = .ok (.iload_n 2, 1) := by decide +kernel
theorem d_194_54 : decode (bc 194) 54 = .ok (.ireturn, 1) := by decide +kernel
theorem rt_194 : rty 194 = some .boolean := by decide +kernel
theorem mx_194 : mxl 194 = 4 := by decide +kernel
theorem ow_194 : (sta 194 = false ∧ own 194 = 10 ∧ hgt 194 = 3) := by decide +kernel
-- 195: SpunModulesModel.spaces(II)I
theorem d_195_0 : decode (bc 195) 0 = .ok (.iload_n 1, 1) := by decide +kernel
theorem d_195_1 : decode (bc 195) 1 = .ok (.invokestatic 178, 3) := by decide +kernel
theorem q_195_178 : cq 195 178 [1, 4] = some (138, 1) := by decide +kernel
theorem d_195_4 : decode (bc 195) 4 = .ok (.ifCond .eq 13, 3) := by decide +kernel
theorem d_195_7 : decode (bc 195) 7 = .ok (.iload_n 2, 1) := by decide +kernel
theorem d_195_8 : decode (bc 195) 8 = .ok (.iconst 0, 1) := by decide +kernel
theorem d_195_9 : decode (bc 195) 9 = .ok (.bipush 6, 2) := by decide +kernel
theorem d_195_11 : decode (bc 195) 11 = .ok (.invokestatic 118, 3) := by decide +kernel
theorem q_195_118 : cq 195 118 [1, 4] = some (129, 3) := by decide +kernel
theorem d_195_14 : decode (bc 195) 14 = .ok (.ifCond .ne 8, 3) := by decide +kernel
theorem d_195_17 : decode (bc 195) 17 = .ok (.aload_n 0, 1) := by decide +kernel
theorem d_195_18 : decode (bc 195) 18 = .ok (.invokevirtual 172, 3) := by decide +kernel
theorem q_195_172 : cq 195 172 [0, 3] = some (126, 1) := by decide +kernel
theorem d_195_21 : decode (bc 195) 21 = .ok (.ireturn, 1) := by decide +kernel
theorem d_195_22 : decode (bc 195) 22 = .ok (.aload_n 0, 1) := by decide +kernel
theorem d_195_23 : decode (bc 195) 23 = .ok (.getfield 17, 3) := by decide +kernel
theorem q_195_17 : fq 195 17 = some (10, 2, 38, 2, true) := by decide +kernel
theorem d_195_26 : decode (bc 195) 26 = .ok (.iload_n 1, 1) := by decide +kernel
theorem d_195_27 : decode (bc 195) 27 = .ok (.iaload, 1) := by decide +kernel
theorem d_195_28 : decode (bc 195) 28 = .ok (.istore_n 3, 1) := by decide +kernel
theorem d_195_29 : decode (bc 195) 29 = .ok (.iload_n 3, 1) := by decide +kernel
theorem d_195_30 : decode (bc 195) 30 = .ok (.iconst 4, 1) := by decide +kernel
theorem d_195_31 : decode (bc 195) 31 = .ok (.if_icmp .le 8, 3) := by decide +kernel
theorem d_195_34 : decode (bc 195) 34 = .ok (.aload_n 0, 1) := by decide +kernel
theorem d_195_35 : decode (bc 195) 35 = .ok (.invokevirtual 168, 3) := by decide +kernel
theorem q_195_168 : cq 195 168 [0, 3] = some (127, 1) := by decide +kernel
theorem d_195_38 : decode (bc 195) 38 = .ok (.ireturn, 1) := by decide +kernel
theorem d_195_39 : decode (bc 195) 39 = .ok (.iconst 0, 1) := by decide +kernel
theorem d_195_40 : decode (bc 195) 40 = .ok (.istore 4, 2) := by decide +kernel
theorem d_195_42 : decode (bc 195) 42 = .ok (.iconst 0, 1) := by decide +kernel
theorem d_195_43 : decode (bc 195) 43 = .ok (.istore 5, 2) := by decide +kernel
theorem d_195_45 : decode (bc 195) 45 = .ok (.iload 5, 2) := by decide +kernel
theorem d_195_47 : decode (bc 195) 47 = .ok (.iconst 1, 1) := by decide +kernel
theorem d_195_48 : decode (bc 195) 48 = .ok (.iload_n 3, 1) := by decide +kernel
theorem d_195_49 : decode (bc 195) 49 = .ok (.ishl, 1) := by decide +kernel
theorem d_195_50 : decode (bc 195) 50 = .ok (.if_icmp .ge 73, 3) := by decide +kernel
theorem d_195_53 : decode (bc 195) 53 = .ok (.aload_n 0, 1) := by decide +kernel
theorem d_195_54 : decode (bc 195) 54 = .ok (.aload_n 0, 1) := by decide +kernel
theorem d_195_55 : decode (bc 195) 55 = .ok (.iload 5, 2) := by decide +kernel
theorem d_195_57 : decode (bc 195) 57 = .ok (.iload_n 3, 1) := by decide +kernel
theorem d_195_58 : decode (bc 195) 58 = .ok (.invokevirtual 266, 3) := by decide +kernel
theorem q_195_266 : cq 195 266 [0, 3] = some (193, 3) := by decide +kernel
theorem d_195_61 : decode (bc 195) 61 = .ok (.invokevirtual 110, 3) := by decide +kernel
theorem q_195_110 : cq 195 110 [0, 3] = some (131, 2) := by decide +kernel
theorem d_195_64 : decode (bc 195) 64 = .ok (.istore 6, 2) := by decide +kernel
theorem d_195_66 : decode (bc 195) 66 = .ok (.iconst 0, 1) := by decide +kernel
theorem d_195_67 : decode (bc 195) 67 = .ok (.istore 7, 2) := by decide +kernel
theorem d_195_69 : decode (bc 195) 69 = .ok (.iload 7, 2) := by decide +kernel
theorem d_195_71 : decode (bc 195) 71 = .ok (.iload 6, 2) := by decide +kernel
theorem d_195_73 : decode (bc 195) 73 = .ok (.if_icmp .ge 44, 3) := by decide +kernel
theorem d_195_76 : decode (bc 195) 76 = .ok (.aload_n 0, 1) := by decide +kernel
theorem d_195_77 : decode (bc 195) 77 = .ok (.iload 5, 2) := by decide +kernel
theorem d_195_79 : decode (bc 195) 79 = .ok (.iload 7, 2) := by decide +kernel
theorem d_195_81 : decode (bc 195) 81 = .ok (.iload_n 3, 1) := by decide +kernel
theorem d_195_82 : decode (bc 195) 82 = .ok (.invokevirtual 269, 3) := by decide +kernel
theorem q_195_269 : cq 195 269 [0, 3] = some (192, 4) := by decide +kernel
theorem d_195_85 : decode (bc 195) 85 = .ok (.iload 4, 2) := by decide +kernel
theorem d_195_87 : decode (bc 195) 87 = .ok (.aload_n 0, 1) := by decide +kernel
theorem d_195_88 : decode (bc 195) 88 = .ok (.getfield 122, 3) := by decide +kernel
theorem q_195_122 : fq 195 122 = some (10, 7, 38, 0, false) := by decide +kernel
theorem d_195_91 : decode (bc 195) 91 = .ok (.iload_n 2, 1) := by decide +kernel
theorem d_195_92 : decode (bc 195) 92 = .ok (.if_icmp .ne 15, 3) := by decide +kernel
theorem d_195_95 : decode (bc 195) 95 = .ok (.aload_n 0, 1) := by decide +kernel
theorem d_195_96 : decode (bc 195) 96 = .ok (.iload_n 1, 1) := by decide +kernel
theorem d_195_97 : decode (bc 195) 97 = .ok (.invokevirtual 273, 3) := by decide +kernel
theorem q_195_273 : cq 195 273 [0, 3] = some (194, 2) := by decide +kernel
theorem d_195_100 : decode (bc 195) 100 = .ok (.ifCond .eq 7, 3) := by decide +kernel
theorem d_195_103 : decode (bc 195) 103 = .ok (.iconst 1, 1) := by decide +kernel
theorem d_195_104 : decode (bc 195) 104 = .ok (.goto 4, 3) := by decide +kernel
theorem d_195_107 : decode (bc 195) 107 = .ok (.iconst 0, 1) := by decide +kernel
theorem d_195_108 : decode (bc 195) 108 = .ok (.iadd, 1) := by decide +kernel
theorem d_195_109 : decode (bc 195) 109 = .ok (.istore 4, 2) := by decide +kernel
theorem d_195_111 : decode (bc 195) 111 = .ok (.iinc 7 1, 3) := by decide +kernel
theorem d_195_114 : decode (bc 195) 114 = .ok (.goto (-45), 3) := by decide +kernel
theorem d_195_117 : decode (bc 195) 117 = .ok (.iinc 5 1, 3) := by decide +kernel
theorem d_195_120 : decode (bc 195) 120 = .ok (.goto (-75), 3) := by decide +kernel
theorem d_195_123 : decode (bc 195) 123 = .ok (.iload 4, 2) := by decide +kernel
theorem d_195_125 : decode (bc 195) 125 = .ok (.ireturn, 1) := by decide +kernel
theorem rt_195 : rty 195 = some .int := by decide +kernel
theorem mx_195 : mxl 195 = 8 := by decide +kernel
theorem ow_195 : (sta 195 = false ∧ own 195 = 10 ∧ hgt 195 = 4) := by decide +kernel
-- 196: SpunModulesModel.type(I)I
theorem d_196_0 : decode (bc 196) 0 = .ok (.iload_n 1, 1) := by decide +kernel
theorem d_196_1 : decode (bc 196) 1 = .ok (.iconst 0, 1) := by decide +kernel
theorem d_196_2 : decode (bc 196) 2 = .ok (.bipush 127, 2) := by decide +kernel
theorem d_196_4 : decode (bc 196) 4 = .ok (.invokestatic 118, 3) := by decide +kernel
theorem q_196_118 : cq 196 118 [1, 4] = some (129, 3) := by decide +kernel
theorem d_196_7 : decode (bc 196) 7 = .ok (.ifCond .ne 8, 3) := by decide +kernel
theorem d_196_10 : decode (bc 196) 10 = .ok (.aload_n 0, 1) := by decide +kernel
theorem d_196_11 : decode (bc 196) 11 = .ok (.invokevirtual 172, 3) := by decide +kernel
theorem q_196_172 : cq 196 172 [0, 3] = some (126, 1) := by decide +kernel
theorem d_196_14 : decode (bc 196) 14 = .ok (.ireturn, 1) := by decide +kernel
theorem d_196_15 : decode (bc 196) 15 = .ok (.aload_n 0, 1) := by decide +kernel
theorem d_196_16 : decode (bc 196) 16 = .ok (.getfield 276, 3) := by decide +kernel
theorem q_196_276 : fq 196 276 = some (10, 31, 38, 0, false) := by decide +kernel
theorem d_196_19 : decode (bc 196) 19 = .ok (.bipush 40, 2) := by decide +kernel
theorem d_196_21 : decode (bc 196) 21 = .ok (.if_icmp .ne 8, 3) := by decide +kernel
theorem d_196_24 : decode (bc 196) 24 = .ok (.aload_n 0, 1) := by decide +kernel
theorem d_196_25 : decode (bc 196) 25 = .ok (.invokevirtual 279, 3) := by decide +kernel
theorem q_196_279 : cq 196 279 [0, 3] = some (128, 1) := by decide +kernel
theorem d_196_28 : decode (bc 196) 28 = .ok (.ireturn, 1) := by decide +kernel
theorem d_196_29 : decode (bc 196) 29 = .ok (.aload_n 0, 1) := by decide +kernel
theorem d_196_30 : decode (bc 196) 30 = .ok (.getfield 89, 3) := by decide +kernel
theorem q_196_89 : fq 196 89 = some (10, 30, 38, 2, true) := by decide +kernel
theorem d_196_33 : decode (bc 196) 33 = .ok (.aload_n 0, 1) := by decide +kernel
theorem d_196_34 : decode (bc 196) 34 = .ok (.getfield 276, 3) := by decide +kernel
theorem d_196_37 : decode (bc 196) 37 = .ok (.iload_n 1, 1) := by decide +kernel
theorem d_196_38 : decode (bc 196) 38 = .ok (.iastore, 1) := by decide +kernel
theorem d_196_39 : decode (bc 196) 39 = .ok (.aload_n 0, 1) := by decide +kernel
theorem d_196_40 : decode (bc 196) 40 = .ok (.dup, 1) := by decide +kernel
theorem d_196_41 : decode (bc 196) 41 = .ok (.getfield 276, 3) := by decide +kernel
theorem d_196_44 : decode (bc 196) 44 = .ok (.iconst 1, 1) := by decide +kernel
theorem d_196_45 : decode (bc 196) 45 = .ok (.iadd, 1) := by decide +kernel
theorem d_196_46 : decode (bc 196) 46 = .ok (.putfield 276, 3) := by decide +kernel
theorem d_196_49 : decode (bc 196) 49 = .ok (.aload_n 0, 1) := by decide +kernel
theorem d_196_50 : decode (bc 196) 50 = .ok (.getfield 276, 3) := by decide +kernel
theorem d_196_53 : decode (bc 196) 53 = .ok (.ireturn, 1) := by decide +kernel
theorem rt_196 : rty 196 = some .int := by decide +kernel
theorem mx_196 : mxl 196 = 2 := by decide +kernel
theorem ow_196 : (sta 196 = false ∧ own 196 = 10 ∧ hgt 196 = 1) := by decide +kernel
-- 197: SpunModulesModel.clear()I
theorem d_197_0 : decode (bc 197) 0 = .ok (.aload_n 0, 1) := by decide +kernel
theorem d_197_1 : decode (bc 197) 1 = .ok (.getfield 276, 3) := by decide +kernel
theorem q_197_276 : fq 197 276 = some (10, 31, 38, 0, false) := by decide +kernel
theorem d_197_4 : decode (bc 197) 4 = .ok (.istore_n 1, 1) := by decide +kernel
theorem d_197_5 : decode (bc 197) 5 = .ok (.aload_n 0, 1) := by decide +kernel
theorem d_197_6 : decode (bc 197) 6 = .ok (.iconst 0, 1) := by decide +kernel
theorem d_197_7 : decode (bc 197) 7 = .ok (.putfield 276, 3) := by decide +kernel
theorem d_197_10 : decode (bc 197) 10 = .ok (.iload_n 1, 1) := by decide +kernel
theorem d_197_11 : decode (bc 197) 11 = .ok (.ireturn, 1) := by decide +kernel
theorem rt_197 : rty 197 = some .int := by decide +kernel
theorem mx_197 : mxl 197 = 2 := by decide +kernel
theorem ow_197 : (sta 197 = false ∧ own 197 = 10 ∧ hgt 197 = 0) := by decide +kernel
-- 198: SpunModulesModel.isFigureAt(I)Z
theorem d_198_0 : decode (bc 198) 0 = .ok (.iload_n 1, 1) := by decide +kernel
theorem d_198_1 : decode (bc 198) 1 = .ok (.aload_n 0, 1) := by decide +kernel
theorem d_198_2 : decode (bc 198) 2 = .ok (.getfield 276, 3) := by decide +kernel
theorem q_198_276 : fq 198 276 = some (10, 31, 38, 0, false) := by decide +kernel
theorem d_198_5 : decode (bc 198) 5 = .ok (.if_icmp .ge 23, 3) := by decide +kernel
theorem d_198_8 : decode (bc 198) 8 = .ok (.aload_n 0, 1) := by decide +kernel
theorem d_198_9 : decode (bc 198) 9 = .ok (.getfield 89, 3) := by decide +kernel
theorem q_198_89 : fq 198 89 = some (10, 30, 38, 2, true) := by decide +kernel
theorem d_198_12 : decode (bc 198) 12 = .ok (.iload_n 1, 1) := by decide +kernel
theorem d_198_13 : decode (bc 198) 13 = .ok (.iaload, 1) := by decide +kernel
theorem d_198_14 : decode (bc 198) 14 = .ok (.bipush 48, 2) := by decide +kernel
theorem d_198_16 : decode (bc 198) 16 = .ok (.bipush 50, 2) := by decide +kernel
theorem d_198_18 : decode (bc 198) 18 = .ok (.invokestatic 118, 3) := by decide +kernel
theorem q_198_118 : cq 198 118 [1, 4] = some (129, 3) := by decide +kernel
theorem d_198_21 : decode (bc 198) 21 = .ok (.ifCond .eq 7, 3) := by decide +kernel
theorem d_198_24 : decode (bc 198) 24 = .ok (.iconst 1, 1) := by decide +kernel
theorem d_198_25 : decode (bc 198) 25 = .ok (.goto 4, 3) := by decide +kernel
theorem d_198_28 : decode (bc 198) 28 = .ok (.iconst 0, 1) := by decide +kernel
theorem d_198_29 : decode (bc 198) 29 = .ok (.ireturn, 1) := by decide +kernel
theorem rt_198 : rty 198 = some .boolean := by decide +kernel
theorem mx_198 : mxl 198 = 2 := by decide +kernel
theorem ow_198 : (sta 198 = false ∧ own 198 = 10 ∧ hgt 198 = 1) := by decide +kernel
-- 199: SpunModulesModel.isLetterAt(I)Z
theorem d_199_0 : decode (bc 199) 0 = .ok (.iload_n 1, 1) := by decide +kernel
theorem d_199_1 : decode (bc 199) 1 = .ok (.aload_n 0, 1) := by decide +kernel
theorem d_199_2 : decode (bc 199) 2 = .ok (.getfield 276, 3) := by decide +kernel
theorem q_199_276 : fq 199 276 = some (10, 31, 38, 0, false) := by decide +kernel
theorem d_199_5 : decode (bc 199) 5 = .ok (.if_icmp .ge 29, 3) := by decide +kernel
theorem d_199_8 : decode (bc 199) 8 = .ok (.aload_n 0, 1) := by decide +kernel
theorem d_199_9 : decode (bc 199) 9 = .ok (.getfield 89, 3) := by decide +kernel
theorem q_199_89 : fq 199 89 = some (10, 30, 38, 2, true) := by decide +kernel
theorem d_199_12 : decode (bc 199) 12 = .ok (.iload_n 1, 1) := by decide +kernel
theorem d_199_13 : decode (bc 199) 13 = .ok (.iaload, 1) := by decide +kernel
theorem d_199_14 : decode (bc 199) 14 = .ok (.bipush 97, 2) := by decide +kernel
theorem d_199_16 : decode (bc 199) 16 = .ok (.if_icmp .eq 14, 3) := by decide +kernel
theorem d_199_19 : decode (bc 199) 19 = .ok (.aload_n 0, 1) := by decide +kernel
theorem d_199_20 : decode (bc 199) 20 = .ok (.getfield 89, 3) := by decide +kernel
theorem d_199_23 : decode (bc 199) 23 = .ok (.iload_n 1, 1) := by decide +kernel
theorem d_199_24 : decode (bc 199) 24 = .ok (.iaload, 1) := by decide +kernel
theorem d_199_25 : decode (bc 199) 25 = .ok (.bipush 98, 2) := by decide +kernel
theorem d_199_27 : decode (bc 199) 27 = .ok (.if_icmp .ne 7, 3) := by decide +kernel
theorem d_199_30 : decode (bc 199) 30 = .ok (.iconst 1, 1) := by decide +kernel
theorem d_199_31 : decode (bc 199) 31 = .ok (.goto 4, 3) := by decide +kernel
theorem d_199_34 : decode (bc 199) 34 = .ok (.iconst 0, 1) := by decide +kernel
theorem d_199_35 : decode (bc 199) 35 = .ok (.ireturn, 1) := by decide +kernel
theorem rt_199 : rty 199 = some .boolean := by decide +kernel
theorem mx_199 : mxl 199 = 2 := by decide +kernel
theorem ow_199 : (sta 199 = false ∧ own 199 = 10 ∧ hgt 199 = 0) := by decide +kernel
-- 200: SpunModulesModel.tells()I
theorem d_200_0 : decode (bc 200) 0 = .ok (.iconst 0, 1) := by decide +kernel
theorem d_200_1 : decode (bc 200) 1 = .ok (.istore_n 1, 1) := by decide +kernel
theorem d_200_2 : decode (bc 200) 2 = .ok (.iconst 0, 1) := by decide +kernel
theorem d_200_3 : decode (bc 200) 3 = .ok (.istore_n 2, 1) := by decide +kernel
theorem d_200_4 : decode (bc 200) 4 = .ok (.iconst 1, 1) := by decide +kernel
theorem d_200_5 : decode (bc 200) 5 = .ok (.istore_n 3, 1) := by decide +kernel
theorem d_200_6 : decode (bc 200) 6 = .ok (.iload_n 3, 1) := by decide +kernel
theorem d_200_7 : decode (bc 200) 7 = .ok (.ifCond .eq 102, 3) := by decide +kernel
theorem d_200_10 : decode (bc 200) 10 = .ok (.iload_n 1, 1) := by decide +kernel
theorem d_200_11 : decode (bc 200) 11 = .ok (.istore 4, 2) := by decide +kernel
theorem d_200_13 : decode (bc 200) 13 = .ok (.iload_n 1, 1) := by decide +kernel
theorem d_200_14 : decode (bc 200) 14 = .ok (.aload_n 0, 1) := by decide +kernel
theorem d_200_15 : decode (bc 200) 15 = .ok (.iload_n 1, 1) := by decide +kernel
theorem d_200_16 : decode (bc 200) 16 = .ok (.invokevirtual 282, 3) := by decide +kernel
theorem q_200_282 : cq 200 282 [0, 3] = some (198, 2) := by decide +kernel
theorem d_200_19 : decode (bc 200) 19 = .ok (.ifCond .eq 7, 3) := by decide +kernel
theorem d_200_22 : decode (bc 200) 22 = .ok (.iconst 1, 1) := by decide +kernel
theorem d_200_23 : decode (bc 200) 23 = .ok (.goto 4, 3) := by decide +kernel
theorem d_200_26 : decode (bc 200) 26 = .ok (.iconst 0, 1) := by decide +kernel
theorem d_200_27 : decode (bc 200) 27 = .ok (.iadd, 1) := by decide +kernel
theorem d_200_28 : decode (bc 200) 28 = .ok (.istore_n 1, 1) := by decide +kernel
theorem d_200_29 : decode (bc 200) 29 = .ok (.iconst 0, 1) := by decide +kernel
theorem d_200_30 : decode (bc 200) 30 = .ok (.istore 5, 2) := by decide +kernel
theorem d_200_32 : decode (bc 200) 32 = .ok (.aload_n 0, 1) := by decide +kernel
theorem d_200_33 : decode (bc 200) 33 = .ok (.iload_n 1, 1) := by decide +kernel
theorem d_200_34 : decode (bc 200) 34 = .ok (.invokevirtual 285, 3) := by decide +kernel
theorem q_200_285 : cq 200 285 [0, 3] = some (199, 2) := by decide +kernel
theorem d_200_37 : decode (bc 200) 37 = .ok (.ifCond .eq 19, 3) := by decide +kernel
theorem d_200_40 : decode (bc 200) 40 = .ok (.iload 5, 2) := by decide +kernel
theorem d_200_42 : decode (bc 200) 42 = .ok (.bipush 6, 2) := by decide +kernel
theorem d_200_44 : decode (bc 200) 44 = .ok (.if_icmp .ge 12, 3) := by decide +kernel
theorem d_200_47 : decode (bc 200) 47 = .ok (.iinc 1 1, 3) := by decide +kernel
theorem d_200_50 : decode (bc 200) 50 = .ok (.iinc 5 1, 3) := by decide +kernel
theorem d_200_53 : decode (bc 200) 53 = .ok (.goto (-21), 3) := by decide +kernel
theorem d_200_56 : decode (bc 200) 56 = .ok (.iload_n 1, 1) := by decide +kernel
theorem d_200_57 : decode (bc 200) 57 = .ok (.iload 4, 2) := by decide +kernel
theorem d_200_59 : decode (bc 200) 59 = .ok (.if_icmp .eq 22, 3) := by decide +kernel
theorem d_200_62 : decode (bc 200) 62 = .ok (.iload_n 1, 1) := by decide +kernel
theorem d_200_63 : decode (bc 200) 63 = .ok (.aload_n 0, 1) := by decide +kernel
theorem d_200_64 : decode (bc 200) 64 = .ok (.getfield 276, 3) := by decide +kernel
theorem q_200_276 : fq 200 276 = some (10, 31, 38, 0, false) := by decide +kernel
theorem d_200_67 : decode (bc 200) 67 = .ok (.if_icmp .ge 19, 3) := by decide +kernel
theorem d_200_70 : decode (bc 200) 70 = .ok (.aload_n 0, 1) := by decide +kernel
theorem d_200_71 : decode (bc 200) 71 = .ok (.getfield 89, 3) := by decide +kernel
theorem q_200_89 : fq 200 89 = some (10, 30, 38, 2, true) := by decide +kernel
theorem d_200_74 : decode (bc 200) 74 = .ok (.iload_n 1, 1) := by decide +kernel
theorem d_200_75 : decode (bc 200) 75 = .ok (.iaload, 1) := by decide +kernel
theorem d_200_76 : decode (bc 200) 76 = .ok (.bipush 43, 2) := by decide +kernel
theorem d_200_78 : decode (bc 200) 78 = .ok (.if_icmp .eq 8, 3) := by decide +kernel
theorem d_200_81 : decode (bc 200) 81 = .ok (.bipush (-10), 2) := by decide +kernel
theorem d_200_83 : decode (bc 200) 83 = .ok (.iload_n 1, 1) := by decide +kernel
theorem d_200_84 : decode (bc 200) 84 = .ok (.isub, 1) := by decide +kernel
theorem d_200_85 : decode (bc 200) 85 = .ok (.ireturn, 1) := by decide +kernel
theorem d_200_86 : decode (bc 200) 86 = .ok (.iinc 2 1, 3) := by decide +kernel
theorem d_200_89 : decode (bc 200) 89 = .ok (.iload_n 1, 1) := by decide +kernel
theorem d_200_90 : decode (bc 200) 90 = .ok (.aload_n 0, 1) := by decide +kernel
theorem d_200_91 : decode (bc 200) 91 = .ok (.getfield 276, 3) := by decide +kernel
theorem d_200_94 : decode (bc 200) 94 = .ok (.if_icmp .ge 7, 3) := by decide +kernel
theorem d_200_97 : decode (bc 200) 97 = .ok (.iconst 1, 1) := by decide +kernel
theorem d_200_98 : decode (bc 200) 98 = .ok (.goto 4, 3) := by decide +kernel
theorem d_200_101 : decode (bc 200) 101 = .ok (.iconst 0, 1) := by decide +kernel
theorem d_200_102 : decode (bc 200) 102 = .ok (.istore_n 3, 1) := by decide +kernel
theorem d_200_103 : decode (bc 200) 103 = .ok (.iinc 1 1, 3) := by decide +kernel
theorem d_200_106 : decode (bc 200) 106 = .ok (.goto (-100), 3) := by decide +kernel
theorem d_200_109 : decode (bc 200) 109 = .ok (.aload_n 0, 1) := by decide +kernel
theorem d_200_110 : decode (bc 200) 110 = .ok (.aload_n 0, 1) := by decide +kernel
theorem d_200_111 : decode (bc 200) 111 = .ok (.getfield 276, 3) := by decide +kernel
theorem d_200_114 : decode (bc 200) 114 = .ok (.putfield 95, 3) := by decide +kernel
theorem q_200_95 : fq 200 95 = some (10, 33, 38, 0, false) := by decide +kernel
theorem d_200_117 : decode (bc 200) 117 = .ok (.iconst 0, 1) := by decide +kernel
theorem d_200_118 : decode (bc 200) 118 = .ok (.istore 4, 2) := by decide +kernel
theorem d_200_120 : decode (bc 200) 120 = .ok (.iload 4, 2) := by decide +kernel
theorem d_200_122 : decode (bc 200) 122 = .ok (.aload_n 0, 1) := by decide +kernel
theorem d_200_123 : decode (bc 200) 123 = .ok (.getfield 276, 3) := by decide +kernel
theorem d_200_126 : decode (bc 200) 126 = .ok (.if_icmp .ge 23, 3) := by decide +kernel
theorem d_200_129 : decode (bc 200) 129 = .ok (.aload_n 0, 1) := by decide +kernel
theorem d_200_130 : decode (bc 200) 130 = .ok (.getfield 92, 3) := by decide +kernel
theorem q_200_92 : fq 200 92 = some (10, 32, 38, 2, true) := by decide +kernel
theorem d_200_133 : decode (bc 200) 133 = .ok (.iload 4, 2) := by decide +kernel
theorem d_200_135 : decode (bc 200) 135 = .ok (.aload_n 0, 1) := by decide +kernel
theorem d_200_136 : decode (bc 200) 136 = .ok (.getfield 89, 3) := by decide +kernel
theorem d_200_139 : decode (bc 200) 139 = .ok (.iload 4, 2) := by decide +kernel
theorem d_200_141 : decode (bc 200) 141 = .ok (.iaload, 1) := by decide +kernel
theorem d_200_142 : decode (bc 200) 142 = .ok (.iastore, 1) := by decide +kernel
theorem d_200_143 : decode (bc 200) 143 = .ok (.iinc 4 1, 3) := by decide +kernel
theorem d_200_146 : decode (bc 200) 146 = .ok (.goto (-26), 3) := by decide +kernel
theorem d_200_149 : decode (bc 200) 149 = .ok (.iload_n 2, 1) := by decide +kernel
theorem d_200_150 : decode (bc 200) 150 = .ok (.ireturn, 1) := by decide +kernel
theorem rt_200 : rty 200 = some .int := by decide +kernel
theorem mx_200 : mxl 200 = 6 := by decide +kernel
theorem ow_200 : (sta 200 = false ∧ own 200 = 10 ∧ hgt 200 = 2) := by decide +kernel
-- 201: SpunModulesModel.beginsTerm()V
theorem d_201_0 : decode (bc 201) 0 = .ok (.iconst 0, 1) := by decide +kernel
theorem d_201_1 : decode (bc 201) 1 = .ok (.istore_n 1, 1) := by decide +kernel
theorem d_201_2 : decode (bc 201) 2 = .ok (.iload_n 1, 1) := by decide +kernel
theorem d_201_3 : decode (bc 201) 3 = .ok (.bipush 36, 2) := by decide +kernel
theorem d_201_5 : decode (bc 201) 5 = .ok (.if_icmp .ge 31, 3) := by decide +kernel
theorem d_201_8 : decode (bc 201) 8 = .ok (.aload_n 0, 1) := by decide +kernel
theorem d_201_9 : decode (bc 201) 9 = .ok (.getfield 101, 3) := by decide +kernel
theorem q_201_101 : fq 201 101 = some (10, 35, 38, 2, true) := by decide +kernel
theorem d_201_12 : decode (bc 201) 12 = .ok (.iload_n 1, 1) := by decide +kernel
theorem d_201_13 : decode (bc 201) 13 = .ok (.iload_n 1, 1) := by decide +kernel
theorem d_201_14 : decode (bc 201) 14 = .ok (.bipush 6, 2) := by decide +kernel
theorem d_201_16 : decode (bc 201) 16 = .ok (.idiv, 1) := by decide +kernel
theorem d_201_17 : decode (bc 201) 17 = .ok (.iload_n 1, 1) := by decide +kernel
theorem d_201_18 : decode (bc 201) 18 = .ok (.bipush 6, 2) := by decide +kernel
theorem d_201_20 : decode (bc 201) 20 = .ok (.irem, 1) := by decide +kernel
theorem d_201_21 : decode (bc 201) 21 = .ok (.if_icmp .ne 7, 3) := by decide +kernel
theorem d_201_24 : decode (bc 201) 24 = .ok (.iconst 1, 1) := by decide +kernel
theorem d_201_25 : decode (bc 201) 25 = .ok (.goto 4, 3) := by decide +kernel
theorem d_201_28 : decode (bc 201) 28 = .ok (.iconst 0, 1) := by decide +kernel
theorem d_201_29 : decode (bc 201) 29 = .ok (.iastore, 1) := by decide +kernel
theorem d_201_30 : decode (bc 201) 30 = .ok (.iinc 1 1, 3) := by decide +kernel
theorem d_201_33 : decode (bc 201) 33 = .ok (.goto (-31), 3) := by decide +kernel
theorem d_201_36 : decode (bc 201) 36 = .ok (.return_, 1) := by decide +kernel
theorem rt_201 : rty 201 = none := by decide +kernel
theorem mx_201 : mxl 201 = 2 := by decide +kernel
theorem ow_201 : (sta 201 = false ∧ own 201 = 10 ∧ hgt 201 = 0) := by decide +kernel
-- 202: SpunModulesModel.goesOn(II)V
theorem d_202_0 : decode (bc 202) 0 = .ok (.aload_n 0, 1) := by decide +kernel
theorem d_202_1 : decode (bc 202) 1 = .ok (.getfield 17, 3) := by decide +kernel
theorem q_202_17 : fq 202 17 = some (10, 2, 38, 2, true) := by decide +kernel
theorem d_202_4 : decode (bc 202) 4 = .ok (.iload_n 1, 1) := by decide +kernel
theorem d_202_5 : decode (bc 202) 5 = .ok (.iaload, 1) := by decide +kernel
theorem d_202_6 : decode (bc 202) 6 = .ok (.istore_n 3, 1) := by decide +kernel
theorem d_202_7 : decode (bc 202) 7 = .ok (.iconst 0, 1) := by decide +kernel
theorem d_202_8 : decode (bc 202) 8 = .ok (.istore 4, 2) := by decide +kernel
theorem d_202_10 : decode (bc 202) 10 = .ok (.iload 4, 2) := by decide +kernel
theorem d_202_12 : decode (bc 202) 12 = .ok (.iload_n 3, 1) := by decide +kernel
theorem d_202_13 : decode (bc 202) 13 = .ok (.if_icmp .ge 95, 3) := by decide +kernel
theorem d_202_16 : decode (bc 202) 16 = .ok (.iconst 0, 1) := by decide +kernel
theorem d_202_17 : decode (bc 202) 17 = .ok (.istore 5, 2) := by decide +kernel
theorem d_202_19 : decode (bc 202) 19 = .ok (.iload 5, 2) := by decide +kernel
theorem d_202_21 : decode (bc 202) 21 = .ok (.iload_n 3, 1) := by decide +kernel
theorem d_202_22 : decode (bc 202) 22 = .ok (.if_icmp .ge 80, 3) := by decide +kernel
theorem d_202_25 : decode (bc 202) 25 = .ok (.iconst 0, 1) := by decide +kernel
theorem d_202_26 : decode (bc 202) 26 = .ok (.istore 6, 2) := by decide +kernel
theorem d_202_28 : decode (bc 202) 28 = .ok (.iconst 0, 1) := by decide +kernel
theorem d_202_29 : decode (bc 202) 29 = .ok (.istore 7, 2) := by decide +kernel
theorem d_202_31 : decode (bc 202) 31 = .ok (.iload 7, 2) := by decide +kernel
theorem d_202_33 : decode (bc 202) 33 = .ok (.iload_n 3, 1) := by decide +kernel
theorem d_202_34 : decode (bc 202) 34 = .ok (.if_icmp .ge 42, 3) := by decide +kernel
theorem d_202_37 : decode (bc 202) 37 = .ok (.iload 6, 2) := by decide +kernel
theorem d_202_39 : decode (bc 202) 39 = .ok (.aload_n 0, 1) := by decide +kernel
theorem d_202_40 : decode (bc 202) 40 = .ok (.getfield 101, 3) := by decide +kernel
theorem q_202_101 : fq 202 101 = some (10, 35, 38, 2, true) := by decide +kernel
theorem d_202_43 : decode (bc 202) 43 = .ok (.bipush 6, 2) := by decide +kernel
theorem d_202_45 : decode (bc 202) 45 = .ok (.iload 4, 2) := by decide +kernel
theorem d_202_47 : decode (bc 202) 47 = .ok (.imul, 1) := by decide +kernel
theorem d_202_48 : decode (bc 202) 48 = .ok (.iload 7, 2) := by decide +kernel
theorem d_202_50 : decode (bc 202) 50 = .ok (.iadd, 1) := by decide +kernel
theorem d_202_51 : decode (bc 202) 51 = .ok (.iaload, 1) := by decide +kernel
theorem d_202_52 : decode (bc 202) 52 = .ok (.aload_n 0, 1) := by decide +kernel
theorem d_202_53 : decode (bc 202) 53 = .ok (.getfield 20, 3) := by decide +kernel
theorem q_202_20 : fq 202 20 = some (10, 3, 38, 2, true) := by decide +kernel
theorem d_202_56 : decode (bc 202) 56 = .ok (.iload_n 1, 1) := by decide +kernel
theorem d_202_57 : decode (bc 202) 57 = .ok (.iload_n 2, 1) := by decide +kernel
theorem d_202_58 : decode (bc 202) 58 = .ok (.iload 7, 2) := by decide +kernel
theorem d_202_60 : decode (bc 202) 60 = .ok (.iload 5, 2) := by decide +kernel
theorem d_202_62 : decode (bc 202) 62 = .ok (.invokestatic 114, 3) := by decide +kernel
theorem q_202_114 : cq 202 114 [1, 4] = some (133, 4) := by decide +kernel
theorem d_202_65 : decode (bc 202) 65 = .ok (.iaload, 1) := by decide +kernel
theorem d_202_66 : decode (bc 202) 66 = .ok (.imul, 1) := by decide +kernel
theorem d_202_67 : decode (bc 202) 67 = .ok (.iadd, 1) := by decide +kernel
theorem d_202_68 : decode (bc 202) 68 = .ok (.istore 6, 2) := by decide +kernel
theorem d_202_70 : decode (bc 202) 70 = .ok (.iinc 7 1, 3) := by decide +kernel
theorem d_202_73 : decode (bc 202) 73 = .ok (.goto (-42), 3) := by decide +kernel
theorem d_202_76 : decode (bc 202) 76 = .ok (.aload_n 0, 1) := by decide +kernel
theorem d_202_77 : decode (bc 202) 77 = .ok (.getfield 104, 3) := by decide +kernel
theorem q_202_104 : fq 202 104 = some (10, 36, 38, 2, true) := by decide +kernel
theorem d_202_80 : decode (bc 202) 80 = .ok (.bipush 6, 2) := by decide +kernel
theorem d_202_82 : decode (bc 202) 82 = .ok (.iload 4, 2) := by decide +kernel
theorem d_202_84 : decode (bc 202) 84 = .ok (.imul, 1) := by decide +kernel
theorem d_202_85 : decode (bc 202) 85 = .ok (.iload 5, 2) := by decide +kernel
theorem d_202_87 : decode (bc 202) 87 = .ok (.iadd, 1) := by decide +kernel
theorem d_202_88 : decode (bc 202) 88 = .ok (.iload 6, 2) := by decide +kernel
theorem d_202_90 : decode (bc 202) 90 = .ok (.aload_n 0, 1) := by decide +kernel
theorem d_202_91 : decode (bc 202) 91 = .ok (.getfield 13, 3) := by decide +kernel
theorem q_202_13 : fq 202 13 = some (10, 1, 38, 0, false) := by decide +kernel
theorem d_202_94 : decode (bc 202) 94 = .ok (.irem, 1) := by decide +kernel
theorem d_202_95 : decode (bc 202) 95 = .ok (.iastore, 1) := by decide +kernel
theorem d_202_96 : decode (bc 202) 96 = .ok (.iinc 5 1, 3) := by decide +kernel
theorem d_202_99 : decode (bc 202) 99 = .ok (.goto (-80), 3) := by decide +kernel
theorem d_202_102 : decode (bc 202) 102 = .ok (.iinc 4 1, 3) := by decide +kernel
theorem d_202_105 : decode (bc 202) 105 = .ok (.goto (-95), 3) := by decide +kernel
theorem d_202_108 : decode (bc 202) 108 = .ok (.iconst 0, 1) := by decide +kernel
theorem d_202_109 : decode (bc 202) 109 = .ok (.istore 4, 2) := by decide +kernel
theorem d_202_111 : decode (bc 202) 111 = .ok (.iload 4, 2) := by decide +kernel
theorem d_202_113 : decode (bc 202) 113 = .ok (.bipush 36, 2) := by decide +kernel
theorem d_202_115 : decode (bc 202) 115 = .ok (.if_icmp .ge 45, 3) := by decide +kernel
theorem d_202_118 : decode (bc 202) 118 = .ok (.aload_n 0, 1) := by decide +kernel
theorem d_202_119 : decode (bc 202) 119 = .ok (.getfield 101, 3) := by decide +kernel
theorem d_202_122 : decode (bc 202) 122 = .ok (.iload 4, 2) := by decide +kernel
theorem d_202_124 : decode (bc 202) 124 = .ok (.iload 4, 2) := by decide +kernel
theorem d_202_126 : decode (bc 202) 126 = .ok (.bipush 6, 2) := by decide +kernel
theorem d_202_128 : decode (bc 202) 128 = .ok (.idiv, 1) := by decide +kernel
theorem d_202_129 : decode (bc 202) 129 = .ok (.iload_n 3, 1) := by decide +kernel
theorem d_202_130 : decode (bc 202) 130 = .ok (.if_icmp .ge 22, 3) := by decide +kernel
theorem d_202_133 : decode (bc 202) 133 = .ok (.iload 4, 2) := by decide +kernel
theorem d_202_135 : decode (bc 202) 135 = .ok (.bipush 6, 2) := by decide +kernel
theorem d_202_137 : decode (bc 202) 137 = .ok (.irem, 1) := by decide +kernel
theorem d_202_138 : decode (bc 202) 138 = .ok (.iload_n 3, 1) := by decide +kernel
theorem d_202_139 : decode (bc 202) 139 = .ok (.if_icmp .ge 13, 3) := by decide +kernel
theorem d_202_142 : decode (bc 202) 142 = .ok (.aload_n 0, 1) := by decide +kernel
theorem d_202_143 : decode (bc 202) 143 = .ok (.getfield 104, 3) := by decide +kernel
theorem d_202_146 : decode (bc 202) 146 = .ok (.iload 4, 2) := by decide +kernel
theorem d_202_148 : decode (bc 202) 148 = .ok (.iaload, 1) := by decide +kernel
theorem d_202_149 : decode (bc 202) 149 = .ok (.goto 4, 3) := by decide +kernel
theorem d_202_152 : decode (bc 202) 152 = .ok (.iconst 0, 1) := by decide +kernel
theorem d_202_153 : decode (bc 202) 153 = .ok (.iastore, 1) := by decide +kernel
theorem d_202_154 : decode (bc 202) 154 = .ok (.iinc 4 1, 3) := by decide +kernel
theorem d_202_157 : decode (bc 202) 157 = .ok (.goto (-46), 3) := by decide +kernel
theorem d_202_160 : decode (bc 202) 160 = .ok (.return_, 1) := by decide +kernel
theorem rt_202 : rty 202 = none := by decide +kernel
theorem mx_202 : mxl 202 = 8 := by decide +kernel
theorem ow_202 : (sta 202 = false ∧ own 202 = 10 ∧ hgt 202 = 1) := by decide +kernel
-- 203: SpunModulesModel.endsTerm(I)V
theorem d_203_0 : decode (bc 203) 0 = .ok (.iconst 0, 1) := by decide +kernel
theorem d_203_1 : decode (bc 203) 1 = .ok (.istore_n 2, 1) := by decide +kernel
theorem d_203_2 : decode (bc 203) 2 = .ok (.iload_n 2, 1) := by decide +kernel
theorem d_203_3 : decode (bc 203) 3 = .ok (.bipush 36, 2) := by decide +kernel
theorem d_203_5 : decode (bc 203) 5 = .ok (.if_icmp .ge 35, 3) := by decide +kernel
theorem d_203_8 : decode (bc 203) 8 = .ok (.aload_n 0, 1) := by decide +kernel
theorem d_203_9 : decode (bc 203) 9 = .ok (.getfield 98, 3) := by decide +kernel
theorem q_203_98 : fq 203 98 = some (10, 34, 38, 2, true) := by decide +kernel
theorem d_203_12 : decode (bc 203) 12 = .ok (.iload_n 2, 1) := by decide +kernel
theorem d_203_13 : decode (bc 203) 13 = .ok (.aload_n 0, 1) := by decide +kernel
theorem d_203_14 : decode (bc 203) 14 = .ok (.getfield 98, 3) := by decide +kernel
theorem d_203_17 : decode (bc 203) 17 = .ok (.iload_n 2, 1) := by decide +kernel
theorem d_203_18 : decode (bc 203) 18 = .ok (.iaload, 1) := by decide +kernel
theorem d_203_19 : decode (bc 203) 19 = .ok (.iload_n 1, 1) := by decide +kernel
theorem d_203_20 : decode (bc 203) 20 = .ok (.aload_n 0, 1) := by decide +kernel
theorem d_203_21 : decode (bc 203) 21 = .ok (.getfield 101, 3) := by decide +kernel
theorem q_203_101 : fq 203 101 = some (10, 35, 38, 2, true) := by decide +kernel
theorem d_203_24 : decode (bc 203) 24 = .ok (.iload_n 2, 1) := by decide +kernel
theorem d_203_25 : decode (bc 203) 25 = .ok (.iaload, 1) := by decide +kernel
theorem d_203_26 : decode (bc 203) 26 = .ok (.imul, 1) := by decide +kernel
theorem d_203_27 : decode (bc 203) 27 = .ok (.iadd, 1) := by decide +kernel
theorem d_203_28 : decode (bc 203) 28 = .ok (.aload_n 0, 1) := by decide +kernel
theorem d_203_29 : decode (bc 203) 29 = .ok (.getfield 13, 3) := by decide +kernel
theorem q_203_13 : fq 203 13 = some (10, 1, 38, 0, false) := by decide +kernel
theorem d_203_32 : decode (bc 203) 32 = .ok (.irem, 1) := by decide +kernel
theorem d_203_33 : decode (bc 203) 33 = .ok (.iastore, 1) := by decide +kernel
theorem d_203_34 : decode (bc 203) 34 = .ok (.iinc 2 1, 3) := by decide +kernel
theorem d_203_37 : decode (bc 203) 37 = .ok (.goto (-35), 3) := by decide +kernel
theorem d_203_40 : decode (bc 203) 40 = .ok (.return_, 1) := by decide +kernel
theorem rt_203 : rty 203 = none := by decide +kernel
theorem mx_203 : mxl 203 = 3 := by decide +kernel
theorem ow_203 : (sta 203 = false ∧ own 203 = 10 ∧ hgt 203 = 0) := by decide +kernel
-- 204: SpunModulesModel.tellsWord(I)V
theorem d_204_0 : decode (bc 204) 0 = .ok (.iconst 0, 1) := by decide +kernel
theorem d_204_1 : decode (bc 204) 1 = .ok (.istore_n 2, 1) := by decide +kernel
theorem d_204_2 : decode (bc 204) 2 = .ok (.iload_n 2, 1) := by decide +kernel
theorem d_204_3 : decode (bc 204) 3 = .ok (.bipush 36, 2) := by decide +kernel
theorem d_204_5 : decode (bc 204) 5 = .ok (.if_icmp .ge 16, 3) := by decide +kernel
theorem d_204_8 : decode (bc 204) 8 = .ok (.aload_n 0, 1) := by decide +kernel
theorem d_204_9 : decode (bc 204) 9 = .ok (.getfield 98, 3) := by decide +kernel
theorem q_204_98 : fq 204 98 = some (10, 34, 38, 2, true) := by decide +kernel
theorem d_204_12 : decode (bc 204) 12 = .ok (.iload_n 2, 1) := by decide +kernel
theorem d_204_13 : decode (bc 204) 13 = .ok (.iconst 0, 1) := by decide +kernel
theorem d_204_14 : decode (bc 204) 14 = .ok (.iastore, 1) := by decide +kernel
theorem d_204_15 : decode (bc 204) 15 = .ok (.iinc 2 1, 3) := by decide +kernel
theorem d_204_18 : decode (bc 204) 18 = .ok (.goto (-16), 3) := by decide +kernel
theorem d_204_21 : decode (bc 204) 21 = .ok (.aload_n 0, 1) := by decide +kernel
theorem d_204_22 : decode (bc 204) 22 = .ok (.invokevirtual 288, 3) := by decide +kernel
theorem q_204_288 : cq 204 288 [0, 3] = some (201, 1) := by decide +kernel
theorem d_204_25 : decode (bc 204) 25 = .ok (.iconst 1, 1) := by decide +kernel
theorem d_204_26 : decode (bc 204) 26 = .ok (.istore_n 2, 1) := by decide +kernel
theorem d_204_27 : decode (bc 204) 27 = .ok (.iconst 0, 1) := by decide +kernel
theorem d_204_28 : decode (bc 204) 28 = .ok (.istore_n 3, 1) := by decide +kernel
theorem d_204_29 : decode (bc 204) 29 = .ok (.iload_n 3, 1) := by decide +kernel
theorem d_204_30 : decode (bc 204) 30 = .ok (.aload_n 0, 1) := by decide +kernel
theorem d_204_31 : decode (bc 204) 31 = .ok (.getfield 95, 3) := by decide +kernel
theorem q_204_95 : fq 204 95 = some (10, 33, 38, 0, false) := by decide +kernel
theorem d_204_34 : decode (bc 204) 34 = .ok (.if_icmp .ge 71, 3) := by decide +kernel
theorem d_204_37 : decode (bc 204) 37 = .ok (.aload_n 0, 1) := by decide +kernel
theorem d_204_38 : decode (bc 204) 38 = .ok (.getfield 92, 3) := by decide +kernel
theorem q_204_92 : fq 204 92 = some (10, 32, 38, 2, true) := by decide +kernel
theorem d_204_41 : decode (bc 204) 41 = .ok (.iload_n 3, 1) := by decide +kernel
theorem d_204_42 : decode (bc 204) 42 = .ok (.iaload, 1) := by decide +kernel
theorem d_204_43 : decode (bc 204) 43 = .ok (.istore 4, 2) := by decide +kernel
theorem d_204_45 : decode (bc 204) 45 = .ok (.iload 4, 2) := by decide +kernel
theorem d_204_47 : decode (bc 204) 47 = .ok (.bipush 43, 2) := by decide +kernel
theorem d_204_49 : decode (bc 204) 49 = .ok (.if_icmp .ne 17, 3) := by decide +kernel
theorem d_204_52 : decode (bc 204) 52 = .ok (.aload_n 0, 1) := by decide +kernel
theorem d_204_53 : decode (bc 204) 53 = .ok (.iload_n 2, 1) := by decide +kernel
theorem d_204_54 : decode (bc 204) 54 = .ok (.invokevirtual 291, 3) := by decide +kernel
theorem q_204_291 : cq 204 291 [0, 3] = some (203, 2) := by decide +kernel
theorem d_204_57 : decode (bc 204) 57 = .ok (.aload_n 0, 1) := by decide +kernel
theorem d_204_58 : decode (bc 204) 58 = .ok (.invokevirtual 288, 3) := by decide +kernel
theorem d_204_61 : decode (bc 204) 61 = .ok (.iconst 1, 1) := by decide +kernel
theorem d_204_62 : decode (bc 204) 62 = .ok (.istore_n 2, 1) := by decide +kernel
theorem d_204_63 : decode (bc 204) 63 = .ok (.goto 36, 3) := by decide +kernel
theorem d_204_66 : decode (bc 204) 66 = .ok (.iload 4, 2) := by decide +kernel
theorem d_204_68 : decode (bc 204) 68 = .ok (.bipush 97, 2) := by decide +kernel
theorem d_204_70 : decode (bc 204) 70 = .ok (.if_icmp .eq 10, 3) := by decide +kernel
theorem d_204_73 : decode (bc 204) 73 = .ok (.iload 4, 2) := by decide +kernel
theorem d_204_75 : decode (bc 204) 75 = .ok (.bipush 98, 2) := by decide +kernel
theorem d_204_77 : decode (bc 204) 77 = .ok (.if_icmp .ne 16, 3) := by decide +kernel
theorem d_204_80 : decode (bc 204) 80 = .ok (.aload_n 0, 1) := by decide +kernel
theorem d_204_81 : decode (bc 204) 81 = .ok (.iload_n 1, 1) := by decide +kernel
theorem d_204_82 : decode (bc 204) 82 = .ok (.iload 4, 2) := by decide +kernel
theorem d_204_84 : decode (bc 204) 84 = .ok (.bipush 97, 2) := by decide +kernel
theorem d_204_86 : decode (bc 204) 86 = .ok (.isub, 1) := by decide +kernel
theorem d_204_87 : decode (bc 204) 87 = .ok (.invokevirtual 294, 3) := by decide +kernel
theorem q_204_294 : cq 204 294 [0, 3] = some (202, 3) := by decide +kernel
theorem d_204_90 : decode (bc 204) 90 = .ok (.goto 9, 3) := by decide +kernel
theorem d_204_93 : decode (bc 204) 93 = .ok (.iload 4, 2) := by decide +kernel
theorem d_204_95 : decode (bc 204) 95 = .ok (.bipush 48, 2) := by decide +kernel
theorem d_204_97 : decode (bc 204) 97 = .ok (.isub, 1) := by decide +kernel
theorem d_204_98 : decode (bc 204) 98 = .ok (.istore_n 2, 1) := by decide +kernel
theorem d_204_99 : decode (bc 204) 99 = .ok (.iinc 3 1, 3) := by decide +kernel
theorem d_204_102 : decode (bc 204) 102 = .ok (.goto (-73), 3) := by decide +kernel
theorem d_204_105 : decode (bc 204) 105 = .ok (.aload_n 0, 1) := by decide +kernel
theorem d_204_106 : decode (bc 204) 106 = .ok (.iload_n 2, 1) := by decide +kernel
theorem d_204_107 : decode (bc 204) 107 = .ok (.invokevirtual 291, 3) := by decide +kernel
theorem d_204_110 : decode (bc 204) 110 = .ok (.return_, 1) := by decide +kernel
theorem rt_204 : rty 204 = none := by decide +kernel
theorem mx_204 : mxl 204 = 5 := by decide +kernel
theorem ow_204 : (sta 204 = false ∧ own 204 = 10 ∧ hgt 204 = 2) := by decide +kernel
-- 205: SpunModulesModel.word(III)I
theorem d_205_0 : decode (bc 205) 0 = .ok (.iload_n 1, 1) := by decide +kernel
theorem d_205_1 : decode (bc 205) 1 = .ok (.invokestatic 178, 3) := by decide +kernel
theorem q_205_178 : cq 205 178 [1, 4] = some (138, 1) := by decide +kernel
theorem d_205_4 : decode (bc 205) 4 = .ok (.ifCond .eq 21, 3) := by decide +kernel
theorem d_205_7 : decode (bc 205) 7 = .ok (.aload_n 0, 1) := by decide +kernel
theorem d_205_8 : decode (bc 205) 8 = .ok (.iload_n 1, 1) := by decide +kernel
theorem d_205_9 : decode (bc 205) 9 = .ok (.iload_n 2, 1) := by decide +kernel
theorem d_205_10 : decode (bc 205) 10 = .ok (.invokevirtual 185, 3) := by decide +kernel
theorem q_205_185 : cq 205 185 [0, 3] = some (139, 3) := by decide +kernel
theorem d_205_13 : decode (bc 205) 13 = .ok (.ifCond .eq 12, 3) := by decide +kernel
theorem d_205_16 : decode (bc 205) 16 = .ok (.aload_n 0, 1) := by decide +kernel
theorem d_205_17 : decode (bc 205) 17 = .ok (.iload_n 1, 1) := by decide +kernel
theorem d_205_18 : decode (bc 205) 18 = .ok (.iload_n 3, 1) := by decide +kernel
theorem d_205_19 : decode (bc 205) 19 = .ok (.invokevirtual 185, 3) := by decide +kernel
theorem d_205_22 : decode (bc 205) 22 = .ok (.ifCond .ne 8, 3) := by decide +kernel
theorem d_205_25 : decode (bc 205) 25 = .ok (.aload_n 0, 1) := by decide +kernel
theorem d_205_26 : decode (bc 205) 26 = .ok (.invokevirtual 172, 3) := by decide +kernel
theorem q_205_172 : cq 205 172 [0, 3] = some (126, 1) := by decide +kernel
theorem d_205_29 : decode (bc 205) 29 = .ok (.ireturn, 1) := by decide +kernel
theorem d_205_30 : decode (bc 205) 30 = .ok (.aload_n 0, 1) := by decide +kernel
theorem d_205_31 : decode (bc 205) 31 = .ok (.iload_n 1, 1) := by decide +kernel
theorem d_205_32 : decode (bc 205) 32 = .ok (.invokevirtual 297, 3) := by decide +kernel
theorem q_205_297 : cq 205 297 [0, 3] = some (204, 2) := by decide +kernel
theorem d_205_35 : decode (bc 205) 35 = .ok (.aload_n 0, 1) := by decide +kernel
theorem d_205_36 : decode (bc 205) 36 = .ok (.getfield 98, 3) := by decide +kernel
theorem q_205_98 : fq 205 98 = some (10, 34, 38, 2, true) := by decide +kernel
theorem d_205_39 : decode (bc 205) 39 = .ok (.bipush 6, 2) := by decide +kernel
theorem d_205_41 : decode (bc 205) 41 = .ok (.iload_n 2, 1) := by decide +kernel
theorem d_205_42 : decode (bc 205) 42 = .ok (.imul, 1) := by decide +kernel
theorem d_205_43 : decode (bc 205) 43 = .ok (.iload_n 3, 1) := by decide +kernel
theorem d_205_44 : decode (bc 205) 44 = .ok (.iadd, 1) := by decide +kernel
theorem d_205_45 : decode (bc 205) 45 = .ok (.iaload, 1) := by decide +kernel
theorem d_205_46 : decode (bc 205) 46 = .ok (.ireturn, 1) := by decide +kernel
theorem rt_205 : rty 205 = some .int := by decide +kernel
theorem mx_205 : mxl 205 = 4 := by decide +kernel
theorem ow_205 : (sta 205 = false ∧ own 205 = 10 ∧ hgt 205 = 3) := by decide +kernel
-- 206: SpunModulesModel.isNull(II)Z
theorem d_206_0 : decode (bc 206) 0 = .ok (.iconst 1, 1) := by decide +kernel
theorem d_206_1 : decode (bc 206) 1 = .ok (.istore_n 3, 1) := by decide +kernel
theorem d_206_2 : decode (bc 206) 2 = .ok (.iconst 0, 1) := by decide +kernel
theorem d_206_3 : decode (bc 206) 3 = .ok (.istore 4, 2) := by decide +kernel
theorem d_206_5 : decode (bc 206) 5 = .ok (.iload 4, 2) := by decide +kernel
theorem d_206_7 : decode (bc 206) 7 = .ok (.iload_n 2, 1) := by decide +kernel
theorem d_206_8 : decode (bc 206) 8 = .ok (.if_icmp .ge 73, 3) := by decide +kernel
theorem d_206_11 : decode (bc 206) 11 = .ok (.iconst 0, 1) := by decide +kernel
theorem d_206_12 : decode (bc 206) 12 = .ok (.istore 5, 2) := by decide +kernel
theorem d_206_14 : decode (bc 206) 14 = .ok (.iconst 0, 1) := by decide +kernel
theorem d_206_15 : decode (bc 206) 15 = .ok (.istore 6, 2) := by decide +kernel
theorem d_206_17 : decode (bc 206) 17 = .ok (.iload 6, 2) := by decide +kernel
theorem d_206_19 : decode (bc 206) 19 = .ok (.iload_n 2, 1) := by decide +kernel
theorem d_206_20 : decode (bc 206) 20 = .ok (.if_icmp .ge 35, 3) := by decide +kernel
theorem d_206_23 : decode (bc 206) 23 = .ok (.iload 5, 2) := by decide +kernel
theorem d_206_25 : decode (bc 206) 25 = .ok (.aload_n 0, 1) := by decide +kernel
theorem d_206_26 : decode (bc 206) 26 = .ok (.iload_n 1, 1) := by decide +kernel
theorem d_206_27 : decode (bc 206) 27 = .ok (.iload 6, 2) := by decide +kernel
theorem d_206_29 : decode (bc 206) 29 = .ok (.invokevirtual 142, 3) := by decide +kernel
theorem q_206_142 : cq 206 142 [0, 3] = some (132, 3) := by decide +kernel
theorem d_206_32 : decode (bc 206) 32 = .ok (.aload_n 0, 1) := by decide +kernel
theorem d_206_33 : decode (bc 206) 33 = .ok (.getfield 98, 3) := by decide +kernel
theorem q_206_98 : fq 206 98 = some (10, 34, 38, 2, true) := by decide +kernel
theorem d_206_36 : decode (bc 206) 36 = .ok (.bipush 6, 2) := by decide +kernel
theorem d_206_38 : decode (bc 206) 38 = .ok (.iload 6, 2) := by decide +kernel
theorem d_206_40 : decode (bc 206) 40 = .ok (.imul, 1) := by decide +kernel
theorem d_206_41 : decode (bc 206) 41 = .ok (.iload 4, 2) := by decide +kernel
theorem d_206_43 : decode (bc 206) 43 = .ok (.iadd, 1) := by decide +kernel
theorem d_206_44 : decode (bc 206) 44 = .ok (.iaload, 1) := by decide +kernel
theorem d_206_45 : decode (bc 206) 45 = .ok (.imul, 1) := by decide +kernel
theorem d_206_46 : decode (bc 206) 46 = .ok (.iadd, 1) := by decide +kernel
theorem d_206_47 : decode (bc 206) 47 = .ok (.istore 5, 2) := by decide +kernel
theorem d_206_49 : decode (bc 206) 49 = .ok (.iinc 6 1, 3) := by decide +kernel
theorem d_206_52 : decode (bc 206) 52 = .ok (.goto (-35), 3) := by decide +kernel
theorem d_206_55 : decode (bc 206) 55 = .ok (.iload_n 3, 1) := by decide +kernel
theorem d_206_56 : decode (bc 206) 56 = .ok (.ifCond .eq 17, 3) := by decide +kernel
theorem d_206_59 : decode (bc 206) 59 = .ok (.iload 5, 2) := by decide +kernel
theorem d_206_61 : decode (bc 206) 61 = .ok (.aload_n 0, 1) := by decide +kernel
theorem d_206_62 : decode (bc 206) 62 = .ok (.getfield 13, 3) := by decide +kernel
theorem q_206_13 : fq 206 13 = some (10, 1, 38, 0, false) := by decide +kernel
theorem d_206_65 : decode (bc 206) 65 = .ok (.irem, 1) := by decide +kernel
theorem d_206_66 : decode (bc 206) 66 = .ok (.ifCond .ne 7, 3) := by decide +kernel
theorem d_206_69 : decode (bc 206) 69 = .ok (.iconst 1, 1) := by decide +kernel
theorem d_206_70 : decode (bc 206) 70 = .ok (.goto 4, 3) := by decide +kernel
theorem d_206_73 : decode (bc 206) 73 = .ok (.iconst 0, 1) := by decide +kernel
theorem d_206_74 : decode (bc 206) 74 = .ok (.istore_n 3, 1) := by decide +kernel
theorem d_206_75 : decode (bc 206) 75 = .ok (.iinc 4 1, 3) := by decide +kernel
theorem d_206_78 : decode (bc 206) 78 = .ok (.goto (-73), 3) := by decide +kernel
theorem d_206_81 : decode (bc 206) 81 = .ok (.iload_n 3, 1) := by decide +kernel
theorem d_206_82 : decode (bc 206) 82 = .ok (.ireturn, 1) := by decide +kernel
theorem rt_206 : rty 206 = some .boolean := by decide +kernel
theorem mx_206 : mxl 206 = 7 := by decide +kernel
theorem ow_206 : (sta 206 = false ∧ own 206 = 10 ∧ hgt 206 = 2) := by decide +kernel
-- 207: SpunModulesModel.nulls(II)I
theorem d_207_0 : decode (bc 207) 0 = .ok (.iload_n 1, 1) := by decide +kernel
theorem d_207_1 : decode (bc 207) 1 = .ok (.invokestatic 178, 3) := by decide +kernel
theorem q_207_178 : cq 207 178 [1, 4] = some (138, 1) := by decide +kernel
theorem d_207_4 : decode (bc 207) 4 = .ok (.ifCond .eq 12, 3) := by decide +kernel
theorem d_207_7 : decode (bc 207) 7 = .ok (.iload_n 2, 1) := by decide +kernel
theorem d_207_8 : decode (bc 207) 8 = .ok (.iconst 0, 1) := by decide +kernel
theorem d_207_9 : decode (bc 207) 9 = .ok (.iconst 2, 1) := by decide +kernel
theorem d_207_10 : decode (bc 207) 10 = .ok (.invokestatic 118, 3) := by decide +kernel
theorem q_207_118 : cq 207 118 [1, 4] = some (129, 3) := by decide +kernel
theorem d_207_13 : decode (bc 207) 13 = .ok (.ifCond .ne 8, 3) := by decide +kernel
theorem d_207_16 : decode (bc 207) 16 = .ok (.aload_n 0, 1) := by decide +kernel
theorem d_207_17 : decode (bc 207) 17 = .ok (.invokevirtual 172, 3) := by decide +kernel
theorem q_207_172 : cq 207 172 [0, 3] = some (126, 1) := by decide +kernel
theorem d_207_20 : decode (bc 207) 20 = .ok (.ireturn, 1) := by decide +kernel
theorem d_207_21 : decode (bc 207) 21 = .ok (.aload_n 0, 1) := by decide +kernel
theorem d_207_22 : decode (bc 207) 22 = .ok (.iload_n 1, 1) := by decide +kernel
theorem d_207_23 : decode (bc 207) 23 = .ok (.invokevirtual 297, 3) := by decide +kernel
theorem q_207_297 : cq 207 297 [0, 3] = some (204, 2) := by decide +kernel
theorem d_207_26 : decode (bc 207) 26 = .ok (.aload_n 0, 1) := by decide +kernel
theorem d_207_27 : decode (bc 207) 27 = .ok (.getfield 17, 3) := by decide +kernel
theorem q_207_17 : fq 207 17 = some (10, 2, 38, 2, true) := by decide +kernel
theorem d_207_30 : decode (bc 207) 30 = .ok (.iload_n 1, 1) := by decide +kernel
theorem d_207_31 : decode (bc 207) 31 = .ok (.iaload, 1) := by decide +kernel
theorem d_207_32 : decode (bc 207) 32 = .ok (.istore_n 3, 1) := by decide +kernel
theorem d_207_33 : decode (bc 207) 33 = .ok (.aload_n 0, 1) := by decide +kernel
theorem d_207_34 : decode (bc 207) 34 = .ok (.iload_n 3, 1) := by decide +kernel
theorem d_207_35 : decode (bc 207) 35 = .ok (.invokevirtual 110, 3) := by decide +kernel
theorem q_207_110 : cq 207 110 [0, 3] = some (131, 2) := by decide +kernel
theorem d_207_38 : decode (bc 207) 38 = .ok (.istore 4, 2) := by decide +kernel
theorem d_207_40 : decode (bc 207) 40 = .ok (.iconst 0, 1) := by decide +kernel
theorem d_207_41 : decode (bc 207) 41 = .ok (.istore 5, 2) := by decide +kernel
theorem d_207_43 : decode (bc 207) 43 = .ok (.iconst (-1), 1) := by decide +kernel
theorem d_207_44 : decode (bc 207) 44 = .ok (.istore 6, 2) := by decide +kernel
theorem d_207_46 : decode (bc 207) 46 = .ok (.aload_n 0, 1) := by decide +kernel
theorem d_207_47 : decode (bc 207) 47 = .ok (.invokevirtual 136, 3) := by decide +kernel
theorem q_207_136 : cq 207 136 [0, 3] = some (141, 1) := by decide +kernel
theorem d_207_50 : decode (bc 207) 50 = .ok (.iload 4, 2) := by decide +kernel
theorem d_207_52 : decode (bc 207) 52 = .ok (.iconst 1, 1) := by decide +kernel
theorem d_207_53 : decode (bc 207) 53 = .ok (.isub, 1) := by decide +kernel
theorem d_207_54 : decode (bc 207) 54 = .ok (.istore 7, 2) := by decide +kernel
theorem d_207_56 : decode (bc 207) 56 = .ok (.iload 7, 2) := by decide +kernel
theorem d_207_58 : decode (bc 207) 58 = .ok (.ifCond .lt 43, 3) := by decide +kernel
theorem d_207_61 : decode (bc 207) 61 = .ok (.aload_n 0, 1) := by decide +kernel
theorem d_207_62 : decode (bc 207) 62 = .ok (.iload 7, 2) := by decide +kernel
theorem d_207_64 : decode (bc 207) 64 = .ok (.iload_n 3, 1) := by decide +kernel
theorem d_207_65 : decode (bc 207) 65 = .ok (.invokevirtual 300, 3) := by decide +kernel
theorem q_207_300 : cq 207 300 [0, 3] = some (206, 3) := by decide +kernel
theorem d_207_68 : decode (bc 207) 68 = .ok (.ifCond .eq 27, 3) := by decide +kernel
theorem d_207_71 : decode (bc 207) 71 = .ok (.iinc 5 1, 3) := by decide +kernel
theorem d_207_74 : decode (bc 207) 74 = .ok (.iload 7, 2) := by decide +kernel
theorem d_207_76 : decode (bc 207) 76 = .ok (.ifCond .le 8, 3) := by decide +kernel
theorem d_207_79 : decode (bc 207) 79 = .ok (.iload 7, 2) := by decide +kernel
theorem d_207_81 : decode (bc 207) 81 = .ok (.goto 5, 3) := by decide +kernel
theorem d_207_84 : decode (bc 207) 84 = .ok (.iload 6, 2) := by decide +kernel
theorem d_207_86 : decode (bc 207) 86 = .ok (.istore 6, 2) := by decide +kernel
theorem d_207_88 : decode (bc 207) 88 = .ok (.aload_n 0, 1) := by decide +kernel
theorem d_207_89 : decode (bc 207) 89 = .ok (.iload_n 1, 1) := by decide +kernel
theorem d_207_90 : decode (bc 207) 90 = .ok (.iload 7, 2) := by decide +kernel
theorem d_207_92 : decode (bc 207) 92 = .ok (.invokevirtual 139, 3) := by decide +kernel
theorem q_207_139 : cq 207 139 [0, 3] = some (143, 3) := by decide +kernel
theorem d_207_95 : decode (bc 207) 95 = .ok (.iinc 7 (-1), 3) := by decide +kernel
theorem d_207_98 : decode (bc 207) 98 = .ok (.goto (-42), 3) := by decide +kernel
theorem d_207_101 : decode (bc 207) 101 = .ok (.iconst 0, 1) := by decide +kernel
theorem d_207_102 : decode (bc 207) 102 = .ok (.istore 7, 2) := by decide +kernel
theorem d_207_104 : decode (bc 207) 104 = .ok (.aload_n 0, 1) := by decide +kernel
theorem d_207_105 : decode (bc 207) 105 = .ok (.iload 7, 2) := by decide +kernel
theorem d_207_107 : decode (bc 207) 107 = .ok (.invokevirtual 110, 3) := by decide +kernel
theorem d_207_110 : decode (bc 207) 110 = .ok (.iload 5, 2) := by decide +kernel
theorem d_207_112 : decode (bc 207) 112 = .ok (.if_icmp .ge 9, 3) := by decide +kernel
theorem d_207_115 : decode (bc 207) 115 = .ok (.iinc 7 1, 3) := by decide +kernel
theorem d_207_118 : decode (bc 207) 118 = .ok (.goto (-14), 3) := by decide +kernel
theorem d_207_121 : decode (bc 207) 121 = .ok (.iload_n 2, 1) := by decide +kernel
theorem d_207_122 : decode (bc 207) 122 = .ok (.ifCond .ne 8, 3) := by decide +kernel
theorem d_207_125 : decode (bc 207) 125 = .ok (.iload 7, 2) := by decide +kernel
theorem d_207_127 : decode (bc 207) 127 = .ok (.goto 17, 3) := by decide +kernel
theorem d_207_130 : decode (bc 207) 130 = .ok (.iload_n 2, 1) := by decide +kernel
theorem d_207_131 : decode (bc 207) 131 = .ok (.iconst 1, 1) := by decide +kernel
theorem d_207_132 : decode (bc 207) 132 = .ok (.if_icmp .ne 8, 3) := by decide +kernel
theorem d_207_135 : decode (bc 207) 135 = .ok (.iload 6, 2) := by decide +kernel
theorem d_207_137 : decode (bc 207) 137 = .ok (.goto 7, 3) := by decide +kernel
theorem d_207_140 : decode (bc 207) 140 = .ok (.aload_n 0, 1) := by decide +kernel
theorem d_207_141 : decode (bc 207) 141 = .ok (.getfield 122, 3) := by decide +kernel
theorem q_207_122 : fq 207 122 = some (10, 7, 38, 0, false) := by decide +kernel
theorem d_207_144 : decode (bc 207) 144 = .ok (.ireturn, 1) := by decide +kernel
theorem rt_207 : rty 207 = some .int := by decide +kernel
theorem mx_207 : mxl 207 = 8 := by decide +kernel
theorem ow_207 : (sta 207 = false ∧ own 207 = 10 ∧ hgt 207 = 3) := by decide +kernel
-- 208: SpunModulesModel.ones(I)I
theorem d_208_0 : decode (bc 208) 0 = .ok (.iconst 0, 1) := by decide +kernel
theorem d_208_1 : decode (bc 208) 1 = .ok (.istore_n 1, 1) := by decide +kernel
theorem d_208_2 : decode (bc 208) 2 = .ok (.iconst 0, 1) := by decide +kernel
theorem d_208_3 : decode (bc 208) 3 = .ok (.istore_n 2, 1) := by decide +kernel
theorem d_208_4 : decode (bc 208) 4 = .ok (.iload_n 2, 1) := by decide +kernel
theorem d_208_5 : decode (bc 208) 5 = .ok (.bipush 6, 2) := by decide +kernel
theorem d_208_7 : decode (bc 208) 7 = .ok (.if_icmp .ge 17, 3) := by decide +kernel
theorem d_208_10 : decode (bc 208) 10 = .ok (.iload_n 1, 1) := by decide +kernel
theorem d_208_11 : decode (bc 208) 11 = .ok (.iload_n 0, 1) := by decide +kernel
theorem d_208_12 : decode (bc 208) 12 = .ok (.iload_n 2, 1) := by decide +kernel
theorem d_208_13 : decode (bc 208) 13 = .ok (.ishr, 1) := by decide +kernel
theorem d_208_14 : decode (bc 208) 14 = .ok (.iconst 1, 1) := by decide +kernel
theorem d_208_15 : decode (bc 208) 15 = .ok (.iand, 1) := by decide +kernel
theorem d_208_16 : decode (bc 208) 16 = .ok (.iadd, 1) := by decide +kernel
theorem d_208_17 : decode (bc 208) 17 = .ok (.istore_n 1, 1) := by decide +kernel
theorem d_208_18 : decode (bc 208) 18 = .ok (.iinc 2 1, 3) := by decide +kernel
theorem d_208_21 : decode (bc 208) 21 = .ok (.goto (-17), 3) := by decide +kernel
theorem d_208_24 : decode (bc 208) 24 = .ok (.iload_n 1, 1) := by decide +kernel
theorem d_208_25 : decode (bc 208) 25 = .ok (.ireturn, 1) := by decide +kernel
theorem rt_208 : rty 208 = some .int := by decide +kernel
theorem mx_208 : mxl 208 = 3 := by decide +kernel
theorem ow_208 : (sta 208 = true ∧ own 208 = 10 ∧ hgt 208 = 0) := by decide +kernel
-- 209: SpunModulesModel.rowOf(II)I
theorem d_209_0 : decode (bc 209) 0 = .ok (.iconst 0, 1) := by decide +kernel
theorem d_209_1 : decode (bc 209) 1 = .ok (.istore_n 2, 1) := by decide +kernel
theorem d_209_2 : decode (bc 209) 2 = .ok (.iload_n 0, 1) := by decide +kernel
theorem d_209_3 : decode (bc 209) 3 = .ok (.iload_n 2, 1) := by decide +kernel
theorem d_209_4 : decode (bc 209) 4 = .ok (.ishr, 1) := by decide +kernel
theorem d_209_5 : decode (bc 209) 5 = .ok (.iconst 1, 1) := by decide +kernel
theorem d_209_6 : decode (bc 209) 6 = .ok (.iand, 1) := by decide +kernel
theorem d_209_7 : decode (bc 209) 7 = .ok (.ifCond .eq 17, 3) := by decide +kernel
theorem d_209_10 : decode (bc 209) 10 = .ok (.iload_n 0, 1) := by decide +kernel
theorem d_209_11 : decode (bc 209) 11 = .ok (.iconst 1, 1) := by decide +kernel
theorem d_209_12 : decode (bc 209) 12 = .ok (.iload_n 2, 1) := by decide +kernel
theorem d_209_13 : decode (bc 209) 13 = .ok (.ishl, 1) := by decide +kernel
theorem d_209_14 : decode (bc 209) 14 = .ok (.iconst 1, 1) := by decide +kernel
theorem d_209_15 : decode (bc 209) 15 = .ok (.isub, 1) := by decide +kernel
theorem d_209_16 : decode (bc 209) 16 = .ok (.iand, 1) := by decide +kernel
theorem d_209_17 : decode (bc 209) 17 = .ok (.invokestatic 303, 3) := by decide +kernel
theorem q_209_303 : cq 209 303 [1, 4] = some (208, 1) := by decide +kernel
theorem d_209_20 : decode (bc 209) 20 = .ok (.iload_n 1, 1) := by decide +kernel
theorem d_209_21 : decode (bc 209) 21 = .ok (.if_icmp .ge 9, 3) := by decide +kernel
theorem d_209_24 : decode (bc 209) 24 = .ok (.iinc 2 1, 3) := by decide +kernel
theorem d_209_27 : decode (bc 209) 27 = .ok (.goto (-25), 3) := by decide +kernel
theorem d_209_30 : decode (bc 209) 30 = .ok (.iload_n 2, 1) := by decide +kernel
theorem d_209_31 : decode (bc 209) 31 = .ok (.ireturn, 1) := by decide +kernel
theorem rt_209 : rty 209 = some .int := by decide +kernel
theorem mx_209 : mxl 209 = 3 := by decide +kernel
theorem ow_209 : (sta 209 = true ∧ own 209 = 10 ∧ hgt 209 = 1) := by decide +kernel
-- 210: SpunModulesModel.minor(I)I
theorem d_210_0 : decode (bc 210) 0 = .ok (.aload_n 0, 1) := by decide +kernel
theorem d_210_1 : decode (bc 210) 1 = .ok (.getfield 107, 3) := by decide +kernel
theorem q_210_107 : fq 210 107 = some (10, 37, 38, 2, true) := by decide +kernel
theorem d_210_4 : decode (bc 210) 4 = .ok (.iconst 0, 1) := by decide +kernel
theorem d_210_5 : decode (bc 210) 5 = .ok (.iconst 1, 1) := by decide +kernel
theorem d_210_6 : decode (bc 210) 6 = .ok (.iastore, 1) := by decide +kernel
theorem d_210_7 : decode (bc 210) 7 = .ok (.iconst 1, 1) := by decide +kernel
theorem d_210_8 : decode (bc 210) 8 = .ok (.istore_n 2, 1) := by decide +kernel
theorem d_210_9 : decode (bc 210) 9 = .ok (.iload_n 2, 1) := by decide +kernel
theorem d_210_10 : decode (bc 210) 10 = .ok (.iload_n 1, 1) := by decide +kernel
theorem d_210_11 : decode (bc 210) 11 = .ok (.if_icmp .gt 131, 3) := by decide +kernel
theorem d_210_14 : decode (bc 210) 14 = .ok (.iload_n 2, 1) := by decide +kernel
theorem d_210_15 : decode (bc 210) 15 = .ok (.iload_n 1, 1) := by decide +kernel
theorem d_210_16 : decode (bc 210) 16 = .ok (.iconst (-1), 1) := by decide +kernel
theorem d_210_17 : decode (bc 210) 17 = .ok (.ixor, 1) := by decide +kernel
theorem d_210_18 : decode (bc 210) 18 = .ok (.iand, 1) := by decide +kernel
theorem d_210_19 : decode (bc 210) 19 = .ok (.ifCond .ne 117, 3) := by decide +kernel
theorem d_210_22 : decode (bc 210) 22 = .ok (.iload_n 1, 1) := by decide +kernel
theorem d_210_23 : decode (bc 210) 23 = .ok (.iload_n 2, 1) := by decide +kernel
theorem d_210_24 : decode (bc 210) 24 = .ok (.invokestatic 303, 3) := by decide +kernel
theorem q_210_303 : cq 210 303 [1, 4] = some (208, 1) := by decide +kernel
theorem d_210_27 : decode (bc 210) 27 = .ok (.iconst 1, 1) := by decide +kernel
theorem d_210_28 : decode (bc 210) 28 = .ok (.isub, 1) := by decide +kernel
theorem d_210_29 : decode (bc 210) 29 = .ok (.invokestatic 306, 3) := by decide +kernel
theorem q_210_306 : cq 210 306 [1, 4] = some (209, 2) := by decide +kernel
theorem d_210_32 : decode (bc 210) 32 = .ok (.istore_n 3, 1) := by decide +kernel
theorem d_210_33 : decode (bc 210) 33 = .ok (.iconst 0, 1) := by decide +kernel
theorem d_210_34 : decode (bc 210) 34 = .ok (.istore 4, 2) := by decide +kernel
theorem d_210_36 : decode (bc 210) 36 = .ok (.iconst 0, 1) := by decide +kernel
theorem d_210_37 : decode (bc 210) 37 = .ok (.istore 5, 2) := by decide +kernel
theorem d_210_39 : decode (bc 210) 39 = .ok (.iload 5, 2) := by decide +kernel
theorem d_210_41 : decode (bc 210) 41 = .ok (.bipush 6, 2) := by decide +kernel
theorem d_210_43 : decode (bc 210) 43 = .ok (.if_icmp .ge 80, 3) := by decide +kernel
theorem d_210_46 : decode (bc 210) 46 = .ok (.iload_n 2, 1) := by decide +kernel
theorem d_210_47 : decode (bc 210) 47 = .ok (.iload 5, 2) := by decide +kernel
theorem d_210_49 : decode (bc 210) 49 = .ok (.ishr, 1) := by decide +kernel
theorem d_210_50 : decode (bc 210) 50 = .ok (.iconst 1, 1) := by decide +kernel
theorem d_210_51 : decode (bc 210) 51 = .ok (.iand, 1) := by decide +kernel
theorem d_210_52 : decode (bc 210) 52 = .ok (.iconst 1, 1) := by decide +kernel
theorem d_210_53 : decode (bc 210) 53 = .ok (.if_icmp .ne 64, 3) := by decide +kernel
theorem d_210_56 : decode (bc 210) 56 = .ok (.aload_n 0, 1) := by decide +kernel
theorem d_210_57 : decode (bc 210) 57 = .ok (.getfield 98, 3) := by decide +kernel
theorem q_210_98 : fq 210 98 = some (10, 34, 38, 2, true) := by decide +kernel
theorem d_210_60 : decode (bc 210) 60 = .ok (.bipush 6, 2) := by decide +kernel
theorem d_210_62 : decode (bc 210) 62 = .ok (.iload_n 3, 1) := by decide +kernel
theorem d_210_63 : decode (bc 210) 63 = .ok (.imul, 1) := by decide +kernel
theorem d_210_64 : decode (bc 210) 64 = .ok (.iload 5, 2) := by decide +kernel
theorem d_210_66 : decode (bc 210) 66 = .ok (.iadd, 1) := by decide +kernel
theorem d_210_67 : decode (bc 210) 67 = .ok (.iaload, 1) := by decide +kernel
theorem d_210_68 : decode (bc 210) 68 = .ok (.aload_n 0, 1) := by decide +kernel
theorem d_210_69 : decode (bc 210) 69 = .ok (.getfield 107, 3) := by decide +kernel
theorem d_210_72 : decode (bc 210) 72 = .ok (.iload_n 2, 1) := by decide +kernel
theorem d_210_73 : decode (bc 210) 73 = .ok (.iconst 1, 1) := by decide +kernel
theorem d_210_74 : decode (bc 210) 74 = .ok (.iload 5, 2) := by decide +kernel
theorem d_210_76 : decode (bc 210) 76 = .ok (.ishl, 1) := by decide +kernel
theorem d_210_77 : decode (bc 210) 77 = .ok (.iconst (-1), 1) := by decide +kernel
theorem d_210_78 : decode (bc 210) 78 = .ok (.ixor, 1) := by decide +kernel
theorem d_210_79 : decode (bc 210) 79 = .ok (.iand, 1) := by decide +kernel
theorem d_210_80 : decode (bc 210) 80 = .ok (.iaload, 1) := by decide +kernel
theorem d_210_81 : decode (bc 210) 81 = .ok (.imul, 1) := by decide +kernel
theorem d_210_82 : decode (bc 210) 82 = .ok (.istore 6, 2) := by decide +kernel
theorem d_210_84 : decode (bc 210) 84 = .ok (.iload 4, 2) := by decide +kernel
theorem d_210_86 : decode (bc 210) 86 = .ok (.iload_n 2, 1) := by decide +kernel
theorem d_210_87 : decode (bc 210) 87 = .ok (.iload 5, 2) := by decide +kernel
theorem d_210_89 : decode (bc 210) 89 = .ok (.iconst 1, 1) := by decide +kernel
theorem d_210_90 : decode (bc 210) 90 = .ok (.iadd, 1) := by decide +kernel
theorem d_210_91 : decode (bc 210) 91 = .ok (.ishr, 1) := by decide +kernel
theorem d_210_92 : decode (bc 210) 92 = .ok (.invokestatic 303, 3) := by decide +kernel
theorem d_210_95 : decode (bc 210) 95 = .ok (.iconst 2, 1) := by decide +kernel
theorem d_210_96 : decode (bc 210) 96 = .ok (.irem, 1) := by decide +kernel
theorem d_210_97 : decode (bc 210) 97 = .ok (.ifCond .ne 8, 3) := by decide +kernel
theorem d_210_100 : decode (bc 210) 100 = .ok (.iload 6, 2) := by decide +kernel
theorem d_210_102 : decode (bc 210) 102 = .ok (.goto 12, 3) := by decide +kernel
theorem d_210_105 : decode (bc 210) 105 = .ok (.aload_n 0, 1) := by decide +kernel
theorem d_210_106 : decode (bc 210) 106 = .ok (.getfield 13, 3) := by decide +kernel
theorem q_210_13 : fq 210 13 = some (10, 1, 38, 0, false) := by decide +kernel
theorem d_210_109 : decode (bc 210) 109 = .ok (.iconst 1, 1) := by decide +kernel
theorem d_210_110 : decode (bc 210) 110 = .ok (.isub, 1) := by decide +kernel
theorem d_210_111 : decode (bc 210) 111 = .ok (.iload 6, 2) := by decide +kernel
theorem d_210_113 : decode (bc 210) 113 = .ok (.imul, 1) := by decide +kernel
theorem d_210_114 : decode (bc 210) 114 = .ok (.iadd, 1) := by decide +kernel
theorem d_210_115 : decode (bc 210) 115 = .ok (.istore 4, 2) := by decide +kernel
theorem d_210_117 : decode (bc 210) 117 = .ok (.iinc 5 1, 3) := by decide +kernel
theorem d_210_120 : decode (bc 210) 120 = .ok (.goto (-81), 3) := by decide +kernel
theorem d_210_123 : decode (bc 210) 123 = .ok (.aload_n 0, 1) := by decide +kernel
theorem d_210_124 : decode (bc 210) 124 = .ok (.getfield 107, 3) := by decide +kernel
theorem d_210_127 : decode (bc 210) 127 = .ok (.iload_n 2, 1) := by decide +kernel
theorem d_210_128 : decode (bc 210) 128 = .ok (.iload 4, 2) := by decide +kernel
theorem d_210_130 : decode (bc 210) 130 = .ok (.aload_n 0, 1) := by decide +kernel
theorem d_210_131 : decode (bc 210) 131 = .ok (.getfield 13, 3) := by decide +kernel
theorem d_210_134 : decode (bc 210) 134 = .ok (.irem, 1) := by decide +kernel
theorem d_210_135 : decode (bc 210) 135 = .ok (.iastore, 1) := by decide +kernel
theorem d_210_136 : decode (bc 210) 136 = .ok (.iinc 2 1, 3) := by decide +kernel
theorem d_210_139 : decode (bc 210) 139 = .ok (.goto (-130), 3) := by decide +kernel
theorem d_210_142 : decode (bc 210) 142 = .ok (.aload_n 0, 1) := by decide +kernel
theorem d_210_143 : decode (bc 210) 143 = .ok (.getfield 107, 3) := by decide +kernel
theorem d_210_146 : decode (bc 210) 146 = .ok (.iload_n 1, 1) := by decide +kernel
theorem d_210_147 : decode (bc 210) 147 = .ok (.iaload, 1) := by decide +kernel
theorem d_210_148 : decode (bc 210) 148 = .ok (.ireturn, 1) := by decide +kernel
theorem rt_210 : rty 210 = some .int := by decide +kernel
theorem mx_210 : mxl 210 = 7 := by decide +kernel
theorem ow_210 : (sta 210 = false ∧ own 210 = 10 ∧ hgt 210 = 2) := by decide +kernel
-- 211: SpunModulesModel.poly(II)I
theorem d_211_0 : decode (bc 211) 0 = .ok (.iload_n 1, 1) := by decide +kernel
theorem d_211_1 : decode (bc 211) 1 = .ok (.invokestatic 178, 3) := by decide +kernel
theorem q_211_178 : cq 211 178 [1, 4] = some (138, 1) := by decide +kernel
theorem d_211_4 : decode (bc 211) 4 = .ok (.ifCond .eq 17, 3) := by decide +kernel
theorem d_211_7 : decode (bc 211) 7 = .ok (.iload_n 2, 1) := by decide +kernel
theorem d_211_8 : decode (bc 211) 8 = .ok (.iconst 0, 1) := by decide +kernel
theorem d_211_9 : decode (bc 211) 9 = .ok (.aload_n 0, 1) := by decide +kernel
theorem d_211_10 : decode (bc 211) 10 = .ok (.getfield 17, 3) := by decide +kernel
theorem q_211_17 : fq 211 17 = some (10, 2, 38, 2, true) := by decide +kernel
theorem d_211_13 : decode (bc 211) 13 = .ok (.iload_n 1, 1) := by decide +kernel
theorem d_211_14 : decode (bc 211) 14 = .ok (.iaload, 1) := by decide +kernel
theorem d_211_15 : decode (bc 211) 15 = .ok (.invokestatic 118, 3) := by decide +kernel
theorem q_211_118 : cq 211 118 [1, 4] = some (129, 3) := by decide +kernel
theorem d_211_18 : decode (bc 211) 18 = .ok (.ifCond .ne 8, 3) := by decide +kernel
theorem d_211_21 : decode (bc 211) 21 = .ok (.aload_n 0, 1) := by decide +kernel
theorem d_211_22 : decode (bc 211) 22 = .ok (.invokevirtual 172, 3) := by decide +kernel
theorem q_211_172 : cq 211 172 [0, 3] = some (126, 1) := by decide +kernel
theorem d_211_25 : decode (bc 211) 25 = .ok (.ireturn, 1) := by decide +kernel
theorem d_211_26 : decode (bc 211) 26 = .ok (.aload_n 0, 1) := by decide +kernel
theorem d_211_27 : decode (bc 211) 27 = .ok (.iload_n 1, 1) := by decide +kernel
theorem d_211_28 : decode (bc 211) 28 = .ok (.invokevirtual 297, 3) := by decide +kernel
theorem q_211_297 : cq 211 297 [0, 3] = some (204, 2) := by decide +kernel
theorem d_211_31 : decode (bc 211) 31 = .ok (.aload_n 0, 1) := by decide +kernel
theorem d_211_32 : decode (bc 211) 32 = .ok (.getfield 17, 3) := by decide +kernel
theorem d_211_35 : decode (bc 211) 35 = .ok (.iload_n 1, 1) := by decide +kernel
theorem d_211_36 : decode (bc 211) 36 = .ok (.iaload, 1) := by decide +kernel
theorem d_211_37 : decode (bc 211) 37 = .ok (.istore_n 3, 1) := by decide +kernel
theorem d_211_38 : decode (bc 211) 38 = .ok (.iconst 0, 1) := by decide +kernel
theorem d_211_39 : decode (bc 211) 39 = .ok (.istore 4, 2) := by decide +kernel
theorem d_211_41 : decode (bc 211) 41 = .ok (.iconst 0, 1) := by decide +kernel
theorem d_211_42 : decode (bc 211) 42 = .ok (.istore 5, 2) := by decide +kernel
theorem d_211_44 : decode (bc 211) 44 = .ok (.iload 5, 2) := by decide +kernel
theorem d_211_46 : decode (bc 211) 46 = .ok (.iconst 1, 1) := by decide +kernel
theorem d_211_47 : decode (bc 211) 47 = .ok (.iload_n 3, 1) := by decide +kernel
theorem d_211_48 : decode (bc 211) 48 = .ok (.ishl, 1) := by decide +kernel
theorem d_211_49 : decode (bc 211) 49 = .ok (.if_icmp .ge 35, 3) := by decide +kernel
theorem d_211_52 : decode (bc 211) 52 = .ok (.iload 4, 2) := by decide +kernel
theorem d_211_54 : decode (bc 211) 54 = .ok (.iload 5, 2) := by decide +kernel
theorem d_211_56 : decode (bc 211) 56 = .ok (.invokestatic 303, 3) := by decide +kernel
theorem q_211_303 : cq 211 303 [1, 4] = some (208, 1) := by decide +kernel
theorem d_211_59 : decode (bc 211) 59 = .ok (.iload_n 3, 1) := by decide +kernel
theorem d_211_60 : decode (bc 211) 60 = .ok (.iload_n 2, 1) := by decide +kernel
theorem d_211_61 : decode (bc 211) 61 = .ok (.isub, 1) := by decide +kernel
theorem d_211_62 : decode (bc 211) 62 = .ok (.if_icmp .ne 12, 3) := by decide +kernel
theorem d_211_65 : decode (bc 211) 65 = .ok (.aload_n 0, 1) := by decide +kernel
theorem d_211_66 : decode (bc 211) 66 = .ok (.iload 5, 2) := by decide +kernel
theorem d_211_68 : decode (bc 211) 68 = .ok (.invokevirtual 309, 3) := by decide +kernel
theorem q_211_309 : cq 211 309 [0, 3] = some (210, 2) := by decide +kernel
theorem d_211_71 : decode (bc 211) 71 = .ok (.goto 4, 3) := by decide +kernel
theorem d_211_74 : decode (bc 211) 74 = .ok (.iconst 0, 1) := by decide +kernel
theorem d_211_75 : decode (bc 211) 75 = .ok (.iadd, 1) := by decide +kernel
theorem d_211_76 : decode (bc 211) 76 = .ok (.istore 4, 2) := by decide +kernel
theorem d_211_78 : decode (bc 211) 78 = .ok (.iinc 5 1, 3) := by decide +kernel
theorem d_211_81 : decode (bc 211) 81 = .ok (.goto (-37), 3) := by decide +kernel
theorem d_211_84 : decode (bc 211) 84 = .ok (.iload_n 3, 1) := by decide +kernel
theorem d_211_85 : decode (bc 211) 85 = .ok (.iload_n 2, 1) := by decide +kernel
theorem d_211_86 : decode (bc 211) 86 = .ok (.isub, 1) := by decide +kernel
theorem d_211_87 : decode (bc 211) 87 = .ok (.iconst 2, 1) := by decide +kernel
theorem d_211_88 : decode (bc 211) 88 = .ok (.irem, 1) := by decide +kernel
theorem d_211_89 : decode (bc 211) 89 = .ok (.ifCond .ne 13, 3) := by decide +kernel
theorem d_211_92 : decode (bc 211) 92 = .ok (.iload 4, 2) := by decide +kernel
theorem d_211_94 : decode (bc 211) 94 = .ok (.aload_n 0, 1) := by decide +kernel
theorem d_211_95 : decode (bc 211) 95 = .ok (.getfield 13, 3) := by decide +kernel
theorem q_211_13 : fq 211 13 = some (10, 1, 38, 0, false) := by decide +kernel
theorem d_211_98 : decode (bc 211) 98 = .ok (.irem, 1) := by decide +kernel
theorem d_211_99 : decode (bc 211) 99 = .ok (.goto 17, 3) := by decide +kernel
theorem d_211_102 : decode (bc 211) 102 = .ok (.aload_n 0, 1) := by decide +kernel
theorem d_211_103 : decode (bc 211) 103 = .ok (.getfield 13, 3) := by decide +kernel
theorem d_211_106 : decode (bc 211) 106 = .ok (.iconst 1, 1) := by decide +kernel
theorem d_211_107 : decode (bc 211) 107 = .ok (.isub, 1) := by decide +kernel
theorem d_211_108 : decode (bc 211) 108 = .ok (.iload 4, 2) := by decide +kernel
theorem d_211_110 : decode (bc 211) 110 = .ok (.imul, 1) := by decide +kernel
theorem d_211_111 : decode (bc 211) 111 = .ok (.aload_n 0, 1) := by decide +kernel
theorem d_211_112 : decode (bc 211) 112 = .ok (.getfield 13, 3) := by decide +kernel
theorem d_211_115 : decode (bc 211) 115 = .ok (.irem, 1) := by decide +kernel
theorem d_211_116 : decode (bc 211) 116 = .ok (.ireturn, 1) := by decide +kernel
theorem rt_211 : rty 211 = some .int := by decide +kernel
theorem mx_211 : mxl 211 = 6 := by decide +kernel
theorem ow_211 : (sta 211 = false ∧ own 211 = 10 ∧ hgt 211 = 3) := by decide +kernel
-- 212: SpunModulesModel.toldBy(I)I
theorem d_212_0 : decode (bc 212) 0 = .ok (.iload_n 1, 1) := by decide +kernel
theorem d_212_1 : decode (bc 212) 1 = .ok (.iconst 3, 1) := by decide +kernel
theorem d_212_2 : decode (bc 212) 2 = .ok (.if_icmp .ge 12, 3) := by decide +kernel
theorem d_212_5 : decode (bc 212) 5 = .ok (.aload_n 0, 1) := by decide +kernel
theorem d_212_6 : decode (bc 212) 6 = .ok (.getfield 7, 3) := by decide +kernel
theorem q_212_7 : fq 212 7 = some (10, 0, 38, 2, true) := by decide +kernel
theorem d_212_9 : decode (bc 212) 9 = .ok (.iload_n 1, 1) := by decide +kernel
theorem d_212_10 : decode (bc 212) 10 = .ok (.iaload, 1) := by decide +kernel
theorem d_212_11 : decode (bc 212) 11 = .ok (.goto 31, 3) := by decide +kernel
theorem d_212_14 : decode (bc 212) 14 = .ok (.iload_n 1, 1) := by decide +kernel
theorem d_212_15 : decode (bc 212) 15 = .ok (.iconst 3, 1) := by decide +kernel
theorem d_212_16 : decode (bc 212) 16 = .ok (.if_icmp .ne 10, 3) := by decide +kernel
theorem d_212_19 : decode (bc 212) 19 = .ok (.aload_n 0, 1) := by decide +kernel
theorem d_212_20 : decode (bc 212) 20 = .ok (.getfield 165, 3) := by decide +kernel
theorem q_212_165 : fq 212 165 = some (10, 13, 38, 0, false) := by decide +kernel
theorem d_212_23 : decode (bc 212) 23 = .ok (.goto 19, 3) := by decide +kernel
theorem d_212_26 : decode (bc 212) 26 = .ok (.iload_n 1, 1) := by decide +kernel
theorem d_212_27 : decode (bc 212) 27 = .ok (.iconst 4, 1) := by decide +kernel
theorem d_212_28 : decode (bc 212) 28 = .ok (.if_icmp .ne 10, 3) := by decide +kernel
theorem d_212_31 : decode (bc 212) 31 = .ok (.aload_n 0, 1) := by decide +kernel
theorem d_212_32 : decode (bc 212) 32 = .ok (.getfield 13, 3) := by decide +kernel
theorem q_212_13 : fq 212 13 = some (10, 1, 38, 0, false) := by decide +kernel
theorem d_212_35 : decode (bc 212) 35 = .ok (.goto 7, 3) := by decide +kernel
theorem d_212_38 : decode (bc 212) 38 = .ok (.aload_n 0, 1) := by decide +kernel
theorem d_212_39 : decode (bc 212) 39 = .ok (.getfield 276, 3) := by decide +kernel
theorem q_212_276 : fq 212 276 = some (10, 31, 38, 0, false) := by decide +kernel
theorem d_212_42 : decode (bc 212) 42 = .ok (.ireturn, 1) := by decide +kernel
theorem rt_212 : rty 212 = some .int := by decide +kernel
theorem mx_212 : mxl 212 = 2 := by decide +kernel
theorem ow_212 : (sta 212 = false ∧ own 212 = 10 ∧ hgt 212 = 0) := by decide +kernel
-- 213: SpunModulesModel.told(I)I
theorem d_213_0 : decode (bc 213) 0 = .ok (.iload_n 1, 1) := by decide +kernel
theorem d_213_1 : decode (bc 213) 1 = .ok (.iconst 0, 1) := by decide +kernel
theorem d_213_2 : decode (bc 213) 2 = .ok (.iconst 5, 1) := by decide +kernel
theorem d_213_3 : decode (bc 213) 3 = .ok (.invokestatic 118, 3) := by decide +kernel
theorem q_213_118 : cq 213 118 [1, 4] = some (129, 3) := by decide +kernel
theorem d_213_6 : decode (bc 213) 6 = .ok (.ifCond .eq 11, 3) := by decide +kernel
theorem d_213_9 : decode (bc 213) 9 = .ok (.aload_n 0, 1) := by decide +kernel
theorem d_213_10 : decode (bc 213) 10 = .ok (.iload_n 1, 1) := by decide +kernel
theorem d_213_11 : decode (bc 213) 11 = .ok (.invokevirtual 312, 3) := by decide +kernel
theorem q_213_312 : cq 213 312 [0, 3] = some (212, 2) := by decide +kernel
theorem d_213_14 : decode (bc 213) 14 = .ok (.goto 7, 3) := by decide +kernel
theorem d_213_17 : decode (bc 213) 17 = .ok (.aload_n 0, 1) := by decide +kernel
theorem d_213_18 : decode (bc 213) 18 = .ok (.invokevirtual 172, 3) := by decide +kernel
theorem q_213_172 : cq 213 172 [0, 3] = some (126, 1) := by decide +kernel
theorem d_213_21 : decode (bc 213) 21 = .ok (.ireturn, 1) := by decide +kernel
theorem rt_213 : rty 213 = some .int := by decide +kernel
theorem mx_213 : mxl 213 = 2 := by decide +kernel
theorem ow_213 : (sta 213 = false ∧ own 213 = 10 ∧ hgt 213 = 1) := by decide +kernel
-- 214: SpunModulesModel.digest()J
theorem d_214_0 : decode (bc 214) 0 = .ok (.ldc2_w 315, 3) := by decide +kernel
theorem q_214_315 : klk (own 214) 315 = some (10, 315, 1562, 1, 6133) := by decide +kernel
theorem d_214_3 : decode (bc 214) 3 = .ok (.lstore_n 1, 1) := by decide +kernel
theorem d_214_4 : decode (bc 214) 4 = .ok (.iconst 0, 1) := by decide +kernel
theorem d_214_5 : decode (bc 214) 5 = .ok (.istore_n 3, 1) := by decide +kernel
theorem d_214_6 : decode (bc 214) 6 = .ok (.iload_n 3, 1) := by decide +kernel
theorem d_214_7 : decode (bc 214) 7 = .ok (.bipush 6, 2) := by decide +kernel
theorem d_214_9 : decode (bc 214) 9 = .ok (.if_icmp .ge 22, 3) := by decide +kernel
theorem d_214_12 : decode (bc 214) 12 = .ok (.ldc2_w 317, 3) := by decide +kernel
theorem q_214_317 : klk (own 214) 317 = some (10, 317, 31, 1, 6134) := by decide +kernel
theorem d_214_15 : decode (bc 214) 15 = .ok (.lload_n 1, 1) := by decide +kernel
theorem d_214_16 : decode (bc 214) 16 = .ok (.lmul, 1) := by decide +kernel
theorem d_214_17 : decode (bc 214) 17 = .ok (.aload_n 0, 1) := by decide +kernel
theorem d_214_18 : decode (bc 214) 18 = .ok (.iload_n 3, 1) := by decide +kernel
theorem d_214_19 : decode (bc 214) 19 = .ok (.invokevirtual 312, 3) := by decide +kernel
theorem q_214_312 : cq 214 312 [0, 3] = some (212, 2) := by decide +kernel
theorem d_214_22 : decode (bc 214) 22 = .ok (.i2l, 1) := by decide +kernel
theorem d_214_23 : decode (bc 214) 23 = .ok (.ladd, 1) := by decide +kernel
theorem d_214_24 : decode (bc 214) 24 = .ok (.lstore_n 1, 1) := by decide +kernel
theorem d_214_25 : decode (bc 214) 25 = .ok (.iinc 3 1, 3) := by decide +kernel
theorem d_214_28 : decode (bc 214) 28 = .ok (.goto (-22), 3) := by decide +kernel
theorem d_214_31 : decode (bc 214) 31 = .ok (.iconst 0, 1) := by decide +kernel
theorem d_214_32 : decode (bc 214) 32 = .ok (.istore_n 3, 1) := by decide +kernel
theorem d_214_33 : decode (bc 214) 33 = .ok (.iload_n 3, 1) := by decide +kernel
theorem d_214_34 : decode (bc 214) 34 = .ok (.iconst 4, 1) := by decide +kernel
theorem d_214_35 : decode (bc 214) 35 = .ok (.if_icmp .ge 93, 3) := by decide +kernel
theorem d_214_38 : decode (bc 214) 38 = .ok (.aload_n 0, 1) := by decide +kernel
theorem d_214_39 : decode (bc 214) 39 = .ok (.getfield 17, 3) := by decide +kernel
theorem q_214_17 : fq 214 17 = some (10, 2, 38, 2, true) := by decide +kernel
theorem d_214_42 : decode (bc 214) 42 = .ok (.iload_n 3, 1) := by decide +kernel
theorem d_214_43 : decode (bc 214) 43 = .ok (.iaload, 1) := by decide +kernel
theorem d_214_44 : decode (bc 214) 44 = .ok (.istore 4, 2) := by decide +kernel
theorem d_214_46 : decode (bc 214) 46 = .ok (.ldc2_w 317, 3) := by decide +kernel
theorem d_214_49 : decode (bc 214) 49 = .ok (.lload_n 1, 1) := by decide +kernel
theorem d_214_50 : decode (bc 214) 50 = .ok (.lmul, 1) := by decide +kernel
theorem d_214_51 : decode (bc 214) 51 = .ok (.iload 4, 2) := by decide +kernel
theorem d_214_53 : decode (bc 214) 53 = .ok (.i2l, 1) := by decide +kernel
theorem d_214_54 : decode (bc 214) 54 = .ok (.ladd, 1) := by decide +kernel
theorem d_214_55 : decode (bc 214) 55 = .ok (.lstore_n 1, 1) := by decide +kernel
theorem d_214_56 : decode (bc 214) 56 = .ok (.iconst 0, 1) := by decide +kernel
theorem d_214_57 : decode (bc 214) 57 = .ok (.istore 5, 2) := by decide +kernel
theorem d_214_59 : decode (bc 214) 59 = .ok (.iload 5, 2) := by decide +kernel
theorem d_214_61 : decode (bc 214) 61 = .ok (.iconst 2, 1) := by decide +kernel
theorem d_214_62 : decode (bc 214) 62 = .ok (.iload 4, 2) := by decide +kernel
theorem d_214_64 : decode (bc 214) 64 = .ok (.imul, 1) := by decide +kernel
theorem d_214_65 : decode (bc 214) 65 = .ok (.iload 4, 2) := by decide +kernel
theorem d_214_67 : decode (bc 214) 67 = .ok (.imul, 1) := by decide +kernel
theorem d_214_68 : decode (bc 214) 68 = .ok (.if_icmp .ge 54, 3) := by decide +kernel
theorem d_214_71 : decode (bc 214) 71 = .ok (.iload 5, 2) := by decide +kernel
theorem d_214_73 : decode (bc 214) 73 = .ok (.iload 4, 2) := by decide +kernel
theorem d_214_75 : decode (bc 214) 75 = .ok (.iload 4, 2) := by decide +kernel
theorem d_214_77 : decode (bc 214) 77 = .ok (.imul, 1) := by decide +kernel
theorem d_214_78 : decode (bc 214) 78 = .ok (.irem, 1) := by decide +kernel
theorem d_214_79 : decode (bc 214) 79 = .ok (.istore 6, 2) := by decide +kernel
theorem d_214_81 : decode (bc 214) 81 = .ok (.ldc2_w 317, 3) := by decide +kernel
theorem d_214_84 : decode (bc 214) 84 = .ok (.lload_n 1, 1) := by decide +kernel
theorem d_214_85 : decode (bc 214) 85 = .ok (.lmul, 1) := by decide +kernel
theorem d_214_86 : decode (bc 214) 86 = .ok (.aload_n 0, 1) := by decide +kernel
theorem d_214_87 : decode (bc 214) 87 = .ok (.getfield 20, 3) := by decide +kernel
theorem q_214_20 : fq 214 20 = some (10, 3, 38, 2, true) := by decide +kernel
theorem d_214_90 : decode (bc 214) 90 = .ok (.iload_n 3, 1) := by decide +kernel
theorem d_214_91 : decode (bc 214) 91 = .ok (.iload 5, 2) := by decide +kernel
theorem d_214_93 : decode (bc 214) 93 = .ok (.iload 4, 2) := by decide +kernel
theorem d_214_95 : decode (bc 214) 95 = .ok (.iload 4, 2) := by decide +kernel
theorem d_214_97 : decode (bc 214) 97 = .ok (.imul, 1) := by decide +kernel
theorem d_214_98 : decode (bc 214) 98 = .ok (.idiv, 1) := by decide +kernel
theorem d_214_99 : decode (bc 214) 99 = .ok (.iload 6, 2) := by decide +kernel
theorem d_214_101 : decode (bc 214) 101 = .ok (.iload 4, 2) := by decide +kernel
theorem d_214_103 : decode (bc 214) 103 = .ok (.idiv, 1) := by decide +kernel
theorem d_214_104 : decode (bc 214) 104 = .ok (.iload 6, 2) := by decide +kernel
theorem d_214_106 : decode (bc 214) 106 = .ok (.iload 4, 2) := by decide +kernel
theorem d_214_108 : decode (bc 214) 108 = .ok (.irem, 1) := by decide +kernel
theorem d_214_109 : decode (bc 214) 109 = .ok (.invokestatic 114, 3) := by decide +kernel
theorem q_214_114 : cq 214 114 [1, 4] = some (133, 4) := by decide +kernel
theorem d_214_112 : decode (bc 214) 112 = .ok (.iaload, 1) := by decide +kernel
theorem d_214_113 : decode (bc 214) 113 = .ok (.i2l, 1) := by decide +kernel
theorem d_214_114 : decode (bc 214) 114 = .ok (.ladd, 1) := by decide +kernel
theorem d_214_115 : decode (bc 214) 115 = .ok (.lstore_n 1, 1) := by decide +kernel
theorem d_214_116 : decode (bc 214) 116 = .ok (.iinc 5 1, 3) := by decide +kernel
theorem d_214_119 : decode (bc 214) 119 = .ok (.goto (-60), 3) := by decide +kernel
theorem d_214_122 : decode (bc 214) 122 = .ok (.iinc 3 1, 3) := by decide +kernel
theorem d_214_125 : decode (bc 214) 125 = .ok (.goto (-92), 3) := by decide +kernel
theorem d_214_128 : decode (bc 214) 128 = .ok (.aload_n 0, 1) := by decide +kernel
theorem d_214_129 : decode (bc 214) 129 = .ok (.iconst 0, 1) := by decide +kernel
theorem d_214_130 : decode (bc 214) 130 = .ok (.invokevirtual 297, 3) := by decide +kernel
theorem q_214_297 : cq 214 297 [0, 3] = some (204, 2) := by decide +kernel
theorem d_214_133 : decode (bc 214) 133 = .ok (.aload_n 0, 1) := by decide +kernel
theorem d_214_134 : decode (bc 214) 134 = .ok (.getfield 17, 3) := by decide +kernel
theorem d_214_137 : decode (bc 214) 137 = .ok (.iconst 0, 1) := by decide +kernel
theorem d_214_138 : decode (bc 214) 138 = .ok (.iaload, 1) := by decide +kernel
theorem d_214_139 : decode (bc 214) 139 = .ok (.istore_n 3, 1) := by decide +kernel
theorem d_214_140 : decode (bc 214) 140 = .ok (.iconst 0, 1) := by decide +kernel
theorem d_214_141 : decode (bc 214) 141 = .ok (.istore 4, 2) := by decide +kernel
theorem d_214_143 : decode (bc 214) 143 = .ok (.iload 4, 2) := by decide +kernel
theorem d_214_145 : decode (bc 214) 145 = .ok (.iload_n 3, 1) := by decide +kernel
theorem d_214_146 : decode (bc 214) 146 = .ok (.iload_n 3, 1) := by decide +kernel
theorem d_214_147 : decode (bc 214) 147 = .ok (.imul, 1) := by decide +kernel
theorem d_214_148 : decode (bc 214) 148 = .ok (.if_icmp .ge 34, 3) := by decide +kernel
theorem d_214_151 : decode (bc 214) 151 = .ok (.ldc2_w 317, 3) := by decide +kernel
theorem d_214_154 : decode (bc 214) 154 = .ok (.lload_n 1, 1) := by decide +kernel
theorem d_214_155 : decode (bc 214) 155 = .ok (.lmul, 1) := by decide +kernel
theorem d_214_156 : decode (bc 214) 156 = .ok (.aload_n 0, 1) := by decide +kernel
theorem d_214_157 : decode (bc 214) 157 = .ok (.getfield 98, 3) := by decide +kernel
theorem q_214_98 : fq 214 98 = some (10, 34, 38, 2, true) := by decide +kernel
theorem d_214_160 : decode (bc 214) 160 = .ok (.bipush 6, 2) := by decide +kernel
theorem d_214_162 : decode (bc 214) 162 = .ok (.iload 4, 2) := by decide +kernel
theorem d_214_164 : decode (bc 214) 164 = .ok (.iload_n 3, 1) := by decide +kernel
theorem d_214_165 : decode (bc 214) 165 = .ok (.idiv, 1) := by decide +kernel
theorem d_214_166 : decode (bc 214) 166 = .ok (.imul, 1) := by decide +kernel
theorem d_214_167 : decode (bc 214) 167 = .ok (.iload 4, 2) := by decide +kernel
theorem d_214_169 : decode (bc 214) 169 = .ok (.iload_n 3, 1) := by decide +kernel
theorem d_214_170 : decode (bc 214) 170 = .ok (.irem, 1) := by decide +kernel
theorem d_214_171 : decode (bc 214) 171 = .ok (.iadd, 1) := by decide +kernel
theorem d_214_172 : decode (bc 214) 172 = .ok (.iaload, 1) := by decide +kernel
theorem d_214_173 : decode (bc 214) 173 = .ok (.i2l, 1) := by decide +kernel
theorem d_214_174 : decode (bc 214) 174 = .ok (.ladd, 1) := by decide +kernel
theorem d_214_175 : decode (bc 214) 175 = .ok (.lstore_n 1, 1) := by decide +kernel
theorem d_214_176 : decode (bc 214) 176 = .ok (.iinc 4 1, 3) := by decide +kernel
theorem d_214_179 : decode (bc 214) 179 = .ok (.goto (-36), 3) := by decide +kernel
theorem d_214_182 : decode (bc 214) 182 = .ok (.lload_n 1, 1) := by decide +kernel
theorem d_214_183 : decode (bc 214) 183 = .ok (.lreturn, 1) := by decide +kernel
theorem rt_214 : rty 214 = some .long := by decide +kernel
theorem mx_214 : mxl 214 = 7 := by decide +kernel
theorem ow_214 : (sta 214 = false ∧ own 214 = 10 ∧ hgt 214 = 3) := by decide +kernel
