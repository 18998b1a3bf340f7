/-! Instructions, fields and calls of the methods, by their numbers. -/
-- 74: SpunModules.begins(I)I
theorem d_74_0 : decode (bc 74) 0 = .ok (.iload_n 1, 1) := by decide +kernel
theorem d_74_1 : decode (bc 74) 1 = .ok (.iconst 2, 1) := by decide +kernel
theorem d_74_2 : decode (bc 74) 2 = .ok (.if_icmp .eq 15, 3) := by decide +kernel
theorem d_74_5 : decode (bc 74) 5 = .ok (.iload_n 1, 1) := by decide +kernel
theorem d_74_6 : decode (bc 74) 6 = .ok (.iconst 3, 1) := by decide +kernel
theorem d_74_7 : decode (bc 74) 7 = .ok (.if_icmp .eq 10, 3) := by decide +kernel
theorem d_74_10 : decode (bc 74) 10 = .ok (.aload_n 0, 1) := by decide +kernel
theorem d_74_11 : decode (bc 74) 11 = .ok (.bipush (-2), 2) := by decide +kernel
theorem d_74_13 : decode (bc 74) 13 = .ok (.invokevirtual 91, 3) := by decide +kernel
theorem q_74_91 : cq 74 91 [0, 3] = some (107, 2) := by decide +kernel
theorem d_74_16 : decode (bc 74) 16 = .ok (.ireturn, 1) := by decide +kernel
theorem d_74_17 : decode (bc 74) 17 = .ok (.aload_n 0, 1) := by decide +kernel
theorem d_74_18 : decode (bc 74) 18 = .ok (.getfield 39, 3) := by decide +kernel
theorem q_74_39 : fq 74 39 = some (9, 4, 14, 2, true) := by decide +kernel
theorem d_74_21 : decode (bc 74) 21 = .ok (.aload_n 0, 1) := by decide +kernel
theorem d_74_22 : decode (bc 74) 22 = .ok (.getfield 18, 3) := by decide +kernel
theorem q_74_18 : fq 74 18 = some (9, 1, 14, 2, true) := by decide +kernel
theorem d_74_25 : decode (bc 74) 25 = .ok (.invokevirtual 95, 3) := by decide +kernel
theorem q_74_95 : cq 74 95 [0, 3] = some (39, 2) := by decide +kernel
theorem d_74_28 : decode (bc 74) 28 = .ok (.aload_n 0, 1) := by decide +kernel
theorem d_74_29 : decode (bc 74) 29 = .ok (.getfield 10, 3) := by decide +kernel
theorem q_74_10 : fq 74 10 = some (9, 0, 14, 2, true) := by decide +kernel
theorem d_74_32 : decode (bc 74) 32 = .ok (.iload_n 1, 1) := by decide +kernel
theorem d_74_33 : decode (bc 74) 33 = .ok (.putfield 99, 3) := by decide +kernel
theorem q_74_99 : fq 74 99 = some (2, 0, 1, 0, false) := by decide +kernel
theorem d_74_36 : decode (bc 74) 36 = .ok (.iconst 0, 1) := by decide +kernel
theorem d_74_37 : decode (bc 74) 37 = .ok (.istore_n 2, 1) := by decide +kernel
theorem d_74_38 : decode (bc 74) 38 = .ok (.iload_n 2, 1) := by decide +kernel
theorem d_74_39 : decode (bc 74) 39 = .ok (.iconst 4, 1) := by decide +kernel
theorem d_74_40 : decode (bc 74) 40 = .ok (.if_icmp .ge 19, 3) := by decide +kernel
theorem d_74_43 : decode (bc 74) 43 = .ok (.aload_n 0, 1) := by decide +kernel
theorem d_74_44 : decode (bc 74) 44 = .ok (.getfield 18, 3) := by decide +kernel
theorem d_74_47 : decode (bc 74) 47 = .ok (.iload_n 2, 1) := by decide +kernel
theorem d_74_48 : decode (bc 74) 48 = .ok (.aaload, 1) := by decide +kernel
theorem d_74_49 : decode (bc 74) 49 = .ok (.iconst 1, 1) := by decide +kernel
theorem d_74_50 : decode (bc 74) 50 = .ok (.invokevirtual 102, 3) := by decide +kernel
theorem q_74_102 : cq 74 102 [0, 3] = some (1, 2) := by decide +kernel
theorem d_74_53 : decode (bc 74) 53 = .ok (.iinc 2 1, 3) := by decide +kernel
theorem d_74_56 : decode (bc 74) 56 = .ok (.goto (-18), 3) := by decide +kernel
theorem d_74_59 : decode (bc 74) 59 = .ok (.iload_n 1, 1) := by decide +kernel
theorem d_74_60 : decode (bc 74) 60 = .ok (.ireturn, 1) := by decide +kernel
theorem rt_74 : rty 74 = some .int := by decide +kernel
theorem mx_74 : mxl 74 = 3 := by decide +kernel
theorem ow_74 : (sta 74 = false ∧ own 74 = 9 ∧ hgt 74 = 3) := by decide +kernel
-- 75: SpunModules.sizes(II)I
theorem d_75_0 : decode (bc 75) 0 = .ok (.aload_n 0, 1) := by decide +kernel
theorem d_75_1 : decode (bc 75) 1 = .ok (.iload_n 1, 1) := by decide +kernel
theorem d_75_2 : decode (bc 75) 2 = .ok (.invokevirtual 106, 3) := by decide +kernel
theorem q_75_106 : cq 75 106 [0, 3] = some (109, 2) := by decide +kernel
theorem d_75_5 : decode (bc 75) 5 = .ok (.ifCond .eq 19, 3) := by decide +kernel
theorem d_75_8 : decode (bc 75) 8 = .ok (.iload_n 2, 1) := by decide +kernel
theorem d_75_9 : decode (bc 75) 9 = .ok (.iconst 1, 1) := by decide +kernel
theorem d_75_10 : decode (bc 75) 10 = .ok (.if_icmp .lt 14, 3) := by decide +kernel
theorem d_75_13 : decode (bc 75) 13 = .ok (.iload_n 2, 1) := by decide +kernel
theorem d_75_14 : decode (bc 75) 14 = .ok (.aload_n 0, 1) := by decide +kernel
theorem d_75_15 : decode (bc 75) 15 = .ok (.getfield 10, 3) := by decide +kernel
theorem q_75_10 : fq 75 10 = some (9, 0, 14, 2, true) := by decide +kernel
theorem d_75_18 : decode (bc 75) 18 = .ok (.invokevirtual 110, 3) := by decide +kernel
theorem q_75_110 : cq 75 110 [0, 3] = some (26, 1) := by decide +kernel
theorem d_75_21 : decode (bc 75) 21 = .ok (.if_icmp .le 10, 3) := by decide +kernel
theorem d_75_24 : decode (bc 75) 24 = .ok (.aload_n 0, 1) := by decide +kernel
theorem d_75_25 : decode (bc 75) 25 = .ok (.bipush (-2), 2) := by decide +kernel
theorem d_75_27 : decode (bc 75) 27 = .ok (.invokevirtual 91, 3) := by decide +kernel
theorem q_75_91 : cq 75 91 [0, 3] = some (107, 2) := by decide +kernel
theorem d_75_30 : decode (bc 75) 30 = .ok (.ireturn, 1) := by decide +kernel
theorem d_75_31 : decode (bc 75) 31 = .ok (.aload_n 0, 1) := by decide +kernel
theorem d_75_32 : decode (bc 75) 32 = .ok (.getfield 39, 3) := by decide +kernel
theorem q_75_39 : fq 75 39 = some (9, 4, 14, 2, true) := by decide +kernel
theorem d_75_35 : decode (bc 75) 35 = .ok (.aload_n 0, 1) := by decide +kernel
theorem d_75_36 : decode (bc 75) 36 = .ok (.getfield 18, 3) := by decide +kernel
theorem q_75_18 : fq 75 18 = some (9, 1, 14, 2, true) := by decide +kernel
theorem d_75_39 : decode (bc 75) 39 = .ok (.invokevirtual 95, 3) := by decide +kernel
theorem q_75_95 : cq 75 95 [0, 3] = some (39, 2) := by decide +kernel
theorem d_75_42 : decode (bc 75) 42 = .ok (.aload_n 0, 1) := by decide +kernel
theorem d_75_43 : decode (bc 75) 43 = .ok (.getfield 18, 3) := by decide +kernel
theorem d_75_46 : decode (bc 75) 46 = .ok (.iload_n 1, 1) := by decide +kernel
theorem d_75_47 : decode (bc 75) 47 = .ok (.aaload, 1) := by decide +kernel
theorem d_75_48 : decode (bc 75) 48 = .ok (.iload_n 2, 1) := by decide +kernel
theorem d_75_49 : decode (bc 75) 49 = .ok (.invokevirtual 102, 3) := by decide +kernel
theorem q_75_102 : cq 75 102 [0, 3] = some (1, 2) := by decide +kernel
theorem d_75_52 : decode (bc 75) 52 = .ok (.iload_n 2, 1) := by decide +kernel
theorem d_75_53 : decode (bc 75) 53 = .ok (.ireturn, 1) := by decide +kernel
theorem rt_75 : rty 75 = some .int := by decide +kernel
theorem mx_75 : mxl 75 = 3 := by decide +kernel
theorem ow_75 : (sta 75 = false ∧ own 75 = 9 ∧ hgt 75 = 3) := by decide +kernel
-- 76: SpunModules.sets(IIIII)I
theorem d_76_0 : decode (bc 76) 0 = .ok (.aload_n 0, 1) := by decide +kernel
theorem d_76_1 : decode (bc 76) 1 = .ok (.iload_n 1, 1) := by decide +kernel
theorem d_76_2 : decode (bc 76) 2 = .ok (.iload_n 2, 1) := by decide +kernel
theorem d_76_3 : decode (bc 76) 3 = .ok (.iload_n 3, 1) := by decide +kernel
theorem d_76_4 : decode (bc 76) 4 = .ok (.iload 4, 2) := by decide +kernel
theorem d_76_6 : decode (bc 76) 6 = .ok (.invokevirtual 114, 3) := by decide +kernel
theorem q_76_114 : cq 76 114 [0, 3] = some (113, 5) := by decide +kernel
theorem d_76_9 : decode (bc 76) 9 = .ok (.ifCond .eq 12, 3) := by decide +kernel
theorem d_76_12 : decode (bc 76) 12 = .ok (.aload_n 0, 1) := by decide +kernel
theorem d_76_13 : decode (bc 76) 13 = .ok (.iload 5, 2) := by decide +kernel
theorem d_76_15 : decode (bc 76) 15 = .ok (.invokevirtual 118, 3) := by decide +kernel
theorem q_76_118 : cq 76 118 [0, 3] = some (111, 2) := by decide +kernel
theorem d_76_18 : decode (bc 76) 18 = .ok (.ifCond .ne 10, 3) := by decide +kernel
theorem d_76_21 : decode (bc 76) 21 = .ok (.aload_n 0, 1) := by decide +kernel
theorem d_76_22 : decode (bc 76) 22 = .ok (.bipush (-2), 2) := by decide +kernel
theorem d_76_24 : decode (bc 76) 24 = .ok (.invokevirtual 91, 3) := by decide +kernel
theorem q_76_91 : cq 76 91 [0, 3] = some (107, 2) := by decide +kernel
theorem d_76_27 : decode (bc 76) 27 = .ok (.ireturn, 1) := by decide +kernel
theorem d_76_28 : decode (bc 76) 28 = .ok (.aload_n 0, 1) := by decide +kernel
theorem d_76_29 : decode (bc 76) 29 = .ok (.getfield 39, 3) := by decide +kernel
theorem q_76_39 : fq 76 39 = some (9, 4, 14, 2, true) := by decide +kernel
theorem d_76_32 : decode (bc 76) 32 = .ok (.aload_n 0, 1) := by decide +kernel
theorem d_76_33 : decode (bc 76) 33 = .ok (.getfield 18, 3) := by decide +kernel
theorem q_76_18 : fq 76 18 = some (9, 1, 14, 2, true) := by decide +kernel
theorem d_76_36 : decode (bc 76) 36 = .ok (.invokevirtual 95, 3) := by decide +kernel
theorem q_76_95 : cq 76 95 [0, 3] = some (39, 2) := by decide +kernel
theorem d_76_39 : decode (bc 76) 39 = .ok (.aload_n 0, 1) := by decide +kernel
theorem d_76_40 : decode (bc 76) 40 = .ok (.getfield 18, 3) := by decide +kernel
theorem d_76_43 : decode (bc 76) 43 = .ok (.iload_n 1, 1) := by decide +kernel
theorem d_76_44 : decode (bc 76) 44 = .ok (.aaload, 1) := by decide +kernel
theorem d_76_45 : decode (bc 76) 45 = .ok (.iload_n 2, 1) := by decide +kernel
theorem d_76_46 : decode (bc 76) 46 = .ok (.iload_n 3, 1) := by decide +kernel
theorem d_76_47 : decode (bc 76) 47 = .ok (.iload 4, 2) := by decide +kernel
theorem d_76_49 : decode (bc 76) 49 = .ok (.invokevirtual 121, 3) := by decide +kernel
theorem q_76_121 : cq 76 121 [0, 3] = some (3, 4) := by decide +kernel
theorem d_76_52 : decode (bc 76) 52 = .ok (.istore 6, 2) := by decide +kernel
theorem d_76_54 : decode (bc 76) 54 = .ok (.aload_n 0, 1) := by decide +kernel
theorem d_76_55 : decode (bc 76) 55 = .ok (.getfield 18, 3) := by decide +kernel
theorem d_76_58 : decode (bc 76) 58 = .ok (.iload_n 1, 1) := by decide +kernel
theorem d_76_59 : decode (bc 76) 59 = .ok (.aaload, 1) := by decide +kernel
theorem d_76_60 : decode (bc 76) 60 = .ok (.iload_n 2, 1) := by decide +kernel
theorem d_76_61 : decode (bc 76) 61 = .ok (.iload_n 3, 1) := by decide +kernel
theorem d_76_62 : decode (bc 76) 62 = .ok (.iload 4, 2) := by decide +kernel
theorem d_76_64 : decode (bc 76) 64 = .ok (.iload 5, 2) := by decide +kernel
theorem d_76_66 : decode (bc 76) 66 = .ok (.invokevirtual 125, 3) := by decide +kernel
theorem q_76_125 : cq 76 125 [0, 3] = some (4, 5) := by decide +kernel
theorem d_76_69 : decode (bc 76) 69 = .ok (.iload 6, 2) := by decide +kernel
theorem d_76_71 : decode (bc 76) 71 = .ok (.ireturn, 1) := by decide +kernel
theorem rt_76 : rty 76 = some .int := by decide +kernel
theorem mx_76 : mxl 76 = 7 := by decide +kernel
theorem ow_76 : (sta 76 = false ∧ own 76 = 9 ∧ hgt 76 = 3) := by decide +kernel
-- 77: SpunModules.draws(II)I
theorem d_77_0 : decode (bc 77) 0 = .ok (.aload_n 0, 1) := by decide +kernel
theorem d_77_1 : decode (bc 77) 1 = .ok (.iload_n 1, 1) := by decide +kernel
theorem d_77_2 : decode (bc 77) 2 = .ok (.invokevirtual 106, 3) := by decide +kernel
theorem q_77_106 : cq 77 106 [0, 3] = some (109, 2) := by decide +kernel
theorem d_77_5 : decode (bc 77) 5 = .ok (.ifCond .eq 13, 3) := by decide +kernel
theorem d_77_8 : decode (bc 77) 8 = .ok (.iload_n 2, 1) := by decide +kernel
theorem d_77_9 : decode (bc 77) 9 = .ok (.ifCond .lt 9, 3) := by decide +kernel
theorem d_77_12 : decode (bc 77) 12 = .ok (.iload_n 2, 1) := by decide +kernel
theorem d_77_13 : decode (bc 77) 13 = .ok (.ldc 129, 2) := by decide +kernel
theorem q_77_129 : klk (own 77) 129 = some (9, 129, 999999, 0, 2139) := by decide +kernel
theorem d_77_15 : decode (bc 77) 15 = .ok (.if_icmp .le 10, 3) := by decide +kernel
theorem d_77_18 : decode (bc 77) 18 = .ok (.aload_n 0, 1) := by decide +kernel
theorem d_77_19 : decode (bc 77) 19 = .ok (.bipush (-2), 2) := by decide +kernel
theorem d_77_21 : decode (bc 77) 21 = .ok (.invokevirtual 91, 3) := by decide +kernel
theorem q_77_91 : cq 77 91 [0, 3] = some (107, 2) := by decide +kernel
theorem d_77_24 : decode (bc 77) 24 = .ok (.ireturn, 1) := by decide +kernel
theorem d_77_25 : decode (bc 77) 25 = .ok (.aload_n 0, 1) := by decide +kernel
theorem d_77_26 : decode (bc 77) 26 = .ok (.getfield 39, 3) := by decide +kernel
theorem q_77_39 : fq 77 39 = some (9, 4, 14, 2, true) := by decide +kernel
theorem d_77_29 : decode (bc 77) 29 = .ok (.aload_n 0, 1) := by decide +kernel
theorem d_77_30 : decode (bc 77) 30 = .ok (.getfield 18, 3) := by decide +kernel
theorem q_77_18 : fq 77 18 = some (9, 1, 14, 2, true) := by decide +kernel
theorem d_77_33 : decode (bc 77) 33 = .ok (.invokevirtual 95, 3) := by decide +kernel
theorem q_77_95 : cq 77 95 [0, 3] = some (39, 2) := by decide +kernel
theorem d_77_36 : decode (bc 77) 36 = .ok (.aload_n 0, 1) := by decide +kernel
theorem d_77_37 : decode (bc 77) 37 = .ok (.getfield 18, 3) := by decide +kernel
theorem d_77_40 : decode (bc 77) 40 = .ok (.iload_n 1, 1) := by decide +kernel
theorem d_77_41 : decode (bc 77) 41 = .ok (.aaload, 1) := by decide +kernel
theorem d_77_42 : decode (bc 77) 42 = .ok (.iload_n 2, 1) := by decide +kernel
theorem d_77_43 : decode (bc 77) 43 = .ok (.invokevirtual 130, 3) := by decide +kernel
theorem q_77_130 : cq 77 130 [0, 3] = some (6, 2) := by decide +kernel
theorem d_77_46 : decode (bc 77) 46 = .ok (.ireturn, 1) := by decide +kernel
theorem rt_77 : rty 77 = some .int := by decide +kernel
theorem mx_77 : mxl 77 = 3 := by decide +kernel
theorem ow_77 : (sta 77 = false ∧ own 77 = 9 ∧ hgt 77 = 3) := by decide +kernel
-- 78: SpunModules.turns(IIII)I
theorem d_78_0 : decode (bc 78) 0 = .ok (.aload_n 0, 1) := by decide +kernel
theorem d_78_1 : decode (bc 78) 1 = .ok (.iload_n 1, 1) := by decide +kernel
theorem d_78_2 : decode (bc 78) 2 = .ok (.iload_n 2, 1) := by decide +kernel
theorem d_78_3 : decode (bc 78) 3 = .ok (.invokevirtual 133, 3) := by decide +kernel
theorem q_78_133 : cq 78 133 [0, 3] = some (112, 3) := by decide +kernel
theorem d_78_6 : decode (bc 78) 6 = .ok (.ifCond .eq 26, 3) := by decide +kernel
theorem d_78_9 : decode (bc 78) 9 = .ok (.aload_n 0, 1) := by decide +kernel
theorem d_78_10 : decode (bc 78) 10 = .ok (.iload_n 1, 1) := by decide +kernel
theorem d_78_11 : decode (bc 78) 11 = .ok (.iload_n 3, 1) := by decide +kernel
theorem d_78_12 : decode (bc 78) 12 = .ok (.invokevirtual 133, 3) := by decide +kernel
theorem d_78_15 : decode (bc 78) 15 = .ok (.ifCond .eq 17, 3) := by decide +kernel
theorem d_78_18 : decode (bc 78) 18 = .ok (.iload_n 2, 1) := by decide +kernel
theorem d_78_19 : decode (bc 78) 19 = .ok (.iload_n 3, 1) := by decide +kernel
theorem d_78_20 : decode (bc 78) 20 = .ok (.if_icmp .eq 12, 3) := by decide +kernel
theorem d_78_23 : decode (bc 78) 23 = .ok (.aload_n 0, 1) := by decide +kernel
theorem d_78_24 : decode (bc 78) 24 = .ok (.iload 4, 2) := by decide +kernel
theorem d_78_26 : decode (bc 78) 26 = .ok (.invokevirtual 118, 3) := by decide +kernel
theorem q_78_118 : cq 78 118 [0, 3] = some (111, 2) := by decide +kernel
theorem d_78_29 : decode (bc 78) 29 = .ok (.ifCond .ne 10, 3) := by decide +kernel
theorem d_78_32 : decode (bc 78) 32 = .ok (.aload_n 0, 1) := by decide +kernel
theorem d_78_33 : decode (bc 78) 33 = .ok (.bipush (-2), 2) := by decide +kernel
theorem d_78_35 : decode (bc 78) 35 = .ok (.invokevirtual 91, 3) := by decide +kernel
theorem q_78_91 : cq 78 91 [0, 3] = some (107, 2) := by decide +kernel
theorem d_78_38 : decode (bc 78) 38 = .ok (.ireturn, 1) := by decide +kernel
theorem d_78_39 : decode (bc 78) 39 = .ok (.aload_n 0, 1) := by decide +kernel
theorem d_78_40 : decode (bc 78) 40 = .ok (.getfield 39, 3) := by decide +kernel
theorem q_78_39 : fq 78 39 = some (9, 4, 14, 2, true) := by decide +kernel
theorem d_78_43 : decode (bc 78) 43 = .ok (.aload_n 0, 1) := by decide +kernel
theorem d_78_44 : decode (bc 78) 44 = .ok (.getfield 18, 3) := by decide +kernel
theorem q_78_18 : fq 78 18 = some (9, 1, 14, 2, true) := by decide +kernel
theorem d_78_47 : decode (bc 78) 47 = .ok (.invokevirtual 95, 3) := by decide +kernel
theorem q_78_95 : cq 78 95 [0, 3] = some (39, 2) := by decide +kernel
theorem d_78_50 : decode (bc 78) 50 = .ok (.aload_n 0, 1) := by decide +kernel
theorem d_78_51 : decode (bc 78) 51 = .ok (.getfield 25, 3) := by decide +kernel
theorem q_78_25 : fq 78 25 = some (9, 2, 14, 2, true) := by decide +kernel
theorem d_78_54 : decode (bc 78) 54 = .ok (.aload_n 0, 1) := by decide +kernel
theorem d_78_55 : decode (bc 78) 55 = .ok (.getfield 18, 3) := by decide +kernel
theorem d_78_58 : decode (bc 78) 58 = .ok (.iload_n 1, 1) := by decide +kernel
theorem d_78_59 : decode (bc 78) 59 = .ok (.aaload, 1) := by decide +kernel
theorem d_78_60 : decode (bc 78) 60 = .ok (.invokevirtual 137, 3) := by decide +kernel
theorem q_78_137 : cq 78 137 [0, 3] = some (2, 2) := by decide +kernel
theorem d_78_63 : decode (bc 78) 63 = .ok (.aload_n 0, 1) := by decide +kernel
theorem d_78_64 : decode (bc 78) 64 = .ok (.getfield 25, 3) := by decide +kernel
theorem d_78_67 : decode (bc 78) 67 = .ok (.iload_n 2, 1) := by decide +kernel
theorem d_78_68 : decode (bc 78) 68 = .ok (.iload_n 3, 1) := by decide +kernel
theorem d_78_69 : decode (bc 78) 69 = .ok (.iload 4, 2) := by decide +kernel
theorem d_78_71 : decode (bc 78) 71 = .ok (.invokevirtual 141, 3) := by decide +kernel
theorem q_78_141 : cq 78 141 [0, 3] = some (7, 4) := by decide +kernel
theorem d_78_74 : decode (bc 78) 74 = .ok (.aload_n 0, 1) := by decide +kernel
theorem d_78_75 : decode (bc 78) 75 = .ok (.getfield 25, 3) := by decide +kernel
theorem d_78_78 : decode (bc 78) 78 = .ok (.aload_n 0, 1) := by decide +kernel
theorem d_78_79 : decode (bc 78) 79 = .ok (.getfield 18, 3) := by decide +kernel
theorem d_78_82 : decode (bc 78) 82 = .ok (.iload_n 1, 1) := by decide +kernel
theorem d_78_83 : decode (bc 78) 83 = .ok (.aaload, 1) := by decide +kernel
theorem d_78_84 : decode (bc 78) 84 = .ok (.invokevirtual 145, 3) := by decide +kernel
theorem q_78_145 : cq 78 145 [0, 3] = some (8, 2) := by decide +kernel
theorem d_78_87 : decode (bc 78) 87 = .ok (.istore 5, 2) := by decide +kernel
theorem d_78_89 : decode (bc 78) 89 = .ok (.aload_n 0, 1) := by decide +kernel
theorem d_78_90 : decode (bc 78) 90 = .ok (.getfield 18, 3) := by decide +kernel
theorem d_78_93 : decode (bc 78) 93 = .ok (.iload_n 1, 1) := by decide +kernel
theorem d_78_94 : decode (bc 78) 94 = .ok (.aaload, 1) := by decide +kernel
theorem d_78_95 : decode (bc 78) 95 = .ok (.aload_n 0, 1) := by decide +kernel
theorem d_78_96 : decode (bc 78) 96 = .ok (.getfield 25, 3) := by decide +kernel
theorem d_78_99 : decode (bc 78) 99 = .ok (.invokevirtual 137, 3) := by decide +kernel
theorem d_78_102 : decode (bc 78) 102 = .ok (.iload 5, 2) := by decide +kernel
theorem d_78_104 : decode (bc 78) 104 = .ok (.ireturn, 1) := by decide +kernel
theorem rt_78 : rty 78 = some .int := by decide +kernel
theorem mx_78 : mxl 78 = 6 := by decide +kernel
theorem ow_78 : (sta 78 = false ∧ own 78 = 9 ∧ hgt 78 = 3) := by decide +kernel
-- 79: SpunModules.adds(III)I
theorem d_79_0 : decode (bc 79) 0 = .ok (.aload_n 0, 1) := by decide +kernel
theorem d_79_1 : decode (bc 79) 1 = .ok (.iload_n 1, 1) := by decide +kernel
theorem d_79_2 : decode (bc 79) 2 = .ok (.invokevirtual 106, 3) := by decide +kernel
theorem q_79_106 : cq 79 106 [0, 3] = some (109, 2) := by decide +kernel
theorem d_79_5 : decode (bc 79) 5 = .ok (.ifCond .eq 19, 3) := by decide +kernel
theorem d_79_8 : decode (bc 79) 8 = .ok (.aload_n 0, 1) := by decide +kernel
theorem d_79_9 : decode (bc 79) 9 = .ok (.iload_n 2, 1) := by decide +kernel
theorem d_79_10 : decode (bc 79) 10 = .ok (.invokevirtual 106, 3) := by decide +kernel
theorem d_79_13 : decode (bc 79) 13 = .ok (.ifCond .eq 11, 3) := by decide +kernel
theorem d_79_16 : decode (bc 79) 16 = .ok (.aload_n 0, 1) := by decide +kernel
theorem d_79_17 : decode (bc 79) 17 = .ok (.iload_n 3, 1) := by decide +kernel
theorem d_79_18 : decode (bc 79) 18 = .ok (.invokevirtual 106, 3) := by decide +kernel
theorem d_79_21 : decode (bc 79) 21 = .ok (.ifCond .ne 10, 3) := by decide +kernel
theorem d_79_24 : decode (bc 79) 24 = .ok (.aload_n 0, 1) := by decide +kernel
theorem d_79_25 : decode (bc 79) 25 = .ok (.bipush (-2), 2) := by decide +kernel
theorem d_79_27 : decode (bc 79) 27 = .ok (.invokevirtual 91, 3) := by decide +kernel
theorem q_79_91 : cq 79 91 [0, 3] = some (107, 2) := by decide +kernel
theorem d_79_30 : decode (bc 79) 30 = .ok (.ireturn, 1) := by decide +kernel
theorem d_79_31 : decode (bc 79) 31 = .ok (.aload_n 0, 1) := by decide +kernel
theorem d_79_32 : decode (bc 79) 32 = .ok (.getfield 18, 3) := by decide +kernel
theorem q_79_18 : fq 79 18 = some (9, 1, 14, 2, true) := by decide +kernel
theorem d_79_35 : decode (bc 79) 35 = .ok (.iload_n 2, 1) := by decide +kernel
theorem d_79_36 : decode (bc 79) 36 = .ok (.aaload, 1) := by decide +kernel
theorem d_79_37 : decode (bc 79) 37 = .ok (.getfield 149, 3) := by decide +kernel
theorem q_79_149 : fq 79 149 = some (0, 1, 3, 0, false) := by decide +kernel
theorem d_79_40 : decode (bc 79) 40 = .ok (.aload_n 0, 1) := by decide +kernel
theorem d_79_41 : decode (bc 79) 41 = .ok (.getfield 18, 3) := by decide +kernel
theorem d_79_44 : decode (bc 79) 44 = .ok (.iload_n 3, 1) := by decide +kernel
theorem d_79_45 : decode (bc 79) 45 = .ok (.aaload, 1) := by decide +kernel
theorem d_79_46 : decode (bc 79) 46 = .ok (.getfield 149, 3) := by decide +kernel
theorem d_79_49 : decode (bc 79) 49 = .ok (.iadd, 1) := by decide +kernel
theorem d_79_50 : decode (bc 79) 50 = .ok (.aload_n 0, 1) := by decide +kernel
theorem d_79_51 : decode (bc 79) 51 = .ok (.getfield 10, 3) := by decide +kernel
theorem q_79_10 : fq 79 10 = some (9, 0, 14, 2, true) := by decide +kernel
theorem d_79_54 : decode (bc 79) 54 = .ok (.invokevirtual 110, 3) := by decide +kernel
theorem q_79_110 : cq 79 110 [0, 3] = some (26, 1) := by decide +kernel
theorem d_79_57 : decode (bc 79) 57 = .ok (.if_icmp .le 10, 3) := by decide +kernel
theorem d_79_60 : decode (bc 79) 60 = .ok (.aload_n 0, 1) := by decide +kernel
theorem d_79_61 : decode (bc 79) 61 = .ok (.bipush (-3), 2) := by decide +kernel
theorem d_79_63 : decode (bc 79) 63 = .ok (.invokevirtual 91, 3) := by decide +kernel
theorem d_79_66 : decode (bc 79) 66 = .ok (.ireturn, 1) := by decide +kernel
theorem d_79_67 : decode (bc 79) 67 = .ok (.aload_n 0, 1) := by decide +kernel
theorem d_79_68 : decode (bc 79) 68 = .ok (.getfield 25, 3) := by decide +kernel
theorem q_79_25 : fq 79 25 = some (9, 2, 14, 2, true) := by decide +kernel
theorem d_79_71 : decode (bc 79) 71 = .ok (.aload_n 0, 1) := by decide +kernel
theorem d_79_72 : decode (bc 79) 72 = .ok (.getfield 18, 3) := by decide +kernel
theorem d_79_75 : decode (bc 79) 75 = .ok (.iload_n 2, 1) := by decide +kernel
theorem d_79_76 : decode (bc 79) 76 = .ok (.aaload, 1) := by decide +kernel
theorem d_79_77 : decode (bc 79) 77 = .ok (.aload_n 0, 1) := by decide +kernel
theorem d_79_78 : decode (bc 79) 78 = .ok (.getfield 18, 3) := by decide +kernel
theorem d_79_81 : decode (bc 79) 81 = .ok (.iload_n 3, 1) := by decide +kernel
theorem d_79_82 : decode (bc 79) 82 = .ok (.aaload, 1) := by decide +kernel
theorem d_79_83 : decode (bc 79) 83 = .ok (.invokevirtual 152, 3) := by decide +kernel
theorem q_79_152 : cq 79 152 [0, 3] = some (9, 3) := by decide +kernel
theorem d_79_86 : decode (bc 79) 86 = .ok (.aload_n 0, 1) := by decide +kernel
theorem d_79_87 : decode (bc 79) 87 = .ok (.iload_n 1, 1) := by decide +kernel
theorem d_79_88 : decode (bc 79) 88 = .ok (.invokevirtual 156, 3) := by decide +kernel
theorem q_79_156 : cq 79 156 [0, 3] = some (115, 2) := by decide +kernel
theorem d_79_91 : decode (bc 79) 91 = .ok (.ireturn, 1) := by decide +kernel
theorem rt_79 : rty 79 = some .int := by decide +kernel
theorem mx_79 : mxl 79 = 4 := by decide +kernel
theorem ow_79 : (sta 79 = false ∧ own 79 = 9 ∧ hgt 79 = 4) := by decide +kernel
-- 80: SpunModules.times(III)I
theorem d_80_0 : decode (bc 80) 0 = .ok (.aload_n 0, 1) := by decide +kernel
theorem d_80_1 : decode (bc 80) 1 = .ok (.iload_n 1, 1) := by decide +kernel
theorem d_80_2 : decode (bc 80) 2 = .ok (.invokevirtual 106, 3) := by decide +kernel
theorem q_80_106 : cq 80 106 [0, 3] = some (109, 2) := by decide +kernel
theorem d_80_5 : decode (bc 80) 5 = .ok (.ifCond .eq 19, 3) := by decide +kernel
theorem d_80_8 : decode (bc 80) 8 = .ok (.aload_n 0, 1) := by decide +kernel
theorem d_80_9 : decode (bc 80) 9 = .ok (.iload_n 2, 1) := by decide +kernel
theorem d_80_10 : decode (bc 80) 10 = .ok (.invokevirtual 106, 3) := by decide +kernel
theorem d_80_13 : decode (bc 80) 13 = .ok (.ifCond .eq 11, 3) := by decide +kernel
theorem d_80_16 : decode (bc 80) 16 = .ok (.aload_n 0, 1) := by decide +kernel
theorem d_80_17 : decode (bc 80) 17 = .ok (.iload_n 3, 1) := by decide +kernel
theorem d_80_18 : decode (bc 80) 18 = .ok (.invokevirtual 106, 3) := by decide +kernel
theorem d_80_21 : decode (bc 80) 21 = .ok (.ifCond .ne 10, 3) := by decide +kernel
theorem d_80_24 : decode (bc 80) 24 = .ok (.aload_n 0, 1) := by decide +kernel
theorem d_80_25 : decode (bc 80) 25 = .ok (.bipush (-2), 2) := by decide +kernel
theorem d_80_27 : decode (bc 80) 27 = .ok (.invokevirtual 91, 3) := by decide +kernel
theorem q_80_91 : cq 80 91 [0, 3] = some (107, 2) := by decide +kernel
theorem d_80_30 : decode (bc 80) 30 = .ok (.ireturn, 1) := by decide +kernel
theorem d_80_31 : decode (bc 80) 31 = .ok (.aload_n 0, 1) := by decide +kernel
theorem d_80_32 : decode (bc 80) 32 = .ok (.getfield 18, 3) := by decide +kernel
theorem q_80_18 : fq 80 18 = some (9, 1, 14, 2, true) := by decide +kernel
theorem d_80_35 : decode (bc 80) 35 = .ok (.iload_n 2, 1) := by decide +kernel
theorem d_80_36 : decode (bc 80) 36 = .ok (.aaload, 1) := by decide +kernel
theorem d_80_37 : decode (bc 80) 37 = .ok (.getfield 149, 3) := by decide +kernel
theorem q_80_149 : fq 80 149 = some (0, 1, 3, 0, false) := by decide +kernel
theorem d_80_40 : decode (bc 80) 40 = .ok (.aload_n 0, 1) := by decide +kernel
theorem d_80_41 : decode (bc 80) 41 = .ok (.getfield 18, 3) := by decide +kernel
theorem d_80_44 : decode (bc 80) 44 = .ok (.iload_n 3, 1) := by decide +kernel
theorem d_80_45 : decode (bc 80) 45 = .ok (.aaload, 1) := by decide +kernel
theorem d_80_46 : decode (bc 80) 46 = .ok (.getfield 149, 3) := by decide +kernel
theorem d_80_49 : decode (bc 80) 49 = .ok (.imul, 1) := by decide +kernel
theorem d_80_50 : decode (bc 80) 50 = .ok (.aload_n 0, 1) := by decide +kernel
theorem d_80_51 : decode (bc 80) 51 = .ok (.getfield 10, 3) := by decide +kernel
theorem q_80_10 : fq 80 10 = some (9, 0, 14, 2, true) := by decide +kernel
theorem d_80_54 : decode (bc 80) 54 = .ok (.invokevirtual 110, 3) := by decide +kernel
theorem q_80_110 : cq 80 110 [0, 3] = some (26, 1) := by decide +kernel
theorem d_80_57 : decode (bc 80) 57 = .ok (.if_icmp .le 10, 3) := by decide +kernel
theorem d_80_60 : decode (bc 80) 60 = .ok (.aload_n 0, 1) := by decide +kernel
theorem d_80_61 : decode (bc 80) 61 = .ok (.bipush (-3), 2) := by decide +kernel
theorem d_80_63 : decode (bc 80) 63 = .ok (.invokevirtual 91, 3) := by decide +kernel
theorem d_80_66 : decode (bc 80) 66 = .ok (.ireturn, 1) := by decide +kernel
theorem d_80_67 : decode (bc 80) 67 = .ok (.aload_n 0, 1) := by decide +kernel
theorem d_80_68 : decode (bc 80) 68 = .ok (.getfield 25, 3) := by decide +kernel
theorem q_80_25 : fq 80 25 = some (9, 2, 14, 2, true) := by decide +kernel
theorem d_80_71 : decode (bc 80) 71 = .ok (.aload_n 0, 1) := by decide +kernel
theorem d_80_72 : decode (bc 80) 72 = .ok (.getfield 18, 3) := by decide +kernel
theorem d_80_75 : decode (bc 80) 75 = .ok (.iload_n 2, 1) := by decide +kernel
theorem d_80_76 : decode (bc 80) 76 = .ok (.aaload, 1) := by decide +kernel
theorem d_80_77 : decode (bc 80) 77 = .ok (.aload_n 0, 1) := by decide +kernel
theorem d_80_78 : decode (bc 80) 78 = .ok (.getfield 18, 3) := by decide +kernel
theorem d_80_81 : decode (bc 80) 81 = .ok (.iload_n 3, 1) := by decide +kernel
theorem d_80_82 : decode (bc 80) 82 = .ok (.aaload, 1) := by decide +kernel
theorem d_80_83 : decode (bc 80) 83 = .ok (.invokevirtual 159, 3) := by decide +kernel
theorem q_80_159 : cq 80 159 [0, 3] = some (10, 3) := by decide +kernel
theorem d_80_86 : decode (bc 80) 86 = .ok (.aload_n 0, 1) := by decide +kernel
theorem d_80_87 : decode (bc 80) 87 = .ok (.iload_n 1, 1) := by decide +kernel
theorem d_80_88 : decode (bc 80) 88 = .ok (.invokevirtual 156, 3) := by decide +kernel
theorem q_80_156 : cq 80 156 [0, 3] = some (115, 2) := by decide +kernel
theorem d_80_91 : decode (bc 80) 91 = .ok (.ireturn, 1) := by decide +kernel
theorem rt_80 : rty 80 = some .int := by decide +kernel
theorem mx_80 : mxl 80 = 4 := by decide +kernel
theorem ow_80 : (sta 80 = false ∧ own 80 = 9 ∧ hgt 80 = 4) := by decide +kernel
-- 81: SpunModules.over(II)I
theorem d_81_0 : decode (bc 81) 0 = .ok (.aload_n 0, 1) := by decide +kernel
theorem d_81_1 : decode (bc 81) 1 = .ok (.iload_n 1, 1) := by decide +kernel
theorem d_81_2 : decode (bc 81) 2 = .ok (.invokevirtual 106, 3) := by decide +kernel
theorem q_81_106 : cq 81 106 [0, 3] = some (109, 2) := by decide +kernel
theorem d_81_5 : decode (bc 81) 5 = .ok (.ifCond .eq 11, 3) := by decide +kernel
theorem d_81_8 : decode (bc 81) 8 = .ok (.aload_n 0, 1) := by decide +kernel
theorem d_81_9 : decode (bc 81) 9 = .ok (.iload_n 2, 1) := by decide +kernel
theorem d_81_10 : decode (bc 81) 10 = .ok (.invokevirtual 106, 3) := by decide +kernel
theorem d_81_13 : decode (bc 81) 13 = .ok (.ifCond .ne 10, 3) := by decide +kernel
theorem d_81_16 : decode (bc 81) 16 = .ok (.aload_n 0, 1) := by decide +kernel
theorem d_81_17 : decode (bc 81) 17 = .ok (.bipush (-2), 2) := by decide +kernel
theorem d_81_19 : decode (bc 81) 19 = .ok (.invokevirtual 91, 3) := by decide +kernel
theorem q_81_91 : cq 81 91 [0, 3] = some (107, 2) := by decide +kernel
theorem d_81_22 : decode (bc 81) 22 = .ok (.ireturn, 1) := by decide +kernel
theorem d_81_23 : decode (bc 81) 23 = .ok (.aload_n 0, 1) := by decide +kernel
theorem d_81_24 : decode (bc 81) 24 = .ok (.getfield 25, 3) := by decide +kernel
theorem q_81_25 : fq 81 25 = some (9, 2, 14, 2, true) := by decide +kernel
theorem d_81_27 : decode (bc 81) 27 = .ok (.aload_n 0, 1) := by decide +kernel
theorem d_81_28 : decode (bc 81) 28 = .ok (.getfield 18, 3) := by decide +kernel
theorem q_81_18 : fq 81 18 = some (9, 1, 14, 2, true) := by decide +kernel
theorem d_81_31 : decode (bc 81) 31 = .ok (.iload_n 2, 1) := by decide +kernel
theorem d_81_32 : decode (bc 81) 32 = .ok (.aaload, 1) := by decide +kernel
theorem d_81_33 : decode (bc 81) 33 = .ok (.invokevirtual 162, 3) := by decide +kernel
theorem q_81_162 : cq 81 162 [0, 3] = some (12, 2) := by decide +kernel
theorem d_81_36 : decode (bc 81) 36 = .ok (.aload_n 0, 1) := by decide +kernel
theorem d_81_37 : decode (bc 81) 37 = .ok (.iload_n 1, 1) := by decide +kernel
theorem d_81_38 : decode (bc 81) 38 = .ok (.invokevirtual 156, 3) := by decide +kernel
theorem q_81_156 : cq 81 156 [0, 3] = some (115, 2) := by decide +kernel
theorem d_81_41 : decode (bc 81) 41 = .ok (.ireturn, 1) := by decide +kernel
theorem rt_81 : rty 81 = some .int := by decide +kernel
theorem mx_81 : mxl 81 = 3 := by decide +kernel
theorem ow_81 : (sta 81 = false ∧ own 81 = 9 ∧ hgt 81 = 4) := by decide +kernel
-- 82: SpunModules.parts(III)I
theorem d_82_0 : decode (bc 82) 0 = .ok (.aload_n 0, 1) := by decide +kernel
theorem d_82_1 : decode (bc 82) 1 = .ok (.iload_n 1, 1) := by decide +kernel
theorem d_82_2 : decode (bc 82) 2 = .ok (.invokevirtual 106, 3) := by decide +kernel
theorem q_82_106 : cq 82 106 [0, 3] = some (109, 2) := by decide +kernel
theorem d_82_5 : decode (bc 82) 5 = .ok (.ifCond .eq 12, 3) := by decide +kernel
theorem d_82_8 : decode (bc 82) 8 = .ok (.aload_n 0, 1) := by decide +kernel
theorem d_82_9 : decode (bc 82) 9 = .ok (.iload_n 2, 1) := by decide +kernel
theorem d_82_10 : decode (bc 82) 10 = .ok (.iload_n 3, 1) := by decide +kernel
theorem d_82_11 : decode (bc 82) 11 = .ok (.invokevirtual 165, 3) := by decide +kernel
theorem q_82_165 : cq 82 165 [0, 3] = some (114, 3) := by decide +kernel
theorem d_82_14 : decode (bc 82) 14 = .ok (.ifCond .ne 10, 3) := by decide +kernel
theorem d_82_17 : decode (bc 82) 17 = .ok (.aload_n 0, 1) := by decide +kernel
theorem d_82_18 : decode (bc 82) 18 = .ok (.bipush (-2), 2) := by decide +kernel
theorem d_82_20 : decode (bc 82) 20 = .ok (.invokevirtual 91, 3) := by decide +kernel
theorem q_82_91 : cq 82 91 [0, 3] = some (107, 2) := by decide +kernel
theorem d_82_23 : decode (bc 82) 23 = .ok (.ireturn, 1) := by decide +kernel
theorem d_82_24 : decode (bc 82) 24 = .ok (.iload_n 3, 1) := by decide +kernel
theorem d_82_25 : decode (bc 82) 25 = .ok (.ifCond .ne 10, 3) := by decide +kernel
theorem d_82_28 : decode (bc 82) 28 = .ok (.aload_n 0, 1) := by decide +kernel
theorem d_82_29 : decode (bc 82) 29 = .ok (.bipush (-3), 2) := by decide +kernel
theorem d_82_31 : decode (bc 82) 31 = .ok (.invokevirtual 91, 3) := by decide +kernel
theorem d_82_34 : decode (bc 82) 34 = .ok (.ireturn, 1) := by decide +kernel
theorem d_82_35 : decode (bc 82) 35 = .ok (.aload_n 0, 1) := by decide +kernel
theorem d_82_36 : decode (bc 82) 36 = .ok (.iload_n 2, 1) := by decide +kernel
theorem d_82_37 : decode (bc 82) 37 = .ok (.iload_n 3, 1) := by decide +kernel
theorem d_82_38 : decode (bc 82) 38 = .ok (.invokevirtual 168, 3) := by decide +kernel
theorem q_82_168 : cq 82 168 [0, 3] = some (116, 3) := by decide +kernel
theorem d_82_41 : decode (bc 82) 41 = .ok (.aload_n 0, 1) := by decide +kernel
theorem d_82_42 : decode (bc 82) 42 = .ok (.getfield 25, 3) := by decide +kernel
theorem q_82_25 : fq 82 25 = some (9, 2, 14, 2, true) := by decide +kernel
theorem d_82_45 : decode (bc 82) 45 = .ok (.aload_n 0, 1) := by decide +kernel
theorem d_82_46 : decode (bc 82) 46 = .ok (.getfield 18, 3) := by decide +kernel
theorem q_82_18 : fq 82 18 = some (9, 1, 14, 2, true) := by decide +kernel
theorem d_82_49 : decode (bc 82) 49 = .ok (.iload_n 2, 1) := by decide +kernel
theorem d_82_50 : decode (bc 82) 50 = .ok (.aaload, 1) := by decide +kernel
theorem d_82_51 : decode (bc 82) 51 = .ok (.aload_n 0, 1) := by decide +kernel
theorem d_82_52 : decode (bc 82) 52 = .ok (.getfield 32, 3) := by decide +kernel
theorem q_82_32 : fq 82 32 = some (9, 3, 14, 2, true) := by decide +kernel
theorem d_82_55 : decode (bc 82) 55 = .ok (.invokevirtual 172, 3) := by decide +kernel
theorem q_82_172 : cq 82 172 [0, 3] = some (13, 3) := by decide +kernel
theorem d_82_58 : decode (bc 82) 58 = .ok (.aload_n 0, 1) := by decide +kernel
theorem d_82_59 : decode (bc 82) 59 = .ok (.iload_n 1, 1) := by decide +kernel
theorem d_82_60 : decode (bc 82) 60 = .ok (.invokevirtual 156, 3) := by decide +kernel
theorem q_82_156 : cq 82 156 [0, 3] = some (115, 2) := by decide +kernel
theorem d_82_63 : decode (bc 82) 63 = .ok (.ireturn, 1) := by decide +kernel
theorem rt_82 : rty 82 = some .int := by decide +kernel
theorem mx_82 : mxl 82 = 4 := by decide +kernel
theorem ow_82 : (sta 82 = false ∧ own 82 = 9 ∧ hgt 82 = 5) := by decide +kernel
-- 83: SpunModules.rests(III)I
theorem d_83_0 : decode (bc 83) 0 = .ok (.aload_n 0, 1) := by decide +kernel
theorem d_83_1 : decode (bc 83) 1 = .ok (.iload_n 1, 1) := by decide +kernel
theorem d_83_2 : decode (bc 83) 2 = .ok (.invokevirtual 106, 3) := by decide +kernel
theorem q_83_106 : cq 83 106 [0, 3] = some (109, 2) := by decide +kernel
theorem d_83_5 : decode (bc 83) 5 = .ok (.ifCond .eq 12, 3) := by decide +kernel
theorem d_83_8 : decode (bc 83) 8 = .ok (.aload_n 0, 1) := by decide +kernel
theorem d_83_9 : decode (bc 83) 9 = .ok (.iload_n 2, 1) := by decide +kernel
theorem d_83_10 : decode (bc 83) 10 = .ok (.iload_n 3, 1) := by decide +kernel
theorem d_83_11 : decode (bc 83) 11 = .ok (.invokevirtual 165, 3) := by decide +kernel
theorem q_83_165 : cq 83 165 [0, 3] = some (114, 3) := by decide +kernel
theorem d_83_14 : decode (bc 83) 14 = .ok (.ifCond .ne 10, 3) := by decide +kernel
theorem d_83_17 : decode (bc 83) 17 = .ok (.aload_n 0, 1) := by decide +kernel
theorem d_83_18 : decode (bc 83) 18 = .ok (.bipush (-2), 2) := by decide +kernel
theorem d_83_20 : decode (bc 83) 20 = .ok (.invokevirtual 91, 3) := by decide +kernel
theorem q_83_91 : cq 83 91 [0, 3] = some (107, 2) := by decide +kernel
theorem d_83_23 : decode (bc 83) 23 = .ok (.ireturn, 1) := by decide +kernel
theorem d_83_24 : decode (bc 83) 24 = .ok (.aload_n 0, 1) := by decide +kernel
theorem d_83_25 : decode (bc 83) 25 = .ok (.iload_n 2, 1) := by decide +kernel
theorem d_83_26 : decode (bc 83) 26 = .ok (.iload_n 3, 1) := by decide +kernel
theorem d_83_27 : decode (bc 83) 27 = .ok (.invokevirtual 168, 3) := by decide +kernel
theorem q_83_168 : cq 83 168 [0, 3] = some (116, 3) := by decide +kernel
theorem d_83_30 : decode (bc 83) 30 = .ok (.aload_n 0, 1) := by decide +kernel
theorem d_83_31 : decode (bc 83) 31 = .ok (.getfield 32, 3) := by decide +kernel
theorem q_83_32 : fq 83 32 = some (9, 3, 14, 2, true) := by decide +kernel
theorem d_83_34 : decode (bc 83) 34 = .ok (.getfield 176, 3) := by decide +kernel
theorem q_83_176 : fq 83 176 = some (7, 2, 5, 0, false) := by decide +kernel
theorem d_83_37 : decode (bc 83) 37 = .ok (.aload_n 0, 1) := by decide +kernel
theorem d_83_38 : decode (bc 83) 38 = .ok (.getfield 18, 3) := by decide +kernel
theorem q_83_18 : fq 83 18 = some (9, 1, 14, 2, true) := by decide +kernel
theorem d_83_41 : decode (bc 83) 41 = .ok (.iload_n 2, 1) := by decide +kernel
theorem d_83_42 : decode (bc 83) 42 = .ok (.aaload, 1) := by decide +kernel
theorem d_83_43 : decode (bc 83) 43 = .ok (.getfield 149, 3) := by decide +kernel
theorem q_83_149 : fq 83 149 = some (0, 1, 3, 0, false) := by decide +kernel
theorem d_83_46 : decode (bc 83) 46 = .ok (.if_icmp .ne 10, 3) := by decide +kernel
theorem d_83_49 : decode (bc 83) 49 = .ok (.aload_n 0, 1) := by decide +kernel
theorem d_83_50 : decode (bc 83) 50 = .ok (.bipush (-3), 2) := by decide +kernel
theorem d_83_52 : decode (bc 83) 52 = .ok (.invokevirtual 91, 3) := by decide +kernel
theorem d_83_55 : decode (bc 83) 55 = .ok (.ireturn, 1) := by decide +kernel
theorem d_83_56 : decode (bc 83) 56 = .ok (.aload_n 0, 1) := by decide +kernel
theorem d_83_57 : decode (bc 83) 57 = .ok (.getfield 25, 3) := by decide +kernel
theorem q_83_25 : fq 83 25 = some (9, 2, 14, 2, true) := by decide +kernel
theorem d_83_60 : decode (bc 83) 60 = .ok (.aload_n 0, 1) := by decide +kernel
theorem d_83_61 : decode (bc 83) 61 = .ok (.getfield 18, 3) := by decide +kernel
theorem d_83_64 : decode (bc 83) 64 = .ok (.iload_n 2, 1) := by decide +kernel
theorem d_83_65 : decode (bc 83) 65 = .ok (.aaload, 1) := by decide +kernel
theorem d_83_66 : decode (bc 83) 66 = .ok (.aload_n 0, 1) := by decide +kernel
theorem d_83_67 : decode (bc 83) 67 = .ok (.getfield 32, 3) := by decide +kernel
theorem d_83_70 : decode (bc 83) 70 = .ok (.invokevirtual 179, 3) := by decide +kernel
theorem q_83_179 : cq 83 179 [0, 3] = some (14, 3) := by decide +kernel
theorem d_83_73 : decode (bc 83) 73 = .ok (.aload_n 0, 1) := by decide +kernel
theorem d_83_74 : decode (bc 83) 74 = .ok (.iload_n 1, 1) := by decide +kernel
theorem d_83_75 : decode (bc 83) 75 = .ok (.invokevirtual 156, 3) := by decide +kernel
theorem q_83_156 : cq 83 156 [0, 3] = some (115, 2) := by decide +kernel
theorem d_83_78 : decode (bc 83) 78 = .ok (.ireturn, 1) := by decide +kernel
theorem rt_83 : rty 83 = some .int := by decide +kernel
theorem mx_83 : mxl 83 = 4 := by decide +kernel
theorem ow_83 : (sta 83 = false ∧ own 83 = 9 ∧ hgt 83 = 5) := by decide +kernel
-- 84: SpunModules.size(I)I
theorem d_84_0 : decode (bc 84) 0 = .ok (.aload_n 0, 1) := by decide +kernel
theorem d_84_1 : decode (bc 84) 1 = .ok (.iload_n 1, 1) := by decide +kernel
theorem d_84_2 : decode (bc 84) 2 = .ok (.invokevirtual 106, 3) := by decide +kernel
theorem q_84_106 : cq 84 106 [0, 3] = some (109, 2) := by decide +kernel
theorem d_84_5 : decode (bc 84) 5 = .ok (.ifCond .eq 15, 3) := by decide +kernel
theorem d_84_8 : decode (bc 84) 8 = .ok (.aload_n 0, 1) := by decide +kernel
theorem d_84_9 : decode (bc 84) 9 = .ok (.getfield 18, 3) := by decide +kernel
theorem q_84_18 : fq 84 18 = some (9, 1, 14, 2, true) := by decide +kernel
theorem d_84_12 : decode (bc 84) 12 = .ok (.iload_n 1, 1) := by decide +kernel
theorem d_84_13 : decode (bc 84) 13 = .ok (.aaload, 1) := by decide +kernel
theorem d_84_14 : decode (bc 84) 14 = .ok (.getfield 149, 3) := by decide +kernel
theorem q_84_149 : fq 84 149 = some (0, 1, 3, 0, false) := by decide +kernel
theorem d_84_17 : decode (bc 84) 17 = .ok (.goto 9, 3) := by decide +kernel
theorem d_84_20 : decode (bc 84) 20 = .ok (.aload_n 0, 1) := by decide +kernel
theorem d_84_21 : decode (bc 84) 21 = .ok (.bipush (-2), 2) := by decide +kernel
theorem d_84_23 : decode (bc 84) 23 = .ok (.invokevirtual 91, 3) := by decide +kernel
theorem q_84_91 : cq 84 91 [0, 3] = some (107, 2) := by decide +kernel
theorem d_84_26 : decode (bc 84) 26 = .ok (.ireturn, 1) := by decide +kernel
theorem rt_84 : rty 84 = some .int := by decide +kernel
theorem mx_84 : mxl 84 = 2 := by decide +kernel
theorem ow_84 : (sta 84 = false ∧ own 84 = 9 ∧ hgt 84 = 1) := by decide +kernel
-- 85: SpunModules.at(IIII)I
theorem d_85_0 : decode (bc 85) 0 = .ok (.aload_n 0, 1) := by decide +kernel
theorem d_85_1 : decode (bc 85) 1 = .ok (.iload_n 1, 1) := by decide +kernel
theorem d_85_2 : decode (bc 85) 2 = .ok (.iload_n 2, 1) := by decide +kernel
theorem d_85_3 : decode (bc 85) 3 = .ok (.iload_n 3, 1) := by decide +kernel
theorem d_85_4 : decode (bc 85) 4 = .ok (.iload 4, 2) := by decide +kernel
theorem d_85_6 : decode (bc 85) 6 = .ok (.invokevirtual 114, 3) := by decide +kernel
theorem q_85_114 : cq 85 114 [0, 3] = some (113, 5) := by decide +kernel
theorem d_85_9 : decode (bc 85) 9 = .ok (.ifCond .eq 19, 3) := by decide +kernel
theorem d_85_12 : decode (bc 85) 12 = .ok (.aload_n 0, 1) := by decide +kernel
theorem d_85_13 : decode (bc 85) 13 = .ok (.getfield 18, 3) := by decide +kernel
theorem q_85_18 : fq 85 18 = some (9, 1, 14, 2, true) := by decide +kernel
theorem d_85_16 : decode (bc 85) 16 = .ok (.iload_n 1, 1) := by decide +kernel
theorem d_85_17 : decode (bc 85) 17 = .ok (.aaload, 1) := by decide +kernel
theorem d_85_18 : decode (bc 85) 18 = .ok (.iload_n 2, 1) := by decide +kernel
theorem d_85_19 : decode (bc 85) 19 = .ok (.iload_n 3, 1) := by decide +kernel
theorem d_85_20 : decode (bc 85) 20 = .ok (.iload 4, 2) := by decide +kernel
theorem d_85_22 : decode (bc 85) 22 = .ok (.invokevirtual 121, 3) := by decide +kernel
theorem q_85_121 : cq 85 121 [0, 3] = some (3, 4) := by decide +kernel
theorem d_85_25 : decode (bc 85) 25 = .ok (.goto 9, 3) := by decide +kernel
theorem d_85_28 : decode (bc 85) 28 = .ok (.aload_n 0, 1) := by decide +kernel
theorem d_85_29 : decode (bc 85) 29 = .ok (.bipush (-2), 2) := by decide +kernel
theorem d_85_31 : decode (bc 85) 31 = .ok (.invokevirtual 91, 3) := by decide +kernel
theorem q_85_91 : cq 85 91 [0, 3] = some (107, 2) := by decide +kernel
theorem d_85_34 : decode (bc 85) 34 = .ok (.ireturn, 1) := by decide +kernel
theorem rt_85 : rty 85 = some .int := by decide +kernel
theorem mx_85 : mxl 85 = 5 := by decide +kernel
theorem ow_85 : (sta 85 = false ∧ own 85 = 9 ∧ hgt 85 = 3) := by decide +kernel
-- 86: SpunModules.moved(III)I
theorem d_86_0 : decode (bc 86) 0 = .ok (.aload_n 0, 1) := by decide +kernel
theorem d_86_1 : decode (bc 86) 1 = .ok (.iload_n 2, 1) := by decide +kernel
theorem d_86_2 : decode (bc 86) 2 = .ok (.invokevirtual 182, 3) := by decide +kernel
theorem q_86_182 : cq 86 182 [0, 3] = some (110, 2) := by decide +kernel
theorem d_86_5 : decode (bc 86) 5 = .ok (.ifCond .eq 12, 3) := by decide +kernel
theorem d_86_8 : decode (bc 86) 8 = .ok (.aload_n 0, 1) := by decide +kernel
theorem d_86_9 : decode (bc 86) 9 = .ok (.iload_n 1, 1) := by decide +kernel
theorem d_86_10 : decode (bc 86) 10 = .ok (.iload_n 3, 1) := by decide +kernel
theorem d_86_11 : decode (bc 86) 11 = .ok (.invokevirtual 165, 3) := by decide +kernel
theorem q_86_165 : cq 86 165 [0, 3] = some (114, 3) := by decide +kernel
theorem d_86_14 : decode (bc 86) 14 = .ok (.ifCond .ne 10, 3) := by decide +kernel
theorem d_86_17 : decode (bc 86) 17 = .ok (.aload_n 0, 1) := by decide +kernel
theorem d_86_18 : decode (bc 86) 18 = .ok (.bipush (-2), 2) := by decide +kernel
theorem d_86_20 : decode (bc 86) 20 = .ok (.invokevirtual 91, 3) := by decide +kernel
theorem q_86_91 : cq 86 91 [0, 3] = some (107, 2) := by decide +kernel
theorem d_86_23 : decode (bc 86) 23 = .ok (.ireturn, 1) := by decide +kernel
theorem d_86_24 : decode (bc 86) 24 = .ok (.aload_n 0, 1) := by decide +kernel
theorem d_86_25 : decode (bc 86) 25 = .ok (.getfield 18, 3) := by decide +kernel
theorem q_86_18 : fq 86 18 = some (9, 1, 14, 2, true) := by decide +kernel
theorem d_86_28 : decode (bc 86) 28 = .ok (.iload_n 1, 1) := by decide +kernel
theorem d_86_29 : decode (bc 86) 29 = .ok (.aaload, 1) := by decide +kernel
theorem d_86_30 : decode (bc 86) 30 = .ok (.getfield 149, 3) := by decide +kernel
theorem q_86_149 : fq 86 149 = some (0, 1, 3, 0, false) := by decide +kernel
theorem d_86_33 : decode (bc 86) 33 = .ok (.istore 4, 2) := by decide +kernel
theorem d_86_35 : decode (bc 86) 35 = .ok (.aload_n 0, 1) := by decide +kernel
theorem d_86_36 : decode (bc 86) 36 = .ok (.getfield 10, 3) := by decide +kernel
theorem q_86_10 : fq 86 10 = some (9, 0, 14, 2, true) := by decide +kernel
theorem d_86_39 : decode (bc 86) 39 = .ok (.aload_n 0, 1) := by decide +kernel
theorem d_86_40 : decode (bc 86) 40 = .ok (.getfield 18, 3) := by decide +kernel
theorem d_86_43 : decode (bc 86) 43 = .ok (.iload_n 1, 1) := by decide +kernel
theorem d_86_44 : decode (bc 86) 44 = .ok (.aaload, 1) := by decide +kernel
theorem d_86_45 : decode (bc 86) 45 = .ok (.iload_n 2, 1) := by decide +kernel
theorem d_86_46 : decode (bc 86) 46 = .ok (.aload_n 0, 1) := by decide +kernel
theorem d_86_47 : decode (bc 86) 47 = .ok (.getfield 10, 3) := by decide +kernel
theorem d_86_50 : decode (bc 86) 50 = .ok (.iload_n 3, 1) := by decide +kernel
theorem d_86_51 : decode (bc 86) 51 = .ok (.iload 4, 2) := by decide +kernel
theorem d_86_53 : decode (bc 86) 53 = .ok (.invokevirtual 185, 3) := by decide +kernel
theorem q_86_185 : cq 86 185 [0, 3] = some (31, 3) := by decide +kernel
theorem d_86_56 : decode (bc 86) 56 = .ok (.invokevirtual 189, 3) := by decide +kernel
theorem q_86_189 : cq 86 189 [0, 3] = some (5, 3) := by decide +kernel
theorem d_86_59 : decode (bc 86) 59 = .ok (.iload 4, 2) := by decide +kernel
theorem d_86_61 : decode (bc 86) 61 = .ok (.invokevirtual 193, 3) := by decide +kernel
theorem q_86_193 : cq 86 193 [0, 3] = some (32, 3) := by decide +kernel
theorem d_86_64 : decode (bc 86) 64 = .ok (.ireturn, 1) := by decide +kernel
theorem rt_86 : rty 86 = some .int := by decide +kernel
theorem mx_86 : mxl 86 = 5 := by decide +kernel
theorem ow_86 : (sta 86 = false ∧ own 86 = 9 ∧ hgt 86 = 3) := by decide +kernel
-- 87: SpunModules.spun(II)I
theorem d_87_0 : decode (bc 87) 0 = .ok (.aload_n 0, 1) := by decide +kernel
theorem d_87_1 : decode (bc 87) 1 = .ok (.iload_n 1, 1) := by decide +kernel
theorem d_87_2 : decode (bc 87) 2 = .ok (.iload_n 2, 1) := by decide +kernel
theorem d_87_3 : decode (bc 87) 3 = .ok (.invokevirtual 165, 3) := by decide +kernel
theorem q_87_165 : cq 87 165 [0, 3] = some (114, 3) := by decide +kernel
theorem d_87_6 : decode (bc 87) 6 = .ok (.ifCond .ne 10, 3) := by decide +kernel
theorem d_87_9 : decode (bc 87) 9 = .ok (.aload_n 0, 1) := by decide +kernel
theorem d_87_10 : decode (bc 87) 10 = .ok (.bipush (-2), 2) := by decide +kernel
theorem d_87_12 : decode (bc 87) 12 = .ok (.invokevirtual 91, 3) := by decide +kernel
theorem q_87_91 : cq 87 91 [0, 3] = some (107, 2) := by decide +kernel
theorem d_87_15 : decode (bc 87) 15 = .ok (.ireturn, 1) := by decide +kernel
theorem d_87_16 : decode (bc 87) 16 = .ok (.aload_n 0, 1) := by decide +kernel
theorem d_87_17 : decode (bc 87) 17 = .ok (.iload_n 1, 1) := by decide +kernel
theorem d_87_18 : decode (bc 87) 18 = .ok (.iload_n 2, 1) := by decide +kernel
theorem d_87_19 : decode (bc 87) 19 = .ok (.invokevirtual 168, 3) := by decide +kernel
theorem q_87_168 : cq 87 168 [0, 3] = some (116, 3) := by decide +kernel
theorem d_87_22 : decode (bc 87) 22 = .ok (.aload_n 0, 1) := by decide +kernel
theorem d_87_23 : decode (bc 87) 23 = .ok (.getfield 32, 3) := by decide +kernel
theorem q_87_32 : fq 87 32 = some (9, 3, 14, 2, true) := by decide +kernel
theorem d_87_26 : decode (bc 87) 26 = .ok (.getfield 176, 3) := by decide +kernel
theorem q_87_176 : fq 87 176 = some (7, 2, 5, 0, false) := by decide +kernel
theorem d_87_29 : decode (bc 87) 29 = .ok (.ireturn, 1) := by decide +kernel
theorem rt_87 : rty 87 = some .int := by decide +kernel
theorem mx_87 : mxl 87 = 3 := by decide +kernel
theorem ow_87 : (sta 87 = false ∧ own 87 = 9 ∧ hgt 87 = 5) := by decide +kernel
-- 88: SpunModules.row(III)I
theorem d_88_0 : decode (bc 88) 0 = .ok (.aload_n 0, 1) := by decide +kernel
theorem d_88_1 : decode (bc 88) 1 = .ok (.iload_n 1, 1) := by decide +kernel
theorem d_88_2 : decode (bc 88) 2 = .ok (.iload_n 2, 1) := by decide +kernel
theorem d_88_3 : decode (bc 88) 3 = .ok (.invokevirtual 165, 3) := by decide +kernel
theorem q_88_165 : cq 88 165 [0, 3] = some (114, 3) := by decide +kernel
theorem d_88_6 : decode (bc 88) 6 = .ok (.ifCond .eq 7, 3) := by decide +kernel
theorem d_88_9 : decode (bc 88) 9 = .ok (.iload_n 3, 1) := by decide +kernel
theorem d_88_10 : decode (bc 88) 10 = .ok (.ifCond .ge 10, 3) := by decide +kernel
theorem d_88_13 : decode (bc 88) 13 = .ok (.aload_n 0, 1) := by decide +kernel
theorem d_88_14 : decode (bc 88) 14 = .ok (.bipush (-2), 2) := by decide +kernel
theorem d_88_16 : decode (bc 88) 16 = .ok (.invokevirtual 91, 3) := by decide +kernel
theorem q_88_91 : cq 88 91 [0, 3] = some (107, 2) := by decide +kernel
theorem d_88_19 : decode (bc 88) 19 = .ok (.ireturn, 1) := by decide +kernel
theorem d_88_20 : decode (bc 88) 20 = .ok (.aload_n 0, 1) := by decide +kernel
theorem d_88_21 : decode (bc 88) 21 = .ok (.iload_n 1, 1) := by decide +kernel
theorem d_88_22 : decode (bc 88) 22 = .ok (.iload_n 2, 1) := by decide +kernel
theorem d_88_23 : decode (bc 88) 23 = .ok (.invokevirtual 168, 3) := by decide +kernel
theorem q_88_168 : cq 88 168 [0, 3] = some (116, 3) := by decide +kernel
theorem d_88_26 : decode (bc 88) 26 = .ok (.iload_n 3, 1) := by decide +kernel
theorem d_88_27 : decode (bc 88) 27 = .ok (.aload_n 0, 1) := by decide +kernel
theorem d_88_28 : decode (bc 88) 28 = .ok (.getfield 32, 3) := by decide +kernel
theorem q_88_32 : fq 88 32 = some (9, 3, 14, 2, true) := by decide +kernel
theorem d_88_31 : decode (bc 88) 31 = .ok (.getfield 176, 3) := by decide +kernel
theorem q_88_176 : fq 88 176 = some (7, 2, 5, 0, false) := by decide +kernel
theorem d_88_34 : decode (bc 88) 34 = .ok (.if_icmp .ge 30, 3) := by decide +kernel
theorem d_88_37 : decode (bc 88) 37 = .ok (.aload_n 0, 1) := by decide +kernel
theorem d_88_38 : decode (bc 88) 38 = .ok (.getfield 10, 3) := by decide +kernel
theorem q_88_10 : fq 88 10 = some (9, 0, 14, 2, true) := by decide +kernel
theorem d_88_41 : decode (bc 88) 41 = .ok (.aload_n 0, 1) := by decide +kernel
theorem d_88_42 : decode (bc 88) 42 = .ok (.getfield 32, 3) := by decide +kernel
theorem d_88_45 : decode (bc 88) 45 = .ok (.iload_n 3, 1) := by decide +kernel
theorem d_88_46 : decode (bc 88) 46 = .ok (.invokevirtual 197, 3) := by decide +kernel
theorem q_88_197 : cq 88 197 [0, 3] = some (59, 2) := by decide +kernel
theorem d_88_49 : decode (bc 88) 49 = .ok (.aload_n 0, 1) := by decide +kernel
theorem d_88_50 : decode (bc 88) 50 = .ok (.getfield 18, 3) := by decide +kernel
theorem q_88_18 : fq 88 18 = some (9, 1, 14, 2, true) := by decide +kernel
theorem d_88_53 : decode (bc 88) 53 = .ok (.iload_n 1, 1) := by decide +kernel
theorem d_88_54 : decode (bc 88) 54 = .ok (.aaload, 1) := by decide +kernel
theorem d_88_55 : decode (bc 88) 55 = .ok (.getfield 149, 3) := by decide +kernel
theorem q_88_149 : fq 88 149 = some (0, 1, 3, 0, false) := by decide +kernel
theorem d_88_58 : decode (bc 88) 58 = .ok (.invokevirtual 193, 3) := by decide +kernel
theorem q_88_193 : cq 88 193 [0, 3] = some (32, 3) := by decide +kernel
theorem d_88_61 : decode (bc 88) 61 = .ok (.goto 4, 3) := by decide +kernel
theorem d_88_64 : decode (bc 88) 64 = .ok (.iconst (-1), 1) := by decide +kernel
theorem d_88_65 : decode (bc 88) 65 = .ok (.ireturn, 1) := by decide +kernel
theorem rt_88 : rty 88 = some .int := by decide +kernel
theorem mx_88 : mxl 88 = 4 := by decide +kernel
theorem ow_88 : (sta 88 = false ∧ own 88 = 9 ∧ hgt 88 = 5) := by decide +kernel
-- 89: SpunModules.simple(I)I
theorem d_89_0 : decode (bc 89) 0 = .ok (.aload_n 0, 1) := by decide +kernel
theorem d_89_1 : decode (bc 89) 1 = .ok (.iload_n 1, 1) := by decide +kernel
theorem d_89_2 : decode (bc 89) 2 = .ok (.invokevirtual 106, 3) := by decide +kernel
theorem q_89_106 : cq 89 106 [0, 3] = some (109, 2) := by decide +kernel
theorem d_89_5 : decode (bc 89) 5 = .ok (.ifCond .ne 10, 3) := by decide +kernel
theorem d_89_8 : decode (bc 89) 8 = .ok (.aload_n 0, 1) := by decide +kernel
theorem d_89_9 : decode (bc 89) 9 = .ok (.bipush (-2), 2) := by decide +kernel
theorem d_89_11 : decode (bc 89) 11 = .ok (.invokevirtual 91, 3) := by decide +kernel
theorem q_89_91 : cq 89 91 [0, 3] = some (107, 2) := by decide +kernel
theorem d_89_14 : decode (bc 89) 14 = .ok (.ireturn, 1) := by decide +kernel
theorem d_89_15 : decode (bc 89) 15 = .ok (.aload_n 0, 1) := by decide +kernel
theorem d_89_16 : decode (bc 89) 16 = .ok (.getfield 32, 3) := by decide +kernel
theorem q_89_32 : fq 89 32 = some (9, 3, 14, 2, true) := by decide +kernel
theorem d_89_19 : decode (bc 89) 19 = .ok (.aload_n 0, 1) := by decide +kernel
theorem d_89_20 : decode (bc 89) 20 = .ok (.getfield 18, 3) := by decide +kernel
theorem q_89_18 : fq 89 18 = some (9, 1, 14, 2, true) := by decide +kernel
theorem d_89_23 : decode (bc 89) 23 = .ok (.iload_n 1, 1) := by decide +kernel
theorem d_89_24 : decode (bc 89) 24 = .ok (.aaload, 1) := by decide +kernel
theorem d_89_25 : decode (bc 89) 25 = .ok (.invokevirtual 201, 3) := by decide +kernel
theorem q_89_201 : cq 89 201 [0, 3] = some (58, 2) := by decide +kernel
theorem d_89_28 : decode (bc 89) 28 = .ok (.aload_n 0, 1) := by decide +kernel
theorem d_89_29 : decode (bc 89) 29 = .ok (.getfield 32, 3) := by decide +kernel
theorem d_89_32 : decode (bc 89) 32 = .ok (.getfield 176, 3) := by decide +kernel
theorem q_89_176 : fq 89 176 = some (7, 2, 5, 0, false) := by decide +kernel
theorem d_89_35 : decode (bc 89) 35 = .ok (.aload_n 0, 1) := by decide +kernel
theorem d_89_36 : decode (bc 89) 36 = .ok (.getfield 18, 3) := by decide +kernel
theorem d_89_39 : decode (bc 89) 39 = .ok (.iload_n 1, 1) := by decide +kernel
theorem d_89_40 : decode (bc 89) 40 = .ok (.aaload, 1) := by decide +kernel
theorem d_89_41 : decode (bc 89) 41 = .ok (.getfield 149, 3) := by decide +kernel
theorem q_89_149 : fq 89 149 = some (0, 1, 3, 0, false) := by decide +kernel
theorem d_89_44 : decode (bc 89) 44 = .ok (.if_icmp .ne 7, 3) := by decide +kernel
theorem d_89_47 : decode (bc 89) 47 = .ok (.iconst 1, 1) := by decide +kernel
theorem d_89_48 : decode (bc 89) 48 = .ok (.goto 4, 3) := by decide +kernel
theorem d_89_51 : decode (bc 89) 51 = .ok (.iconst 0, 1) := by decide +kernel
theorem d_89_52 : decode (bc 89) 52 = .ok (.ireturn, 1) := by decide +kernel
theorem rt_89 : rty 89 = some .int := by decide +kernel
theorem mx_89 : mxl 89 = 2 := by decide +kernel
theorem ow_89 : (sta 89 = false ∧ own 89 = 9 ∧ hgt 89 = 5) := by decide +kernel
-- 90: SpunModules.least(I)I
theorem d_90_0 : decode (bc 90) 0 = .ok (.aload_n 0, 1) := by decide +kernel
theorem d_90_1 : decode (bc 90) 1 = .ok (.iload_n 1, 1) := by decide +kernel
theorem d_90_2 : decode (bc 90) 2 = .ok (.invokevirtual 106, 3) := by decide +kernel
theorem q_90_106 : cq 90 106 [0, 3] = some (109, 2) := by decide +kernel
theorem d_90_5 : decode (bc 90) 5 = .ok (.ifCond .ne 10, 3) := by decide +kernel
theorem d_90_8 : decode (bc 90) 8 = .ok (.aload_n 0, 1) := by decide +kernel
theorem d_90_9 : decode (bc 90) 9 = .ok (.bipush (-2), 2) := by decide +kernel
theorem d_90_11 : decode (bc 90) 11 = .ok (.invokevirtual 91, 3) := by decide +kernel
theorem q_90_91 : cq 90 91 [0, 3] = some (107, 2) := by decide +kernel
theorem d_90_14 : decode (bc 90) 14 = .ok (.ireturn, 1) := by decide +kernel
theorem d_90_15 : decode (bc 90) 15 = .ok (.aload_n 0, 1) := by decide +kernel
theorem d_90_16 : decode (bc 90) 16 = .ok (.getfield 32, 3) := by decide +kernel
theorem q_90_32 : fq 90 32 = some (9, 3, 14, 2, true) := by decide +kernel
theorem d_90_19 : decode (bc 90) 19 = .ok (.aload_n 0, 1) := by decide +kernel
theorem d_90_20 : decode (bc 90) 20 = .ok (.getfield 18, 3) := by decide +kernel
theorem q_90_18 : fq 90 18 = some (9, 1, 14, 2, true) := by decide +kernel
theorem d_90_23 : decode (bc 90) 23 = .ok (.iload_n 1, 1) := by decide +kernel
theorem d_90_24 : decode (bc 90) 24 = .ok (.aaload, 1) := by decide +kernel
theorem d_90_25 : decode (bc 90) 25 = .ok (.invokevirtual 201, 3) := by decide +kernel
theorem q_90_201 : cq 90 201 [0, 3] = some (58, 2) := by decide +kernel
theorem d_90_28 : decode (bc 90) 28 = .ok (.aload_n 0, 1) := by decide +kernel
theorem d_90_29 : decode (bc 90) 29 = .ok (.getfield 32, 3) := by decide +kernel
theorem d_90_32 : decode (bc 90) 32 = .ok (.getfield 176, 3) := by decide +kernel
theorem q_90_176 : fq 90 176 = some (7, 2, 5, 0, false) := by decide +kernel
theorem d_90_35 : decode (bc 90) 35 = .ok (.ireturn, 1) := by decide +kernel
theorem rt_90 : rty 90 = some .int := by decide +kernel
theorem mx_90 : mxl 90 = 2 := by decide +kernel
theorem ow_90 : (sta 90 = false ∧ own 90 = 9 ∧ hgt 90 = 5) := by decide +kernel
-- 91: SpunModules.factors(I)I
theorem d_91_0 : decode (bc 91) 0 = .ok (.aload_n 0, 1) := by decide +kernel
theorem d_91_1 : decode (bc 91) 1 = .ok (.iload_n 1, 1) := by decide +kernel
theorem d_91_2 : decode (bc 91) 2 = .ok (.invokevirtual 106, 3) := by decide +kernel
theorem q_91_106 : cq 91 106 [0, 3] = some (109, 2) := by decide +kernel
theorem d_91_5 : decode (bc 91) 5 = .ok (.ifCond .ne 10, 3) := by decide +kernel
theorem d_91_8 : decode (bc 91) 8 = .ok (.aload_n 0, 1) := by decide +kernel
theorem d_91_9 : decode (bc 91) 9 = .ok (.bipush (-2), 2) := by decide +kernel
theorem d_91_11 : decode (bc 91) 11 = .ok (.invokevirtual 91, 3) := by decide +kernel
theorem q_91_91 : cq 91 91 [0, 3] = some (107, 2) := by decide +kernel
theorem d_91_14 : decode (bc 91) 14 = .ok (.ireturn, 1) := by decide +kernel
theorem d_91_15 : decode (bc 91) 15 = .ok (.aload_n 0, 1) := by decide +kernel
theorem d_91_16 : decode (bc 91) 16 = .ok (.getfield 53, 3) := by decide +kernel
theorem q_91_53 : fq 91 53 = some (9, 6, 14, 2, true) := by decide +kernel
theorem d_91_19 : decode (bc 91) 19 = .ok (.aload_n 0, 1) := by decide +kernel
theorem d_91_20 : decode (bc 91) 20 = .ok (.getfield 18, 3) := by decide +kernel
theorem q_91_18 : fq 91 18 = some (9, 1, 14, 2, true) := by decide +kernel
theorem d_91_23 : decode (bc 91) 23 = .ok (.iload_n 1, 1) := by decide +kernel
theorem d_91_24 : decode (bc 91) 24 = .ok (.aaload, 1) := by decide +kernel
theorem d_91_25 : decode (bc 91) 25 = .ok (.invokevirtual 204, 3) := by decide +kernel
theorem q_91_204 : cq 91 204 [0, 3] = some (19, 2) := by decide +kernel
theorem d_91_28 : decode (bc 91) 28 = .ok (.aload_n 0, 1) := by decide +kernel
theorem d_91_29 : decode (bc 91) 29 = .ok (.getfield 53, 3) := by decide +kernel
theorem d_91_32 : decode (bc 91) 32 = .ok (.getfield 207, 3) := by decide +kernel
theorem q_91_207 : fq 91 207 = some (1, 2, 8, 0, false) := by decide +kernel
theorem d_91_35 : decode (bc 91) 35 = .ok (.ireturn, 1) := by decide +kernel
theorem rt_91 : rty 91 = some .int := by decide +kernel
theorem mx_91 : mxl 91 = 2 := by decide +kernel
theorem ow_91 : (sta 91 = false ∧ own 91 = 9 ∧ hgt 91 = 6) := by decide +kernel
-- 92: SpunModules.factor(III)I
theorem d_92_0 : decode (bc 92) 0 = .ok (.aload_n 0, 1) := by decide +kernel
theorem d_92_1 : decode (bc 92) 1 = .ok (.iload_n 1, 1) := by decide +kernel
theorem d_92_2 : decode (bc 92) 2 = .ok (.invokevirtual 106, 3) := by decide +kernel
theorem q_92_106 : cq 92 106 [0, 3] = some (109, 2) := by decide +kernel
theorem d_92_5 : decode (bc 92) 5 = .ok (.ifCond .eq 16, 3) := by decide +kernel
theorem d_92_8 : decode (bc 92) 8 = .ok (.iload_n 2, 1) := by decide +kernel
theorem d_92_9 : decode (bc 92) 9 = .ok (.ifCond .lt 12, 3) := by decide +kernel
theorem d_92_12 : decode (bc 92) 12 = .ok (.iload_n 3, 1) := by decide +kernel
theorem d_92_13 : decode (bc 92) 13 = .ok (.ifCond .lt 8, 3) := by decide +kernel
theorem d_92_16 : decode (bc 92) 16 = .ok (.iload_n 3, 1) := by decide +kernel
theorem d_92_17 : decode (bc 92) 17 = .ok (.iconst 3, 1) := by decide +kernel
theorem d_92_18 : decode (bc 92) 18 = .ok (.if_icmp .le 10, 3) := by decide +kernel
theorem d_92_21 : decode (bc 92) 21 = .ok (.aload_n 0, 1) := by decide +kernel
theorem d_92_22 : decode (bc 92) 22 = .ok (.bipush (-2), 2) := by decide +kernel
theorem d_92_24 : decode (bc 92) 24 = .ok (.invokevirtual 91, 3) := by decide +kernel
theorem q_92_91 : cq 92 91 [0, 3] = some (107, 2) := by decide +kernel
theorem d_92_27 : decode (bc 92) 27 = .ok (.ireturn, 1) := by decide +kernel
theorem d_92_28 : decode (bc 92) 28 = .ok (.aload_n 0, 1) := by decide +kernel
theorem d_92_29 : decode (bc 92) 29 = .ok (.getfield 53, 3) := by decide +kernel
theorem q_92_53 : fq 92 53 = some (9, 6, 14, 2, true) := by decide +kernel
theorem d_92_32 : decode (bc 92) 32 = .ok (.aload_n 0, 1) := by decide +kernel
theorem d_92_33 : decode (bc 92) 33 = .ok (.getfield 18, 3) := by decide +kernel
theorem q_92_18 : fq 92 18 = some (9, 1, 14, 2, true) := by decide +kernel
theorem d_92_36 : decode (bc 92) 36 = .ok (.iload_n 1, 1) := by decide +kernel
theorem d_92_37 : decode (bc 92) 37 = .ok (.aaload, 1) := by decide +kernel
theorem d_92_38 : decode (bc 92) 38 = .ok (.invokevirtual 204, 3) := by decide +kernel
theorem q_92_204 : cq 92 204 [0, 3] = some (19, 2) := by decide +kernel
theorem d_92_41 : decode (bc 92) 41 = .ok (.iload_n 2, 1) := by decide +kernel
theorem d_92_42 : decode (bc 92) 42 = .ok (.aload_n 0, 1) := by decide +kernel
theorem d_92_43 : decode (bc 92) 43 = .ok (.getfield 53, 3) := by decide +kernel
theorem d_92_46 : decode (bc 92) 46 = .ok (.getfield 207, 3) := by decide +kernel
theorem q_92_207 : fq 92 207 = some (1, 2, 8, 0, false) := by decide +kernel
theorem d_92_49 : decode (bc 92) 49 = .ok (.if_icmp .lt 5, 3) := by decide +kernel
theorem d_92_52 : decode (bc 92) 52 = .ok (.iconst (-1), 1) := by decide +kernel
theorem d_92_53 : decode (bc 92) 53 = .ok (.ireturn, 1) := by decide +kernel
theorem d_92_54 : decode (bc 92) 54 = .ok (.aload_n 0, 1) := by decide +kernel
theorem d_92_55 : decode (bc 92) 55 = .ok (.getfield 53, 3) := by decide +kernel
theorem d_92_58 : decode (bc 92) 58 = .ok (.getfield 210, 3) := by decide +kernel
theorem q_92_210 : fq 92 210 = some (1, 1, 8, 2, true) := by decide +kernel
theorem d_92_61 : decode (bc 92) 61 = .ok (.iload_n 2, 1) := by decide +kernel
theorem d_92_62 : decode (bc 92) 62 = .ok (.aaload, 1) := by decide +kernel
theorem d_92_63 : decode (bc 92) 63 = .ok (.astore 4, 2) := by decide +kernel
theorem d_92_65 : decode (bc 92) 65 = .ok (.iload_n 3, 1) := by decide +kernel
theorem d_92_66 : decode (bc 92) 66 = .ok (.tableswitch 54 0 2 #[26, 32, 42], 26) := by decide +kernel
theorem d_92_92 : decode (bc 92) 92 = .ok (.aload 4, 2) := by decide +kernel
theorem d_92_94 : decode (bc 92) 94 = .ok (.getfield 149, 3) := by decide +kernel
theorem q_92_149 : fq 92 149 = some (0, 1, 3, 0, false) := by decide +kernel
theorem d_92_97 : decode (bc 92) 97 = .ok (.ireturn, 1) := by decide +kernel
theorem d_92_98 : decode (bc 92) 98 = .ok (.aload_n 0, 1) := by decide +kernel
theorem d_92_99 : decode (bc 92) 99 = .ok (.getfield 53, 3) := by decide +kernel
theorem d_92_102 : decode (bc 92) 102 = .ok (.aload 4, 2) := by decide +kernel
theorem d_92_104 : decode (bc 92) 104 = .ok (.invokevirtual 213, 3) := by decide +kernel
theorem q_92_213 : cq 92 213 [0, 3] = some (23, 2) := by decide +kernel
theorem d_92_107 : decode (bc 92) 107 = .ok (.ireturn, 1) := by decide +kernel
theorem d_92_108 : decode (bc 92) 108 = .ok (.aload_n 0, 1) := by decide +kernel
theorem d_92_109 : decode (bc 92) 109 = .ok (.getfield 63, 3) := by decide +kernel
theorem q_92_63 : fq 92 63 = some (9, 8, 14, 2, true) := by decide +kernel
theorem d_92_112 : decode (bc 92) 112 = .ok (.aload 4, 2) := by decide +kernel
theorem d_92_114 : decode (bc 92) 114 = .ok (.aload 4, 2) := by decide +kernel
theorem d_92_116 : decode (bc 92) 116 = .ok (.invokevirtual 216, 3) := by decide +kernel
theorem q_92_216 : cq 92 216 [0, 3] = some (34, 3) := by decide +kernel
theorem d_92_119 : decode (bc 92) 119 = .ok (.ireturn, 1) := by decide +kernel
theorem d_92_120 : decode (bc 92) 120 = .ok (.aload_n 0, 1) := by decide +kernel
theorem d_92_121 : decode (bc 92) 121 = .ok (.getfield 63, 3) := by decide +kernel
theorem d_92_124 : decode (bc 92) 124 = .ok (.aload 4, 2) := by decide +kernel
theorem d_92_126 : decode (bc 92) 126 = .ok (.aload_n 0, 1) := by decide +kernel
theorem d_92_127 : decode (bc 92) 127 = .ok (.getfield 18, 3) := by decide +kernel
theorem d_92_130 : decode (bc 92) 130 = .ok (.iload_n 1, 1) := by decide +kernel
theorem d_92_131 : decode (bc 92) 131 = .ok (.aaload, 1) := by decide +kernel
theorem d_92_132 : decode (bc 92) 132 = .ok (.invokevirtual 216, 3) := by decide +kernel
theorem d_92_135 : decode (bc 92) 135 = .ok (.ireturn, 1) := by decide +kernel
theorem rt_92 : rty 92 = some .int := by decide +kernel
theorem mx_92 : mxl 92 = 5 := by decide +kernel
theorem ow_92 : (sta 92 = false ∧ own 92 = 9 ∧ hgt 92 = 6) := by decide +kernel
-- 93: SpunModules.telling(III)I
theorem d_93_0 : decode (bc 93) 0 = .ok (.aload_n 0, 1) := by decide +kernel
theorem d_93_1 : decode (bc 93) 1 = .ok (.iload_n 1, 1) := by decide +kernel
theorem d_93_2 : decode (bc 93) 2 = .ok (.invokevirtual 106, 3) := by decide +kernel
theorem q_93_106 : cq 93 106 [0, 3] = some (109, 2) := by decide +kernel
theorem d_93_5 : decode (bc 93) 5 = .ok (.ifCond .eq 11, 3) := by decide +kernel
theorem d_93_8 : decode (bc 93) 8 = .ok (.iload_n 2, 1) := by decide +kernel
theorem d_93_9 : decode (bc 93) 9 = .ok (.ifCond .lt 7, 3) := by decide +kernel
theorem d_93_12 : decode (bc 93) 12 = .ok (.iload_n 3, 1) := by decide +kernel
theorem d_93_13 : decode (bc 93) 13 = .ok (.ifCond .ge 10, 3) := by decide +kernel
theorem d_93_16 : decode (bc 93) 16 = .ok (.aload_n 0, 1) := by decide +kernel
theorem d_93_17 : decode (bc 93) 17 = .ok (.bipush (-2), 2) := by decide +kernel
theorem d_93_19 : decode (bc 93) 19 = .ok (.invokevirtual 91, 3) := by decide +kernel
theorem q_93_91 : cq 93 91 [0, 3] = some (107, 2) := by decide +kernel
theorem d_93_22 : decode (bc 93) 22 = .ok (.ireturn, 1) := by decide +kernel
theorem d_93_23 : decode (bc 93) 23 = .ok (.aload_n 0, 1) := by decide +kernel
theorem d_93_24 : decode (bc 93) 24 = .ok (.getfield 53, 3) := by decide +kernel
theorem q_93_53 : fq 93 53 = some (9, 6, 14, 2, true) := by decide +kernel
theorem d_93_27 : decode (bc 93) 27 = .ok (.aload_n 0, 1) := by decide +kernel
theorem d_93_28 : decode (bc 93) 28 = .ok (.getfield 18, 3) := by decide +kernel
theorem q_93_18 : fq 93 18 = some (9, 1, 14, 2, true) := by decide +kernel
theorem d_93_31 : decode (bc 93) 31 = .ok (.iload_n 1, 1) := by decide +kernel
theorem d_93_32 : decode (bc 93) 32 = .ok (.aaload, 1) := by decide +kernel
theorem d_93_33 : decode (bc 93) 33 = .ok (.invokevirtual 204, 3) := by decide +kernel
theorem q_93_204 : cq 93 204 [0, 3] = some (19, 2) := by decide +kernel
theorem d_93_36 : decode (bc 93) 36 = .ok (.iload_n 2, 1) := by decide +kernel
theorem d_93_37 : decode (bc 93) 37 = .ok (.aload_n 0, 1) := by decide +kernel
theorem d_93_38 : decode (bc 93) 38 = .ok (.getfield 53, 3) := by decide +kernel
theorem d_93_41 : decode (bc 93) 41 = .ok (.getfield 207, 3) := by decide +kernel
theorem q_93_207 : fq 93 207 = some (1, 2, 8, 0, false) := by decide +kernel
theorem d_93_44 : decode (bc 93) 44 = .ok (.if_icmp .lt 5, 3) := by decide +kernel
theorem d_93_47 : decode (bc 93) 47 = .ok (.iconst (-1), 1) := by decide +kernel
theorem d_93_48 : decode (bc 93) 48 = .ok (.ireturn, 1) := by decide +kernel
theorem d_93_49 : decode (bc 93) 49 = .ok (.aload_n 0, 1) := by decide +kernel
theorem d_93_50 : decode (bc 93) 50 = .ok (.getfield 53, 3) := by decide +kernel
theorem d_93_53 : decode (bc 93) 53 = .ok (.getfield 210, 3) := by decide +kernel
theorem q_93_210 : fq 93 210 = some (1, 1, 8, 2, true) := by decide +kernel
theorem d_93_56 : decode (bc 93) 56 = .ok (.iload_n 2, 1) := by decide +kernel
theorem d_93_57 : decode (bc 93) 57 = .ok (.aaload, 1) := by decide +kernel
theorem d_93_58 : decode (bc 93) 58 = .ok (.iload_n 3, 1) := by decide +kernel
theorem d_93_59 : decode (bc 93) 59 = .ok (.invokevirtual 220, 3) := by decide +kernel
theorem q_93_220 : cq 93 220 [0, 3] = some (15, 2) := by decide +kernel
theorem d_93_62 : decode (bc 93) 62 = .ok (.ireturn, 1) := by decide +kernel
theorem rt_93 : rty 93 = some .int := by decide +kernel
theorem mx_93 : mxl 93 = 4 := by decide +kernel
theorem ow_93 : (sta 93 = false ∧ own 93 = 9 ∧ hgt 93 = 6) := by decide +kernel
-- 94: SpunModules.common(II)I
theorem d_94_0 : decode (bc 94) 0 = .ok (.aload_n 0, 1) := by decide +kernel
theorem d_94_1 : decode (bc 94) 1 = .ok (.iload_n 1, 1) := by decide +kernel
theorem d_94_2 : decode (bc 94) 2 = .ok (.invokevirtual 106, 3) := by decide +kernel
theorem q_94_106 : cq 94 106 [0, 3] = some (109, 2) := by decide +kernel
theorem d_94_5 : decode (bc 94) 5 = .ok (.ifCond .eq 11, 3) := by decide +kernel
theorem d_94_8 : decode (bc 94) 8 = .ok (.aload_n 0, 1) := by decide +kernel
theorem d_94_9 : decode (bc 94) 9 = .ok (.iload_n 2, 1) := by decide +kernel
theorem d_94_10 : decode (bc 94) 10 = .ok (.invokevirtual 106, 3) := by decide +kernel
theorem d_94_13 : decode (bc 94) 13 = .ok (.ifCond .ne 10, 3) := by decide +kernel
theorem d_94_16 : decode (bc 94) 16 = .ok (.aload_n 0, 1) := by decide +kernel
theorem d_94_17 : decode (bc 94) 17 = .ok (.bipush (-2), 2) := by decide +kernel
theorem d_94_19 : decode (bc 94) 19 = .ok (.invokevirtual 91, 3) := by decide +kernel
theorem q_94_91 : cq 94 91 [0, 3] = some (107, 2) := by decide +kernel
theorem d_94_22 : decode (bc 94) 22 = .ok (.ireturn, 1) := by decide +kernel
theorem d_94_23 : decode (bc 94) 23 = .ok (.aload_n 0, 1) := by decide +kernel
theorem d_94_24 : decode (bc 94) 24 = .ok (.getfield 53, 3) := by decide +kernel
theorem q_94_53 : fq 94 53 = some (9, 6, 14, 2, true) := by decide +kernel
theorem d_94_27 : decode (bc 94) 27 = .ok (.aload_n 0, 1) := by decide +kernel
theorem d_94_28 : decode (bc 94) 28 = .ok (.getfield 18, 3) := by decide +kernel
theorem q_94_18 : fq 94 18 = some (9, 1, 14, 2, true) := by decide +kernel
theorem d_94_31 : decode (bc 94) 31 = .ok (.iload_n 1, 1) := by decide +kernel
theorem d_94_32 : decode (bc 94) 32 = .ok (.aaload, 1) := by decide +kernel
theorem d_94_33 : decode (bc 94) 33 = .ok (.invokevirtual 204, 3) := by decide +kernel
theorem q_94_204 : cq 94 204 [0, 3] = some (19, 2) := by decide +kernel
theorem d_94_36 : decode (bc 94) 36 = .ok (.aload_n 0, 1) := by decide +kernel
theorem d_94_37 : decode (bc 94) 37 = .ok (.getfield 57, 3) := by decide +kernel
theorem q_94_57 : fq 94 57 = some (9, 7, 14, 2, true) := by decide +kernel
theorem d_94_40 : decode (bc 94) 40 = .ok (.aload_n 0, 1) := by decide +kernel
theorem d_94_41 : decode (bc 94) 41 = .ok (.getfield 18, 3) := by decide +kernel
theorem d_94_44 : decode (bc 94) 44 = .ok (.iload_n 2, 1) := by decide +kernel
theorem d_94_45 : decode (bc 94) 45 = .ok (.aaload, 1) := by decide +kernel
theorem d_94_46 : decode (bc 94) 46 = .ok (.invokevirtual 204, 3) := by decide +kernel
theorem d_94_49 : decode (bc 94) 49 = .ok (.aload_n 0, 1) := by decide +kernel
theorem d_94_50 : decode (bc 94) 50 = .ok (.getfield 53, 3) := by decide +kernel
theorem d_94_53 : decode (bc 94) 53 = .ok (.aload_n 0, 1) := by decide +kernel
theorem d_94_54 : decode (bc 94) 54 = .ok (.getfield 57, 3) := by decide +kernel
theorem d_94_57 : decode (bc 94) 57 = .ok (.invokevirtual 223, 3) := by decide +kernel
theorem q_94_223 : cq 94 223 [0, 3] = some (24, 2) := by decide +kernel
theorem d_94_60 : decode (bc 94) 60 = .ok (.ireturn, 1) := by decide +kernel
theorem rt_94 : rty 94 = some .int := by decide +kernel
theorem mx_94 : mxl 94 = 3 := by decide +kernel
theorem ow_94 : (sta 94 = false ∧ own 94 = 9 ∧ hgt 94 = 6) := by decide +kernel
-- 95: SpunModules.ways(II)I
theorem d_95_0 : decode (bc 95) 0 = .ok (.aload_n 0, 1) := by decide +kernel
theorem d_95_1 : decode (bc 95) 1 = .ok (.iload_n 1, 1) := by decide +kernel
theorem d_95_2 : decode (bc 95) 2 = .ok (.invokevirtual 106, 3) := by decide +kernel
theorem q_95_106 : cq 95 106 [0, 3] = some (109, 2) := by decide +kernel
theorem d_95_5 : decode (bc 95) 5 = .ok (.ifCond .eq 11, 3) := by decide +kernel
theorem d_95_8 : decode (bc 95) 8 = .ok (.aload_n 0, 1) := by decide +kernel
theorem d_95_9 : decode (bc 95) 9 = .ok (.iload_n 2, 1) := by decide +kernel
theorem d_95_10 : decode (bc 95) 10 = .ok (.invokevirtual 106, 3) := by decide +kernel
theorem d_95_13 : decode (bc 95) 13 = .ok (.ifCond .ne 10, 3) := by decide +kernel
theorem d_95_16 : decode (bc 95) 16 = .ok (.aload_n 0, 1) := by decide +kernel
theorem d_95_17 : decode (bc 95) 17 = .ok (.bipush (-2), 2) := by decide +kernel
theorem d_95_19 : decode (bc 95) 19 = .ok (.invokevirtual 91, 3) := by decide +kernel
theorem q_95_91 : cq 95 91 [0, 3] = some (107, 2) := by decide +kernel
theorem d_95_22 : decode (bc 95) 22 = .ok (.ireturn, 1) := by decide +kernel
theorem d_95_23 : decode (bc 95) 23 = .ok (.aload_n 0, 1) := by decide +kernel
theorem d_95_24 : decode (bc 95) 24 = .ok (.getfield 63, 3) := by decide +kernel
theorem q_95_63 : fq 95 63 = some (9, 8, 14, 2, true) := by decide +kernel
theorem d_95_27 : decode (bc 95) 27 = .ok (.aload_n 0, 1) := by decide +kernel
theorem d_95_28 : decode (bc 95) 28 = .ok (.getfield 18, 3) := by decide +kernel
theorem q_95_18 : fq 95 18 = some (9, 1, 14, 2, true) := by decide +kernel
theorem d_95_31 : decode (bc 95) 31 = .ok (.iload_n 1, 1) := by decide +kernel
theorem d_95_32 : decode (bc 95) 32 = .ok (.aaload, 1) := by decide +kernel
theorem d_95_33 : decode (bc 95) 33 = .ok (.aload_n 0, 1) := by decide +kernel
theorem d_95_34 : decode (bc 95) 34 = .ok (.getfield 18, 3) := by decide +kernel
theorem d_95_37 : decode (bc 95) 37 = .ok (.iload_n 2, 1) := by decide +kernel
theorem d_95_38 : decode (bc 95) 38 = .ok (.aaload, 1) := by decide +kernel
theorem d_95_39 : decode (bc 95) 39 = .ok (.invokevirtual 216, 3) := by decide +kernel
theorem q_95_216 : cq 95 216 [0, 3] = some (34, 3) := by decide +kernel
theorem d_95_42 : decode (bc 95) 42 = .ok (.ireturn, 1) := by decide +kernel
theorem rt_95 : rty 95 = some .int := by decide +kernel
theorem mx_95 : mxl 95 = 3 := by decide +kernel
theorem ow_95 : (sta 95 = false ∧ own 95 = 9 ∧ hgt 95 = 4) := by decide +kernel
-- 96: SpunModules.layer(II)I
theorem d_96_0 : decode (bc 96) 0 = .ok (.aload_n 0, 1) := by decide +kernel
theorem d_96_1 : decode (bc 96) 1 = .ok (.iload_n 1, 1) := by decide +kernel
theorem d_96_2 : decode (bc 96) 2 = .ok (.invokevirtual 106, 3) := by decide +kernel
theorem q_96_106 : cq 96 106 [0, 3] = some (109, 2) := by decide +kernel
theorem d_96_5 : decode (bc 96) 5 = .ok (.ifCond .eq 7, 3) := by decide +kernel
theorem d_96_8 : decode (bc 96) 8 = .ok (.iload_n 2, 1) := by decide +kernel
theorem d_96_9 : decode (bc 96) 9 = .ok (.ifCond .ge 10, 3) := by decide +kernel
theorem d_96_12 : decode (bc 96) 12 = .ok (.aload_n 0, 1) := by decide +kernel
theorem d_96_13 : decode (bc 96) 13 = .ok (.bipush (-2), 2) := by decide +kernel
theorem d_96_15 : decode (bc 96) 15 = .ok (.invokevirtual 91, 3) := by decide +kernel
theorem q_96_91 : cq 96 91 [0, 3] = some (107, 2) := by decide +kernel
theorem d_96_18 : decode (bc 96) 18 = .ok (.ireturn, 1) := by decide +kernel
theorem d_96_19 : decode (bc 96) 19 = .ok (.aload_n 0, 1) := by decide +kernel
theorem d_96_20 : decode (bc 96) 20 = .ok (.getfield 70, 3) := by decide +kernel
theorem q_96_70 : fq 96 70 = some (9, 9, 14, 2, true) := by decide +kernel
theorem d_96_23 : decode (bc 96) 23 = .ok (.aload_n 0, 1) := by decide +kernel
theorem d_96_24 : decode (bc 96) 24 = .ok (.getfield 18, 3) := by decide +kernel
theorem q_96_18 : fq 96 18 = some (9, 1, 14, 2, true) := by decide +kernel
theorem d_96_27 : decode (bc 96) 27 = .ok (.iload_n 1, 1) := by decide +kernel
theorem d_96_28 : decode (bc 96) 28 = .ok (.aaload, 1) := by decide +kernel
theorem d_96_29 : decode (bc 96) 29 = .ok (.iload_n 2, 1) := by decide +kernel
theorem d_96_30 : decode (bc 96) 30 = .ok (.invokevirtual 227, 3) := by decide +kernel
theorem q_96_227 : cq 96 227 [0, 3] = some (47, 3) := by decide +kernel
theorem d_96_33 : decode (bc 96) 33 = .ok (.ireturn, 1) := by decide +kernel
theorem rt_96 : rty 96 = some .int := by decide +kernel
theorem mx_96 : mxl 96 = 3 := by decide +kernel
theorem ow_96 : (sta 96 = false ∧ own 96 = 9 ∧ hgt 96 = 7) := by decide +kernel
-- 97: SpunModules.spaces(II)I
theorem d_97_0 : decode (bc 97) 0 = .ok (.aload_n 0, 1) := by decide +kernel
theorem d_97_1 : decode (bc 97) 1 = .ok (.iload_n 1, 1) := by decide +kernel
theorem d_97_2 : decode (bc 97) 2 = .ok (.invokevirtual 106, 3) := by decide +kernel
theorem q_97_106 : cq 97 106 [0, 3] = some (109, 2) := by decide +kernel
theorem d_97_5 : decode (bc 97) 5 = .ok (.ifCond .eq 13, 3) := by decide +kernel
theorem d_97_8 : decode (bc 97) 8 = .ok (.iload_n 2, 1) := by decide +kernel
theorem d_97_9 : decode (bc 97) 9 = .ok (.ifCond .lt 9, 3) := by decide +kernel
theorem d_97_12 : decode (bc 97) 12 = .ok (.iload_n 2, 1) := by decide +kernel
theorem d_97_13 : decode (bc 97) 13 = .ok (.bipush 6, 2) := by decide +kernel
theorem d_97_15 : decode (bc 97) 15 = .ok (.if_icmp .le 10, 3) := by decide +kernel
theorem d_97_18 : decode (bc 97) 18 = .ok (.aload_n 0, 1) := by decide +kernel
theorem d_97_19 : decode (bc 97) 19 = .ok (.bipush (-2), 2) := by decide +kernel
theorem d_97_21 : decode (bc 97) 21 = .ok (.invokevirtual 91, 3) := by decide +kernel
theorem q_97_91 : cq 97 91 [0, 3] = some (107, 2) := by decide +kernel
theorem d_97_24 : decode (bc 97) 24 = .ok (.ireturn, 1) := by decide +kernel
theorem d_97_25 : decode (bc 97) 25 = .ok (.aload_n 0, 1) := by decide +kernel
theorem d_97_26 : decode (bc 97) 26 = .ok (.getfield 18, 3) := by decide +kernel
theorem q_97_18 : fq 97 18 = some (9, 1, 14, 2, true) := by decide +kernel
theorem d_97_29 : decode (bc 97) 29 = .ok (.iload_n 1, 1) := by decide +kernel
theorem d_97_30 : decode (bc 97) 30 = .ok (.aaload, 1) := by decide +kernel
theorem d_97_31 : decode (bc 97) 31 = .ok (.getfield 149, 3) := by decide +kernel
theorem q_97_149 : fq 97 149 = some (0, 1, 3, 0, false) := by decide +kernel
theorem d_97_34 : decode (bc 97) 34 = .ok (.istore_n 3, 1) := by decide +kernel
theorem d_97_35 : decode (bc 97) 35 = .ok (.iload_n 3, 1) := by decide +kernel
theorem d_97_36 : decode (bc 97) 36 = .ok (.iconst 4, 1) := by decide +kernel
theorem d_97_37 : decode (bc 97) 37 = .ok (.if_icmp .le 10, 3) := by decide +kernel
theorem d_97_40 : decode (bc 97) 40 = .ok (.aload_n 0, 1) := by decide +kernel
theorem d_97_41 : decode (bc 97) 41 = .ok (.bipush (-3), 2) := by decide +kernel
theorem d_97_43 : decode (bc 97) 43 = .ok (.invokevirtual 91, 3) := by decide +kernel
theorem d_97_46 : decode (bc 97) 46 = .ok (.ireturn, 1) := by decide +kernel
theorem d_97_47 : decode (bc 97) 47 = .ok (.iconst 0, 1) := by decide +kernel
theorem d_97_48 : decode (bc 97) 48 = .ok (.istore 4, 2) := by decide +kernel
theorem d_97_50 : decode (bc 97) 50 = .ok (.iconst 0, 1) := by decide +kernel
theorem d_97_51 : decode (bc 97) 51 = .ok (.istore 5, 2) := by decide +kernel
theorem d_97_53 : decode (bc 97) 53 = .ok (.iload 5, 2) := by decide +kernel
theorem d_97_55 : decode (bc 97) 55 = .ok (.iconst 1, 1) := by decide +kernel
theorem d_97_56 : decode (bc 97) 56 = .ok (.iload_n 3, 1) := by decide +kernel
theorem d_97_57 : decode (bc 97) 57 = .ok (.ishl, 1) := by decide +kernel
theorem d_97_58 : decode (bc 97) 58 = .ok (.if_icmp .ge 35, 3) := by decide +kernel
theorem d_97_61 : decode (bc 97) 61 = .ok (.iload 5, 2) := by decide +kernel
theorem d_97_63 : decode (bc 97) 63 = .ok (.invokestatic 231, 3) := by decide +kernel
theorem q_97_231 : cq 97 231 [1, 4] = some (216, 1) := by decide +kernel
theorem d_97_66 : decode (bc 97) 66 = .ok (.iload_n 2, 1) := by decide +kernel
theorem d_97_67 : decode (bc 97) 67 = .ok (.if_icmp .ne 20, 3) := by decide +kernel
theorem d_97_70 : decode (bc 97) 70 = .ok (.iload 4, 2) := by decide +kernel
theorem d_97_72 : decode (bc 97) 72 = .ok (.aload_n 0, 1) := by decide +kernel
theorem d_97_73 : decode (bc 97) 73 = .ok (.aload_n 0, 1) := by decide +kernel
theorem d_97_74 : decode (bc 97) 74 = .ok (.getfield 18, 3) := by decide +kernel
theorem d_97_77 : decode (bc 97) 77 = .ok (.iload_n 1, 1) := by decide +kernel
theorem d_97_78 : decode (bc 97) 78 = .ok (.aaload, 1) := by decide +kernel
theorem d_97_79 : decode (bc 97) 79 = .ok (.iload 5, 2) := by decide +kernel
theorem d_97_81 : decode (bc 97) 81 = .ok (.invokevirtual 236, 3) := by decide +kernel
theorem q_97_236 : cq 97 236 [0, 3] = some (117, 3) := by decide +kernel
theorem d_97_84 : decode (bc 97) 84 = .ok (.iadd, 1) := by decide +kernel
theorem d_97_85 : decode (bc 97) 85 = .ok (.istore 4, 2) := by decide +kernel
theorem d_97_87 : decode (bc 97) 87 = .ok (.iinc 5 1, 3) := by decide +kernel
theorem d_97_90 : decode (bc 97) 90 = .ok (.goto (-37), 3) := by decide +kernel
theorem d_97_93 : decode (bc 97) 93 = .ok (.iload 4, 2) := by decide +kernel
theorem d_97_95 : decode (bc 97) 95 = .ok (.ireturn, 1) := by decide +kernel
theorem rt_97 : rty 97 = some .int := by decide +kernel
theorem mx_97 : mxl 97 = 6 := by decide +kernel
theorem ow_97 : (sta 97 = false ∧ own 97 = 9 ∧ hgt 97 = 5) := by decide +kernel
-- 98: SpunModules.type(I)I
theorem d_98_0 : decode (bc 98) 0 = .ok (.iload_n 1, 1) := by decide +kernel
theorem d_98_1 : decode (bc 98) 1 = .ok (.ifCond .lt 9, 3) := by decide +kernel
theorem d_98_4 : decode (bc 98) 4 = .ok (.iload_n 1, 1) := by decide +kernel
theorem d_98_5 : decode (bc 98) 5 = .ok (.bipush 127, 2) := by decide +kernel
theorem d_98_7 : decode (bc 98) 7 = .ok (.if_icmp .le 10, 3) := by decide +kernel
theorem d_98_10 : decode (bc 98) 10 = .ok (.aload_n 0, 1) := by decide +kernel
theorem d_98_11 : decode (bc 98) 11 = .ok (.bipush (-2), 2) := by decide +kernel
theorem d_98_13 : decode (bc 98) 13 = .ok (.invokevirtual 91, 3) := by decide +kernel
theorem q_98_91 : cq 98 91 [0, 3] = some (107, 2) := by decide +kernel
theorem d_98_16 : decode (bc 98) 16 = .ok (.ireturn, 1) := by decide +kernel
theorem d_98_17 : decode (bc 98) 17 = .ok (.aload_n 0, 1) := by decide +kernel
theorem d_98_18 : decode (bc 98) 18 = .ok (.getfield 46, 3) := by decide +kernel
theorem q_98_46 : fq 98 46 = some (9, 5, 14, 2, true) := by decide +kernel
theorem d_98_21 : decode (bc 98) 21 = .ok (.getfield 239, 3) := by decide +kernel
theorem q_98_239 : fq 98 239 = some (8, 1, 6, 0, false) := by decide +kernel
theorem d_98_24 : decode (bc 98) 24 = .ok (.bipush 40, 2) := by decide +kernel
theorem d_98_26 : decode (bc 98) 26 = .ok (.if_icmp .lt 10, 3) := by decide +kernel
theorem d_98_29 : decode (bc 98) 29 = .ok (.aload_n 0, 1) := by decide +kernel
theorem d_98_30 : decode (bc 98) 30 = .ok (.bipush (-4), 2) := by decide +kernel
theorem d_98_32 : decode (bc 98) 32 = .ok (.invokevirtual 91, 3) := by decide +kernel
theorem d_98_35 : decode (bc 98) 35 = .ok (.ireturn, 1) := by decide +kernel
theorem d_98_36 : decode (bc 98) 36 = .ok (.aload_n 0, 1) := by decide +kernel
theorem d_98_37 : decode (bc 98) 37 = .ok (.getfield 46, 3) := by decide +kernel
theorem d_98_40 : decode (bc 98) 40 = .ok (.iload_n 1, 1) := by decide +kernel
theorem d_98_41 : decode (bc 98) 41 = .ok (.invokevirtual 242, 3) := by decide +kernel
theorem q_98_242 : cq 98 242 [0, 3] = some (65, 2) := by decide +kernel
theorem d_98_44 : decode (bc 98) 44 = .ok (.aload_n 0, 1) := by decide +kernel
theorem d_98_45 : decode (bc 98) 45 = .ok (.getfield 46, 3) := by decide +kernel
theorem d_98_48 : decode (bc 98) 48 = .ok (.getfield 239, 3) := by decide +kernel
theorem d_98_51 : decode (bc 98) 51 = .ok (.ireturn, 1) := by decide +kernel
theorem rt_98 : rty 98 = some .int := by decide +kernel
theorem mx_98 : mxl 98 = 2 := by decide +kernel
theorem ow_98 : (sta 98 = false ∧ own 98 = 9 ∧ hgt 98 = 1) := by decide +kernel
-- 99: SpunModules.clear()I
theorem d_99_0 : decode (bc 99) 0 = .ok (.aload_n 0, 1) := by decide +kernel
theorem d_99_1 : decode (bc 99) 1 = .ok (.getfield 46, 3) := by decide +kernel
theorem q_99_46 : fq 99 46 = some (9, 5, 14, 2, true) := by decide +kernel
theorem d_99_4 : decode (bc 99) 4 = .ok (.getfield 239, 3) := by decide +kernel
theorem q_99_239 : fq 99 239 = some (8, 1, 6, 0, false) := by decide +kernel
theorem d_99_7 : decode (bc 99) 7 = .ok (.istore_n 1, 1) := by decide +kernel
theorem d_99_8 : decode (bc 99) 8 = .ok (.aload_n 0, 1) := by decide +kernel
theorem d_99_9 : decode (bc 99) 9 = .ok (.getfield 46, 3) := by decide +kernel
theorem d_99_12 : decode (bc 99) 12 = .ok (.iconst 0, 1) := by decide +kernel
theorem d_99_13 : decode (bc 99) 13 = .ok (.putfield 239, 3) := by decide +kernel
theorem d_99_16 : decode (bc 99) 16 = .ok (.iload_n 1, 1) := by decide +kernel
theorem d_99_17 : decode (bc 99) 17 = .ok (.ireturn, 1) := by decide +kernel
theorem rt_99 : rty 99 = some .int := by decide +kernel
theorem mx_99 : mxl 99 = 2 := by decide +kernel
theorem ow_99 : (sta 99 = false ∧ own 99 = 9 ∧ hgt 99 = 0) := by decide +kernel
-- 100: SpunModules.tells()I
theorem d_100_0 : decode (bc 100) 0 = .ok (.aload_n 0, 1) := by decide +kernel
theorem d_100_1 : decode (bc 100) 1 = .ok (.getfield 46, 3) := by decide +kernel
theorem q_100_46 : fq 100 46 = some (9, 5, 14, 2, true) := by decide +kernel
theorem d_100_4 : decode (bc 100) 4 = .ok (.invokevirtual 245, 3) := by decide +kernel
theorem q_100_245 : cq 100 245 [0, 3] = some (66, 1) := by decide +kernel
theorem d_100_7 : decode (bc 100) 7 = .ok (.istore_n 1, 1) := by decide +kernel
theorem d_100_8 : decode (bc 100) 8 = .ok (.iload_n 1, 1) := by decide +kernel
theorem d_100_9 : decode (bc 100) 9 = .ok (.iconst (-1), 1) := by decide +kernel
theorem d_100_10 : decode (bc 100) 10 = .ok (.if_icmp .eq 8, 3) := by decide +kernel
theorem d_100_13 : decode (bc 100) 13 = .ok (.bipush (-10), 2) := by decide +kernel
theorem d_100_15 : decode (bc 100) 15 = .ok (.iload_n 1, 1) := by decide +kernel
theorem d_100_16 : decode (bc 100) 16 = .ok (.isub, 1) := by decide +kernel
theorem d_100_17 : decode (bc 100) 17 = .ok (.ireturn, 1) := by decide +kernel
theorem d_100_18 : decode (bc 100) 18 = .ok (.aload_n 0, 1) := by decide +kernel
theorem d_100_19 : decode (bc 100) 19 = .ok (.getfield 46, 3) := by decide +kernel
theorem d_100_22 : decode (bc 100) 22 = .ok (.invokevirtual 248, 3) := by decide +kernel
theorem q_100_248 : cq 100 248 [0, 3] = some (67, 1) := by decide +kernel
theorem d_100_25 : decode (bc 100) 25 = .ok (.aload_n 0, 1) := by decide +kernel
theorem d_100_26 : decode (bc 100) 26 = .ok (.getfield 46, 3) := by decide +kernel
theorem d_100_29 : decode (bc 100) 29 = .ok (.invokevirtual 251, 3) := by decide +kernel
theorem q_100_251 : cq 100 251 [0, 3] = some (68, 1) := by decide +kernel
theorem d_100_32 : decode (bc 100) 32 = .ok (.ireturn, 1) := by decide +kernel
theorem rt_100 : rty 100 = some .int := by decide +kernel
theorem mx_100 : mxl 100 = 2 := by decide +kernel
theorem ow_100 : (sta 100 = false ∧ own 100 = 9 ∧ hgt 100 = 2) := by decide +kernel
-- 101: SpunModules.word(III)I
theorem d_101_0 : decode (bc 101) 0 = .ok (.aload_n 0, 1) := by decide +kernel
theorem d_101_1 : decode (bc 101) 1 = .ok (.iload_n 1, 1) := by decide +kernel
theorem d_101_2 : decode (bc 101) 2 = .ok (.iload_n 2, 1) := by decide +kernel
theorem d_101_3 : decode (bc 101) 3 = .ok (.invokevirtual 133, 3) := by decide +kernel
theorem q_101_133 : cq 101 133 [0, 3] = some (112, 3) := by decide +kernel
theorem d_101_6 : decode (bc 101) 6 = .ok (.ifCond .eq 12, 3) := by decide +kernel
theorem d_101_9 : decode (bc 101) 9 = .ok (.aload_n 0, 1) := by decide +kernel
theorem d_101_10 : decode (bc 101) 10 = .ok (.iload_n 1, 1) := by decide +kernel
theorem d_101_11 : decode (bc 101) 11 = .ok (.iload_n 3, 1) := by decide +kernel
theorem d_101_12 : decode (bc 101) 12 = .ok (.invokevirtual 133, 3) := by decide +kernel
theorem d_101_15 : decode (bc 101) 15 = .ok (.ifCond .ne 10, 3) := by decide +kernel
theorem d_101_18 : decode (bc 101) 18 = .ok (.aload_n 0, 1) := by decide +kernel
theorem d_101_19 : decode (bc 101) 19 = .ok (.bipush (-2), 2) := by decide +kernel
theorem d_101_21 : decode (bc 101) 21 = .ok (.invokevirtual 91, 3) := by decide +kernel
theorem q_101_91 : cq 101 91 [0, 3] = some (107, 2) := by decide +kernel
theorem d_101_24 : decode (bc 101) 24 = .ok (.ireturn, 1) := by decide +kernel
theorem d_101_25 : decode (bc 101) 25 = .ok (.aload_n 0, 1) := by decide +kernel
theorem d_101_26 : decode (bc 101) 26 = .ok (.getfield 46, 3) := by decide +kernel
theorem q_101_46 : fq 101 46 = some (9, 5, 14, 2, true) := by decide +kernel
theorem d_101_29 : decode (bc 101) 29 = .ok (.aload_n 0, 1) := by decide +kernel
theorem d_101_30 : decode (bc 101) 30 = .ok (.getfield 18, 3) := by decide +kernel
theorem q_101_18 : fq 101 18 = some (9, 1, 14, 2, true) := by decide +kernel
theorem d_101_33 : decode (bc 101) 33 = .ok (.iload_n 1, 1) := by decide +kernel
theorem d_101_34 : decode (bc 101) 34 = .ok (.aaload, 1) := by decide +kernel
theorem d_101_35 : decode (bc 101) 35 = .ok (.iload_n 2, 1) := by decide +kernel
theorem d_101_36 : decode (bc 101) 36 = .ok (.invokevirtual 254, 3) := by decide +kernel
theorem q_101_254 : cq 101 254 [0, 3] = some (69, 3) := by decide +kernel
theorem d_101_39 : decode (bc 101) 39 = .ok (.iload_n 3, 1) := by decide +kernel
theorem d_101_40 : decode (bc 101) 40 = .ok (.invokestatic 258, 3) := by decide +kernel
theorem q_101_258 : cq 101 258 [1, 4] = some (120, 2) := by decide +kernel
theorem d_101_43 : decode (bc 101) 43 = .ok (.ireturn, 1) := by decide +kernel
theorem rt_101 : rty 101 = some .int := by decide +kernel
theorem mx_101 : mxl 101 = 4 := by decide +kernel
theorem ow_101 : (sta 101 = false ∧ own 101 = 9 ∧ hgt 101 = 3) := by decide +kernel
-- 102: SpunModules.nulls(II)I
theorem d_102_0 : decode (bc 102) 0 = .ok (.aload_n 0, 1) := by decide +kernel
theorem d_102_1 : decode (bc 102) 1 = .ok (.iload_n 1, 1) := by decide +kernel
theorem d_102_2 : decode (bc 102) 2 = .ok (.invokevirtual 106, 3) := by decide +kernel
theorem q_102_106 : cq 102 106 [0, 3] = some (109, 2) := by decide +kernel
theorem d_102_5 : decode (bc 102) 5 = .ok (.ifCond .eq 12, 3) := by decide +kernel
theorem d_102_8 : decode (bc 102) 8 = .ok (.iload_n 2, 1) := by decide +kernel
theorem d_102_9 : decode (bc 102) 9 = .ok (.ifCond .lt 8, 3) := by decide +kernel
theorem d_102_12 : decode (bc 102) 12 = .ok (.iload_n 2, 1) := by decide +kernel
theorem d_102_13 : decode (bc 102) 13 = .ok (.iconst 2, 1) := by decide +kernel
theorem d_102_14 : decode (bc 102) 14 = .ok (.if_icmp .le 10, 3) := by decide +kernel
theorem d_102_17 : decode (bc 102) 17 = .ok (.aload_n 0, 1) := by decide +kernel
theorem d_102_18 : decode (bc 102) 18 = .ok (.bipush (-2), 2) := by decide +kernel
theorem d_102_20 : decode (bc 102) 20 = .ok (.invokevirtual 91, 3) := by decide +kernel
theorem q_102_91 : cq 102 91 [0, 3] = some (107, 2) := by decide +kernel
theorem d_102_23 : decode (bc 102) 23 = .ok (.ireturn, 1) := by decide +kernel
theorem d_102_24 : decode (bc 102) 24 = .ok (.aload_n 0, 1) := by decide +kernel
theorem d_102_25 : decode (bc 102) 25 = .ok (.getfield 46, 3) := by decide +kernel
theorem q_102_46 : fq 102 46 = some (9, 5, 14, 2, true) := by decide +kernel
theorem d_102_28 : decode (bc 102) 28 = .ok (.aload_n 0, 1) := by decide +kernel
theorem d_102_29 : decode (bc 102) 29 = .ok (.getfield 18, 3) := by decide +kernel
theorem q_102_18 : fq 102 18 = some (9, 1, 14, 2, true) := by decide +kernel
theorem d_102_32 : decode (bc 102) 32 = .ok (.iload_n 1, 1) := by decide +kernel
theorem d_102_33 : decode (bc 102) 33 = .ok (.aaload, 1) := by decide +kernel
theorem d_102_34 : decode (bc 102) 34 = .ok (.aload_n 0, 1) := by decide +kernel
theorem d_102_35 : decode (bc 102) 35 = .ok (.getfield 32, 3) := by decide +kernel
theorem q_102_32 : fq 102 32 = some (9, 3, 14, 2, true) := by decide +kernel
theorem d_102_38 : decode (bc 102) 38 = .ok (.invokevirtual 261, 3) := by decide +kernel
theorem q_102_261 : cq 102 261 [0, 3] = some (70, 3) := by decide +kernel
theorem d_102_41 : decode (bc 102) 41 = .ok (.iload_n 2, 1) := by decide +kernel
theorem d_102_42 : decode (bc 102) 42 = .ok (.lookupswitch 42 #[(0, 26), (1, 34)], 26) := by decide +kernel
theorem d_102_68 : decode (bc 102) 68 = .ok (.aload_n 0, 1) := by decide +kernel
theorem d_102_69 : decode (bc 102) 69 = .ok (.getfield 32, 3) := by decide +kernel
theorem d_102_72 : decode (bc 102) 72 = .ok (.getfield 176, 3) := by decide +kernel
theorem q_102_176 : fq 102 176 = some (7, 2, 5, 0, false) := by decide +kernel
theorem d_102_75 : decode (bc 102) 75 = .ok (.ireturn, 1) := by decide +kernel
theorem d_102_76 : decode (bc 102) 76 = .ok (.aload_n 0, 1) := by decide +kernel
theorem d_102_77 : decode (bc 102) 77 = .ok (.getfield 32, 3) := by decide +kernel
theorem d_102_80 : decode (bc 102) 80 = .ok (.invokevirtual 264, 3) := by decide +kernel
theorem q_102_264 : cq 102 264 [0, 3] = some (61, 1) := by decide +kernel
theorem d_102_83 : decode (bc 102) 83 = .ok (.ireturn, 1) := by decide +kernel
theorem d_102_84 : decode (bc 102) 84 = .ok (.aload_n 0, 1) := by decide +kernel
theorem d_102_85 : decode (bc 102) 85 = .ok (.getfield 32, 3) := by decide +kernel
theorem d_102_88 : decode (bc 102) 88 = .ok (.aload_n 0, 1) := by decide +kernel
theorem d_102_89 : decode (bc 102) 89 = .ok (.getfield 18, 3) := by decide +kernel
theorem d_102_92 : decode (bc 102) 92 = .ok (.iload_n 1, 1) := by decide +kernel
theorem d_102_93 : decode (bc 102) 93 = .ok (.aaload, 1) := by decide +kernel
theorem d_102_94 : decode (bc 102) 94 = .ok (.invokevirtual 267, 3) := by decide +kernel
theorem q_102_267 : cq 102 267 [0, 3] = some (57, 2) := by decide +kernel
theorem d_102_97 : decode (bc 102) 97 = .ok (.aload_n 0, 1) := by decide +kernel
theorem d_102_98 : decode (bc 102) 98 = .ok (.getfield 32, 3) := by decide +kernel
theorem d_102_101 : decode (bc 102) 101 = .ok (.getfield 176, 3) := by decide +kernel
theorem d_102_104 : decode (bc 102) 104 = .ok (.ireturn, 1) := by decide +kernel
theorem rt_102 : rty 102 = some .int := by decide +kernel
theorem mx_102 : mxl 102 = 3 := by decide +kernel
theorem ow_102 : (sta 102 = false ∧ own 102 = 9 ∧ hgt 102 = 4) := by decide +kernel
-- 103: SpunModules.poly(II)I
theorem d_103_0 : decode (bc 103) 0 = .ok (.aload_n 0, 1) := by decide +kernel
theorem d_103_1 : decode (bc 103) 1 = .ok (.iload_n 1, 1) := by decide +kernel
theorem d_103_2 : decode (bc 103) 2 = .ok (.invokevirtual 106, 3) := by decide +kernel
theorem q_103_106 : cq 103 106 [0, 3] = some (109, 2) := by decide +kernel
theorem d_103_5 : decode (bc 103) 5 = .ok (.ifCond .eq 20, 3) := by decide +kernel
theorem d_103_8 : decode (bc 103) 8 = .ok (.iload_n 2, 1) := by decide +kernel
theorem d_103_9 : decode (bc 103) 9 = .ok (.ifCond .lt 16, 3) := by decide +kernel
theorem d_103_12 : decode (bc 103) 12 = .ok (.iload_n 2, 1) := by decide +kernel
theorem d_103_13 : decode (bc 103) 13 = .ok (.aload_n 0, 1) := by decide +kernel
theorem d_103_14 : decode (bc 103) 14 = .ok (.getfield 18, 3) := by decide +kernel
theorem q_103_18 : fq 103 18 = some (9, 1, 14, 2, true) := by decide +kernel
theorem d_103_17 : decode (bc 103) 17 = .ok (.iload_n 1, 1) := by decide +kernel
theorem d_103_18 : decode (bc 103) 18 = .ok (.aaload, 1) := by decide +kernel
theorem d_103_19 : decode (bc 103) 19 = .ok (.getfield 149, 3) := by decide +kernel
theorem q_103_149 : fq 103 149 = some (0, 1, 3, 0, false) := by decide +kernel
theorem d_103_22 : decode (bc 103) 22 = .ok (.if_icmp .le 10, 3) := by decide +kernel
theorem d_103_25 : decode (bc 103) 25 = .ok (.aload_n 0, 1) := by decide +kernel
theorem d_103_26 : decode (bc 103) 26 = .ok (.bipush (-2), 2) := by decide +kernel
theorem d_103_28 : decode (bc 103) 28 = .ok (.invokevirtual 91, 3) := by decide +kernel
theorem q_103_91 : cq 103 91 [0, 3] = some (107, 2) := by decide +kernel
theorem d_103_31 : decode (bc 103) 31 = .ok (.ireturn, 1) := by decide +kernel
theorem d_103_32 : decode (bc 103) 32 = .ok (.aload_n 0, 1) := by decide +kernel
theorem d_103_33 : decode (bc 103) 33 = .ok (.getfield 18, 3) := by decide +kernel
theorem d_103_36 : decode (bc 103) 36 = .ok (.iload_n 1, 1) := by decide +kernel
theorem d_103_37 : decode (bc 103) 37 = .ok (.aaload, 1) := by decide +kernel
theorem d_103_38 : decode (bc 103) 38 = .ok (.getfield 149, 3) := by decide +kernel
theorem d_103_41 : decode (bc 103) 41 = .ok (.istore_n 3, 1) := by decide +kernel
theorem d_103_42 : decode (bc 103) 42 = .ok (.iconst 0, 1) := by decide +kernel
theorem d_103_43 : decode (bc 103) 43 = .ok (.istore 4, 2) := by decide +kernel
theorem d_103_45 : decode (bc 103) 45 = .ok (.iload 4, 2) := by decide +kernel
theorem d_103_47 : decode (bc 103) 47 = .ok (.iload_n 3, 1) := by decide +kernel
theorem d_103_48 : decode (bc 103) 48 = .ok (.if_icmp .ge 33, 3) := by decide +kernel
theorem d_103_51 : decode (bc 103) 51 = .ok (.aload_n 0, 1) := by decide +kernel
theorem d_103_52 : decode (bc 103) 52 = .ok (.getfield 77, 3) := by decide +kernel
theorem q_103_77 : fq 103 77 = some (9, 10, 14, 2, true) := by decide +kernel
theorem d_103_55 : decode (bc 103) 55 = .ok (.iload 4, 2) := by decide +kernel
theorem d_103_57 : decode (bc 103) 57 = .ok (.aload_n 0, 1) := by decide +kernel
theorem d_103_58 : decode (bc 103) 58 = .ok (.getfield 46, 3) := by decide +kernel
theorem q_103_46 : fq 103 46 = some (9, 5, 14, 2, true) := by decide +kernel
theorem d_103_61 : decode (bc 103) 61 = .ok (.aload_n 0, 1) := by decide +kernel
theorem d_103_62 : decode (bc 103) 62 = .ok (.getfield 18, 3) := by decide +kernel
theorem d_103_65 : decode (bc 103) 65 = .ok (.iload_n 1, 1) := by decide +kernel
theorem d_103_66 : decode (bc 103) 66 = .ok (.aaload, 1) := by decide +kernel
theorem d_103_67 : decode (bc 103) 67 = .ok (.iload 4, 2) := by decide +kernel
theorem d_103_69 : decode (bc 103) 69 = .ok (.invokevirtual 254, 3) := by decide +kernel
theorem q_103_254 : cq 103 254 [0, 3] = some (69, 3) := by decide +kernel
theorem d_103_72 : decode (bc 103) 72 = .ok (.invokevirtual 269, 3) := by decide +kernel
theorem q_103_269 : cq 103 269 [0, 3] = some (42, 3) := by decide +kernel
theorem d_103_75 : decode (bc 103) 75 = .ok (.iinc 4 1, 3) := by decide +kernel
theorem d_103_78 : decode (bc 103) 78 = .ok (.goto (-33), 3) := by decide +kernel
theorem d_103_81 : decode (bc 103) 81 = .ok (.aload_n 0, 1) := by decide +kernel
theorem d_103_82 : decode (bc 103) 82 = .ok (.getfield 77, 3) := by decide +kernel
theorem d_103_85 : decode (bc 103) 85 = .ok (.iload_n 3, 1) := by decide +kernel
theorem d_103_86 : decode (bc 103) 86 = .ok (.invokevirtual 273, 3) := by decide +kernel
theorem q_103_273 : cq 103 273 [0, 3] = some (43, 2) := by decide +kernel
theorem d_103_89 : decode (bc 103) 89 = .ok (.aload_n 0, 1) := by decide +kernel
theorem d_103_90 : decode (bc 103) 90 = .ok (.getfield 10, 3) := by decide +kernel
theorem q_103_10 : fq 103 10 = some (9, 0, 14, 2, true) := by decide +kernel
theorem d_103_93 : decode (bc 103) 93 = .ok (.aload_n 0, 1) := by decide +kernel
theorem d_103_94 : decode (bc 103) 94 = .ok (.getfield 77, 3) := by decide +kernel
theorem d_103_97 : decode (bc 103) 97 = .ok (.getfield 276, 3) := by decide +kernel
theorem q_103_276 : fq 103 276 = some (5, 0, 4, 2, true) := by decide +kernel
theorem d_103_100 : decode (bc 103) 100 = .ok (.iload_n 2, 1) := by decide +kernel
theorem d_103_101 : decode (bc 103) 101 = .ok (.iaload, 1) := by decide +kernel
theorem d_103_102 : decode (bc 103) 102 = .ok (.invokevirtual 280, 3) := by decide +kernel
theorem q_103_280 : cq 103 280 [0, 3] = some (27, 2) := by decide +kernel
theorem d_103_105 : decode (bc 103) 105 = .ok (.ireturn, 1) := by decide +kernel
theorem rt_103 : rty 103 = some .int := by decide +kernel
theorem mx_103 : mxl 103 = 5 := by decide +kernel
theorem ow_103 : (sta 103 = false ∧ own 103 = 9 ∧ hgt 103 = 3) := by decide +kernel
-- 104: SpunModules.back()I
theorem d_104_0 : decode (bc 104) 0 = .ok (.aload_n 0, 1) := by decide +kernel
theorem d_104_1 : decode (bc 104) 1 = .ok (.getfield 39, 3) := by decide +kernel
theorem q_104_39 : fq 104 39 = some (9, 4, 14, 2, true) := by decide +kernel
theorem d_104_4 : decode (bc 104) 4 = .ok (.getfield 283, 3) := by decide +kernel
theorem q_104_283 : fq 104 283 = some (4, 1, 5, 0, false) := by decide +kernel
theorem d_104_7 : decode (bc 104) 7 = .ok (.ifCond .ne 10, 3) := by decide +kernel
theorem d_104_10 : decode (bc 104) 10 = .ok (.aload_n 0, 1) := by decide +kernel
theorem d_104_11 : decode (bc 104) 11 = .ok (.bipush (-3), 2) := by decide +kernel
theorem d_104_13 : decode (bc 104) 13 = .ok (.invokevirtual 91, 3) := by decide +kernel
theorem q_104_91 : cq 104 91 [0, 3] = some (107, 2) := by decide +kernel
theorem d_104_16 : decode (bc 104) 16 = .ok (.ireturn, 1) := by decide +kernel
theorem d_104_17 : decode (bc 104) 17 = .ok (.aload_n 0, 1) := by decide +kernel
theorem d_104_18 : decode (bc 104) 18 = .ok (.getfield 39, 3) := by decide +kernel
theorem d_104_21 : decode (bc 104) 21 = .ok (.aload_n 0, 1) := by decide +kernel
theorem d_104_22 : decode (bc 104) 22 = .ok (.getfield 18, 3) := by decide +kernel
theorem q_104_18 : fq 104 18 = some (9, 1, 14, 2, true) := by decide +kernel
theorem d_104_25 : decode (bc 104) 25 = .ok (.invokevirtual 284, 3) := by decide +kernel
theorem q_104_284 : cq 104 284 [0, 3] = some (40, 2) := by decide +kernel
theorem d_104_28 : decode (bc 104) 28 = .ok (.aload_n 0, 1) := by decide +kernel
theorem d_104_29 : decode (bc 104) 29 = .ok (.getfield 39, 3) := by decide +kernel
theorem d_104_32 : decode (bc 104) 32 = .ok (.getfield 283, 3) := by decide +kernel
theorem d_104_35 : decode (bc 104) 35 = .ok (.ireturn, 1) := by decide +kernel
theorem rt_104 : rty 104 = some .int := by decide +kernel
theorem mx_104 : mxl 104 = 1 := by decide +kernel
theorem ow_104 : (sta 104 = false ∧ own 104 = 9 ∧ hgt 104 = 3) := by decide +kernel
-- 105: SpunModules.told(I)I
theorem d_105_0 : decode (bc 105) 0 = .ok (.iload_n 1, 1) := by decide +kernel
theorem d_105_1 : decode (bc 105) 1 = .ok (.ifCond .lt 16, 3) := by decide +kernel
theorem d_105_4 : decode (bc 105) 4 = .ok (.iload_n 1, 1) := by decide +kernel
theorem d_105_5 : decode (bc 105) 5 = .ok (.iconst 5, 1) := by decide +kernel
theorem d_105_6 : decode (bc 105) 6 = .ok (.if_icmp .gt 11, 3) := by decide +kernel
theorem d_105_9 : decode (bc 105) 9 = .ok (.aload_n 0, 1) := by decide +kernel
theorem d_105_10 : decode (bc 105) 10 = .ok (.iload_n 1, 1) := by decide +kernel
theorem d_105_11 : decode (bc 105) 11 = .ok (.invokevirtual 287, 3) := by decide +kernel
theorem q_105_287 : cq 105 287 [0, 3] = some (108, 2) := by decide +kernel
theorem d_105_14 : decode (bc 105) 14 = .ok (.goto 9, 3) := by decide +kernel
theorem d_105_17 : decode (bc 105) 17 = .ok (.aload_n 0, 1) := by decide +kernel
theorem d_105_18 : decode (bc 105) 18 = .ok (.bipush (-2), 2) := by decide +kernel
theorem d_105_20 : decode (bc 105) 20 = .ok (.invokevirtual 91, 3) := by decide +kernel
theorem q_105_91 : cq 105 91 [0, 3] = some (107, 2) := by decide +kernel
theorem d_105_23 : decode (bc 105) 23 = .ok (.ireturn, 1) := by decide +kernel
theorem rt_105 : rty 105 = some .int := by decide +kernel
theorem mx_105 : mxl 105 = 2 := by decide +kernel
theorem ow_105 : (sta 105 = false ∧ own 105 = 9 ∧ hgt 105 = 1) := by decide +kernel
-- 106: SpunModules.digest()J
theorem d_106_0 : decode (bc 106) 0 = .ok (.ldc2_w 290, 3) := by decide +kernel
theorem q_106_290 : klk (own 106) 290 = some (9, 290, 1562, 1, 4125) := by decide +kernel
theorem d_106_3 : decode (bc 106) 3 = .ok (.lstore_n 1, 1) := by decide +kernel
theorem d_106_4 : decode (bc 106) 4 = .ok (.iconst 0, 1) := by decide +kernel
theorem d_106_5 : decode (bc 106) 5 = .ok (.istore_n 3, 1) := by decide +kernel
theorem d_106_6 : decode (bc 106) 6 = .ok (.iload_n 3, 1) := by decide +kernel
theorem d_106_7 : decode (bc 106) 7 = .ok (.iconst 5, 1) := by decide +kernel
theorem d_106_8 : decode (bc 106) 8 = .ok (.if_icmp .gt 22, 3) := by decide +kernel
theorem d_106_11 : decode (bc 106) 11 = .ok (.ldc2_w 292, 3) := by decide +kernel
theorem q_106_292 : klk (own 106) 292 = some (9, 292, 31, 1, 4126) := by decide +kernel
theorem d_106_14 : decode (bc 106) 14 = .ok (.lload_n 1, 1) := by decide +kernel
theorem d_106_15 : decode (bc 106) 15 = .ok (.lmul, 1) := by decide +kernel
theorem d_106_16 : decode (bc 106) 16 = .ok (.aload_n 0, 1) := by decide +kernel
theorem d_106_17 : decode (bc 106) 17 = .ok (.iload_n 3, 1) := by decide +kernel
theorem d_106_18 : decode (bc 106) 18 = .ok (.invokevirtual 287, 3) := by decide +kernel
theorem q_106_287 : cq 106 287 [0, 3] = some (108, 2) := by decide +kernel
theorem d_106_21 : decode (bc 106) 21 = .ok (.i2l, 1) := by decide +kernel
theorem d_106_22 : decode (bc 106) 22 = .ok (.ladd, 1) := by decide +kernel
theorem d_106_23 : decode (bc 106) 23 = .ok (.lstore_n 1, 1) := by decide +kernel
theorem d_106_24 : decode (bc 106) 24 = .ok (.iinc 3 1, 3) := by decide +kernel
theorem d_106_27 : decode (bc 106) 27 = .ok (.goto (-21), 3) := by decide +kernel
theorem d_106_30 : decode (bc 106) 30 = .ok (.iconst 0, 1) := by decide +kernel
theorem d_106_31 : decode (bc 106) 31 = .ok (.istore_n 3, 1) := by decide +kernel
theorem d_106_32 : decode (bc 106) 32 = .ok (.iload_n 3, 1) := by decide +kernel
theorem d_106_33 : decode (bc 106) 33 = .ok (.iconst 4, 1) := by decide +kernel
theorem d_106_34 : decode (bc 106) 34 = .ok (.if_icmp .ge 20, 3) := by decide +kernel
theorem d_106_37 : decode (bc 106) 37 = .ok (.aload_n 0, 1) := by decide +kernel
theorem d_106_38 : decode (bc 106) 38 = .ok (.getfield 18, 3) := by decide +kernel
theorem q_106_18 : fq 106 18 = some (9, 1, 14, 2, true) := by decide +kernel
theorem d_106_41 : decode (bc 106) 41 = .ok (.iload_n 3, 1) := by decide +kernel
theorem d_106_42 : decode (bc 106) 42 = .ok (.aaload, 1) := by decide +kernel
theorem d_106_43 : decode (bc 106) 43 = .ok (.lload_n 1, 1) := by decide +kernel
theorem d_106_44 : decode (bc 106) 44 = .ok (.invokevirtual 294, 3) := by decide +kernel
theorem q_106_294 : cq 106 294 [0, 3] = some (17, 2) := by decide +kernel
theorem d_106_47 : decode (bc 106) 47 = .ok (.lstore_n 1, 1) := by decide +kernel
theorem d_106_48 : decode (bc 106) 48 = .ok (.iinc 3 1, 3) := by decide +kernel
theorem d_106_51 : decode (bc 106) 51 = .ok (.goto (-19), 3) := by decide +kernel
theorem d_106_54 : decode (bc 106) 54 = .ok (.aload_n 0, 1) := by decide +kernel
theorem d_106_55 : decode (bc 106) 55 = .ok (.getfield 18, 3) := by decide +kernel
theorem d_106_58 : decode (bc 106) 58 = .ok (.iconst 0, 1) := by decide +kernel
theorem d_106_59 : decode (bc 106) 59 = .ok (.aaload, 1) := by decide +kernel
theorem d_106_60 : decode (bc 106) 60 = .ok (.getfield 149, 3) := by decide +kernel
theorem q_106_149 : fq 106 149 = some (0, 1, 3, 0, false) := by decide +kernel
theorem d_106_63 : decode (bc 106) 63 = .ok (.istore_n 3, 1) := by decide +kernel
theorem d_106_64 : decode (bc 106) 64 = .ok (.iconst 0, 1) := by decide +kernel
theorem d_106_65 : decode (bc 106) 65 = .ok (.istore 4, 2) := by decide +kernel
theorem d_106_67 : decode (bc 106) 67 = .ok (.iload 4, 2) := by decide +kernel
theorem d_106_69 : decode (bc 106) 69 = .ok (.iload_n 3, 1) := by decide +kernel
theorem d_106_70 : decode (bc 106) 70 = .ok (.if_icmp .ge 30, 3) := by decide +kernel
theorem d_106_73 : decode (bc 106) 73 = .ok (.lload_n 1, 1) := by decide +kernel
theorem d_106_74 : decode (bc 106) 74 = .ok (.aload_n 0, 1) := by decide +kernel
theorem d_106_75 : decode (bc 106) 75 = .ok (.getfield 46, 3) := by decide +kernel
theorem q_106_46 : fq 106 46 = some (9, 5, 14, 2, true) := by decide +kernel
theorem d_106_78 : decode (bc 106) 78 = .ok (.aload_n 0, 1) := by decide +kernel
theorem d_106_79 : decode (bc 106) 79 = .ok (.getfield 18, 3) := by decide +kernel
theorem d_106_82 : decode (bc 106) 82 = .ok (.iconst 0, 1) := by decide +kernel
theorem d_106_83 : decode (bc 106) 83 = .ok (.aaload, 1) := by decide +kernel
theorem d_106_84 : decode (bc 106) 84 = .ok (.iload 4, 2) := by decide +kernel
theorem d_106_86 : decode (bc 106) 86 = .ok (.invokevirtual 254, 3) := by decide +kernel
theorem q_106_254 : cq 106 254 [0, 3] = some (69, 3) := by decide +kernel
theorem d_106_89 : decode (bc 106) 89 = .ok (.iload_n 3, 1) := by decide +kernel
theorem d_106_90 : decode (bc 106) 90 = .ok (.invokestatic 298, 3) := by decide +kernel
theorem q_106_298 : cq 106 298 [1, 4] = some (124, 3) := by decide +kernel
theorem d_106_93 : decode (bc 106) 93 = .ok (.lstore_n 1, 1) := by decide +kernel
theorem d_106_94 : decode (bc 106) 94 = .ok (.iinc 4 1, 3) := by decide +kernel
theorem d_106_97 : decode (bc 106) 97 = .ok (.goto (-30), 3) := by decide +kernel
theorem d_106_100 : decode (bc 106) 100 = .ok (.lload_n 1, 1) := by decide +kernel
theorem d_106_101 : decode (bc 106) 101 = .ok (.lreturn, 1) := by decide +kernel
theorem rt_106 : rty 106 = some .long := by decide +kernel
theorem mx_106 : mxl 106 = 5 := by decide +kernel
theorem ow_106 : (sta 106 = false ∧ own 106 = 9 ∧ hgt 106 = 3) := by decide +kernel
-- 107: SpunModules.fails(I)I
theorem d_107_0 : decode (bc 107) 0 = .ok (.iload_n 1, 1) := by decide +kernel
theorem d_107_1 : decode (bc 107) 1 = .ok (.bipush (-2), 2) := by decide +kernel
theorem d_107_3 : decode (bc 107) 3 = .ok (.if_icmp .ne 16, 3) := by decide +kernel
theorem d_107_6 : decode (bc 107) 6 = .ok (.aload_n 0, 1) := by decide +kernel
theorem d_107_7 : decode (bc 107) 7 = .ok (.dup, 1) := by decide +kernel
theorem d_107_8 : decode (bc 107) 8 = .ok (.getfield 81, 3) := by decide +kernel
theorem q_107_81 : fq 107 81 = some (9, 11, 14, 0, false) := by decide +kernel
theorem d_107_11 : decode (bc 107) 11 = .ok (.iconst 1, 1) := by decide +kernel
theorem d_107_12 : decode (bc 107) 12 = .ok (.iadd, 1) := by decide +kernel
theorem d_107_13 : decode (bc 107) 13 = .ok (.putfield 81, 3) := by decide +kernel
theorem d_107_16 : decode (bc 107) 16 = .ok (.goto 32, 3) := by decide +kernel
theorem d_107_19 : decode (bc 107) 19 = .ok (.iload_n 1, 1) := by decide +kernel
theorem d_107_20 : decode (bc 107) 20 = .ok (.bipush (-3), 2) := by decide +kernel
theorem d_107_22 : decode (bc 107) 22 = .ok (.if_icmp .ne 16, 3) := by decide +kernel
theorem d_107_25 : decode (bc 107) 25 = .ok (.aload_n 0, 1) := by decide +kernel
theorem d_107_26 : decode (bc 107) 26 = .ok (.dup, 1) := by decide +kernel
theorem d_107_27 : decode (bc 107) 27 = .ok (.getfield 85, 3) := by decide +kernel
theorem q_107_85 : fq 107 85 = some (9, 12, 14, 0, false) := by decide +kernel
theorem d_107_30 : decode (bc 107) 30 = .ok (.iconst 1, 1) := by decide +kernel
theorem d_107_31 : decode (bc 107) 31 = .ok (.iadd, 1) := by decide +kernel
theorem d_107_32 : decode (bc 107) 32 = .ok (.putfield 85, 3) := by decide +kernel
theorem d_107_35 : decode (bc 107) 35 = .ok (.goto 13, 3) := by decide +kernel
theorem d_107_38 : decode (bc 107) 38 = .ok (.aload_n 0, 1) := by decide +kernel
theorem d_107_39 : decode (bc 107) 39 = .ok (.dup, 1) := by decide +kernel
theorem d_107_40 : decode (bc 107) 40 = .ok (.getfield 88, 3) := by decide +kernel
theorem q_107_88 : fq 107 88 = some (9, 13, 14, 0, false) := by decide +kernel
theorem d_107_43 : decode (bc 107) 43 = .ok (.iconst 1, 1) := by decide +kernel
theorem d_107_44 : decode (bc 107) 44 = .ok (.iadd, 1) := by decide +kernel
theorem d_107_45 : decode (bc 107) 45 = .ok (.putfield 88, 3) := by decide +kernel
theorem d_107_48 : decode (bc 107) 48 = .ok (.iload_n 1, 1) := by decide +kernel
theorem d_107_49 : decode (bc 107) 49 = .ok (.ireturn, 1) := by decide +kernel
theorem rt_107 : rty 107 = some .int := by decide +kernel
theorem mx_107 : mxl 107 = 2 := by decide +kernel
theorem ow_107 : (sta 107 = false ∧ own 107 = 9 ∧ hgt 107 = 0) := by decide +kernel
-- 108: SpunModules.toldNumber(I)I
theorem d_108_0 : decode (bc 108) 0 = .ok (.iload_n 1, 1) := by decide +kernel
theorem d_108_1 : decode (bc 108) 1 = .ok (.tableswitch 66 0 4 #[35, 40, 45, 50, 58], 35) := by decide +kernel
theorem d_108_36 : decode (bc 108) 36 = .ok (.aload_n 0, 1) := by decide +kernel
theorem d_108_37 : decode (bc 108) 37 = .ok (.getfield 81, 3) := by decide +kernel
theorem q_108_81 : fq 108 81 = some (9, 11, 14, 0, false) := by decide +kernel
theorem d_108_40 : decode (bc 108) 40 = .ok (.ireturn, 1) := by decide +kernel
theorem d_108_41 : decode (bc 108) 41 = .ok (.aload_n 0, 1) := by decide +kernel
theorem d_108_42 : decode (bc 108) 42 = .ok (.getfield 85, 3) := by decide +kernel
theorem q_108_85 : fq 108 85 = some (9, 12, 14, 0, false) := by decide +kernel
theorem d_108_45 : decode (bc 108) 45 = .ok (.ireturn, 1) := by decide +kernel
theorem d_108_46 : decode (bc 108) 46 = .ok (.aload_n 0, 1) := by decide +kernel
theorem d_108_47 : decode (bc 108) 47 = .ok (.getfield 88, 3) := by decide +kernel
theorem q_108_88 : fq 108 88 = some (9, 13, 14, 0, false) := by decide +kernel
theorem d_108_50 : decode (bc 108) 50 = .ok (.ireturn, 1) := by decide +kernel
theorem d_108_51 : decode (bc 108) 51 = .ok (.aload_n 0, 1) := by decide +kernel
theorem d_108_52 : decode (bc 108) 52 = .ok (.getfield 39, 3) := by decide +kernel
theorem q_108_39 : fq 108 39 = some (9, 4, 14, 2, true) := by decide +kernel
theorem d_108_55 : decode (bc 108) 55 = .ok (.getfield 283, 3) := by decide +kernel
theorem q_108_283 : fq 108 283 = some (4, 1, 5, 0, false) := by decide +kernel
theorem d_108_58 : decode (bc 108) 58 = .ok (.ireturn, 1) := by decide +kernel
theorem d_108_59 : decode (bc 108) 59 = .ok (.aload_n 0, 1) := by decide +kernel
theorem d_108_60 : decode (bc 108) 60 = .ok (.getfield 10, 3) := by decide +kernel
theorem q_108_10 : fq 108 10 = some (9, 0, 14, 2, true) := by decide +kernel
theorem d_108_63 : decode (bc 108) 63 = .ok (.getfield 99, 3) := by decide +kernel
theorem q_108_99 : fq 108 99 = some (2, 0, 1, 0, false) := by decide +kernel
theorem d_108_66 : decode (bc 108) 66 = .ok (.ireturn, 1) := by decide +kernel
theorem d_108_67 : decode (bc 108) 67 = .ok (.aload_n 0, 1) := by decide +kernel
theorem d_108_68 : decode (bc 108) 68 = .ok (.getfield 46, 3) := by decide +kernel
theorem q_108_46 : fq 108 46 = some (9, 5, 14, 2, true) := by decide +kernel
theorem d_108_71 : decode (bc 108) 71 = .ok (.getfield 239, 3) := by decide +kernel
theorem q_108_239 : fq 108 239 = some (8, 1, 6, 0, false) := by decide +kernel
theorem d_108_74 : decode (bc 108) 74 = .ok (.ireturn, 1) := by decide +kernel
theorem rt_108 : rty 108 = some .int := by decide +kernel
theorem mx_108 : mxl 108 = 2 := by decide +kernel
theorem ow_108 : (sta 108 = false ∧ own 108 = 9 ∧ hgt 108 = 0) := by decide +kernel
-- 109: SpunModules.isModule(I)Z
theorem d_109_0 : decode (bc 109) 0 = .ok (.iload_n 1, 1) := by decide +kernel
theorem d_109_1 : decode (bc 109) 1 = .ok (.ifCond .lt 12, 3) := by decide +kernel
theorem d_109_4 : decode (bc 109) 4 = .ok (.iload_n 1, 1) := by decide +kernel
theorem d_109_5 : decode (bc 109) 5 = .ok (.iconst 4, 1) := by decide +kernel
theorem d_109_6 : decode (bc 109) 6 = .ok (.if_icmp .ge 7, 3) := by decide +kernel
theorem d_109_9 : decode (bc 109) 9 = .ok (.iconst 1, 1) := by decide +kernel
theorem d_109_10 : decode (bc 109) 10 = .ok (.goto 4, 3) := by decide +kernel
theorem d_109_13 : decode (bc 109) 13 = .ok (.iconst 0, 1) := by decide +kernel
theorem d_109_14 : decode (bc 109) 14 = .ok (.ireturn, 1) := by decide +kernel
theorem rt_109 : rty 109 = some .boolean := by decide +kernel
theorem mx_109 : mxl 109 = 2 := by decide +kernel
theorem ow_109 : (sta 109 = false ∧ own 109 = 9 ∧ hgt 109 = 0) := by decide +kernel
-- 110: SpunModules.isMatrix(I)Z
theorem d_110_0 : decode (bc 110) 0 = .ok (.iload_n 1, 1) := by decide +kernel
theorem d_110_1 : decode (bc 110) 1 = .ok (.ifCond .eq 8, 3) := by decide +kernel
theorem d_110_4 : decode (bc 110) 4 = .ok (.iload_n 1, 1) := by decide +kernel
theorem d_110_5 : decode (bc 110) 5 = .ok (.iconst 1, 1) := by decide +kernel
theorem d_110_6 : decode (bc 110) 6 = .ok (.if_icmp .ne 7, 3) := by decide +kernel
theorem d_110_9 : decode (bc 110) 9 = .ok (.iconst 1, 1) := by decide +kernel
theorem d_110_10 : decode (bc 110) 10 = .ok (.goto 4, 3) := by decide +kernel
theorem d_110_13 : decode (bc 110) 13 = .ok (.iconst 0, 1) := by decide +kernel
theorem d_110_14 : decode (bc 110) 14 = .ok (.ireturn, 1) := by decide +kernel
theorem rt_110 : rty 110 = some .boolean := by decide +kernel
theorem mx_110 : mxl 110 = 2 := by decide +kernel
theorem ow_110 : (sta 110 = false ∧ own 110 = 9 ∧ hgt 110 = 0) := by decide +kernel
-- 111: SpunModules.isElement(I)Z
theorem d_111_0 : decode (bc 111) 0 = .ok (.iload_n 1, 1) := by decide +kernel
theorem d_111_1 : decode (bc 111) 1 = .ok (.ifCond .lt 18, 3) := by decide +kernel
theorem d_111_4 : decode (bc 111) 4 = .ok (.iload_n 1, 1) := by decide +kernel
theorem d_111_5 : decode (bc 111) 5 = .ok (.aload_n 0, 1) := by decide +kernel
theorem d_111_6 : decode (bc 111) 6 = .ok (.getfield 10, 3) := by decide +kernel
theorem q_111_10 : fq 111 10 = some (9, 0, 14, 2, true) := by decide +kernel
theorem d_111_9 : decode (bc 111) 9 = .ok (.getfield 99, 3) := by decide +kernel
theorem q_111_99 : fq 111 99 = some (2, 0, 1, 0, false) := by decide +kernel
theorem d_111_12 : decode (bc 111) 12 = .ok (.if_icmp .ge 7, 3) := by decide +kernel
theorem d_111_15 : decode (bc 111) 15 = .ok (.iconst 1, 1) := by decide +kernel
theorem d_111_16 : decode (bc 111) 16 = .ok (.goto 4, 3) := by decide +kernel
theorem d_111_19 : decode (bc 111) 19 = .ok (.iconst 0, 1) := by decide +kernel
theorem d_111_20 : decode (bc 111) 20 = .ok (.ireturn, 1) := by decide +kernel
theorem rt_111 : rty 111 = some .boolean := by decide +kernel
theorem mx_111 : mxl 111 = 2 := by decide +kernel
theorem ow_111 : (sta 111 = false ∧ own 111 = 9 ∧ hgt 111 = 0) := by decide +kernel
-- 112: SpunModules.isPlace(II)Z
theorem d_112_0 : decode (bc 112) 0 = .ok (.aload_n 0, 1) := by decide +kernel
theorem d_112_1 : decode (bc 112) 1 = .ok (.iload_n 1, 1) := by decide +kernel
theorem d_112_2 : decode (bc 112) 2 = .ok (.invokevirtual 106, 3) := by decide +kernel
theorem q_112_106 : cq 112 106 [0, 3] = some (109, 2) := by decide +kernel
theorem d_112_5 : decode (bc 112) 5 = .ok (.ifCond .eq 24, 3) := by decide +kernel
theorem d_112_8 : decode (bc 112) 8 = .ok (.iload_n 2, 1) := by decide +kernel
theorem d_112_9 : decode (bc 112) 9 = .ok (.ifCond .lt 20, 3) := by decide +kernel
theorem d_112_12 : decode (bc 112) 12 = .ok (.iload_n 2, 1) := by decide +kernel
theorem d_112_13 : decode (bc 112) 13 = .ok (.aload_n 0, 1) := by decide +kernel
theorem d_112_14 : decode (bc 112) 14 = .ok (.getfield 18, 3) := by decide +kernel
theorem q_112_18 : fq 112 18 = some (9, 1, 14, 2, true) := by decide +kernel
theorem d_112_17 : decode (bc 112) 17 = .ok (.iload_n 1, 1) := by decide +kernel
theorem d_112_18 : decode (bc 112) 18 = .ok (.aaload, 1) := by decide +kernel
theorem d_112_19 : decode (bc 112) 19 = .ok (.getfield 149, 3) := by decide +kernel
theorem q_112_149 : fq 112 149 = some (0, 1, 3, 0, false) := by decide +kernel
theorem d_112_22 : decode (bc 112) 22 = .ok (.if_icmp .ge 7, 3) := by decide +kernel
theorem d_112_25 : decode (bc 112) 25 = .ok (.iconst 1, 1) := by decide +kernel
theorem d_112_26 : decode (bc 112) 26 = .ok (.goto 4, 3) := by decide +kernel
theorem d_112_29 : decode (bc 112) 29 = .ok (.iconst 0, 1) := by decide +kernel
theorem d_112_30 : decode (bc 112) 30 = .ok (.ireturn, 1) := by decide +kernel
theorem rt_112 : rty 112 = some .boolean := by decide +kernel
theorem mx_112 : mxl 112 = 3 := by decide +kernel
theorem ow_112 : (sta 112 = false ∧ own 112 = 9 ∧ hgt 112 = 1) := by decide +kernel
-- 113: SpunModules.isEntry(IIII)Z
theorem d_113_0 : decode (bc 113) 0 = .ok (.aload_n 0, 1) := by decide +kernel
theorem d_113_1 : decode (bc 113) 1 = .ok (.iload_n 2, 1) := by decide +kernel
theorem d_113_2 : decode (bc 113) 2 = .ok (.invokevirtual 182, 3) := by decide +kernel
theorem q_113_182 : cq 113 182 [0, 3] = some (110, 2) := by decide +kernel
theorem d_113_5 : decode (bc 113) 5 = .ok (.ifCond .eq 26, 3) := by decide +kernel
theorem d_113_8 : decode (bc 113) 8 = .ok (.aload_n 0, 1) := by decide +kernel
theorem d_113_9 : decode (bc 113) 9 = .ok (.iload_n 1, 1) := by decide +kernel
theorem d_113_10 : decode (bc 113) 10 = .ok (.iload_n 3, 1) := by decide +kernel
theorem d_113_11 : decode (bc 113) 11 = .ok (.invokevirtual 133, 3) := by decide +kernel
theorem q_113_133 : cq 113 133 [0, 3] = some (112, 3) := by decide +kernel
theorem d_113_14 : decode (bc 113) 14 = .ok (.ifCond .eq 17, 3) := by decide +kernel
theorem d_113_17 : decode (bc 113) 17 = .ok (.aload_n 0, 1) := by decide +kernel
theorem d_113_18 : decode (bc 113) 18 = .ok (.iload_n 1, 1) := by decide +kernel
theorem d_113_19 : decode (bc 113) 19 = .ok (.iload 4, 2) := by decide +kernel
theorem d_113_21 : decode (bc 113) 21 = .ok (.invokevirtual 133, 3) := by decide +kernel
theorem d_113_24 : decode (bc 113) 24 = .ok (.ifCond .eq 7, 3) := by decide +kernel
theorem d_113_27 : decode (bc 113) 27 = .ok (.iconst 1, 1) := by decide +kernel
theorem d_113_28 : decode (bc 113) 28 = .ok (.goto 4, 3) := by decide +kernel
theorem d_113_31 : decode (bc 113) 31 = .ok (.iconst 0, 1) := by decide +kernel
theorem d_113_32 : decode (bc 113) 32 = .ok (.ireturn, 1) := by decide +kernel
theorem rt_113 : rty 113 = some .boolean := by decide +kernel
theorem mx_113 : mxl 113 = 5 := by decide +kernel
theorem ow_113 : (sta 113 = false ∧ own 113 = 9 ∧ hgt 113 = 2) := by decide +kernel
-- 114: SpunModules.isVector(II)Z
theorem d_114_0 : decode (bc 114) 0 = .ok (.aload_n 0, 1) := by decide +kernel
theorem d_114_1 : decode (bc 114) 1 = .ok (.iload_n 1, 1) := by decide +kernel
theorem d_114_2 : decode (bc 114) 2 = .ok (.invokevirtual 106, 3) := by decide +kernel
theorem q_114_106 : cq 114 106 [0, 3] = some (109, 2) := by decide +kernel
theorem d_114_5 : decode (bc 114) 5 = .ok (.ifCond .eq 31, 3) := by decide +kernel
theorem d_114_8 : decode (bc 114) 8 = .ok (.iload_n 2, 1) := by decide +kernel
theorem d_114_9 : decode (bc 114) 9 = .ok (.ifCond .lt 27, 3) := by decide +kernel
theorem d_114_12 : decode (bc 114) 12 = .ok (.iload_n 2, 1) := by decide +kernel
theorem d_114_13 : decode (bc 114) 13 = .ok (.aload_n 0, 1) := by decide +kernel
theorem d_114_14 : decode (bc 114) 14 = .ok (.getfield 10, 3) := by decide +kernel
theorem q_114_10 : fq 114 10 = some (9, 0, 14, 2, true) := by decide +kernel
theorem d_114_17 : decode (bc 114) 17 = .ok (.aload_n 0, 1) := by decide +kernel
theorem d_114_18 : decode (bc 114) 18 = .ok (.getfield 18, 3) := by decide +kernel
theorem q_114_18 : fq 114 18 = some (9, 1, 14, 2, true) := by decide +kernel
theorem d_114_21 : decode (bc 114) 21 = .ok (.iload_n 1, 1) := by decide +kernel
theorem d_114_22 : decode (bc 114) 22 = .ok (.aaload, 1) := by decide +kernel
theorem d_114_23 : decode (bc 114) 23 = .ok (.getfield 149, 3) := by decide +kernel
theorem q_114_149 : fq 114 149 = some (0, 1, 3, 0, false) := by decide +kernel
theorem d_114_26 : decode (bc 114) 26 = .ok (.invokevirtual 302, 3) := by decide +kernel
theorem q_114_302 : cq 114 302 [0, 3] = some (29, 2) := by decide +kernel
theorem d_114_29 : decode (bc 114) 29 = .ok (.if_icmp .ge 7, 3) := by decide +kernel
theorem d_114_32 : decode (bc 114) 32 = .ok (.iconst 1, 1) := by decide +kernel
theorem d_114_33 : decode (bc 114) 33 = .ok (.goto 4, 3) := by decide +kernel
theorem d_114_36 : decode (bc 114) 36 = .ok (.iconst 0, 1) := by decide +kernel
theorem d_114_37 : decode (bc 114) 37 = .ok (.ireturn, 1) := by decide +kernel
theorem rt_114 : rty 114 = some .boolean := by decide +kernel
theorem mx_114 : mxl 114 = 3 := by decide +kernel
theorem ow_114 : (sta 114 = false ∧ own 114 = 9 ∧ hgt 114 = 1) := by decide +kernel
-- 115: SpunModules.changesTo(I)I
theorem d_115_0 : decode (bc 115) 0 = .ok (.aload_n 0, 1) := by decide +kernel
theorem d_115_1 : decode (bc 115) 1 = .ok (.getfield 39, 3) := by decide +kernel
theorem q_115_39 : fq 115 39 = some (9, 4, 14, 2, true) := by decide +kernel
theorem d_115_4 : decode (bc 115) 4 = .ok (.aload_n 0, 1) := by decide +kernel
theorem d_115_5 : decode (bc 115) 5 = .ok (.getfield 18, 3) := by decide +kernel
theorem q_115_18 : fq 115 18 = some (9, 1, 14, 2, true) := by decide +kernel
theorem d_115_8 : decode (bc 115) 8 = .ok (.invokevirtual 95, 3) := by decide +kernel
theorem q_115_95 : cq 115 95 [0, 3] = some (39, 2) := by decide +kernel
theorem d_115_11 : decode (bc 115) 11 = .ok (.aload_n 0, 1) := by decide +kernel
theorem d_115_12 : decode (bc 115) 12 = .ok (.getfield 18, 3) := by decide +kernel
theorem d_115_15 : decode (bc 115) 15 = .ok (.iload_n 1, 1) := by decide +kernel
theorem d_115_16 : decode (bc 115) 16 = .ok (.aaload, 1) := by decide +kernel
theorem d_115_17 : decode (bc 115) 17 = .ok (.aload_n 0, 1) := by decide +kernel
theorem d_115_18 : decode (bc 115) 18 = .ok (.getfield 25, 3) := by decide +kernel
theorem q_115_25 : fq 115 25 = some (9, 2, 14, 2, true) := by decide +kernel
theorem d_115_21 : decode (bc 115) 21 = .ok (.invokevirtual 137, 3) := by decide +kernel
theorem q_115_137 : cq 115 137 [0, 3] = some (2, 2) := by decide +kernel
theorem d_115_24 : decode (bc 115) 24 = .ok (.aload_n 0, 1) := by decide +kernel
theorem d_115_25 : decode (bc 115) 25 = .ok (.getfield 25, 3) := by decide +kernel
theorem d_115_28 : decode (bc 115) 28 = .ok (.getfield 149, 3) := by decide +kernel
theorem q_115_149 : fq 115 149 = some (0, 1, 3, 0, false) := by decide +kernel
theorem d_115_31 : decode (bc 115) 31 = .ok (.ireturn, 1) := by decide +kernel
theorem rt_115 : rty 115 = some .int := by decide +kernel
theorem mx_115 : mxl 115 = 2 := by decide +kernel
theorem ow_115 : (sta 115 = false ∧ own 115 = 9 ∧ hgt 115 = 3) := by decide +kernel
-- 116: SpunModules.spins(II)V
theorem d_116_0 : decode (bc 116) 0 = .ok (.aload_n 0, 1) := by decide +kernel
theorem d_116_1 : decode (bc 116) 1 = .ok (.getfield 18, 3) := by decide +kernel
theorem q_116_18 : fq 116 18 = some (9, 1, 14, 2, true) := by decide +kernel
theorem d_116_4 : decode (bc 116) 4 = .ok (.iload_n 1, 1) := by decide +kernel
theorem d_116_5 : decode (bc 116) 5 = .ok (.aaload, 1) := by decide +kernel
theorem d_116_6 : decode (bc 116) 6 = .ok (.getfield 149, 3) := by decide +kernel
theorem q_116_149 : fq 116 149 = some (0, 1, 3, 0, false) := by decide +kernel
theorem d_116_9 : decode (bc 116) 9 = .ok (.istore_n 3, 1) := by decide +kernel
theorem d_116_10 : decode (bc 116) 10 = .ok (.aload_n 0, 1) := by decide +kernel
theorem d_116_11 : decode (bc 116) 11 = .ok (.getfield 32, 3) := by decide +kernel
theorem q_116_32 : fq 116 32 = some (9, 3, 14, 2, true) := by decide +kernel
theorem d_116_14 : decode (bc 116) 14 = .ok (.iload_n 3, 1) := by decide +kernel
theorem d_116_15 : decode (bc 116) 15 = .ok (.invokevirtual 305, 3) := by decide +kernel
theorem q_116_305 : cq 116 305 [0, 3] = some (52, 2) := by decide +kernel
theorem d_116_18 : decode (bc 116) 18 = .ok (.aload_n 0, 1) := by decide +kernel
theorem d_116_19 : decode (bc 116) 19 = .ok (.getfield 32, 3) := by decide +kernel
theorem d_116_22 : decode (bc 116) 22 = .ok (.aload_n 0, 1) := by decide +kernel
theorem d_116_23 : decode (bc 116) 23 = .ok (.getfield 10, 3) := by decide +kernel
theorem q_116_10 : fq 116 10 = some (9, 0, 14, 2, true) := by decide +kernel
theorem d_116_26 : decode (bc 116) 26 = .ok (.iload_n 2, 1) := by decide +kernel
theorem d_116_27 : decode (bc 116) 27 = .ok (.iload_n 3, 1) := by decide +kernel
theorem d_116_28 : decode (bc 116) 28 = .ok (.invokevirtual 185, 3) := by decide +kernel
theorem q_116_185 : cq 116 185 [0, 3] = some (31, 3) := by decide +kernel
theorem d_116_31 : decode (bc 116) 31 = .ok (.invokevirtual 306, 3) := by decide +kernel
theorem q_116_306 : cq 116 306 [0, 3] = some (56, 2) := by decide +kernel
theorem d_116_34 : decode (bc 116) 34 = .ok (.aload_n 0, 1) := by decide +kernel
theorem d_116_35 : decode (bc 116) 35 = .ok (.getfield 32, 3) := by decide +kernel
theorem d_116_38 : decode (bc 116) 38 = .ok (.aload_n 0, 1) := by decide +kernel
theorem d_116_39 : decode (bc 116) 39 = .ok (.getfield 18, 3) := by decide +kernel
theorem d_116_42 : decode (bc 116) 42 = .ok (.iload_n 1, 1) := by decide +kernel
theorem d_116_43 : decode (bc 116) 43 = .ok (.aaload, 1) := by decide +kernel
theorem d_116_44 : decode (bc 116) 44 = .ok (.invokevirtual 267, 3) := by decide +kernel
theorem q_116_267 : cq 116 267 [0, 3] = some (57, 2) := by decide +kernel
theorem d_116_47 : decode (bc 116) 47 = .ok (.return_, 1) := by decide +kernel
theorem rt_116 : rty 116 = none := by decide +kernel
theorem mx_116 : mxl 116 = 4 := by decide +kernel
theorem ow_116 : (sta 116 = false ∧ own 116 = 9 ∧ hgt 116 = 4) := by decide +kernel
-- 117: SpunModules.invariantSpaces(LSpunModules$Action;I)I
theorem d_117_0 : decode (bc 117) 0 = .ok (.aload_n 0, 1) := by decide +kernel
theorem d_117_1 : decode (bc 117) 1 = .ok (.getfield 10, 3) := by decide +kernel
theorem q_117_10 : fq 117 10 = some (9, 0, 14, 2, true) := by decide +kernel
theorem d_117_4 : decode (bc 117) 4 = .ok (.aload_n 1, 1) := by decide +kernel
theorem d_117_5 : decode (bc 117) 5 = .ok (.getfield 149, 3) := by decide +kernel
theorem q_117_149 : fq 117 149 = some (0, 1, 3, 0, false) := by decide +kernel
theorem d_117_8 : decode (bc 117) 8 = .ok (.iload_n 2, 1) := by decide +kernel
theorem d_117_9 : decode (bc 117) 9 = .ok (.invokestatic 310, 3) := by decide +kernel
theorem q_117_310 : cq 117 310 [1, 4] = some (118, 2) := by decide +kernel
theorem d_117_12 : decode (bc 117) 12 = .ok (.invokevirtual 302, 3) := by decide +kernel
theorem q_117_302 : cq 117 302 [0, 3] = some (29, 2) := by decide +kernel
theorem d_117_15 : decode (bc 117) 15 = .ok (.istore_n 3, 1) := by decide +kernel
theorem d_117_16 : decode (bc 117) 16 = .ok (.iconst 0, 1) := by decide +kernel
theorem d_117_17 : decode (bc 117) 17 = .ok (.istore 4, 2) := by decide +kernel
theorem d_117_19 : decode (bc 117) 19 = .ok (.iconst 0, 1) := by decide +kernel
theorem d_117_20 : decode (bc 117) 20 = .ok (.istore 5, 2) := by decide +kernel
theorem d_117_22 : decode (bc 117) 22 = .ok (.iload 5, 2) := by decide +kernel
theorem d_117_24 : decode (bc 117) 24 = .ok (.iload_n 3, 1) := by decide +kernel
theorem d_117_25 : decode (bc 117) 25 = .ok (.if_icmp .ge 37, 3) := by decide +kernel
theorem d_117_28 : decode (bc 117) 28 = .ok (.aload_n 0, 1) := by decide +kernel
theorem d_117_29 : decode (bc 117) 29 = .ok (.getfield 32, 3) := by decide +kernel
theorem q_117_32 : fq 117 32 = some (9, 3, 14, 2, true) := by decide +kernel
theorem d_117_32 : decode (bc 117) 32 = .ok (.aload_n 1, 1) := by decide +kernel
theorem d_117_33 : decode (bc 117) 33 = .ok (.getfield 149, 3) := by decide +kernel
theorem d_117_36 : decode (bc 117) 36 = .ok (.iload_n 2, 1) := by decide +kernel
theorem d_117_37 : decode (bc 117) 37 = .ok (.iload 5, 2) := by decide +kernel
theorem d_117_39 : decode (bc 117) 39 = .ok (.invokevirtual 314, 3) := by decide +kernel
theorem q_117_314 : cq 117 314 [0, 3] = some (62, 4) := by decide +kernel
theorem d_117_42 : decode (bc 117) 42 = .ok (.aload_n 0, 1) := by decide +kernel
theorem d_117_43 : decode (bc 117) 43 = .ok (.getfield 32, 3) := by decide +kernel
theorem d_117_46 : decode (bc 117) 46 = .ok (.aload_n 1, 1) := by decide +kernel
theorem d_117_47 : decode (bc 117) 47 = .ok (.invokevirtual 317, 3) := by decide +kernel
theorem q_117_317 : cq 117 317 [0, 3] = some (63, 2) := by decide +kernel
theorem d_117_50 : decode (bc 117) 50 = .ok (.ifCond .eq 6, 3) := by decide +kernel
theorem d_117_53 : decode (bc 117) 53 = .ok (.iinc 4 1, 3) := by decide +kernel
theorem d_117_56 : decode (bc 117) 56 = .ok (.iinc 5 1, 3) := by decide +kernel
theorem d_117_59 : decode (bc 117) 59 = .ok (.goto (-37), 3) := by decide +kernel
theorem d_117_62 : decode (bc 117) 62 = .ok (.iload 4, 2) := by decide +kernel
theorem d_117_64 : decode (bc 117) 64 = .ok (.ireturn, 1) := by decide +kernel
theorem rt_117 : rty 117 = some .int := by decide +kernel
theorem mx_117 : mxl 117 = 6 := by decide +kernel
theorem ow_117 : (sta 117 = false ∧ own 117 = 9 ∧ hgt 117 = 4) := by decide +kernel
-- 118: SpunModules.freePlaces(II)I
theorem d_118_0 : decode (bc 118) 0 = .ok (.iconst 0, 1) := by decide +kernel
theorem d_118_1 : decode (bc 118) 1 = .ok (.istore_n 2, 1) := by decide +kernel
theorem d_118_2 : decode (bc 118) 2 = .ok (.iconst 0, 1) := by decide +kernel
theorem d_118_3 : decode (bc 118) 3 = .ok (.istore_n 3, 1) := by decide +kernel
theorem d_118_4 : decode (bc 118) 4 = .ok (.iload_n 3, 1) := by decide +kernel
theorem d_118_5 : decode (bc 118) 5 = .ok (.iload_n 0, 1) := by decide +kernel
theorem d_118_6 : decode (bc 118) 6 = .ok (.if_icmp .ge 46, 3) := by decide +kernel
theorem d_118_9 : decode (bc 118) 9 = .ok (.iload_n 3, 1) := by decide +kernel
theorem d_118_10 : decode (bc 118) 10 = .ok (.iconst 1, 1) := by decide +kernel
theorem d_118_11 : decode (bc 118) 11 = .ok (.iadd, 1) := by decide +kernel
theorem d_118_12 : decode (bc 118) 12 = .ok (.istore 4, 2) := by decide +kernel
theorem d_118_14 : decode (bc 118) 14 = .ok (.iload 4, 2) := by decide +kernel
theorem d_118_16 : decode (bc 118) 16 = .ok (.iload_n 0, 1) := by decide +kernel
theorem d_118_17 : decode (bc 118) 17 = .ok (.if_icmp .ge 29, 3) := by decide +kernel
theorem d_118_20 : decode (bc 118) 20 = .ok (.iload_n 1, 1) := by decide +kernel
theorem d_118_21 : decode (bc 118) 21 = .ok (.iload_n 3, 1) := by decide +kernel
theorem d_118_22 : decode (bc 118) 22 = .ok (.invokestatic 321, 3) := by decide +kernel
theorem q_118_321 : cq 118 321 [1, 4] = some (119, 2) := by decide +kernel
theorem d_118_25 : decode (bc 118) 25 = .ok (.ifCond .eq 15, 3) := by decide +kernel
theorem d_118_28 : decode (bc 118) 28 = .ok (.iload_n 1, 1) := by decide +kernel
theorem d_118_29 : decode (bc 118) 29 = .ok (.iload 4, 2) := by decide +kernel
theorem d_118_31 : decode (bc 118) 31 = .ok (.invokestatic 321, 3) := by decide +kernel
theorem d_118_34 : decode (bc 118) 34 = .ok (.ifCond .ne 6, 3) := by decide +kernel
theorem d_118_37 : decode (bc 118) 37 = .ok (.iinc 2 1, 3) := by decide +kernel
theorem d_118_40 : decode (bc 118) 40 = .ok (.iinc 4 1, 3) := by decide +kernel
theorem d_118_43 : decode (bc 118) 43 = .ok (.goto (-29), 3) := by decide +kernel
theorem d_118_46 : decode (bc 118) 46 = .ok (.iinc 3 1, 3) := by decide +kernel
theorem d_118_49 : decode (bc 118) 49 = .ok (.goto (-45), 3) := by decide +kernel
theorem d_118_52 : decode (bc 118) 52 = .ok (.iload_n 2, 1) := by decide +kernel
theorem d_118_53 : decode (bc 118) 53 = .ok (.ireturn, 1) := by decide +kernel
theorem rt_118 : rty 118 = some .int := by decide +kernel
theorem mx_118 : mxl 118 = 5 := by decide +kernel
theorem ow_118 : (sta 118 = true ∧ own 118 = 9 ∧ hgt 118 = 1) := by decide +kernel
-- 119: SpunModules.isPivot(II)Z
theorem d_119_0 : decode (bc 119) 0 = .ok (.iload_n 0, 1) := by decide +kernel
theorem d_119_1 : decode (bc 119) 1 = .ok (.iload_n 1, 1) := by decide +kernel
theorem d_119_2 : decode (bc 119) 2 = .ok (.ishr, 1) := by decide +kernel
theorem d_119_3 : decode (bc 119) 3 = .ok (.iconst 1, 1) := by decide +kernel
theorem d_119_4 : decode (bc 119) 4 = .ok (.iand, 1) := by decide +kernel
theorem d_119_5 : decode (bc 119) 5 = .ok (.iconst 1, 1) := by decide +kernel
theorem d_119_6 : decode (bc 119) 6 = .ok (.if_icmp .ne 7, 3) := by decide +kernel
theorem d_119_9 : decode (bc 119) 9 = .ok (.iconst 1, 1) := by decide +kernel
theorem d_119_10 : decode (bc 119) 10 = .ok (.goto 4, 3) := by decide +kernel
theorem d_119_13 : decode (bc 119) 13 = .ok (.iconst 0, 1) := by decide +kernel
theorem d_119_14 : decode (bc 119) 14 = .ok (.ireturn, 1) := by decide +kernel
theorem rt_119 : rty 119 = some .boolean := by decide +kernel
theorem mx_119 : mxl 119 = 2 := by decide +kernel
theorem ow_119 : (sta 119 = true ∧ own 119 = 9 ∧ hgt 119 = 0) := by decide +kernel
-- 120: SpunModules.element(JI)I
theorem d_120_0 : decode (bc 120) 0 = .ok (.lload_n 0, 1) := by decide +kernel
theorem d_120_1 : decode (bc 120) 1 = .ok (.bipush 44, 2) := by decide +kernel
theorem d_120_3 : decode (bc 120) 3 = .ok (.iconst 4, 1) := by decide +kernel
theorem d_120_4 : decode (bc 120) 4 = .ok (.iload_n 2, 1) := by decide +kernel
theorem d_120_5 : decode (bc 120) 5 = .ok (.imul, 1) := by decide +kernel
theorem d_120_6 : decode (bc 120) 6 = .ok (.isub, 1) := by decide +kernel
theorem d_120_7 : decode (bc 120) 7 = .ok (.lushr, 1) := by decide +kernel
theorem d_120_8 : decode (bc 120) 8 = .ok (.l2i, 1) := by decide +kernel
theorem d_120_9 : decode (bc 120) 9 = .ok (.bipush 15, 2) := by decide +kernel
theorem d_120_11 : decode (bc 120) 11 = .ok (.iand, 1) := by decide +kernel
theorem d_120_12 : decode (bc 120) 12 = .ok (.ireturn, 1) := by decide +kernel
theorem rt_120 : rty 120 = some .int := by decide +kernel
theorem mx_120 : mxl 120 = 3 := by decide +kernel
theorem ow_120 : (sta 120 = true ∧ own 120 = 9 ∧ hgt 120 = 0) := by decide +kernel
-- 121: SpunModules.unit(I)J
theorem d_121_0 : decode (bc 121) 0 = .ok (.lconst 1, 1) := by decide +kernel
theorem d_121_1 : decode (bc 121) 1 = .ok (.bipush 44, 2) := by decide +kernel
theorem d_121_3 : decode (bc 121) 3 = .ok (.iconst 4, 1) := by decide +kernel
theorem d_121_4 : decode (bc 121) 4 = .ok (.iload_n 0, 1) := by decide +kernel
theorem d_121_5 : decode (bc 121) 5 = .ok (.imul, 1) := by decide +kernel
theorem d_121_6 : decode (bc 121) 6 = .ok (.isub, 1) := by decide +kernel
theorem d_121_7 : decode (bc 121) 7 = .ok (.lshl, 1) := by decide +kernel
theorem d_121_8 : decode (bc 121) 8 = .ok (.lreturn, 1) := by decide +kernel
theorem rt_121 : rty 121 = some .long := by decide +kernel
theorem mx_121 : mxl 121 = 1 := by decide +kernel
theorem ow_121 : (sta 121 = true ∧ own 121 = 9 ∧ hgt 121 = 0) := by decide +kernel
-- 122: SpunModules.isZero(J)Z
theorem d_122_0 : decode (bc 122) 0 = .ok (.lload_n 0, 1) := by decide +kernel
theorem d_122_1 : decode (bc 122) 1 = .ok (.bipush 24, 2) := by decide +kernel
theorem d_122_3 : decode (bc 122) 3 = .ok (.lushr, 1) := by decide +kernel
theorem d_122_4 : decode (bc 122) 4 = .ok (.lconst 0, 1) := by decide +kernel
theorem d_122_5 : decode (bc 122) 5 = .ok (.lcmp, 1) := by decide +kernel
theorem d_122_6 : decode (bc 122) 6 = .ok (.ifCond .ne 7, 3) := by decide +kernel
theorem d_122_9 : decode (bc 122) 9 = .ok (.iconst 1, 1) := by decide +kernel
theorem d_122_10 : decode (bc 122) 10 = .ok (.goto 4, 3) := by decide +kernel
theorem d_122_13 : decode (bc 122) 13 = .ok (.iconst 0, 1) := by decide +kernel
theorem d_122_14 : decode (bc 122) 14 = .ok (.ireturn, 1) := by decide +kernel
theorem rt_122 : rty 122 = some .boolean := by decide +kernel
theorem mx_122 : mxl 122 = 2 := by decide +kernel
theorem ow_122 : (sta 122 = true ∧ own 122 = 9 ∧ hgt 122 = 0) := by decide +kernel
-- 123: SpunModules.firstPlace(J)I
theorem d_123_0 : decode (bc 123) 0 = .ok (.iconst 0, 1) := by decide +kernel
theorem d_123_1 : decode (bc 123) 1 = .ok (.istore_n 2, 1) := by decide +kernel
theorem d_123_2 : decode (bc 123) 2 = .ok (.iload_n 2, 1) := by decide +kernel
theorem d_123_3 : decode (bc 123) 3 = .ok (.bipush 12, 2) := by decide +kernel
theorem d_123_5 : decode (bc 123) 5 = .ok (.if_icmp .ge 17, 3) := by decide +kernel
theorem d_123_8 : decode (bc 123) 8 = .ok (.lload_n 0, 1) := by decide +kernel
theorem d_123_9 : decode (bc 123) 9 = .ok (.iload_n 2, 1) := by decide +kernel
theorem d_123_10 : decode (bc 123) 10 = .ok (.invokestatic 258, 3) := by decide +kernel
theorem q_123_258 : cq 123 258 [1, 4] = some (120, 2) := by decide +kernel
theorem d_123_13 : decode (bc 123) 13 = .ok (.ifCond .ne 9, 3) := by decide +kernel
theorem d_123_16 : decode (bc 123) 16 = .ok (.iinc 2 1, 3) := by decide +kernel
theorem d_123_19 : decode (bc 123) 19 = .ok (.goto (-17), 3) := by decide +kernel
theorem d_123_22 : decode (bc 123) 22 = .ok (.iload_n 2, 1) := by decide +kernel
theorem d_123_23 : decode (bc 123) 23 = .ok (.ireturn, 1) := by decide +kernel
theorem rt_123 : rty 123 = some .int := by decide +kernel
theorem mx_123 : mxl 123 = 3 := by decide +kernel
theorem ow_123 : (sta 123 = true ∧ own 123 = 9 ∧ hgt 123 = 1) := by decide +kernel
-- 124: SpunModules.rowOnto(JJI)J
theorem d_124_0 : decode (bc 124) 0 = .ok (.lload_n 0, 1) := by decide +kernel
theorem d_124_1 : decode (bc 124) 1 = .ok (.lstore 5, 2) := by decide +kernel
theorem d_124_3 : decode (bc 124) 3 = .ok (.iconst 0, 1) := by decide +kernel
theorem d_124_4 : decode (bc 124) 4 = .ok (.istore 7, 2) := by decide +kernel
theorem d_124_6 : decode (bc 124) 6 = .ok (.iload 7, 2) := by decide +kernel
theorem d_124_8 : decode (bc 124) 8 = .ok (.iload 4, 2) := by decide +kernel
theorem d_124_10 : decode (bc 124) 10 = .ok (.if_icmp .ge 25, 3) := by decide +kernel
theorem d_124_13 : decode (bc 124) 13 = .ok (.ldc2_w 292, 3) := by decide +kernel
theorem q_124_292 : klk (own 124) 292 = some (9, 292, 31, 1, 4126) := by decide +kernel
theorem d_124_16 : decode (bc 124) 16 = .ok (.lload 5, 2) := by decide +kernel
theorem d_124_18 : decode (bc 124) 18 = .ok (.lmul, 1) := by decide +kernel
theorem d_124_19 : decode (bc 124) 19 = .ok (.lload_n 2, 1) := by decide +kernel
theorem d_124_20 : decode (bc 124) 20 = .ok (.iload 7, 2) := by decide +kernel
theorem d_124_22 : decode (bc 124) 22 = .ok (.invokestatic 258, 3) := by decide +kernel
theorem q_124_258 : cq 124 258 [1, 4] = some (120, 2) := by decide +kernel
theorem d_124_25 : decode (bc 124) 25 = .ok (.i2l, 1) := by decide +kernel
theorem d_124_26 : decode (bc 124) 26 = .ok (.ladd, 1) := by decide +kernel
theorem d_124_27 : decode (bc 124) 27 = .ok (.lstore 5, 2) := by decide +kernel
theorem d_124_29 : decode (bc 124) 29 = .ok (.iinc 7 1, 3) := by decide +kernel
theorem d_124_32 : decode (bc 124) 32 = .ok (.goto (-26), 3) := by decide +kernel
theorem d_124_35 : decode (bc 124) 35 = .ok (.lload 5, 2) := by decide +kernel
theorem d_124_37 : decode (bc 124) 37 = .ok (.lreturn, 1) := by decide +kernel
theorem rt_124 : rty 124 = some .long := by decide +kernel
theorem mx_124 : mxl 124 = 8 := by decide +kernel
theorem ow_124 : (sta 124 = true ∧ own 124 = 9 ∧ hgt 124 = 1) := by decide +kernel
-- 215: java/lang/Integer.compare(II)I
theorem d_215_0 : decode (bc 215) 0 = .ok (.iload_n 0, 1) := by decide +kernel
theorem d_215_1 : decode (bc 215) 1 = .ok (.iload_n 1, 1) := by decide +kernel
theorem d_215_2 : decode (bc 215) 2 = .ok (.if_icmp .ge 7, 3) := by decide +kernel
theorem d_215_5 : decode (bc 215) 5 = .ok (.iconst (-1), 1) := by decide +kernel
theorem d_215_6 : decode (bc 215) 6 = .ok (.goto 13, 3) := by decide +kernel
theorem d_215_9 : decode (bc 215) 9 = .ok (.iload_n 0, 1) := by decide +kernel
theorem d_215_10 : decode (bc 215) 10 = .ok (.iload_n 1, 1) := by decide +kernel
theorem d_215_11 : decode (bc 215) 11 = .ok (.if_icmp .ne 7, 3) := by decide +kernel
theorem d_215_14 : decode (bc 215) 14 = .ok (.iconst 0, 1) := by decide +kernel
theorem d_215_15 : decode (bc 215) 15 = .ok (.goto 4, 3) := by decide +kernel
theorem d_215_18 : decode (bc 215) 18 = .ok (.iconst 1, 1) := by decide +kernel
theorem d_215_19 : decode (bc 215) 19 = .ok (.ireturn, 1) := by decide +kernel
theorem rt_215 : rty 215 = some .int := by decide +kernel
theorem mx_215 : mxl 215 = 2 := by decide +kernel
theorem ow_215 : (sta 215 = true ∧ own 215 = 12 ∧ hgt 215 = 0) := by decide +kernel
-- 216: java/lang/Integer.bitCount(I)I
theorem d_216_0 : decode (bc 216) 0 = .ok (.iload_n 0, 1) := by decide +kernel
theorem d_216_1 : decode (bc 216) 1 = .ok (.iload_n 0, 1) := by decide +kernel
theorem d_216_2 : decode (bc 216) 2 = .ok (.iconst 1, 1) := by decide +kernel
theorem d_216_3 : decode (bc 216) 3 = .ok (.iushr, 1) := by decide +kernel
theorem d_216_4 : decode (bc 216) 4 = .ok (.ldc_w 265, 3) := by decide +kernel
theorem q_216_265 : klk (own 216) 265 = some (12, 265, 1431655765, 0, 3233) := by decide +kernel
theorem d_216_7 : decode (bc 216) 7 = .ok (.iand, 1) := by decide +kernel
theorem d_216_8 : decode (bc 216) 8 = .ok (.isub, 1) := by decide +kernel
theorem d_216_9 : decode (bc 216) 9 = .ok (.istore_n 0, 1) := by decide +kernel
theorem d_216_10 : decode (bc 216) 10 = .ok (.iload_n 0, 1) := by decide +kernel
theorem d_216_11 : decode (bc 216) 11 = .ok (.ldc_w 266, 3) := by decide +kernel
theorem q_216_266 : klk (own 216) 266 = some (12, 266, 858993459, 0, 3234) := by decide +kernel
theorem d_216_14 : decode (bc 216) 14 = .ok (.iand, 1) := by decide +kernel
theorem d_216_15 : decode (bc 216) 15 = .ok (.iload_n 0, 1) := by decide +kernel
theorem d_216_16 : decode (bc 216) 16 = .ok (.iconst 2, 1) := by decide +kernel
theorem d_216_17 : decode (bc 216) 17 = .ok (.iushr, 1) := by decide +kernel
theorem d_216_18 : decode (bc 216) 18 = .ok (.ldc_w 266, 3) := by decide +kernel
theorem d_216_21 : decode (bc 216) 21 = .ok (.iand, 1) := by decide +kernel
theorem d_216_22 : decode (bc 216) 22 = .ok (.iadd, 1) := by decide +kernel
theorem d_216_23 : decode (bc 216) 23 = .ok (.istore_n 0, 1) := by decide +kernel
theorem d_216_24 : decode (bc 216) 24 = .ok (.iload_n 0, 1) := by decide +kernel
theorem d_216_25 : decode (bc 216) 25 = .ok (.iload_n 0, 1) := by decide +kernel
theorem d_216_26 : decode (bc 216) 26 = .ok (.iconst 4, 1) := by decide +kernel
theorem d_216_27 : decode (bc 216) 27 = .ok (.iushr, 1) := by decide +kernel
theorem d_216_28 : decode (bc 216) 28 = .ok (.iadd, 1) := by decide +kernel
theorem d_216_29 : decode (bc 216) 29 = .ok (.ldc_w 267, 3) := by decide +kernel
theorem q_216_267 : klk (own 216) 267 = some (12, 267, 252645135, 0, 3235) := by decide +kernel
theorem d_216_32 : decode (bc 216) 32 = .ok (.iand, 1) := by decide +kernel
theorem d_216_33 : decode (bc 216) 33 = .ok (.istore_n 0, 1) := by decide +kernel
theorem d_216_34 : decode (bc 216) 34 = .ok (.iload_n 0, 1) := by decide +kernel
theorem d_216_35 : decode (bc 216) 35 = .ok (.iload_n 0, 1) := by decide +kernel
theorem d_216_36 : decode (bc 216) 36 = .ok (.bipush 8, 2) := by decide +kernel
theorem d_216_38 : decode (bc 216) 38 = .ok (.iushr, 1) := by decide +kernel
theorem d_216_39 : decode (bc 216) 39 = .ok (.iadd, 1) := by decide +kernel
theorem d_216_40 : decode (bc 216) 40 = .ok (.istore_n 0, 1) := by decide +kernel
theorem d_216_41 : decode (bc 216) 41 = .ok (.iload_n 0, 1) := by decide +kernel
theorem d_216_42 : decode (bc 216) 42 = .ok (.iload_n 0, 1) := by decide +kernel
theorem d_216_43 : decode (bc 216) 43 = .ok (.bipush 16, 2) := by decide +kernel
theorem d_216_45 : decode (bc 216) 45 = .ok (.iushr, 1) := by decide +kernel
theorem d_216_46 : decode (bc 216) 46 = .ok (.iadd, 1) := by decide +kernel
theorem d_216_47 : decode (bc 216) 47 = .ok (.istore_n 0, 1) := by decide +kernel
theorem d_216_48 : decode (bc 216) 48 = .ok (.iload_n 0, 1) := by decide +kernel
theorem d_216_49 : decode (bc 216) 49 = .ok (.bipush 63, 2) := by decide +kernel
theorem d_216_51 : decode (bc 216) 51 = .ok (.iand, 1) := by decide +kernel
theorem d_216_52 : decode (bc 216) 52 = .ok (.ireturn, 1) := by decide +kernel
theorem rt_216 : rty 216 = some .int := by decide +kernel
theorem mx_216 : mxl 216 = 1 := by decide +kernel
theorem ow_216 : (sta 216 = true ∧ own 216 = 12 ∧ hgt 216 = 0) := by decide +kernel
-- 217: java/lang/Long.compare(JJ)I
theorem d_217_0 : decode (bc 217) 0 = .ok (.lload_n 0, 1) := by decide +kernel
theorem d_217_1 : decode (bc 217) 1 = .ok (.lload_n 2, 1) := by decide +kernel
theorem d_217_2 : decode (bc 217) 2 = .ok (.lcmp, 1) := by decide +kernel
theorem d_217_3 : decode (bc 217) 3 = .ok (.ifCond .ge 7, 3) := by decide +kernel
theorem d_217_6 : decode (bc 217) 6 = .ok (.iconst (-1), 1) := by decide +kernel
theorem d_217_7 : decode (bc 217) 7 = .ok (.goto 14, 3) := by decide +kernel
theorem d_217_10 : decode (bc 217) 10 = .ok (.lload_n 0, 1) := by decide +kernel
theorem d_217_11 : decode (bc 217) 11 = .ok (.lload_n 2, 1) := by decide +kernel
theorem d_217_12 : decode (bc 217) 12 = .ok (.lcmp, 1) := by decide +kernel
theorem d_217_13 : decode (bc 217) 13 = .ok (.ifCond .ne 7, 3) := by decide +kernel
theorem d_217_16 : decode (bc 217) 16 = .ok (.iconst 0, 1) := by decide +kernel
theorem d_217_17 : decode (bc 217) 17 = .ok (.goto 4, 3) := by decide +kernel
theorem d_217_20 : decode (bc 217) 20 = .ok (.iconst 1, 1) := by decide +kernel
theorem d_217_21 : decode (bc 217) 21 = .ok (.ireturn, 1) := by decide +kernel
theorem rt_217 : rty 217 = some .int := by decide +kernel
theorem mx_217 : mxl 217 = 4 := by decide +kernel
theorem ow_217 : (sta 217 = true ∧ own 217 = 13 ∧ hgt 217 = 0) := by decide +kernel
-- 218: java/lang/Math.floorMod(II)I
theorem d_218_0 : decode (bc 218) 0 = .ok (.iload_n 0, 1) := by decide +kernel
theorem d_218_1 : decode (bc 218) 1 = .ok (.iload_n 1, 1) := by decide +kernel
theorem d_218_2 : decode (bc 218) 2 = .ok (.irem, 1) := by decide +kernel
theorem d_218_3 : decode (bc 218) 3 = .ok (.istore_n 2, 1) := by decide +kernel
theorem d_218_4 : decode (bc 218) 4 = .ok (.iload_n 0, 1) := by decide +kernel
theorem d_218_5 : decode (bc 218) 5 = .ok (.iload_n 1, 1) := by decide +kernel
theorem d_218_6 : decode (bc 218) 6 = .ok (.ixor, 1) := by decide +kernel
theorem d_218_7 : decode (bc 218) 7 = .ok (.ifCond .ge 11, 3) := by decide +kernel
theorem d_218_10 : decode (bc 218) 10 = .ok (.iload_n 2, 1) := by decide +kernel
theorem d_218_11 : decode (bc 218) 11 = .ok (.ifCond .eq 7, 3) := by decide +kernel
theorem d_218_14 : decode (bc 218) 14 = .ok (.iload_n 2, 1) := by decide +kernel
theorem d_218_15 : decode (bc 218) 15 = .ok (.iload_n 1, 1) := by decide +kernel
theorem d_218_16 : decode (bc 218) 16 = .ok (.iadd, 1) := by decide +kernel
theorem d_218_17 : decode (bc 218) 17 = .ok (.ireturn, 1) := by decide +kernel
theorem d_218_18 : decode (bc 218) 18 = .ok (.iload_n 2, 1) := by decide +kernel
theorem d_218_19 : decode (bc 218) 19 = .ok (.ireturn, 1) := by decide +kernel
theorem rt_218 : rty 218 = some .int := by decide +kernel
theorem mx_218 : mxl 218 = 3 := by decide +kernel
theorem ow_218 : (sta 218 = true ∧ own 218 = 14 ∧ hgt 218 = 0) := by decide +kernel
-- 219: java/lang/Math.max(II)I
theorem d_219_0 : decode (bc 219) 0 = .ok (.iload_n 0, 1) := by decide +kernel
theorem d_219_1 : decode (bc 219) 1 = .ok (.iload_n 1, 1) := by decide +kernel
theorem d_219_2 : decode (bc 219) 2 = .ok (.if_icmp .lt 7, 3) := by decide +kernel
theorem d_219_5 : decode (bc 219) 5 = .ok (.iload_n 0, 1) := by decide +kernel
theorem d_219_6 : decode (bc 219) 6 = .ok (.goto 4, 3) := by decide +kernel
theorem d_219_9 : decode (bc 219) 9 = .ok (.iload_n 1, 1) := by decide +kernel
theorem d_219_10 : decode (bc 219) 10 = .ok (.ireturn, 1) := by decide +kernel
theorem rt_219 : rty 219 = some .int := by decide +kernel
theorem mx_219 : mxl 219 = 2 := by decide +kernel
theorem ow_219 : (sta 219 = true ∧ own 219 = 14 ∧ hgt 219 = 0) := by decide +kernel
-- 220: java/lang/Math.min(II)I
theorem d_220_0 : decode (bc 220) 0 = .ok (.iload_n 0, 1) := by decide +kernel
theorem d_220_1 : decode (bc 220) 1 = .ok (.iload_n 1, 1) := by decide +kernel
theorem d_220_2 : decode (bc 220) 2 = .ok (.if_icmp .gt 7, 3) := by decide +kernel
theorem d_220_5 : decode (bc 220) 5 = .ok (.iload_n 0, 1) := by decide +kernel
theorem d_220_6 : decode (bc 220) 6 = .ok (.goto 4, 3) := by decide +kernel
theorem d_220_9 : decode (bc 220) 9 = .ok (.iload_n 1, 1) := by decide +kernel
theorem d_220_10 : decode (bc 220) 10 = .ok (.ireturn, 1) := by decide +kernel
theorem rt_220 : rty 220 = some .int := by decide +kernel
theorem mx_220 : mxl 220 = 2 := by decide +kernel
theorem ow_220 : (sta 220 = true ∧ own 220 = 14 ∧ hgt 220 = 0) := by decide +kernel
