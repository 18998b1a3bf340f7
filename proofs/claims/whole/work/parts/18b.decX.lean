/-! Instructions, fields and calls of the methods, by their numbers. -/
-- 1: SpunModules$Action.empties(I)V
theorem d_1_0 : decode (bc 1) 0 = .ok (.aload_n 0, 1) := by decide +kernel
theorem d_1_1 : decode (bc 1) 1 = .ok (.iload_n 1, 1) := by decide +kernel
theorem d_1_2 : decode (bc 1) 2 = .ok (.putfield 9, 3) := by decide +kernel
theorem q_1_9 : fq 1 9 = some (0, 1, 3, 0, false) := by decide +kernel
theorem d_1_5 : decode (bc 1) 5 = .ok (.iconst 0, 1) := by decide +kernel
theorem d_1_6 : decode (bc 1) 6 = .ok (.istore_n 2, 1) := by decide +kernel
theorem d_1_7 : decode (bc 1) 7 = .ok (.iload_n 2, 1) := by decide +kernel
theorem d_1_8 : decode (bc 1) 8 = .ok (.bipush 12, 2) := by decide +kernel
theorem d_1_10 : decode (bc 1) 10 = .ok (.if_icmp .ge 16, 3) := by decide +kernel
theorem d_1_13 : decode (bc 1) 13 = .ok (.aload_n 0, 1) := by decide +kernel
theorem d_1_14 : decode (bc 1) 14 = .ok (.getfield 15, 3) := by decide +kernel
theorem q_1_15 : fq 1 15 = some (0, 2, 3, 2, true) := by decide +kernel
theorem d_1_17 : decode (bc 1) 17 = .ok (.iload_n 2, 1) := by decide +kernel
theorem d_1_18 : decode (bc 1) 18 = .ok (.lconst 0, 1) := by decide +kernel
theorem d_1_19 : decode (bc 1) 19 = .ok (.lastore, 1) := by decide +kernel
theorem d_1_20 : decode (bc 1) 20 = .ok (.iinc 2 1, 3) := by decide +kernel
theorem d_1_23 : decode (bc 1) 23 = .ok (.goto (-16), 3) := by decide +kernel
theorem d_1_26 : decode (bc 1) 26 = .ok (.return_, 1) := by decide +kernel
theorem rt_1 : rty 1 = none := by decide +kernel
theorem mx_1 : mxl 1 = 3 := by decide +kernel
theorem ow_1 : (sta 1 = false ∧ own 1 = 0 ∧ hgt 1 = 0) := by decide +kernel
-- 2: SpunModules$Action.copies(LSpunModules$Action;)V
theorem d_2_0 : decode (bc 2) 0 = .ok (.aload_n 0, 1) := by decide +kernel
theorem d_2_1 : decode (bc 2) 1 = .ok (.aload_n 1, 1) := by decide +kernel
theorem d_2_2 : decode (bc 2) 2 = .ok (.getfield 9, 3) := by decide +kernel
theorem q_2_9 : fq 2 9 = some (0, 1, 3, 0, false) := by decide +kernel
theorem d_2_5 : decode (bc 2) 5 = .ok (.putfield 9, 3) := by decide +kernel
theorem d_2_8 : decode (bc 2) 8 = .ok (.aload_n 1, 1) := by decide +kernel
theorem d_2_9 : decode (bc 2) 9 = .ok (.getfield 15, 3) := by decide +kernel
theorem q_2_15 : fq 2 15 = some (0, 2, 3, 2, true) := by decide +kernel
theorem d_2_12 : decode (bc 2) 12 = .ok (.iconst 0, 1) := by decide +kernel
theorem d_2_13 : decode (bc 2) 13 = .ok (.aload_n 0, 1) := by decide +kernel
theorem d_2_14 : decode (bc 2) 14 = .ok (.getfield 15, 3) := by decide +kernel
theorem d_2_17 : decode (bc 2) 17 = .ok (.iconst 0, 1) := by decide +kernel
theorem d_2_18 : decode (bc 2) 18 = .ok (.bipush 12, 2) := by decide +kernel
theorem d_2_20 : decode (bc 2) 20 = .ok (.invokestatic 23, 3) := by decide +kernel
theorem q_2_23 : (mlk (own 2) 23).map (fun e => e.2.2.2.1) = some 7 := by decide +kernel
theorem d_2_23 : decode (bc 2) 23 = .ok (.return_, 1) := by decide +kernel
theorem rt_2 : rty 2 = none := by decide +kernel
theorem mx_2 : mxl 2 = 2 := by decide +kernel
theorem ow_2 : (sta 2 = false ∧ own 2 = 0 ∧ hgt 2 = 1) := by decide +kernel
-- 3: SpunModules$Action.entry(III)I
theorem d_3_0 : decode (bc 3) 0 = .ok (.aload_n 0, 1) := by decide +kernel
theorem d_3_1 : decode (bc 3) 1 = .ok (.getfield 15, 3) := by decide +kernel
theorem q_3_15 : fq 3 15 = some (0, 2, 3, 2, true) := by decide +kernel
theorem d_3_4 : decode (bc 3) 4 = .ok (.bipush 6, 2) := by decide +kernel
theorem d_3_6 : decode (bc 3) 6 = .ok (.iload_n 1, 1) := by decide +kernel
theorem d_3_7 : decode (bc 3) 7 = .ok (.imul, 1) := by decide +kernel
theorem d_3_8 : decode (bc 3) 8 = .ok (.iload_n 2, 1) := by decide +kernel
theorem d_3_9 : decode (bc 3) 9 = .ok (.iadd, 1) := by decide +kernel
theorem d_3_10 : decode (bc 3) 10 = .ok (.laload, 1) := by decide +kernel
theorem d_3_11 : decode (bc 3) 11 = .ok (.iload_n 3, 1) := by decide +kernel
theorem d_3_12 : decode (bc 3) 12 = .ok (.invokestatic 29, 3) := by decide +kernel
theorem q_3_29 : cq 3 29 [1, 4] = some (120, 2) := by decide +kernel
theorem d_3_15 : decode (bc 3) 15 = .ok (.ireturn, 1) := by decide +kernel
theorem rt_3 : rty 3 = some .int := by decide +kernel
theorem mx_3 : mxl 3 = 4 := by decide +kernel
theorem ow_3 : (sta 3 = false ∧ own 3 = 0 ∧ hgt 3 = 1) := by decide +kernel
-- 4: SpunModules$Action.puts(IIII)V
theorem d_4_0 : decode (bc 4) 0 = .ok (.bipush 6, 2) := by decide +kernel
theorem d_4_2 : decode (bc 4) 2 = .ok (.iload_n 1, 1) := by decide +kernel
theorem d_4_3 : decode (bc 4) 3 = .ok (.imul, 1) := by decide +kernel
theorem d_4_4 : decode (bc 4) 4 = .ok (.iload_n 2, 1) := by decide +kernel
theorem d_4_5 : decode (bc 4) 5 = .ok (.iadd, 1) := by decide +kernel
theorem d_4_6 : decode (bc 4) 6 = .ok (.istore 5, 2) := by decide +kernel
theorem d_4_8 : decode (bc 4) 8 = .ok (.aload_n 0, 1) := by decide +kernel
theorem d_4_9 : decode (bc 4) 9 = .ok (.getfield 15, 3) := by decide +kernel
theorem q_4_15 : fq 4 15 = some (0, 2, 3, 2, true) := by decide +kernel
theorem d_4_12 : decode (bc 4) 12 = .ok (.iload 5, 2) := by decide +kernel
theorem d_4_14 : decode (bc 4) 14 = .ok (.dup2, 1) := by decide +kernel
theorem d_4_15 : decode (bc 4) 15 = .ok (.laload, 1) := by decide +kernel
theorem d_4_16 : decode (bc 4) 16 = .ok (.iload 4, 2) := by decide +kernel
theorem d_4_18 : decode (bc 4) 18 = .ok (.aload_n 0, 1) := by decide +kernel
theorem d_4_19 : decode (bc 4) 19 = .ok (.getfield 15, 3) := by decide +kernel
theorem d_4_22 : decode (bc 4) 22 = .ok (.iload 5, 2) := by decide +kernel
theorem d_4_24 : decode (bc 4) 24 = .ok (.laload, 1) := by decide +kernel
theorem d_4_25 : decode (bc 4) 25 = .ok (.iload_n 3, 1) := by decide +kernel
theorem d_4_26 : decode (bc 4) 26 = .ok (.invokestatic 29, 3) := by decide +kernel
theorem q_4_29 : cq 4 29 [1, 4] = some (120, 2) := by decide +kernel
theorem d_4_29 : decode (bc 4) 29 = .ok (.isub, 1) := by decide +kernel
theorem d_4_30 : decode (bc 4) 30 = .ok (.i2l, 1) := by decide +kernel
theorem d_4_31 : decode (bc 4) 31 = .ok (.iload_n 3, 1) := by decide +kernel
theorem d_4_32 : decode (bc 4) 32 = .ok (.invokestatic 33, 3) := by decide +kernel
theorem q_4_33 : cq 4 33 [1, 4] = some (121, 1) := by decide +kernel
theorem d_4_35 : decode (bc 4) 35 = .ok (.lmul, 1) := by decide +kernel
theorem d_4_36 : decode (bc 4) 36 = .ok (.ladd, 1) := by decide +kernel
theorem d_4_37 : decode (bc 4) 37 = .ok (.lastore, 1) := by decide +kernel
theorem d_4_38 : decode (bc 4) 38 = .ok (.return_, 1) := by decide +kernel
theorem rt_4 : rty 4 = none := by decide +kernel
theorem mx_4 : mxl 4 = 6 := by decide +kernel
theorem ow_4 : (sta 4 = false ∧ own 4 = 0 ∧ hgt 4 = 1) := by decide +kernel
-- 5: SpunModules$Action.image(IJ)J
theorem d_5_0 : decode (bc 5) 0 = .ok (.lconst 0, 1) := by decide +kernel
theorem d_5_1 : decode (bc 5) 1 = .ok (.lstore 4, 2) := by decide +kernel
theorem d_5_3 : decode (bc 5) 3 = .ok (.iconst 0, 1) := by decide +kernel
theorem d_5_4 : decode (bc 5) 4 = .ok (.istore 6, 2) := by decide +kernel
theorem d_5_6 : decode (bc 5) 6 = .ok (.iload 6, 2) := by decide +kernel
theorem d_5_8 : decode (bc 5) 8 = .ok (.aload_n 0, 1) := by decide +kernel
theorem d_5_9 : decode (bc 5) 9 = .ok (.getfield 9, 3) := by decide +kernel
theorem q_5_9 : fq 5 9 = some (0, 1, 3, 0, false) := by decide +kernel
theorem d_5_12 : decode (bc 5) 12 = .ok (.if_icmp .ge 47, 3) := by decide +kernel
theorem d_5_15 : decode (bc 5) 15 = .ok (.lload_n 2, 1) := by decide +kernel
theorem d_5_16 : decode (bc 5) 16 = .ok (.iload 6, 2) := by decide +kernel
theorem d_5_18 : decode (bc 5) 18 = .ok (.invokestatic 29, 3) := by decide +kernel
theorem q_5_29 : cq 5 29 [1, 4] = some (120, 2) := by decide +kernel
theorem d_5_21 : decode (bc 5) 21 = .ok (.istore 7, 2) := by decide +kernel
theorem d_5_23 : decode (bc 5) 23 = .ok (.iload 7, 2) := by decide +kernel
theorem d_5_25 : decode (bc 5) 25 = .ok (.ifCond .eq 28, 3) := by decide +kernel
theorem d_5_28 : decode (bc 5) 28 = .ok (.aload_n 0, 1) := by decide +kernel
theorem d_5_29 : decode (bc 5) 29 = .ok (.getfield 19, 3) := by decide +kernel
theorem q_5_19 : fq 5 19 = some (0, 0, 3, 2, true) := by decide +kernel
theorem d_5_32 : decode (bc 5) 32 = .ok (.lload 4, 2) := by decide +kernel
theorem d_5_34 : decode (bc 5) 34 = .ok (.iload 7, 2) := by decide +kernel
theorem d_5_36 : decode (bc 5) 36 = .ok (.aload_n 0, 1) := by decide +kernel
theorem d_5_37 : decode (bc 5) 37 = .ok (.getfield 15, 3) := by decide +kernel
theorem q_5_15 : fq 5 15 = some (0, 2, 3, 2, true) := by decide +kernel
theorem d_5_40 : decode (bc 5) 40 = .ok (.bipush 6, 2) := by decide +kernel
theorem d_5_42 : decode (bc 5) 42 = .ok (.iload_n 1, 1) := by decide +kernel
theorem d_5_43 : decode (bc 5) 43 = .ok (.imul, 1) := by decide +kernel
theorem d_5_44 : decode (bc 5) 44 = .ok (.iload 6, 2) := by decide +kernel
theorem d_5_46 : decode (bc 5) 46 = .ok (.iadd, 1) := by decide +kernel
theorem d_5_47 : decode (bc 5) 47 = .ok (.laload, 1) := by decide +kernel
theorem d_5_48 : decode (bc 5) 48 = .ok (.invokevirtual 37, 3) := by decide +kernel
theorem q_5_37 : cq 5 37 [0, 3] = some (30, 4) := by decide +kernel
theorem d_5_51 : decode (bc 5) 51 = .ok (.lstore 4, 2) := by decide +kernel
theorem d_5_53 : decode (bc 5) 53 = .ok (.iinc 6 1, 3) := by decide +kernel
theorem d_5_56 : decode (bc 5) 56 = .ok (.goto (-50), 3) := by decide +kernel
theorem d_5_59 : decode (bc 5) 59 = .ok (.lload 4, 2) := by decide +kernel
theorem d_5_61 : decode (bc 5) 61 = .ok (.lreturn, 1) := by decide +kernel
theorem rt_5 : rty 5 = some .long := by decide +kernel
theorem mx_5 : mxl 5 = 8 := by decide +kernel
theorem ow_5 : (sta 5 = false ∧ own 5 = 0 ∧ hgt 5 = 1) := by decide +kernel
-- 6: SpunModules$Action.fillsAtRandom(I)I
theorem d_6_0 : decode (bc 6) 0 = .ok (.iload_n 1, 1) := by decide +kernel
theorem d_6_1 : decode (bc 6) 1 = .ok (.i2l, 1) := by decide +kernel
theorem d_6_2 : decode (bc 6) 2 = .ok (.lstore_n 2, 1) := by decide +kernel
theorem d_6_3 : decode (bc 6) 3 = .ok (.iconst 0, 1) := by decide +kernel
theorem d_6_4 : decode (bc 6) 4 = .ok (.istore 4, 2) := by decide +kernel
theorem d_6_6 : decode (bc 6) 6 = .ok (.iconst 0, 1) := by decide +kernel
theorem d_6_7 : decode (bc 6) 7 = .ok (.istore 5, 2) := by decide +kernel
theorem d_6_9 : decode (bc 6) 9 = .ok (.iload 5, 2) := by decide +kernel
theorem d_6_11 : decode (bc 6) 11 = .ok (.iconst 2, 1) := by decide +kernel
theorem d_6_12 : decode (bc 6) 12 = .ok (.if_icmp .ge 100, 3) := by decide +kernel
theorem d_6_15 : decode (bc 6) 15 = .ok (.iconst 0, 1) := by decide +kernel
theorem d_6_16 : decode (bc 6) 16 = .ok (.istore 6, 2) := by decide +kernel
theorem d_6_18 : decode (bc 6) 18 = .ok (.iload 6, 2) := by decide +kernel
theorem d_6_20 : decode (bc 6) 20 = .ok (.aload_n 0, 1) := by decide +kernel
theorem d_6_21 : decode (bc 6) 21 = .ok (.getfield 9, 3) := by decide +kernel
theorem q_6_9 : fq 6 9 = some (0, 1, 3, 0, false) := by decide +kernel
theorem d_6_24 : decode (bc 6) 24 = .ok (.if_icmp .ge 82, 3) := by decide +kernel
theorem d_6_27 : decode (bc 6) 27 = .ok (.iconst 0, 1) := by decide +kernel
theorem d_6_28 : decode (bc 6) 28 = .ok (.istore 7, 2) := by decide +kernel
theorem d_6_30 : decode (bc 6) 30 = .ok (.iload 7, 2) := by decide +kernel
theorem d_6_32 : decode (bc 6) 32 = .ok (.aload_n 0, 1) := by decide +kernel
theorem d_6_33 : decode (bc 6) 33 = .ok (.getfield 9, 3) := by decide +kernel
theorem d_6_36 : decode (bc 6) 36 = .ok (.if_icmp .ge 64, 3) := by decide +kernel
theorem d_6_39 : decode (bc 6) 39 = .ok (.lload_n 2, 1) := by decide +kernel
theorem d_6_40 : decode (bc 6) 40 = .ok (.ldc2_w 43, 3) := by decide +kernel
theorem q_6_43 : klk (own 6) 43 = some (0, 43, 1103515245, 1, 2144) := by decide +kernel
theorem d_6_43 : decode (bc 6) 43 = .ok (.lmul, 1) := by decide +kernel
theorem d_6_44 : decode (bc 6) 44 = .ok (.ldc2_w 45, 3) := by decide +kernel
theorem q_6_45 : klk (own 6) 45 = some (0, 45, 12345, 1, 2145) := by decide +kernel
theorem d_6_47 : decode (bc 6) 47 = .ok (.ladd, 1) := by decide +kernel
theorem d_6_48 : decode (bc 6) 48 = .ok (.ldc2_w 47, 3) := by decide +kernel
theorem q_6_47 : klk (own 6) 47 = some (0, 47, 2147483647, 1, 2146) := by decide +kernel
theorem d_6_51 : decode (bc 6) 51 = .ok (.land, 1) := by decide +kernel
theorem d_6_52 : decode (bc 6) 52 = .ok (.lstore_n 2, 1) := by decide +kernel
theorem d_6_53 : decode (bc 6) 53 = .ok (.aload_n 0, 1) := by decide +kernel
theorem d_6_54 : decode (bc 6) 54 = .ok (.getfield 19, 3) := by decide +kernel
theorem q_6_19 : fq 6 19 = some (0, 0, 3, 2, true) := by decide +kernel
theorem d_6_57 : decode (bc 6) 57 = .ok (.lload_n 2, 1) := by decide +kernel
theorem d_6_58 : decode (bc 6) 58 = .ok (.bipush 16, 2) := by decide +kernel
theorem d_6_60 : decode (bc 6) 60 = .ok (.lushr, 1) := by decide +kernel
theorem d_6_61 : decode (bc 6) 61 = .ok (.l2i, 1) := by decide +kernel
theorem d_6_62 : decode (bc 6) 62 = .ok (.invokevirtual 49, 3) := by decide +kernel
theorem q_6_49 : cq 6 49 [0, 3] = some (27, 2) := by decide +kernel
theorem d_6_65 : decode (bc 6) 65 = .ok (.istore 8, 2) := by decide +kernel
theorem d_6_67 : decode (bc 6) 67 = .ok (.aload_n 0, 1) := by decide +kernel
theorem d_6_68 : decode (bc 6) 68 = .ok (.iload 5, 2) := by decide +kernel
theorem d_6_70 : decode (bc 6) 70 = .ok (.iload 6, 2) := by decide +kernel
theorem d_6_72 : decode (bc 6) 72 = .ok (.iload 7, 2) := by decide +kernel
theorem d_6_74 : decode (bc 6) 74 = .ok (.iload 8, 2) := by decide +kernel
theorem d_6_76 : decode (bc 6) 76 = .ok (.invokevirtual 53, 3) := by decide +kernel
theorem q_6_53 : cq 6 53 [0, 3] = some (4, 5) := by decide +kernel
theorem d_6_79 : decode (bc 6) 79 = .ok (.iload 4, 2) := by decide +kernel
theorem d_6_81 : decode (bc 6) 81 = .ok (.iload 8, 2) := by decide +kernel
theorem d_6_83 : decode (bc 6) 83 = .ok (.ifCond .ne 7, 3) := by decide +kernel
theorem d_6_86 : decode (bc 6) 86 = .ok (.iconst 0, 1) := by decide +kernel
theorem d_6_87 : decode (bc 6) 87 = .ok (.goto 4, 3) := by decide +kernel
theorem d_6_90 : decode (bc 6) 90 = .ok (.iconst 1, 1) := by decide +kernel
theorem d_6_91 : decode (bc 6) 91 = .ok (.iadd, 1) := by decide +kernel
theorem d_6_92 : decode (bc 6) 92 = .ok (.istore 4, 2) := by decide +kernel
theorem d_6_94 : decode (bc 6) 94 = .ok (.iinc 7 1, 3) := by decide +kernel
theorem d_6_97 : decode (bc 6) 97 = .ok (.goto (-67), 3) := by decide +kernel
theorem d_6_100 : decode (bc 6) 100 = .ok (.iinc 6 1, 3) := by decide +kernel
theorem d_6_103 : decode (bc 6) 103 = .ok (.goto (-85), 3) := by decide +kernel
theorem d_6_106 : decode (bc 6) 106 = .ok (.iinc 5 1, 3) := by decide +kernel
theorem d_6_109 : decode (bc 6) 109 = .ok (.goto (-100), 3) := by decide +kernel
theorem d_6_112 : decode (bc 6) 112 = .ok (.iload 4, 2) := by decide +kernel
theorem d_6_114 : decode (bc 6) 114 = .ok (.ireturn, 1) := by decide +kernel
theorem rt_6 : rty 6 = some .int := by decide +kernel
theorem mx_6 : mxl 6 = 9 := by decide +kernel
theorem ow_6 : (sta 6 = false ∧ own 6 = 0 ∧ hgt 6 = 2) := by decide +kernel
-- 7: SpunModules$Action.changesBasis(III)V
theorem d_7_0 : decode (bc 7) 0 = .ok (.iconst 0, 1) := by decide +kernel
theorem d_7_1 : decode (bc 7) 1 = .ok (.istore 4, 2) := by decide +kernel
theorem d_7_3 : decode (bc 7) 3 = .ok (.iload 4, 2) := by decide +kernel
theorem d_7_5 : decode (bc 7) 5 = .ok (.iconst 2, 1) := by decide +kernel
theorem d_7_6 : decode (bc 7) 6 = .ok (.if_icmp .ge 128, 3) := by decide +kernel
theorem d_7_9 : decode (bc 7) 9 = .ok (.bipush 6, 2) := by decide +kernel
theorem d_7_11 : decode (bc 7) 11 = .ok (.iload 4, 2) := by decide +kernel
theorem d_7_13 : decode (bc 7) 13 = .ok (.imul, 1) := by decide +kernel
theorem d_7_14 : decode (bc 7) 14 = .ok (.istore 5, 2) := by decide +kernel
theorem d_7_16 : decode (bc 7) 16 = .ok (.aload_n 0, 1) := by decide +kernel
theorem d_7_17 : decode (bc 7) 17 = .ok (.getfield 15, 3) := by decide +kernel
theorem q_7_15 : fq 7 15 = some (0, 2, 3, 2, true) := by decide +kernel
theorem d_7_20 : decode (bc 7) 20 = .ok (.iload 5, 2) := by decide +kernel
theorem d_7_22 : decode (bc 7) 22 = .ok (.iload_n 1, 1) := by decide +kernel
theorem d_7_23 : decode (bc 7) 23 = .ok (.iadd, 1) := by decide +kernel
theorem d_7_24 : decode (bc 7) 24 = .ok (.aload_n 0, 1) := by decide +kernel
theorem d_7_25 : decode (bc 7) 25 = .ok (.getfield 19, 3) := by decide +kernel
theorem q_7_19 : fq 7 19 = some (0, 0, 3, 2, true) := by decide +kernel
theorem d_7_28 : decode (bc 7) 28 = .ok (.aload_n 0, 1) := by decide +kernel
theorem d_7_29 : decode (bc 7) 29 = .ok (.getfield 15, 3) := by decide +kernel
theorem d_7_32 : decode (bc 7) 32 = .ok (.iload 5, 2) := by decide +kernel
theorem d_7_34 : decode (bc 7) 34 = .ok (.iload_n 1, 1) := by decide +kernel
theorem d_7_35 : decode (bc 7) 35 = .ok (.iadd, 1) := by decide +kernel
theorem d_7_36 : decode (bc 7) 36 = .ok (.laload, 1) := by decide +kernel
theorem d_7_37 : decode (bc 7) 37 = .ok (.iload_n 3, 1) := by decide +kernel
theorem d_7_38 : decode (bc 7) 38 = .ok (.aload_n 0, 1) := by decide +kernel
theorem d_7_39 : decode (bc 7) 39 = .ok (.getfield 15, 3) := by decide +kernel
theorem d_7_42 : decode (bc 7) 42 = .ok (.iload 5, 2) := by decide +kernel
theorem d_7_44 : decode (bc 7) 44 = .ok (.iload_n 2, 1) := by decide +kernel
theorem d_7_45 : decode (bc 7) 45 = .ok (.iadd, 1) := by decide +kernel
theorem d_7_46 : decode (bc 7) 46 = .ok (.laload, 1) := by decide +kernel
theorem d_7_47 : decode (bc 7) 47 = .ok (.invokevirtual 37, 3) := by decide +kernel
theorem q_7_37 : cq 7 37 [0, 3] = some (30, 4) := by decide +kernel
theorem d_7_50 : decode (bc 7) 50 = .ok (.lastore, 1) := by decide +kernel
theorem d_7_51 : decode (bc 7) 51 = .ok (.iconst 0, 1) := by decide +kernel
theorem d_7_52 : decode (bc 7) 52 = .ok (.istore 6, 2) := by decide +kernel
theorem d_7_54 : decode (bc 7) 54 = .ok (.iload 6, 2) := by decide +kernel
theorem d_7_56 : decode (bc 7) 56 = .ok (.aload_n 0, 1) := by decide +kernel
theorem d_7_57 : decode (bc 7) 57 = .ok (.getfield 9, 3) := by decide +kernel
theorem q_7_9 : fq 7 9 = some (0, 1, 3, 0, false) := by decide +kernel
theorem d_7_60 : decode (bc 7) 60 = .ok (.if_icmp .ge 68, 3) := by decide +kernel
theorem d_7_63 : decode (bc 7) 63 = .ok (.aload_n 0, 1) := by decide +kernel
theorem d_7_64 : decode (bc 7) 64 = .ok (.getfield 19, 3) := by decide +kernel
theorem d_7_67 : decode (bc 7) 67 = .ok (.iload_n 3, 1) := by decide +kernel
theorem d_7_68 : decode (bc 7) 68 = .ok (.ineg, 1) := by decide +kernel
theorem d_7_69 : decode (bc 7) 69 = .ok (.aload_n 0, 1) := by decide +kernel
theorem d_7_70 : decode (bc 7) 70 = .ok (.getfield 15, 3) := by decide +kernel
theorem d_7_73 : decode (bc 7) 73 = .ok (.iload 5, 2) := by decide +kernel
theorem d_7_75 : decode (bc 7) 75 = .ok (.iload 6, 2) := by decide +kernel
theorem d_7_77 : decode (bc 7) 77 = .ok (.iadd, 1) := by decide +kernel
theorem d_7_78 : decode (bc 7) 78 = .ok (.laload, 1) := by decide +kernel
theorem d_7_79 : decode (bc 7) 79 = .ok (.iload_n 1, 1) := by decide +kernel
theorem d_7_80 : decode (bc 7) 80 = .ok (.invokestatic 29, 3) := by decide +kernel
theorem q_7_29 : cq 7 29 [1, 4] = some (120, 2) := by decide +kernel
theorem d_7_83 : decode (bc 7) 83 = .ok (.imul, 1) := by decide +kernel
theorem d_7_84 : decode (bc 7) 84 = .ok (.invokevirtual 49, 3) := by decide +kernel
theorem q_7_49 : cq 7 49 [0, 3] = some (27, 2) := by decide +kernel
theorem d_7_87 : decode (bc 7) 87 = .ok (.istore 7, 2) := by decide +kernel
theorem d_7_89 : decode (bc 7) 89 = .ok (.aload_n 0, 1) := by decide +kernel
theorem d_7_90 : decode (bc 7) 90 = .ok (.getfield 15, 3) := by decide +kernel
theorem d_7_93 : decode (bc 7) 93 = .ok (.iload 5, 2) := by decide +kernel
theorem d_7_95 : decode (bc 7) 95 = .ok (.iload 6, 2) := by decide +kernel
theorem d_7_97 : decode (bc 7) 97 = .ok (.iadd, 1) := by decide +kernel
theorem d_7_98 : decode (bc 7) 98 = .ok (.aload_n 0, 1) := by decide +kernel
theorem d_7_99 : decode (bc 7) 99 = .ok (.getfield 19, 3) := by decide +kernel
theorem d_7_102 : decode (bc 7) 102 = .ok (.aload_n 0, 1) := by decide +kernel
theorem d_7_103 : decode (bc 7) 103 = .ok (.getfield 15, 3) := by decide +kernel
theorem d_7_106 : decode (bc 7) 106 = .ok (.iload 5, 2) := by decide +kernel
theorem d_7_108 : decode (bc 7) 108 = .ok (.iload 6, 2) := by decide +kernel
theorem d_7_110 : decode (bc 7) 110 = .ok (.iadd, 1) := by decide +kernel
theorem d_7_111 : decode (bc 7) 111 = .ok (.laload, 1) := by decide +kernel
theorem d_7_112 : decode (bc 7) 112 = .ok (.iload 7, 2) := by decide +kernel
theorem d_7_114 : decode (bc 7) 114 = .ok (.iload_n 2, 1) := by decide +kernel
theorem d_7_115 : decode (bc 7) 115 = .ok (.invokestatic 33, 3) := by decide +kernel
theorem q_7_33 : cq 7 33 [1, 4] = some (121, 1) := by decide +kernel
theorem d_7_118 : decode (bc 7) 118 = .ok (.invokevirtual 37, 3) := by decide +kernel
theorem d_7_121 : decode (bc 7) 121 = .ok (.lastore, 1) := by decide +kernel
theorem d_7_122 : decode (bc 7) 122 = .ok (.iinc 6 1, 3) := by decide +kernel
theorem d_7_125 : decode (bc 7) 125 = .ok (.goto (-71), 3) := by decide +kernel
theorem d_7_128 : decode (bc 7) 128 = .ok (.iinc 4 1, 3) := by decide +kernel
theorem d_7_131 : decode (bc 7) 131 = .ok (.goto (-128), 3) := by decide +kernel
theorem d_7_134 : decode (bc 7) 134 = .ok (.return_, 1) := by decide +kernel
theorem rt_7 : rty 7 = none := by decide +kernel
theorem mx_7 : mxl 7 = 8 := by decide +kernel
theorem ow_7 : (sta 7 = false ∧ own 7 = 0 ∧ hgt 7 = 2) := by decide +kernel
-- 8: SpunModules$Action.differences(LSpunModules$Action;)I
theorem d_8_0 : decode (bc 8) 0 = .ok (.iconst 0, 1) := by decide +kernel
theorem d_8_1 : decode (bc 8) 1 = .ok (.istore_n 2, 1) := by decide +kernel
theorem d_8_2 : decode (bc 8) 2 = .ok (.iconst 0, 1) := by decide +kernel
theorem d_8_3 : decode (bc 8) 3 = .ok (.istore_n 3, 1) := by decide +kernel
theorem d_8_4 : decode (bc 8) 4 = .ok (.iload_n 3, 1) := by decide +kernel
theorem d_8_5 : decode (bc 8) 5 = .ok (.bipush 12, 2) := by decide +kernel
theorem d_8_7 : decode (bc 8) 7 = .ok (.if_icmp .ge 60, 3) := by decide +kernel
theorem d_8_10 : decode (bc 8) 10 = .ok (.iconst 0, 1) := by decide +kernel
theorem d_8_11 : decode (bc 8) 11 = .ok (.istore 4, 2) := by decide +kernel
theorem d_8_13 : decode (bc 8) 13 = .ok (.iload 4, 2) := by decide +kernel
theorem d_8_15 : decode (bc 8) 15 = .ok (.aload_n 0, 1) := by decide +kernel
theorem d_8_16 : decode (bc 8) 16 = .ok (.getfield 9, 3) := by decide +kernel
theorem q_8_9 : fq 8 9 = some (0, 1, 3, 0, false) := by decide +kernel
theorem d_8_19 : decode (bc 8) 19 = .ok (.if_icmp .ge 42, 3) := by decide +kernel
theorem d_8_22 : decode (bc 8) 22 = .ok (.iload_n 2, 1) := by decide +kernel
theorem d_8_23 : decode (bc 8) 23 = .ok (.aload_n 0, 1) := by decide +kernel
theorem d_8_24 : decode (bc 8) 24 = .ok (.getfield 15, 3) := by decide +kernel
theorem q_8_15 : fq 8 15 = some (0, 2, 3, 2, true) := by decide +kernel
theorem d_8_27 : decode (bc 8) 27 = .ok (.iload_n 3, 1) := by decide +kernel
theorem d_8_28 : decode (bc 8) 28 = .ok (.laload, 1) := by decide +kernel
theorem d_8_29 : decode (bc 8) 29 = .ok (.iload 4, 2) := by decide +kernel
theorem d_8_31 : decode (bc 8) 31 = .ok (.invokestatic 29, 3) := by decide +kernel
theorem q_8_29 : cq 8 29 [1, 4] = some (120, 2) := by decide +kernel
theorem d_8_34 : decode (bc 8) 34 = .ok (.aload_n 1, 1) := by decide +kernel
theorem d_8_35 : decode (bc 8) 35 = .ok (.getfield 15, 3) := by decide +kernel
theorem d_8_38 : decode (bc 8) 38 = .ok (.iload_n 3, 1) := by decide +kernel
theorem d_8_39 : decode (bc 8) 39 = .ok (.laload, 1) := by decide +kernel
theorem d_8_40 : decode (bc 8) 40 = .ok (.iload 4, 2) := by decide +kernel
theorem d_8_42 : decode (bc 8) 42 = .ok (.invokestatic 29, 3) := by decide +kernel
theorem d_8_45 : decode (bc 8) 45 = .ok (.if_icmp .ne 7, 3) := by decide +kernel
theorem d_8_48 : decode (bc 8) 48 = .ok (.iconst 0, 1) := by decide +kernel
theorem d_8_49 : decode (bc 8) 49 = .ok (.goto 4, 3) := by decide +kernel
theorem d_8_52 : decode (bc 8) 52 = .ok (.iconst 1, 1) := by decide +kernel
theorem d_8_53 : decode (bc 8) 53 = .ok (.iadd, 1) := by decide +kernel
theorem d_8_54 : decode (bc 8) 54 = .ok (.istore_n 2, 1) := by decide +kernel
theorem d_8_55 : decode (bc 8) 55 = .ok (.iinc 4 1, 3) := by decide +kernel
theorem d_8_58 : decode (bc 8) 58 = .ok (.goto (-45), 3) := by decide +kernel
theorem d_8_61 : decode (bc 8) 61 = .ok (.iinc 3 1, 3) := by decide +kernel
theorem d_8_64 : decode (bc 8) 64 = .ok (.goto (-60), 3) := by decide +kernel
theorem d_8_67 : decode (bc 8) 67 = .ok (.iload_n 2, 1) := by decide +kernel
theorem d_8_68 : decode (bc 8) 68 = .ok (.ireturn, 1) := by decide +kernel
theorem rt_8 : rty 8 = some .int := by decide +kernel
theorem mx_8 : mxl 8 = 5 := by decide +kernel
theorem ow_8 : (sta 8 = false ∧ own 8 = 0 ∧ hgt 8 = 1) := by decide +kernel
-- 9: SpunModules$Action.joins(LSpunModules$Action;LSpunModules$Action;)V
theorem d_9_0 : decode (bc 9) 0 = .ok (.aload_n 0, 1) := by decide +kernel
theorem d_9_1 : decode (bc 9) 1 = .ok (.aload_n 1, 1) := by decide +kernel
theorem d_9_2 : decode (bc 9) 2 = .ok (.invokevirtual 57, 3) := by decide +kernel
theorem q_9_57 : cq 9 57 [0, 3] = some (2, 2) := by decide +kernel
theorem d_9_5 : decode (bc 9) 5 = .ok (.aload_n 0, 1) := by decide +kernel
theorem d_9_6 : decode (bc 9) 6 = .ok (.aload_n 1, 1) := by decide +kernel
theorem d_9_7 : decode (bc 9) 7 = .ok (.getfield 9, 3) := by decide +kernel
theorem q_9_9 : fq 9 9 = some (0, 1, 3, 0, false) := by decide +kernel
theorem d_9_10 : decode (bc 9) 10 = .ok (.aload_n 2, 1) := by decide +kernel
theorem d_9_11 : decode (bc 9) 11 = .ok (.getfield 9, 3) := by decide +kernel
theorem d_9_14 : decode (bc 9) 14 = .ok (.iadd, 1) := by decide +kernel
theorem d_9_15 : decode (bc 9) 15 = .ok (.putfield 9, 3) := by decide +kernel
theorem d_9_18 : decode (bc 9) 18 = .ok (.iconst 0, 1) := by decide +kernel
theorem d_9_19 : decode (bc 9) 19 = .ok (.istore_n 3, 1) := by decide +kernel
theorem d_9_20 : decode (bc 9) 20 = .ok (.iload_n 3, 1) := by decide +kernel
theorem d_9_21 : decode (bc 9) 21 = .ok (.iconst 2, 1) := by decide +kernel
theorem d_9_22 : decode (bc 9) 22 = .ok (.if_icmp .ge 63, 3) := by decide +kernel
theorem d_9_25 : decode (bc 9) 25 = .ok (.iconst 0, 1) := by decide +kernel
theorem d_9_26 : decode (bc 9) 26 = .ok (.istore 4, 2) := by decide +kernel
theorem d_9_28 : decode (bc 9) 28 = .ok (.iload 4, 2) := by decide +kernel
theorem d_9_30 : decode (bc 9) 30 = .ok (.aload_n 2, 1) := by decide +kernel
theorem d_9_31 : decode (bc 9) 31 = .ok (.getfield 9, 3) := by decide +kernel
theorem d_9_34 : decode (bc 9) 34 = .ok (.if_icmp .ge 45, 3) := by decide +kernel
theorem d_9_37 : decode (bc 9) 37 = .ok (.aload_n 0, 1) := by decide +kernel
theorem d_9_38 : decode (bc 9) 38 = .ok (.getfield 15, 3) := by decide +kernel
theorem q_9_15 : fq 9 15 = some (0, 2, 3, 2, true) := by decide +kernel
theorem d_9_41 : decode (bc 9) 41 = .ok (.bipush 6, 2) := by decide +kernel
theorem d_9_43 : decode (bc 9) 43 = .ok (.iload_n 3, 1) := by decide +kernel
theorem d_9_44 : decode (bc 9) 44 = .ok (.imul, 1) := by decide +kernel
theorem d_9_45 : decode (bc 9) 45 = .ok (.aload_n 1, 1) := by decide +kernel
theorem d_9_46 : decode (bc 9) 46 = .ok (.getfield 9, 3) := by decide +kernel
theorem d_9_49 : decode (bc 9) 49 = .ok (.iadd, 1) := by decide +kernel
theorem d_9_50 : decode (bc 9) 50 = .ok (.iload 4, 2) := by decide +kernel
theorem d_9_52 : decode (bc 9) 52 = .ok (.iadd, 1) := by decide +kernel
theorem d_9_53 : decode (bc 9) 53 = .ok (.aload_n 2, 1) := by decide +kernel
theorem d_9_54 : decode (bc 9) 54 = .ok (.getfield 15, 3) := by decide +kernel
theorem d_9_57 : decode (bc 9) 57 = .ok (.bipush 6, 2) := by decide +kernel
theorem d_9_59 : decode (bc 9) 59 = .ok (.iload_n 3, 1) := by decide +kernel
theorem d_9_60 : decode (bc 9) 60 = .ok (.imul, 1) := by decide +kernel
theorem d_9_61 : decode (bc 9) 61 = .ok (.iload 4, 2) := by decide +kernel
theorem d_9_63 : decode (bc 9) 63 = .ok (.iadd, 1) := by decide +kernel
theorem d_9_64 : decode (bc 9) 64 = .ok (.laload, 1) := by decide +kernel
theorem d_9_65 : decode (bc 9) 65 = .ok (.iconst 4, 1) := by decide +kernel
theorem d_9_66 : decode (bc 9) 66 = .ok (.aload_n 1, 1) := by decide +kernel
theorem d_9_67 : decode (bc 9) 67 = .ok (.getfield 9, 3) := by decide +kernel
theorem d_9_70 : decode (bc 9) 70 = .ok (.imul, 1) := by decide +kernel
theorem d_9_71 : decode (bc 9) 71 = .ok (.lushr, 1) := by decide +kernel
theorem d_9_72 : decode (bc 9) 72 = .ok (.lastore, 1) := by decide +kernel
theorem d_9_73 : decode (bc 9) 73 = .ok (.iinc 4 1, 3) := by decide +kernel
theorem d_9_76 : decode (bc 9) 76 = .ok (.goto (-48), 3) := by decide +kernel
theorem d_9_79 : decode (bc 9) 79 = .ok (.iinc 3 1, 3) := by decide +kernel
theorem d_9_82 : decode (bc 9) 82 = .ok (.goto (-62), 3) := by decide +kernel
theorem d_9_85 : decode (bc 9) 85 = .ok (.return_, 1) := by decide +kernel
theorem rt_9 : rty 9 = none := by decide +kernel
theorem mx_9 : mxl 9 = 5 := by decide +kernel
theorem ow_9 : (sta 9 = false ∧ own 9 = 0 ∧ hgt 9 = 2) := by decide +kernel
-- 10: SpunModules$Action.multiplies(LSpunModules$Action;LSpunModules$Action;)V
theorem d_10_0 : decode (bc 10) 0 = .ok (.aload_n 0, 1) := by decide +kernel
theorem d_10_1 : decode (bc 10) 1 = .ok (.aload_n 1, 1) := by decide +kernel
theorem d_10_2 : decode (bc 10) 2 = .ok (.getfield 9, 3) := by decide +kernel
theorem q_10_9 : fq 10 9 = some (0, 1, 3, 0, false) := by decide +kernel
theorem d_10_5 : decode (bc 10) 5 = .ok (.aload_n 2, 1) := by decide +kernel
theorem d_10_6 : decode (bc 10) 6 = .ok (.getfield 9, 3) := by decide +kernel
theorem d_10_9 : decode (bc 10) 9 = .ok (.imul, 1) := by decide +kernel
theorem d_10_10 : decode (bc 10) 10 = .ok (.invokevirtual 61, 3) := by decide +kernel
theorem q_10_61 : cq 10 61 [0, 3] = some (1, 2) := by decide +kernel
theorem d_10_13 : decode (bc 10) 13 = .ok (.iconst 0, 1) := by decide +kernel
theorem d_10_14 : decode (bc 10) 14 = .ok (.istore_n 3, 1) := by decide +kernel
theorem d_10_15 : decode (bc 10) 15 = .ok (.iload_n 3, 1) := by decide +kernel
theorem d_10_16 : decode (bc 10) 16 = .ok (.iconst 2, 1) := by decide +kernel
theorem d_10_17 : decode (bc 10) 17 = .ok (.if_icmp .ge 64, 3) := by decide +kernel
theorem d_10_20 : decode (bc 10) 20 = .ok (.iconst 0, 1) := by decide +kernel
theorem d_10_21 : decode (bc 10) 21 = .ok (.istore 4, 2) := by decide +kernel
theorem d_10_23 : decode (bc 10) 23 = .ok (.iload 4, 2) := by decide +kernel
theorem d_10_25 : decode (bc 10) 25 = .ok (.aload_n 1, 1) := by decide +kernel
theorem d_10_26 : decode (bc 10) 26 = .ok (.getfield 9, 3) := by decide +kernel
theorem d_10_29 : decode (bc 10) 29 = .ok (.if_icmp .ge 46, 3) := by decide +kernel
theorem d_10_32 : decode (bc 10) 32 = .ok (.iconst 0, 1) := by decide +kernel
theorem d_10_33 : decode (bc 10) 33 = .ok (.istore 5, 2) := by decide +kernel
theorem d_10_35 : decode (bc 10) 35 = .ok (.iload 5, 2) := by decide +kernel
theorem d_10_37 : decode (bc 10) 37 = .ok (.aload_n 1, 1) := by decide +kernel
theorem d_10_38 : decode (bc 10) 38 = .ok (.getfield 9, 3) := by decide +kernel
theorem d_10_41 : decode (bc 10) 41 = .ok (.if_icmp .ge 28, 3) := by decide +kernel
theorem d_10_44 : decode (bc 10) 44 = .ok (.aload_n 0, 1) := by decide +kernel
theorem d_10_45 : decode (bc 10) 45 = .ok (.aload_n 2, 1) := by decide +kernel
theorem d_10_46 : decode (bc 10) 46 = .ok (.iload_n 3, 1) := by decide +kernel
theorem d_10_47 : decode (bc 10) 47 = .ok (.iload 4, 2) := by decide +kernel
theorem d_10_49 : decode (bc 10) 49 = .ok (.iload 5, 2) := by decide +kernel
theorem d_10_51 : decode (bc 10) 51 = .ok (.aload_n 1, 1) := by decide +kernel
theorem d_10_52 : decode (bc 10) 52 = .ok (.iload_n 3, 1) := by decide +kernel
theorem d_10_53 : decode (bc 10) 53 = .ok (.iload 4, 2) := by decide +kernel
theorem d_10_55 : decode (bc 10) 55 = .ok (.iload 5, 2) := by decide +kernel
theorem d_10_57 : decode (bc 10) 57 = .ok (.invokevirtual 65, 3) := by decide +kernel
theorem q_10_65 : cq 10 65 [0, 3] = some (3, 4) := by decide +kernel
theorem d_10_60 : decode (bc 10) 60 = .ok (.invokevirtual 69, 3) := by decide +kernel
theorem q_10_69 : cq 10 69 [0, 3] = some (11, 6) := by decide +kernel
theorem d_10_63 : decode (bc 10) 63 = .ok (.iinc 5 1, 3) := by decide +kernel
theorem d_10_66 : decode (bc 10) 66 = .ok (.goto (-31), 3) := by decide +kernel
theorem d_10_69 : decode (bc 10) 69 = .ok (.iinc 4 1, 3) := by decide +kernel
theorem d_10_72 : decode (bc 10) 72 = .ok (.goto (-49), 3) := by decide +kernel
theorem d_10_75 : decode (bc 10) 75 = .ok (.iinc 3 1, 3) := by decide +kernel
theorem d_10_78 : decode (bc 10) 78 = .ok (.goto (-63), 3) := by decide +kernel
theorem d_10_81 : decode (bc 10) 81 = .ok (.return_, 1) := by decide +kernel
theorem rt_10 : rty 10 = none := by decide +kernel
theorem mx_10 : mxl 10 = 6 := by decide +kernel
theorem ow_10 : (sta 10 = false ∧ own 10 = 0 ∧ hgt 10 = 2) := by decide +kernel
-- 11: SpunModules$Action.addsBlock(LSpunModules$Action;IIII)V
theorem d_11_0 : decode (bc 11) 0 = .ok (.iconst 0, 1) := by decide +kernel
theorem d_11_1 : decode (bc 11) 1 = .ok (.istore 6, 2) := by decide +kernel
theorem d_11_3 : decode (bc 11) 3 = .ok (.iload 6, 2) := by decide +kernel
theorem d_11_5 : decode (bc 11) 5 = .ok (.aload_n 1, 1) := by decide +kernel
theorem d_11_6 : decode (bc 11) 6 = .ok (.getfield 9, 3) := by decide +kernel
theorem q_11_9 : fq 11 9 = some (0, 1, 3, 0, false) := by decide +kernel
theorem d_11_9 : decode (bc 11) 9 = .ok (.if_icmp .ge 70, 3) := by decide +kernel
theorem d_11_12 : decode (bc 11) 12 = .ok (.bipush 6, 2) := by decide +kernel
theorem d_11_14 : decode (bc 11) 14 = .ok (.iload_n 2, 1) := by decide +kernel
theorem d_11_15 : decode (bc 11) 15 = .ok (.imul, 1) := by decide +kernel
theorem d_11_16 : decode (bc 11) 16 = .ok (.aload_n 1, 1) := by decide +kernel
theorem d_11_17 : decode (bc 11) 17 = .ok (.getfield 9, 3) := by decide +kernel
theorem d_11_20 : decode (bc 11) 20 = .ok (.iload_n 3, 1) := by decide +kernel
theorem d_11_21 : decode (bc 11) 21 = .ok (.imul, 1) := by decide +kernel
theorem d_11_22 : decode (bc 11) 22 = .ok (.iadd, 1) := by decide +kernel
theorem d_11_23 : decode (bc 11) 23 = .ok (.iload 6, 2) := by decide +kernel
theorem d_11_25 : decode (bc 11) 25 = .ok (.iadd, 1) := by decide +kernel
theorem d_11_26 : decode (bc 11) 26 = .ok (.istore 7, 2) := by decide +kernel
theorem d_11_28 : decode (bc 11) 28 = .ok (.aload_n 0, 1) := by decide +kernel
theorem d_11_29 : decode (bc 11) 29 = .ok (.getfield 15, 3) := by decide +kernel
theorem q_11_15 : fq 11 15 = some (0, 2, 3, 2, true) := by decide +kernel
theorem d_11_32 : decode (bc 11) 32 = .ok (.iload 7, 2) := by decide +kernel
theorem d_11_34 : decode (bc 11) 34 = .ok (.aload_n 0, 1) := by decide +kernel
theorem d_11_35 : decode (bc 11) 35 = .ok (.getfield 19, 3) := by decide +kernel
theorem q_11_19 : fq 11 19 = some (0, 0, 3, 2, true) := by decide +kernel
theorem d_11_38 : decode (bc 11) 38 = .ok (.aload_n 0, 1) := by decide +kernel
theorem d_11_39 : decode (bc 11) 39 = .ok (.getfield 15, 3) := by decide +kernel
theorem d_11_42 : decode (bc 11) 42 = .ok (.iload 7, 2) := by decide +kernel
theorem d_11_44 : decode (bc 11) 44 = .ok (.laload, 1) := by decide +kernel
theorem d_11_45 : decode (bc 11) 45 = .ok (.iload 5, 2) := by decide +kernel
theorem d_11_47 : decode (bc 11) 47 = .ok (.aload_n 1, 1) := by decide +kernel
theorem d_11_48 : decode (bc 11) 48 = .ok (.getfield 15, 3) := by decide +kernel
theorem d_11_51 : decode (bc 11) 51 = .ok (.bipush 6, 2) := by decide +kernel
theorem d_11_53 : decode (bc 11) 53 = .ok (.iload_n 2, 1) := by decide +kernel
theorem d_11_54 : decode (bc 11) 54 = .ok (.imul, 1) := by decide +kernel
theorem d_11_55 : decode (bc 11) 55 = .ok (.iload 6, 2) := by decide +kernel
theorem d_11_57 : decode (bc 11) 57 = .ok (.iadd, 1) := by decide +kernel
theorem d_11_58 : decode (bc 11) 58 = .ok (.laload, 1) := by decide +kernel
theorem d_11_59 : decode (bc 11) 59 = .ok (.iconst 4, 1) := by decide +kernel
theorem d_11_60 : decode (bc 11) 60 = .ok (.aload_n 1, 1) := by decide +kernel
theorem d_11_61 : decode (bc 11) 61 = .ok (.getfield 9, 3) := by decide +kernel
theorem d_11_64 : decode (bc 11) 64 = .ok (.imul, 1) := by decide +kernel
theorem d_11_65 : decode (bc 11) 65 = .ok (.iload 4, 2) := by decide +kernel
theorem d_11_67 : decode (bc 11) 67 = .ok (.imul, 1) := by decide +kernel
theorem d_11_68 : decode (bc 11) 68 = .ok (.lushr, 1) := by decide +kernel
theorem d_11_69 : decode (bc 11) 69 = .ok (.invokevirtual 37, 3) := by decide +kernel
theorem q_11_37 : cq 11 37 [0, 3] = some (30, 4) := by decide +kernel
theorem d_11_72 : decode (bc 11) 72 = .ok (.lastore, 1) := by decide +kernel
theorem d_11_73 : decode (bc 11) 73 = .ok (.iinc 6 1, 3) := by decide +kernel
theorem d_11_76 : decode (bc 11) 76 = .ok (.goto (-73), 3) := by decide +kernel
theorem d_11_79 : decode (bc 11) 79 = .ok (.return_, 1) := by decide +kernel
theorem rt_11 : rty 11 = none := by decide +kernel
theorem mx_11 : mxl 11 = 8 := by decide +kernel
theorem ow_11 : (sta 11 = false ∧ own 11 = 0 ∧ hgt 11 = 1) := by decide +kernel
-- 12: SpunModules$Action.transposes(LSpunModules$Action;)V
theorem d_12_0 : decode (bc 12) 0 = .ok (.aload_n 0, 1) := by decide +kernel
theorem d_12_1 : decode (bc 12) 1 = .ok (.aload_n 1, 1) := by decide +kernel
theorem d_12_2 : decode (bc 12) 2 = .ok (.getfield 9, 3) := by decide +kernel
theorem q_12_9 : fq 12 9 = some (0, 1, 3, 0, false) := by decide +kernel
theorem d_12_5 : decode (bc 12) 5 = .ok (.invokevirtual 61, 3) := by decide +kernel
theorem q_12_61 : cq 12 61 [0, 3] = some (1, 2) := by decide +kernel
theorem d_12_8 : decode (bc 12) 8 = .ok (.iconst 0, 1) := by decide +kernel
theorem d_12_9 : decode (bc 12) 9 = .ok (.istore_n 2, 1) := by decide +kernel
theorem d_12_10 : decode (bc 12) 10 = .ok (.iload_n 2, 1) := by decide +kernel
theorem d_12_11 : decode (bc 12) 11 = .ok (.iconst 2, 1) := by decide +kernel
theorem d_12_12 : decode (bc 12) 12 = .ok (.if_icmp .ge 59, 3) := by decide +kernel
theorem d_12_15 : decode (bc 12) 15 = .ok (.iconst 0, 1) := by decide +kernel
theorem d_12_16 : decode (bc 12) 16 = .ok (.istore_n 3, 1) := by decide +kernel
theorem d_12_17 : decode (bc 12) 17 = .ok (.iload_n 3, 1) := by decide +kernel
theorem d_12_18 : decode (bc 12) 18 = .ok (.aload_n 0, 1) := by decide +kernel
theorem d_12_19 : decode (bc 12) 19 = .ok (.getfield 9, 3) := by decide +kernel
theorem d_12_22 : decode (bc 12) 22 = .ok (.if_icmp .ge 43, 3) := by decide +kernel
theorem d_12_25 : decode (bc 12) 25 = .ok (.iconst 0, 1) := by decide +kernel
theorem d_12_26 : decode (bc 12) 26 = .ok (.istore 4, 2) := by decide +kernel
theorem d_12_28 : decode (bc 12) 28 = .ok (.iload 4, 2) := by decide +kernel
theorem d_12_30 : decode (bc 12) 30 = .ok (.aload_n 0, 1) := by decide +kernel
theorem d_12_31 : decode (bc 12) 31 = .ok (.getfield 9, 3) := by decide +kernel
theorem d_12_34 : decode (bc 12) 34 = .ok (.if_icmp .ge 25, 3) := by decide +kernel
theorem d_12_37 : decode (bc 12) 37 = .ok (.aload_n 0, 1) := by decide +kernel
theorem d_12_38 : decode (bc 12) 38 = .ok (.iload_n 2, 1) := by decide +kernel
theorem d_12_39 : decode (bc 12) 39 = .ok (.iload_n 3, 1) := by decide +kernel
theorem d_12_40 : decode (bc 12) 40 = .ok (.iload 4, 2) := by decide +kernel
theorem d_12_42 : decode (bc 12) 42 = .ok (.aload_n 1, 1) := by decide +kernel
theorem d_12_43 : decode (bc 12) 43 = .ok (.iload_n 2, 1) := by decide +kernel
theorem d_12_44 : decode (bc 12) 44 = .ok (.iload 4, 2) := by decide +kernel
theorem d_12_46 : decode (bc 12) 46 = .ok (.iload_n 3, 1) := by decide +kernel
theorem d_12_47 : decode (bc 12) 47 = .ok (.invokevirtual 65, 3) := by decide +kernel
theorem q_12_65 : cq 12 65 [0, 3] = some (3, 4) := by decide +kernel
theorem d_12_50 : decode (bc 12) 50 = .ok (.invokevirtual 53, 3) := by decide +kernel
theorem q_12_53 : cq 12 53 [0, 3] = some (4, 5) := by decide +kernel
theorem d_12_53 : decode (bc 12) 53 = .ok (.iinc 4 1, 3) := by decide +kernel
theorem d_12_56 : decode (bc 12) 56 = .ok (.goto (-28), 3) := by decide +kernel
theorem d_12_59 : decode (bc 12) 59 = .ok (.iinc 3 1, 3) := by decide +kernel
theorem d_12_62 : decode (bc 12) 62 = .ok (.goto (-45), 3) := by decide +kernel
theorem d_12_65 : decode (bc 12) 65 = .ok (.iinc 2 1, 3) := by decide +kernel
theorem d_12_68 : decode (bc 12) 68 = .ok (.goto (-58), 3) := by decide +kernel
theorem d_12_71 : decode (bc 12) 71 = .ok (.return_, 1) := by decide +kernel
theorem rt_12 : rty 12 = none := by decide +kernel
theorem mx_12 : mxl 12 = 5 := by decide +kernel
theorem ow_12 : (sta 12 = false ∧ own 12 = 0 ∧ hgt 12 = 2) := by decide +kernel
-- 13: SpunModules$Action.restricts(LSpunModules$Action;LSpunModules$Space;)V
theorem d_13_0 : decode (bc 13) 0 = .ok (.aload_n 0, 1) := by decide +kernel
theorem d_13_1 : decode (bc 13) 1 = .ok (.aload_n 2, 1) := by decide +kernel
theorem d_13_2 : decode (bc 13) 2 = .ok (.getfield 73, 3) := by decide +kernel
theorem q_13_73 : fq 13 73 = some (7, 2, 5, 0, false) := by decide +kernel
theorem d_13_5 : decode (bc 13) 5 = .ok (.invokevirtual 61, 3) := by decide +kernel
theorem q_13_61 : cq 13 61 [0, 3] = some (1, 2) := by decide +kernel
theorem d_13_8 : decode (bc 13) 8 = .ok (.iconst 0, 1) := by decide +kernel
theorem d_13_9 : decode (bc 13) 9 = .ok (.istore_n 3, 1) := by decide +kernel
theorem d_13_10 : decode (bc 13) 10 = .ok (.iconst 0, 1) := by decide +kernel
theorem d_13_11 : decode (bc 13) 11 = .ok (.istore 4, 2) := by decide +kernel
theorem d_13_13 : decode (bc 13) 13 = .ok (.iload 4, 2) := by decide +kernel
theorem d_13_15 : decode (bc 13) 15 = .ok (.aload_n 1, 1) := by decide +kernel
theorem d_13_16 : decode (bc 13) 16 = .ok (.getfield 9, 3) := by decide +kernel
theorem q_13_9 : fq 13 9 = some (0, 1, 3, 0, false) := by decide +kernel
theorem d_13_19 : decode (bc 13) 19 = .ok (.if_icmp .ge 66, 3) := by decide +kernel
theorem d_13_22 : decode (bc 13) 22 = .ok (.aload_n 2, 1) := by decide +kernel
theorem d_13_23 : decode (bc 13) 23 = .ok (.iload 4, 2) := by decide +kernel
theorem d_13_25 : decode (bc 13) 25 = .ok (.invokevirtual 78, 3) := by decide +kernel
theorem q_13_78 : cq 13 78 [0, 3] = some (54, 2) := by decide +kernel
theorem d_13_28 : decode (bc 13) 28 = .ok (.ifCond .eq 51, 3) := by decide +kernel
theorem d_13_31 : decode (bc 13) 31 = .ok (.iconst 0, 1) := by decide +kernel
theorem d_13_32 : decode (bc 13) 32 = .ok (.istore 5, 2) := by decide +kernel
theorem d_13_34 : decode (bc 13) 34 = .ok (.iload 5, 2) := by decide +kernel
theorem d_13_36 : decode (bc 13) 36 = .ok (.iconst 2, 1) := by decide +kernel
theorem d_13_37 : decode (bc 13) 37 = .ok (.if_icmp .ge 39, 3) := by decide +kernel
theorem d_13_40 : decode (bc 13) 40 = .ok (.aload_n 0, 1) := by decide +kernel
theorem d_13_41 : decode (bc 13) 41 = .ok (.getfield 15, 3) := by decide +kernel
theorem q_13_15 : fq 13 15 = some (0, 2, 3, 2, true) := by decide +kernel
theorem d_13_44 : decode (bc 13) 44 = .ok (.bipush 6, 2) := by decide +kernel
theorem d_13_46 : decode (bc 13) 46 = .ok (.iload 5, 2) := by decide +kernel
theorem d_13_48 : decode (bc 13) 48 = .ok (.imul, 1) := by decide +kernel
theorem d_13_49 : decode (bc 13) 49 = .ok (.iload_n 3, 1) := by decide +kernel
theorem d_13_50 : decode (bc 13) 50 = .ok (.iadd, 1) := by decide +kernel
theorem d_13_51 : decode (bc 13) 51 = .ok (.aload_n 2, 1) := by decide +kernel
theorem d_13_52 : decode (bc 13) 52 = .ok (.aload_n 1, 1) := by decide +kernel
theorem d_13_53 : decode (bc 13) 53 = .ok (.iload 5, 2) := by decide +kernel
theorem d_13_55 : decode (bc 13) 55 = .ok (.aload_n 2, 1) := by decide +kernel
theorem d_13_56 : decode (bc 13) 56 = .ok (.getfield 82, 3) := by decide +kernel
theorem q_13_82 : fq 13 82 = some (7, 3, 5, 2, true) := by decide +kernel
theorem d_13_59 : decode (bc 13) 59 = .ok (.iload 4, 2) := by decide +kernel
theorem d_13_61 : decode (bc 13) 61 = .ok (.laload, 1) := by decide +kernel
theorem d_13_62 : decode (bc 13) 62 = .ok (.invokevirtual 83, 3) := by decide +kernel
theorem q_13_83 : cq 13 83 [0, 3] = some (5, 3) := by decide +kernel
theorem d_13_65 : decode (bc 13) 65 = .ok (.iconst 1, 1) := by decide +kernel
theorem d_13_66 : decode (bc 13) 66 = .ok (.invokevirtual 87, 3) := by decide +kernel
theorem q_13_87 : cq 13 87 [0, 3] = some (60, 3) := by decide +kernel
theorem d_13_69 : decode (bc 13) 69 = .ok (.lastore, 1) := by decide +kernel
theorem d_13_70 : decode (bc 13) 70 = .ok (.iinc 5 1, 3) := by decide +kernel
theorem d_13_73 : decode (bc 13) 73 = .ok (.goto (-39), 3) := by decide +kernel
theorem d_13_76 : decode (bc 13) 76 = .ok (.iinc 3 1, 3) := by decide +kernel
theorem d_13_79 : decode (bc 13) 79 = .ok (.iinc 4 1, 3) := by decide +kernel
theorem d_13_82 : decode (bc 13) 82 = .ok (.goto (-69), 3) := by decide +kernel
theorem d_13_85 : decode (bc 13) 85 = .ok (.return_, 1) := by decide +kernel
theorem rt_13 : rty 13 = none := by decide +kernel
theorem mx_13 : mxl 13 = 6 := by decide +kernel
theorem ow_13 : (sta 13 = false ∧ own 13 = 0 ∧ hgt 13 = 2) := by decide +kernel
-- 14: SpunModules$Action.divides(LSpunModules$Action;LSpunModules$Space;)V
theorem d_14_0 : decode (bc 14) 0 = .ok (.aload_n 0, 1) := by decide +kernel
theorem d_14_1 : decode (bc 14) 1 = .ok (.aload_n 1, 1) := by decide +kernel
theorem d_14_2 : decode (bc 14) 2 = .ok (.getfield 9, 3) := by decide +kernel
theorem q_14_9 : fq 14 9 = some (0, 1, 3, 0, false) := by decide +kernel
theorem d_14_5 : decode (bc 14) 5 = .ok (.aload_n 2, 1) := by decide +kernel
theorem d_14_6 : decode (bc 14) 6 = .ok (.getfield 73, 3) := by decide +kernel
theorem q_14_73 : fq 14 73 = some (7, 2, 5, 0, false) := by decide +kernel
theorem d_14_9 : decode (bc 14) 9 = .ok (.isub, 1) := by decide +kernel
theorem d_14_10 : decode (bc 14) 10 = .ok (.invokevirtual 61, 3) := by decide +kernel
theorem q_14_61 : cq 14 61 [0, 3] = some (1, 2) := by decide +kernel
theorem d_14_13 : decode (bc 14) 13 = .ok (.iconst 0, 1) := by decide +kernel
theorem d_14_14 : decode (bc 14) 14 = .ok (.istore_n 3, 1) := by decide +kernel
theorem d_14_15 : decode (bc 14) 15 = .ok (.iconst 0, 1) := by decide +kernel
theorem d_14_16 : decode (bc 14) 16 = .ok (.istore 4, 2) := by decide +kernel
theorem d_14_18 : decode (bc 14) 18 = .ok (.iload 4, 2) := by decide +kernel
theorem d_14_20 : decode (bc 14) 20 = .ok (.aload_n 1, 1) := by decide +kernel
theorem d_14_21 : decode (bc 14) 21 = .ok (.getfield 9, 3) := by decide +kernel
theorem d_14_24 : decode (bc 14) 24 = .ok (.if_icmp .ge 70, 3) := by decide +kernel
theorem d_14_27 : decode (bc 14) 27 = .ok (.aload_n 2, 1) := by decide +kernel
theorem d_14_28 : decode (bc 14) 28 = .ok (.iload 4, 2) := by decide +kernel
theorem d_14_30 : decode (bc 14) 30 = .ok (.invokevirtual 78, 3) := by decide +kernel
theorem q_14_78 : cq 14 78 [0, 3] = some (54, 2) := by decide +kernel
theorem d_14_33 : decode (bc 14) 33 = .ok (.ifCond .ne 55, 3) := by decide +kernel
theorem d_14_36 : decode (bc 14) 36 = .ok (.iconst 0, 1) := by decide +kernel
theorem d_14_37 : decode (bc 14) 37 = .ok (.istore 5, 2) := by decide +kernel
theorem d_14_39 : decode (bc 14) 39 = .ok (.iload 5, 2) := by decide +kernel
theorem d_14_41 : decode (bc 14) 41 = .ok (.iconst 2, 1) := by decide +kernel
theorem d_14_42 : decode (bc 14) 42 = .ok (.if_icmp .ge 43, 3) := by decide +kernel
theorem d_14_45 : decode (bc 14) 45 = .ok (.aload_n 0, 1) := by decide +kernel
theorem d_14_46 : decode (bc 14) 46 = .ok (.getfield 15, 3) := by decide +kernel
theorem q_14_15 : fq 14 15 = some (0, 2, 3, 2, true) := by decide +kernel
theorem d_14_49 : decode (bc 14) 49 = .ok (.bipush 6, 2) := by decide +kernel
theorem d_14_51 : decode (bc 14) 51 = .ok (.iload 5, 2) := by decide +kernel
theorem d_14_53 : decode (bc 14) 53 = .ok (.imul, 1) := by decide +kernel
theorem d_14_54 : decode (bc 14) 54 = .ok (.iload_n 3, 1) := by decide +kernel
theorem d_14_55 : decode (bc 14) 55 = .ok (.iadd, 1) := by decide +kernel
theorem d_14_56 : decode (bc 14) 56 = .ok (.aload_n 2, 1) := by decide +kernel
theorem d_14_57 : decode (bc 14) 57 = .ok (.aload_n 2, 1) := by decide +kernel
theorem d_14_58 : decode (bc 14) 58 = .ok (.aload_n 1, 1) := by decide +kernel
theorem d_14_59 : decode (bc 14) 59 = .ok (.getfield 15, 3) := by decide +kernel
theorem d_14_62 : decode (bc 14) 62 = .ok (.bipush 6, 2) := by decide +kernel
theorem d_14_64 : decode (bc 14) 64 = .ok (.iload 5, 2) := by decide +kernel
theorem d_14_66 : decode (bc 14) 66 = .ok (.imul, 1) := by decide +kernel
theorem d_14_67 : decode (bc 14) 67 = .ok (.iload 4, 2) := by decide +kernel
theorem d_14_69 : decode (bc 14) 69 = .ok (.iadd, 1) := by decide +kernel
theorem d_14_70 : decode (bc 14) 70 = .ok (.laload, 1) := by decide +kernel
theorem d_14_71 : decode (bc 14) 71 = .ok (.invokevirtual 91, 3) := by decide +kernel
theorem q_14_91 : cq 14 91 [0, 3] = some (55, 2) := by decide +kernel
theorem d_14_74 : decode (bc 14) 74 = .ok (.iconst 0, 1) := by decide +kernel
theorem d_14_75 : decode (bc 14) 75 = .ok (.invokevirtual 87, 3) := by decide +kernel
theorem q_14_87 : cq 14 87 [0, 3] = some (60, 3) := by decide +kernel
theorem d_14_78 : decode (bc 14) 78 = .ok (.lastore, 1) := by decide +kernel
theorem d_14_79 : decode (bc 14) 79 = .ok (.iinc 5 1, 3) := by decide +kernel
theorem d_14_82 : decode (bc 14) 82 = .ok (.goto (-43), 3) := by decide +kernel
theorem d_14_85 : decode (bc 14) 85 = .ok (.iinc 3 1, 3) := by decide +kernel
theorem d_14_88 : decode (bc 14) 88 = .ok (.iinc 4 1, 3) := by decide +kernel
theorem d_14_91 : decode (bc 14) 91 = .ok (.goto (-73), 3) := by decide +kernel
theorem d_14_94 : decode (bc 14) 94 = .ok (.return_, 1) := by decide +kernel
theorem rt_14 : rty 14 = none := by decide +kernel
theorem mx_14 : mxl 14 = 6 := by decide +kernel
theorem ow_14 : (sta 14 = false ∧ own 14 = 0 ∧ hgt 14 = 2) := by decide +kernel
-- 15: SpunModules$Action.entryInSequence(I)I
theorem d_15_0 : decode (bc 15) 0 = .ok (.aload_n 0, 1) := by decide +kernel
theorem d_15_1 : decode (bc 15) 1 = .ok (.getfield 9, 3) := by decide +kernel
theorem q_15_9 : fq 15 9 = some (0, 1, 3, 0, false) := by decide +kernel
theorem d_15_4 : decode (bc 15) 4 = .ok (.aload_n 0, 1) := by decide +kernel
theorem d_15_5 : decode (bc 15) 5 = .ok (.getfield 9, 3) := by decide +kernel
theorem d_15_8 : decode (bc 15) 8 = .ok (.imul, 1) := by decide +kernel
theorem d_15_9 : decode (bc 15) 9 = .ok (.istore_n 2, 1) := by decide +kernel
theorem d_15_10 : decode (bc 15) 10 = .ok (.aload_n 0, 1) := by decide +kernel
theorem d_15_11 : decode (bc 15) 11 = .ok (.getfield 9, 3) := by decide +kernel
theorem d_15_14 : decode (bc 15) 14 = .ok (.iconst 1, 1) := by decide +kernel
theorem d_15_15 : decode (bc 15) 15 = .ok (.if_icmp .lt 14, 3) := by decide +kernel
theorem d_15_18 : decode (bc 15) 18 = .ok (.iload_n 1, 1) := by decide +kernel
theorem d_15_19 : decode (bc 15) 19 = .ok (.ifCond .lt 10, 3) := by decide +kernel
theorem d_15_22 : decode (bc 15) 22 = .ok (.iload_n 1, 1) := by decide +kernel
theorem d_15_23 : decode (bc 15) 23 = .ok (.iconst 2, 1) := by decide +kernel
theorem d_15_24 : decode (bc 15) 24 = .ok (.iload_n 2, 1) := by decide +kernel
theorem d_15_25 : decode (bc 15) 25 = .ok (.imul, 1) := by decide +kernel
theorem d_15_26 : decode (bc 15) 26 = .ok (.if_icmp .lt 5, 3) := by decide +kernel
theorem d_15_29 : decode (bc 15) 29 = .ok (.iconst (-1), 1) := by decide +kernel
theorem d_15_30 : decode (bc 15) 30 = .ok (.ireturn, 1) := by decide +kernel
theorem d_15_31 : decode (bc 15) 31 = .ok (.iload_n 1, 1) := by decide +kernel
theorem d_15_32 : decode (bc 15) 32 = .ok (.iload_n 2, 1) := by decide +kernel
theorem d_15_33 : decode (bc 15) 33 = .ok (.if_icmp .ge 7, 3) := by decide +kernel
theorem d_15_36 : decode (bc 15) 36 = .ok (.iconst 0, 1) := by decide +kernel
theorem d_15_37 : decode (bc 15) 37 = .ok (.goto 4, 3) := by decide +kernel
theorem d_15_40 : decode (bc 15) 40 = .ok (.iconst 1, 1) := by decide +kernel
theorem d_15_41 : decode (bc 15) 41 = .ok (.istore_n 3, 1) := by decide +kernel
theorem d_15_42 : decode (bc 15) 42 = .ok (.iload_n 1, 1) := by decide +kernel
theorem d_15_43 : decode (bc 15) 43 = .ok (.iload_n 3, 1) := by decide +kernel
theorem d_15_44 : decode (bc 15) 44 = .ok (.iload_n 2, 1) := by decide +kernel
theorem d_15_45 : decode (bc 15) 45 = .ok (.imul, 1) := by decide +kernel
theorem d_15_46 : decode (bc 15) 46 = .ok (.isub, 1) := by decide +kernel
theorem d_15_47 : decode (bc 15) 47 = .ok (.istore 4, 2) := by decide +kernel
theorem d_15_49 : decode (bc 15) 49 = .ok (.aload_n 0, 1) := by decide +kernel
theorem d_15_50 : decode (bc 15) 50 = .ok (.iload_n 3, 1) := by decide +kernel
theorem d_15_51 : decode (bc 15) 51 = .ok (.iload 4, 2) := by decide +kernel
theorem d_15_53 : decode (bc 15) 53 = .ok (.aload_n 0, 1) := by decide +kernel
theorem d_15_54 : decode (bc 15) 54 = .ok (.getfield 9, 3) := by decide +kernel
theorem d_15_57 : decode (bc 15) 57 = .ok (.idiv, 1) := by decide +kernel
theorem d_15_58 : decode (bc 15) 58 = .ok (.iload 4, 2) := by decide +kernel
theorem d_15_60 : decode (bc 15) 60 = .ok (.aload_n 0, 1) := by decide +kernel
theorem d_15_61 : decode (bc 15) 61 = .ok (.getfield 9, 3) := by decide +kernel
theorem d_15_64 : decode (bc 15) 64 = .ok (.irem, 1) := by decide +kernel
theorem d_15_65 : decode (bc 15) 65 = .ok (.invokevirtual 65, 3) := by decide +kernel
theorem q_15_65 : cq 15 65 [0, 3] = some (3, 4) := by decide +kernel
theorem d_15_68 : decode (bc 15) 68 = .ok (.ireturn, 1) := by decide +kernel
theorem rt_15 : rty 15 = some .int := by decide +kernel
theorem mx_15 : mxl 15 = 5 := by decide +kernel
theorem ow_15 : (sta 15 = false ∧ own 15 = 0 ∧ hgt 15 = 2) := by decide +kernel
-- 16: SpunModules$Action.compares(LSpunModules$Action;)I
theorem d_16_0 : decode (bc 16) 0 = .ok (.aload_n 0, 1) := by decide +kernel
theorem d_16_1 : decode (bc 16) 1 = .ok (.getfield 9, 3) := by decide +kernel
theorem q_16_9 : fq 16 9 = some (0, 1, 3, 0, false) := by decide +kernel
theorem d_16_4 : decode (bc 16) 4 = .ok (.aload_n 1, 1) := by decide +kernel
theorem d_16_5 : decode (bc 16) 5 = .ok (.getfield 9, 3) := by decide +kernel
theorem d_16_8 : decode (bc 16) 8 = .ok (.invokestatic 95, 3) := by decide +kernel
theorem q_16_95 : cq 16 95 [1, 4] = some (215, 2) := by decide +kernel
theorem d_16_11 : decode (bc 16) 11 = .ok (.istore_n 2, 1) := by decide +kernel
theorem d_16_12 : decode (bc 16) 12 = .ok (.iconst 0, 1) := by decide +kernel
theorem d_16_13 : decode (bc 16) 13 = .ok (.istore_n 3, 1) := by decide +kernel
theorem d_16_14 : decode (bc 16) 14 = .ok (.iload_n 3, 1) := by decide +kernel
theorem d_16_15 : decode (bc 16) 15 = .ok (.bipush 12, 2) := by decide +kernel
theorem d_16_17 : decode (bc 16) 17 = .ok (.if_icmp .ge 29, 3) := by decide +kernel
theorem d_16_20 : decode (bc 16) 20 = .ok (.iload_n 2, 1) := by decide +kernel
theorem d_16_21 : decode (bc 16) 21 = .ok (.ifCond .ne 25, 3) := by decide +kernel
theorem d_16_24 : decode (bc 16) 24 = .ok (.aload_n 0, 1) := by decide +kernel
theorem d_16_25 : decode (bc 16) 25 = .ok (.getfield 15, 3) := by decide +kernel
theorem q_16_15 : fq 16 15 = some (0, 2, 3, 2, true) := by decide +kernel
theorem d_16_28 : decode (bc 16) 28 = .ok (.iload_n 3, 1) := by decide +kernel
theorem d_16_29 : decode (bc 16) 29 = .ok (.laload, 1) := by decide +kernel
theorem d_16_30 : decode (bc 16) 30 = .ok (.aload_n 1, 1) := by decide +kernel
theorem d_16_31 : decode (bc 16) 31 = .ok (.getfield 15, 3) := by decide +kernel
theorem d_16_34 : decode (bc 16) 34 = .ok (.iload_n 3, 1) := by decide +kernel
theorem d_16_35 : decode (bc 16) 35 = .ok (.laload, 1) := by decide +kernel
theorem d_16_36 : decode (bc 16) 36 = .ok (.invokestatic 101, 3) := by decide +kernel
theorem q_16_101 : cq 16 101 [1, 4] = some (217, 2) := by decide +kernel
theorem d_16_39 : decode (bc 16) 39 = .ok (.istore_n 2, 1) := by decide +kernel
theorem d_16_40 : decode (bc 16) 40 = .ok (.iinc 3 1, 3) := by decide +kernel
theorem d_16_43 : decode (bc 16) 43 = .ok (.goto (-29), 3) := by decide +kernel
theorem d_16_46 : decode (bc 16) 46 = .ok (.iload_n 2, 1) := by decide +kernel
theorem d_16_47 : decode (bc 16) 47 = .ok (.ireturn, 1) := by decide +kernel
theorem rt_16 : rty 16 = some .int := by decide +kernel
theorem mx_16 : mxl 16 = 4 := by decide +kernel
theorem ow_16 : (sta 16 = false ∧ own 16 = 0 ∧ hgt 16 = 1) := by decide +kernel
-- 17: SpunModules$Action.digestOnto(J)J
theorem d_17_0 : decode (bc 17) 0 = .ok (.ldc2_w 106, 3) := by decide +kernel
theorem q_17_106 : klk (own 17) 106 = some (0, 106, 31, 1, 4131) := by decide +kernel
theorem d_17_3 : decode (bc 17) 3 = .ok (.lload_n 1, 1) := by decide +kernel
theorem d_17_4 : decode (bc 17) 4 = .ok (.lmul, 1) := by decide +kernel
theorem d_17_5 : decode (bc 17) 5 = .ok (.aload_n 0, 1) := by decide +kernel
theorem d_17_6 : decode (bc 17) 6 = .ok (.getfield 9, 3) := by decide +kernel
theorem q_17_9 : fq 17 9 = some (0, 1, 3, 0, false) := by decide +kernel
theorem d_17_9 : decode (bc 17) 9 = .ok (.i2l, 1) := by decide +kernel
theorem d_17_10 : decode (bc 17) 10 = .ok (.ladd, 1) := by decide +kernel
theorem d_17_11 : decode (bc 17) 11 = .ok (.lstore_n 3, 1) := by decide +kernel
theorem d_17_12 : decode (bc 17) 12 = .ok (.iconst 0, 1) := by decide +kernel
theorem d_17_13 : decode (bc 17) 13 = .ok (.istore 5, 2) := by decide +kernel
theorem d_17_15 : decode (bc 17) 15 = .ok (.iload 5, 2) := by decide +kernel
theorem d_17_17 : decode (bc 17) 17 = .ok (.iconst 2, 1) := by decide +kernel
theorem d_17_18 : decode (bc 17) 18 = .ok (.if_icmp .ge 49, 3) := by decide +kernel
theorem d_17_21 : decode (bc 17) 21 = .ok (.iconst 0, 1) := by decide +kernel
theorem d_17_22 : decode (bc 17) 22 = .ok (.istore 6, 2) := by decide +kernel
theorem d_17_24 : decode (bc 17) 24 = .ok (.iload 6, 2) := by decide +kernel
theorem d_17_26 : decode (bc 17) 26 = .ok (.aload_n 0, 1) := by decide +kernel
theorem d_17_27 : decode (bc 17) 27 = .ok (.getfield 9, 3) := by decide +kernel
theorem d_17_30 : decode (bc 17) 30 = .ok (.if_icmp .ge 31, 3) := by decide +kernel
theorem d_17_33 : decode (bc 17) 33 = .ok (.lload_n 3, 1) := by decide +kernel
theorem d_17_34 : decode (bc 17) 34 = .ok (.aload_n 0, 1) := by decide +kernel
theorem d_17_35 : decode (bc 17) 35 = .ok (.getfield 15, 3) := by decide +kernel
theorem q_17_15 : fq 17 15 = some (0, 2, 3, 2, true) := by decide +kernel
theorem d_17_38 : decode (bc 17) 38 = .ok (.bipush 6, 2) := by decide +kernel
theorem d_17_40 : decode (bc 17) 40 = .ok (.iload 5, 2) := by decide +kernel
theorem d_17_42 : decode (bc 17) 42 = .ok (.imul, 1) := by decide +kernel
theorem d_17_43 : decode (bc 17) 43 = .ok (.iload 6, 2) := by decide +kernel
theorem d_17_45 : decode (bc 17) 45 = .ok (.iadd, 1) := by decide +kernel
theorem d_17_46 : decode (bc 17) 46 = .ok (.laload, 1) := by decide +kernel
theorem d_17_47 : decode (bc 17) 47 = .ok (.aload_n 0, 1) := by decide +kernel
theorem d_17_48 : decode (bc 17) 48 = .ok (.getfield 9, 3) := by decide +kernel
theorem d_17_51 : decode (bc 17) 51 = .ok (.invokestatic 108, 3) := by decide +kernel
theorem q_17_108 : cq 17 108 [1, 4] = some (124, 3) := by decide +kernel
theorem d_17_54 : decode (bc 17) 54 = .ok (.lstore_n 3, 1) := by decide +kernel
theorem d_17_55 : decode (bc 17) 55 = .ok (.iinc 6 1, 3) := by decide +kernel
theorem d_17_58 : decode (bc 17) 58 = .ok (.goto (-34), 3) := by decide +kernel
theorem d_17_61 : decode (bc 17) 61 = .ok (.iinc 5 1, 3) := by decide +kernel
theorem d_17_64 : decode (bc 17) 64 = .ok (.goto (-49), 3) := by decide +kernel
theorem d_17_67 : decode (bc 17) 67 = .ok (.lload_n 3, 1) := by decide +kernel
theorem d_17_68 : decode (bc 17) 68 = .ok (.lreturn, 1) := by decide +kernel
theorem rt_17 : rty 17 = some .long := by decide +kernel
theorem mx_17 : mxl 17 = 7 := by decide +kernel
theorem ow_17 : (sta 17 = false ∧ own 17 = 0 ∧ hgt 17 = 2) := by decide +kernel
-- 19: SpunModules$Factors.finds(LSpunModules$Action;)V
theorem d_19_0 : decode (bc 19) 0 = .ok (.aload_n 0, 1) := by decide +kernel
theorem d_19_1 : decode (bc 19) 1 = .ok (.getfield 28, 3) := by decide +kernel
theorem q_19_28 : fq 19 28 = some (1, 3, 8, 2, true) := by decide +kernel
theorem d_19_4 : decode (bc 19) 4 = .ok (.aload_n 1, 1) := by decide +kernel
theorem d_19_5 : decode (bc 19) 5 = .ok (.invokevirtual 48, 3) := by decide +kernel
theorem q_19_48 : cq 19 48 [0, 3] = some (2, 2) := by decide +kernel
theorem d_19_8 : decode (bc 19) 8 = .ok (.aload_n 0, 1) := by decide +kernel
theorem d_19_9 : decode (bc 19) 9 = .ok (.iconst 0, 1) := by decide +kernel
theorem d_19_10 : decode (bc 19) 10 = .ok (.putfield 17, 3) := by decide +kernel
theorem q_19_17 : fq 19 17 = some (1, 2, 8, 0, false) := by decide +kernel
theorem d_19_13 : decode (bc 19) 13 = .ok (.iconst 0, 1) := by decide +kernel
theorem d_19_14 : decode (bc 19) 14 = .ok (.istore_n 2, 1) := by decide +kernel
theorem d_19_15 : decode (bc 19) 15 = .ok (.iload_n 2, 1) := by decide +kernel
theorem d_19_16 : decode (bc 19) 16 = .ok (.bipush 6, 2) := by decide +kernel
theorem d_19_18 : decode (bc 19) 18 = .ok (.if_icmp .ge 95, 3) := by decide +kernel
theorem d_19_21 : decode (bc 19) 21 = .ok (.aload_n 0, 1) := by decide +kernel
theorem d_19_22 : decode (bc 19) 22 = .ok (.getfield 28, 3) := by decide +kernel
theorem d_19_25 : decode (bc 19) 25 = .ok (.getfield 52, 3) := by decide +kernel
theorem q_19_52 : fq 19 52 = some (0, 1, 3, 0, false) := by decide +kernel
theorem d_19_28 : decode (bc 19) 28 = .ok (.ifCond .le 85, 3) := by decide +kernel
theorem d_19_31 : decode (bc 19) 31 = .ok (.aload_n 0, 1) := by decide +kernel
theorem d_19_32 : decode (bc 19) 32 = .ok (.getfield 44, 3) := by decide +kernel
theorem q_19_44 : fq 19 44 = some (1, 7, 8, 2, true) := by decide +kernel
theorem d_19_35 : decode (bc 19) 35 = .ok (.aload_n 0, 1) := by decide +kernel
theorem d_19_36 : decode (bc 19) 36 = .ok (.getfield 28, 3) := by decide +kernel
theorem d_19_39 : decode (bc 19) 39 = .ok (.invokevirtual 55, 3) := by decide +kernel
theorem q_19_55 : cq 19 55 [0, 3] = some (58, 2) := by decide +kernel
theorem d_19_42 : decode (bc 19) 42 = .ok (.aload_n 0, 1) := by decide +kernel
theorem d_19_43 : decode (bc 19) 43 = .ok (.getfield 35, 3) := by decide +kernel
theorem q_19_35 : fq 19 35 = some (1, 5, 8, 2, true) := by decide +kernel
theorem d_19_46 : decode (bc 19) 46 = .ok (.aload_n 0, 1) := by decide +kernel
theorem d_19_47 : decode (bc 19) 47 = .ok (.getfield 28, 3) := by decide +kernel
theorem d_19_50 : decode (bc 19) 50 = .ok (.aload_n 0, 1) := by decide +kernel
theorem d_19_51 : decode (bc 19) 51 = .ok (.getfield 44, 3) := by decide +kernel
theorem d_19_54 : decode (bc 19) 54 = .ok (.invokevirtual 58, 3) := by decide +kernel
theorem q_19_58 : cq 19 58 [0, 3] = some (13, 3) := by decide +kernel
theorem d_19_57 : decode (bc 19) 57 = .ok (.aload_n 0, 1) := by decide +kernel
theorem d_19_58 : decode (bc 19) 58 = .ok (.getfield 32, 3) := by decide +kernel
theorem q_19_32 : fq 19 32 = some (1, 4, 8, 2, true) := by decide +kernel
theorem d_19_61 : decode (bc 19) 61 = .ok (.aload_n 0, 1) := by decide +kernel
theorem d_19_62 : decode (bc 19) 62 = .ok (.getfield 28, 3) := by decide +kernel
theorem d_19_65 : decode (bc 19) 65 = .ok (.aload_n 0, 1) := by decide +kernel
theorem d_19_66 : decode (bc 19) 66 = .ok (.getfield 44, 3) := by decide +kernel
theorem d_19_69 : decode (bc 19) 69 = .ok (.invokevirtual 62, 3) := by decide +kernel
theorem q_19_62 : cq 19 62 [0, 3] = some (14, 3) := by decide +kernel
theorem d_19_72 : decode (bc 19) 72 = .ok (.aload_n 0, 1) := by decide +kernel
theorem d_19_73 : decode (bc 19) 73 = .ok (.aload_n 0, 1) := by decide +kernel
theorem d_19_74 : decode (bc 19) 74 = .ok (.getfield 11, 3) := by decide +kernel
theorem q_19_11 : fq 19 11 = some (1, 1, 8, 2, true) := by decide +kernel
theorem d_19_77 : decode (bc 19) 77 = .ok (.iload_n 2, 1) := by decide +kernel
theorem d_19_78 : decode (bc 19) 78 = .ok (.aaload, 1) := by decide +kernel
theorem d_19_79 : decode (bc 19) 79 = .ok (.invokevirtual 65, 3) := by decide +kernel
theorem q_19_65 : cq 19 65 [0, 3] = some (21, 2) := by decide +kernel
theorem d_19_82 : decode (bc 19) 82 = .ok (.aload_n 0, 1) := by decide +kernel
theorem d_19_83 : decode (bc 19) 83 = .ok (.dup, 1) := by decide +kernel
theorem d_19_84 : decode (bc 19) 84 = .ok (.getfield 17, 3) := by decide +kernel
theorem d_19_87 : decode (bc 19) 87 = .ok (.iconst 1, 1) := by decide +kernel
theorem d_19_88 : decode (bc 19) 88 = .ok (.iadd, 1) := by decide +kernel
theorem d_19_89 : decode (bc 19) 89 = .ok (.putfield 17, 3) := by decide +kernel
theorem d_19_92 : decode (bc 19) 92 = .ok (.aload_n 0, 1) := by decide +kernel
theorem d_19_93 : decode (bc 19) 93 = .ok (.invokevirtual 68, 3) := by decide +kernel
theorem q_19_68 : cq 19 68 [0, 3] = some (20, 1) := by decide +kernel
theorem d_19_96 : decode (bc 19) 96 = .ok (.aload_n 0, 1) := by decide +kernel
theorem d_19_97 : decode (bc 19) 97 = .ok (.getfield 28, 3) := by decide +kernel
theorem d_19_100 : decode (bc 19) 100 = .ok (.aload_n 0, 1) := by decide +kernel
theorem d_19_101 : decode (bc 19) 101 = .ok (.getfield 32, 3) := by decide +kernel
theorem d_19_104 : decode (bc 19) 104 = .ok (.invokevirtual 48, 3) := by decide +kernel
theorem d_19_107 : decode (bc 19) 107 = .ok (.iinc 2 1, 3) := by decide +kernel
theorem d_19_110 : decode (bc 19) 110 = .ok (.goto (-95), 3) := by decide +kernel
theorem d_19_113 : decode (bc 19) 113 = .ok (.return_, 1) := by decide +kernel
theorem rt_19 : rty 19 = none := by decide +kernel
theorem mx_19 : mxl 19 = 3 := by decide +kernel
theorem ow_19 : (sta 19 = false ∧ own 19 = 1 ∧ hgt 19 = 5) := by decide +kernel
-- 20: SpunModules$Factors.sinksLast()V
theorem d_20_0 : decode (bc 20) 0 = .ok (.aload_n 0, 1) := by decide +kernel
theorem d_20_1 : decode (bc 20) 1 = .ok (.getfield 17, 3) := by decide +kernel
theorem q_20_17 : fq 20 17 = some (1, 2, 8, 0, false) := by decide +kernel
theorem d_20_4 : decode (bc 20) 4 = .ok (.iconst 1, 1) := by decide +kernel
theorem d_20_5 : decode (bc 20) 5 = .ok (.isub, 1) := by decide +kernel
theorem d_20_6 : decode (bc 20) 6 = .ok (.istore_n 1, 1) := by decide +kernel
theorem d_20_7 : decode (bc 20) 7 = .ok (.iload_n 1, 1) := by decide +kernel
theorem d_20_8 : decode (bc 20) 8 = .ok (.ifCond .le 59, 3) := by decide +kernel
theorem d_20_11 : decode (bc 20) 11 = .ok (.aload_n 0, 1) := by decide +kernel
theorem d_20_12 : decode (bc 20) 12 = .ok (.getfield 11, 3) := by decide +kernel
theorem q_20_11 : fq 20 11 = some (1, 1, 8, 2, true) := by decide +kernel
theorem d_20_15 : decode (bc 20) 15 = .ok (.iload_n 1, 1) := by decide +kernel
theorem d_20_16 : decode (bc 20) 16 = .ok (.aaload, 1) := by decide +kernel
theorem d_20_17 : decode (bc 20) 17 = .ok (.aload_n 0, 1) := by decide +kernel
theorem d_20_18 : decode (bc 20) 18 = .ok (.getfield 11, 3) := by decide +kernel
theorem d_20_21 : decode (bc 20) 21 = .ok (.iload_n 1, 1) := by decide +kernel
theorem d_20_22 : decode (bc 20) 22 = .ok (.iconst 1, 1) := by decide +kernel
theorem d_20_23 : decode (bc 20) 23 = .ok (.isub, 1) := by decide +kernel
theorem d_20_24 : decode (bc 20) 24 = .ok (.aaload, 1) := by decide +kernel
theorem d_20_25 : decode (bc 20) 25 = .ok (.invokevirtual 71, 3) := by decide +kernel
theorem q_20_71 : cq 20 71 [0, 3] = some (16, 2) := by decide +kernel
theorem d_20_28 : decode (bc 20) 28 = .ok (.ifCond .ge 39, 3) := by decide +kernel
theorem d_20_31 : decode (bc 20) 31 = .ok (.aload_n 0, 1) := by decide +kernel
theorem d_20_32 : decode (bc 20) 32 = .ok (.getfield 11, 3) := by decide +kernel
theorem d_20_35 : decode (bc 20) 35 = .ok (.iload_n 1, 1) := by decide +kernel
theorem d_20_36 : decode (bc 20) 36 = .ok (.aaload, 1) := by decide +kernel
theorem d_20_37 : decode (bc 20) 37 = .ok (.astore_n 2, 1) := by decide +kernel
theorem d_20_38 : decode (bc 20) 38 = .ok (.aload_n 0, 1) := by decide +kernel
theorem d_20_39 : decode (bc 20) 39 = .ok (.getfield 11, 3) := by decide +kernel
theorem d_20_42 : decode (bc 20) 42 = .ok (.iload_n 1, 1) := by decide +kernel
theorem d_20_43 : decode (bc 20) 43 = .ok (.aload_n 0, 1) := by decide +kernel
theorem d_20_44 : decode (bc 20) 44 = .ok (.getfield 11, 3) := by decide +kernel
theorem d_20_47 : decode (bc 20) 47 = .ok (.iload_n 1, 1) := by decide +kernel
theorem d_20_48 : decode (bc 20) 48 = .ok (.iconst 1, 1) := by decide +kernel
theorem d_20_49 : decode (bc 20) 49 = .ok (.isub, 1) := by decide +kernel
theorem d_20_50 : decode (bc 20) 50 = .ok (.aaload, 1) := by decide +kernel
theorem d_20_51 : decode (bc 20) 51 = .ok (.aastore, 1) := by decide +kernel
theorem d_20_52 : decode (bc 20) 52 = .ok (.aload_n 0, 1) := by decide +kernel
theorem d_20_53 : decode (bc 20) 53 = .ok (.getfield 11, 3) := by decide +kernel
theorem d_20_56 : decode (bc 20) 56 = .ok (.iload_n 1, 1) := by decide +kernel
theorem d_20_57 : decode (bc 20) 57 = .ok (.iconst 1, 1) := by decide +kernel
theorem d_20_58 : decode (bc 20) 58 = .ok (.isub, 1) := by decide +kernel
theorem d_20_59 : decode (bc 20) 59 = .ok (.aload_n 2, 1) := by decide +kernel
theorem d_20_60 : decode (bc 20) 60 = .ok (.aastore, 1) := by decide +kernel
theorem d_20_61 : decode (bc 20) 61 = .ok (.iinc 1 (-1), 3) := by decide +kernel
theorem d_20_64 : decode (bc 20) 64 = .ok (.goto (-57), 3) := by decide +kernel
theorem d_20_67 : decode (bc 20) 67 = .ok (.return_, 1) := by decide +kernel
theorem rt_20 : rty 20 = none := by decide +kernel
theorem mx_20 : mxl 20 = 3 := by decide +kernel
theorem ow_20 : (sta 20 = false ∧ own 20 = 1 ∧ hgt 20 = 2) := by decide +kernel
-- 21: SpunModules$Factors.formsPart(LSpunModules$Action;)V
theorem d_21_0 : decode (bc 21) 0 = .ok (.aload_n 0, 1) := by decide +kernel
theorem d_21_1 : decode (bc 21) 1 = .ok (.getfield 35, 3) := by decide +kernel
theorem q_21_35 : fq 21 35 = some (1, 5, 8, 2, true) := by decide +kernel
theorem d_21_4 : decode (bc 21) 4 = .ok (.getfield 52, 3) := by decide +kernel
theorem q_21_52 : fq 21 52 = some (0, 1, 3, 0, false) := by decide +kernel
theorem d_21_7 : decode (bc 21) 7 = .ok (.istore_n 2, 1) := by decide +kernel
theorem d_21_8 : decode (bc 21) 8 = .ok (.aload_n 1, 1) := by decide +kernel
theorem d_21_9 : decode (bc 21) 9 = .ok (.iconst 0, 1) := by decide +kernel
theorem d_21_10 : decode (bc 21) 10 = .ok (.invokevirtual 75, 3) := by decide +kernel
theorem q_21_75 : cq 21 75 [0, 3] = some (1, 2) := by decide +kernel
theorem d_21_13 : decode (bc 21) 13 = .ok (.iconst 0, 1) := by decide +kernel
theorem d_21_14 : decode (bc 21) 14 = .ok (.istore_n 3, 1) := by decide +kernel
theorem d_21_15 : decode (bc 21) 15 = .ok (.iload_n 3, 1) := by decide +kernel
theorem d_21_16 : decode (bc 21) 16 = .ok (.iload_n 2, 1) := by decide +kernel
theorem d_21_17 : decode (bc 21) 17 = .ok (.if_icmp .ge 79, 3) := by decide +kernel
theorem d_21_20 : decode (bc 21) 20 = .ok (.aload_n 0, 1) := by decide +kernel
theorem d_21_21 : decode (bc 21) 21 = .ok (.getfield 21, 3) := by decide +kernel
theorem q_21_21 : fq 21 21 = some (1, 0, 8, 2, true) := by decide +kernel
theorem d_21_24 : decode (bc 21) 24 = .ok (.iload_n 3, 1) := by decide +kernel
theorem d_21_25 : decode (bc 21) 25 = .ok (.invokevirtual 79, 3) := by decide +kernel
theorem q_21_79 : cq 21 79 [0, 3] = some (29, 2) := by decide +kernel
theorem d_21_28 : decode (bc 21) 28 = .ok (.istore 4, 2) := by decide +kernel
theorem d_21_30 : decode (bc 21) 30 = .ok (.iload 4, 2) := by decide +kernel
theorem d_21_32 : decode (bc 21) 32 = .ok (.istore 5, 2) := by decide +kernel
theorem d_21_34 : decode (bc 21) 34 = .ok (.iload 5, 2) := by decide +kernel
theorem d_21_36 : decode (bc 21) 36 = .ok (.iconst 2, 1) := by decide +kernel
theorem d_21_37 : decode (bc 21) 37 = .ok (.iload 4, 2) := by decide +kernel
theorem d_21_39 : decode (bc 21) 39 = .ok (.imul, 1) := by decide +kernel
theorem d_21_40 : decode (bc 21) 40 = .ok (.if_icmp .ge 50, 3) := by decide +kernel
theorem d_21_43 : decode (bc 21) 43 = .ok (.aload_n 0, 1) := by decide +kernel
theorem d_21_44 : decode (bc 21) 44 = .ok (.aload_n 0, 1) := by decide +kernel
theorem d_21_45 : decode (bc 21) 45 = .ok (.getfield 21, 3) := by decide +kernel
theorem d_21_48 : decode (bc 21) 48 = .ok (.iload 5, 2) := by decide +kernel
theorem d_21_50 : decode (bc 21) 50 = .ok (.iload_n 2, 1) := by decide +kernel
theorem d_21_51 : decode (bc 21) 51 = .ok (.invokevirtual 85, 3) := by decide +kernel
theorem q_21_85 : cq 21 85 [0, 3] = some (31, 3) := by decide +kernel
theorem d_21_54 : decode (bc 21) 54 = .ok (.aload_n 1, 1) := by decide +kernel
theorem d_21_55 : decode (bc 21) 55 = .ok (.invokevirtual 89, 3) := by decide +kernel
theorem q_21_89 : cq 21 89 [0, 3] = some (22, 3) := by decide +kernel
theorem d_21_58 : decode (bc 21) 58 = .ok (.aload_n 1, 1) := by decide +kernel
theorem d_21_59 : decode (bc 21) 59 = .ok (.getfield 52, 3) := by decide +kernel
theorem d_21_62 : decode (bc 21) 62 = .ok (.ifCond .eq 14, 3) := by decide +kernel
theorem d_21_65 : decode (bc 21) 65 = .ok (.aload_n 0, 1) := by decide +kernel
theorem d_21_66 : decode (bc 21) 66 = .ok (.getfield 38, 3) := by decide +kernel
theorem q_21_38 : fq 21 38 = some (1, 6, 8, 2, true) := by decide +kernel
theorem d_21_69 : decode (bc 21) 69 = .ok (.aload_n 1, 1) := by decide +kernel
theorem d_21_70 : decode (bc 21) 70 = .ok (.invokevirtual 71, 3) := by decide +kernel
theorem q_21_71 : cq 21 71 [0, 3] = some (16, 2) := by decide +kernel
theorem d_21_73 : decode (bc 21) 73 = .ok (.ifCond .ge 11, 3) := by decide +kernel
theorem d_21_76 : decode (bc 21) 76 = .ok (.aload_n 1, 1) := by decide +kernel
theorem d_21_77 : decode (bc 21) 77 = .ok (.aload_n 0, 1) := by decide +kernel
theorem d_21_78 : decode (bc 21) 78 = .ok (.getfield 38, 3) := by decide +kernel
theorem d_21_81 : decode (bc 21) 81 = .ok (.invokevirtual 48, 3) := by decide +kernel
theorem q_21_48 : cq 21 48 [0, 3] = some (2, 2) := by decide +kernel
theorem d_21_84 : decode (bc 21) 84 = .ok (.iinc 5 1, 3) := by decide +kernel
theorem d_21_87 : decode (bc 21) 87 = .ok (.goto (-53), 3) := by decide +kernel
theorem d_21_90 : decode (bc 21) 90 = .ok (.iinc 3 1, 3) := by decide +kernel
theorem d_21_93 : decode (bc 21) 93 = .ok (.goto (-78), 3) := by decide +kernel
theorem d_21_96 : decode (bc 21) 96 = .ok (.return_, 1) := by decide +kernel
theorem rt_21 : rty 21 = none := by decide +kernel
theorem mx_21 : mxl 21 = 6 := by decide +kernel
theorem ow_21 : (sta 21 = false ∧ own 21 = 1 ∧ hgt 21 = 4) := by decide +kernel
-- 22: SpunModules$Factors.writesFrom(JLSpunModules$Action;)V
theorem d_22_0 : decode (bc 22) 0 = .ok (.aload_n 0, 1) := by decide +kernel
theorem d_22_1 : decode (bc 22) 1 = .ok (.getfield 35, 3) := by decide +kernel
theorem q_22_35 : fq 22 35 = some (1, 5, 8, 2, true) := by decide +kernel
theorem d_22_4 : decode (bc 22) 4 = .ok (.getfield 52, 3) := by decide +kernel
theorem q_22_52 : fq 22 52 = some (0, 1, 3, 0, false) := by decide +kernel
theorem d_22_7 : decode (bc 22) 7 = .ok (.istore 4, 2) := by decide +kernel
theorem d_22_9 : decode (bc 22) 9 = .ok (.aload_n 3, 1) := by decide +kernel
theorem d_22_10 : decode (bc 22) 10 = .ok (.getfield 52, 3) := by decide +kernel
theorem d_22_13 : decode (bc 22) 13 = .ok (.ifCond .ne 7, 3) := by decide +kernel
theorem d_22_16 : decode (bc 22) 16 = .ok (.iconst (-1), 1) := by decide +kernel
theorem d_22_17 : decode (bc 22) 17 = .ok (.goto 4, 3) := by decide +kernel
theorem d_22_20 : decode (bc 22) 20 = .ok (.iconst 0, 1) := by decide +kernel
theorem d_22_21 : decode (bc 22) 21 = .ok (.istore 5, 2) := by decide +kernel
theorem d_22_23 : decode (bc 22) 23 = .ok (.aload_n 0, 1) := by decide +kernel
theorem d_22_24 : decode (bc 22) 24 = .ok (.getfield 38, 3) := by decide +kernel
theorem q_22_38 : fq 22 38 = some (1, 6, 8, 2, true) := by decide +kernel
theorem d_22_27 : decode (bc 22) 27 = .ok (.iload 4, 2) := by decide +kernel
theorem d_22_29 : decode (bc 22) 29 = .ok (.invokevirtual 75, 3) := by decide +kernel
theorem q_22_75 : cq 22 75 [0, 3] = some (1, 2) := by decide +kernel
theorem d_22_32 : decode (bc 22) 32 = .ok (.aload_n 0, 1) := by decide +kernel
theorem d_22_33 : decode (bc 22) 33 = .ok (.getfield 44, 3) := by decide +kernel
theorem q_22_44 : fq 22 44 = some (1, 7, 8, 2, true) := by decide +kernel
theorem d_22_36 : decode (bc 22) 36 = .ok (.iload 4, 2) := by decide +kernel
theorem d_22_38 : decode (bc 22) 38 = .ok (.invokevirtual 93, 3) := by decide +kernel
theorem q_22_93 : cq 22 93 [0, 3] = some (52, 2) := by decide +kernel
theorem d_22_41 : decode (bc 22) 41 = .ok (.aload_n 0, 1) := by decide +kernel
theorem d_22_42 : decode (bc 22) 42 = .ok (.getfield 44, 3) := by decide +kernel
theorem d_22_45 : decode (bc 22) 45 = .ok (.lload_n 1, 1) := by decide +kernel
theorem d_22_46 : decode (bc 22) 46 = .ok (.bipush 6, 2) := by decide +kernel
theorem d_22_48 : decode (bc 22) 48 = .ok (.invokestatic 94, 3) := by decide +kernel
theorem q_22_94 : cq 22 94 [1, 4] = some (121, 1) := by decide +kernel
theorem d_22_51 : decode (bc 22) 51 = .ok (.lor, 1) := by decide +kernel
theorem d_22_52 : decode (bc 22) 52 = .ok (.invokevirtual 98, 3) := by decide +kernel
theorem q_22_98 : cq 22 98 [0, 3] = some (56, 2) := by decide +kernel
theorem d_22_55 : decode (bc 22) 55 = .ok (.iconst 0, 1) := by decide +kernel
theorem d_22_56 : decode (bc 22) 56 = .ok (.istore 6, 2) := by decide +kernel
theorem d_22_58 : decode (bc 22) 58 = .ok (.iload 6, 2) := by decide +kernel
theorem d_22_60 : decode (bc 22) 60 = .ok (.iload 4, 2) := by decide +kernel
theorem d_22_62 : decode (bc 22) 62 = .ok (.if_icmp .ge 202, 3) := by decide +kernel
theorem d_22_65 : decode (bc 22) 65 = .ok (.iload 6, 2) := by decide +kernel
theorem d_22_67 : decode (bc 22) 67 = .ok (.aload_n 0, 1) := by decide +kernel
theorem d_22_68 : decode (bc 22) 68 = .ok (.getfield 44, 3) := by decide +kernel
theorem d_22_71 : decode (bc 22) 71 = .ok (.getfield 102, 3) := by decide +kernel
theorem q_22_102 : fq 22 102 = some (7, 2, 5, 0, false) := by decide +kernel
theorem d_22_74 : decode (bc 22) 74 = .ok (.if_icmp .ge 190, 3) := by decide +kernel
theorem d_22_77 : decode (bc 22) 77 = .ok (.iload 5, 2) := by decide +kernel
theorem d_22_79 : decode (bc 22) 79 = .ok (.ifCond .gt 185, 3) := by decide +kernel
theorem d_22_82 : decode (bc 22) 82 = .ok (.iconst 0, 1) := by decide +kernel
theorem d_22_83 : decode (bc 22) 83 = .ok (.istore 7, 2) := by decide +kernel
theorem d_22_85 : decode (bc 22) 85 = .ok (.iload 7, 2) := by decide +kernel
theorem d_22_87 : decode (bc 22) 87 = .ok (.iconst 2, 1) := by decide +kernel
theorem d_22_88 : decode (bc 22) 88 = .ok (.if_icmp .ge 138, 3) := by decide +kernel
theorem d_22_91 : decode (bc 22) 91 = .ok (.aload_n 0, 1) := by decide +kernel
theorem d_22_92 : decode (bc 22) 92 = .ok (.getfield 35, 3) := by decide +kernel
theorem d_22_95 : decode (bc 22) 95 = .ok (.iload 7, 2) := by decide +kernel
theorem d_22_97 : decode (bc 22) 97 = .ok (.aload_n 0, 1) := by decide +kernel
theorem d_22_98 : decode (bc 22) 98 = .ok (.getfield 44, 3) := by decide +kernel
theorem d_22_101 : decode (bc 22) 101 = .ok (.getfield 105, 3) := by decide +kernel
theorem q_22_105 : fq 22 105 = some (7, 4, 5, 2, true) := by decide +kernel
theorem d_22_104 : decode (bc 22) 104 = .ok (.iload 6, 2) := by decide +kernel
theorem d_22_106 : decode (bc 22) 106 = .ok (.laload, 1) := by decide +kernel
theorem d_22_107 : decode (bc 22) 107 = .ok (.invokevirtual 109, 3) := by decide +kernel
theorem q_22_109 : cq 22 109 [0, 3] = some (5, 3) := by decide +kernel
theorem d_22_110 : decode (bc 22) 110 = .ok (.lstore 8, 2) := by decide +kernel
theorem d_22_112 : decode (bc 22) 112 = .ok (.aload_n 0, 1) := by decide +kernel
theorem d_22_113 : decode (bc 22) 113 = .ok (.getfield 44, 3) := by decide +kernel
theorem d_22_116 : decode (bc 22) 116 = .ok (.lload 8, 2) := by decide +kernel
theorem d_22_118 : decode (bc 22) 118 = .ok (.invokevirtual 113, 3) := by decide +kernel
theorem q_22_113 : cq 22 113 [0, 3] = some (55, 2) := by decide +kernel
theorem d_22_121 : decode (bc 22) 121 = .ok (.lstore 10, 2) := by decide +kernel
theorem d_22_123 : decode (bc 22) 123 = .ok (.lload 10, 2) := by decide +kernel
theorem d_22_125 : decode (bc 22) 125 = .ok (.invokestatic 117, 3) := by decide +kernel
theorem q_22_117 : cq 22 117 [1, 4] = some (122, 1) := by decide +kernel
theorem d_22_128 : decode (bc 22) 128 = .ok (.ifCond .eq 43, 3) := by decide +kernel
theorem d_22_131 : decode (bc 22) 131 = .ok (.aload_n 0, 1) := by decide +kernel
theorem d_22_132 : decode (bc 22) 132 = .ok (.getfield 38, 3) := by decide +kernel
theorem d_22_135 : decode (bc 22) 135 = .ok (.getfield 121, 3) := by decide +kernel
theorem q_22_121 : fq 22 121 = some (0, 2, 3, 2, true) := by decide +kernel
theorem d_22_138 : decode (bc 22) 138 = .ok (.bipush 6, 2) := by decide +kernel
theorem d_22_140 : decode (bc 22) 140 = .ok (.iload 7, 2) := by decide +kernel
theorem d_22_142 : decode (bc 22) 142 = .ok (.imul, 1) := by decide +kernel
theorem d_22_143 : decode (bc 22) 143 = .ok (.iload 6, 2) := by decide +kernel
theorem d_22_145 : decode (bc 22) 145 = .ok (.iadd, 1) := by decide +kernel
theorem d_22_146 : decode (bc 22) 146 = .ok (.aload_n 0, 1) := by decide +kernel
theorem d_22_147 : decode (bc 22) 147 = .ok (.getfield 21, 3) := by decide +kernel
theorem q_22_21 : fq 22 21 = some (1, 0, 8, 2, true) := by decide +kernel
theorem d_22_150 : decode (bc 22) 150 = .ok (.lconst 0, 1) := by decide +kernel
theorem d_22_151 : decode (bc 22) 151 = .ok (.aload_n 0, 1) := by decide +kernel
theorem d_22_152 : decode (bc 22) 152 = .ok (.getfield 21, 3) := by decide +kernel
theorem d_22_155 : decode (bc 22) 155 = .ok (.iconst 1, 1) := by decide +kernel
theorem d_22_156 : decode (bc 22) 156 = .ok (.invokevirtual 124, 3) := by decide +kernel
theorem q_22_124 : cq 22 124 [0, 3] = some (28, 2) := by decide +kernel
theorem d_22_159 : decode (bc 22) 159 = .ok (.lload 10, 2) := by decide +kernel
theorem d_22_161 : decode (bc 22) 161 = .ok (.invokevirtual 127, 3) := by decide +kernel
theorem q_22_127 : cq 22 127 [0, 3] = some (30, 4) := by decide +kernel
theorem d_22_164 : decode (bc 22) 164 = .ok (.bipush 24, 2) := by decide +kernel
theorem d_22_166 : decode (bc 22) 166 = .ok (.lshl, 1) := by decide +kernel
theorem d_22_167 : decode (bc 22) 167 = .ok (.lastore, 1) := by decide +kernel
theorem d_22_168 : decode (bc 22) 168 = .ok (.goto 52, 3) := by decide +kernel
theorem d_22_171 : decode (bc 22) 171 = .ok (.aload_n 0, 1) := by decide +kernel
theorem d_22_172 : decode (bc 22) 172 = .ok (.getfield 38, 3) := by decide +kernel
theorem d_22_175 : decode (bc 22) 175 = .ok (.getfield 121, 3) := by decide +kernel
theorem d_22_178 : decode (bc 22) 178 = .ok (.bipush 6, 2) := by decide +kernel
theorem d_22_180 : decode (bc 22) 180 = .ok (.iload 7, 2) := by decide +kernel
theorem d_22_182 : decode (bc 22) 182 = .ok (.imul, 1) := by decide +kernel
theorem d_22_183 : decode (bc 22) 183 = .ok (.iload 6, 2) := by decide +kernel
theorem d_22_185 : decode (bc 22) 185 = .ok (.iadd, 1) := by decide +kernel
theorem d_22_186 : decode (bc 22) 186 = .ok (.aload_n 0, 1) := by decide +kernel
theorem d_22_187 : decode (bc 22) 187 = .ok (.getfield 44, 3) := by decide +kernel
theorem d_22_190 : decode (bc 22) 190 = .ok (.getfield 102, 3) := by decide +kernel
theorem d_22_193 : decode (bc 22) 193 = .ok (.invokestatic 94, 3) := by decide +kernel
theorem d_22_196 : decode (bc 22) 196 = .ok (.lastore, 1) := by decide +kernel
theorem d_22_197 : decode (bc 22) 197 = .ok (.aload_n 0, 1) := by decide +kernel
theorem d_22_198 : decode (bc 22) 198 = .ok (.getfield 44, 3) := by decide +kernel
theorem d_22_201 : decode (bc 22) 201 = .ok (.lload 8, 2) := by decide +kernel
theorem d_22_203 : decode (bc 22) 203 = .ok (.bipush 6, 2) := by decide +kernel
theorem d_22_205 : decode (bc 22) 205 = .ok (.aload_n 0, 1) := by decide +kernel
theorem d_22_206 : decode (bc 22) 206 = .ok (.getfield 44, 3) := by decide +kernel
theorem d_22_209 : decode (bc 22) 209 = .ok (.getfield 102, 3) := by decide +kernel
theorem d_22_212 : decode (bc 22) 212 = .ok (.iadd, 1) := by decide +kernel
theorem d_22_213 : decode (bc 22) 213 = .ok (.invokestatic 94, 3) := by decide +kernel
theorem d_22_216 : decode (bc 22) 216 = .ok (.lor, 1) := by decide +kernel
theorem d_22_217 : decode (bc 22) 217 = .ok (.invokevirtual 98, 3) := by decide +kernel
theorem d_22_220 : decode (bc 22) 220 = .ok (.iinc 7 1, 3) := by decide +kernel
theorem d_22_223 : decode (bc 22) 223 = .ok (.goto (-138), 3) := by decide +kernel
theorem d_22_226 : decode (bc 22) 226 = .ok (.iload 5, 2) := by decide +kernel
theorem d_22_228 : decode (bc 22) 228 = .ok (.ifCond .ne 26, 3) := by decide +kernel
theorem d_22_231 : decode (bc 22) 231 = .ok (.aload_n 0, 1) := by decide +kernel
theorem d_22_232 : decode (bc 22) 232 = .ok (.getfield 38, 3) := by decide +kernel
theorem d_22_235 : decode (bc 22) 235 = .ok (.getfield 121, 3) := by decide +kernel
theorem d_22_238 : decode (bc 22) 238 = .ok (.iload 6, 2) := by decide +kernel
theorem d_22_240 : decode (bc 22) 240 = .ok (.laload, 1) := by decide +kernel
theorem d_22_241 : decode (bc 22) 241 = .ok (.aload_n 3, 1) := by decide +kernel
theorem d_22_242 : decode (bc 22) 242 = .ok (.getfield 121, 3) := by decide +kernel
theorem d_22_245 : decode (bc 22) 245 = .ok (.iload 6, 2) := by decide +kernel
theorem d_22_247 : decode (bc 22) 247 = .ok (.laload, 1) := by decide +kernel
theorem d_22_248 : decode (bc 22) 248 = .ok (.invokestatic 131, 3) := by decide +kernel
theorem q_22_131 : cq 22 131 [1, 4] = some (217, 2) := by decide +kernel
theorem d_22_251 : decode (bc 22) 251 = .ok (.goto 5, 3) := by decide +kernel
theorem d_22_254 : decode (bc 22) 254 = .ok (.iload 5, 2) := by decide +kernel
theorem d_22_256 : decode (bc 22) 256 = .ok (.istore 5, 2) := by decide +kernel
theorem d_22_258 : decode (bc 22) 258 = .ok (.iinc 6 1, 3) := by decide +kernel
theorem d_22_261 : decode (bc 22) 261 = .ok (.goto (-203), 3) := by decide +kernel
theorem d_22_264 : decode (bc 22) 264 = .ok (.return_, 1) := by decide +kernel
theorem rt_22 : rty 22 = none := by decide +kernel
theorem mx_22 : mxl 22 = 12 := by decide +kernel
theorem ow_22 : (sta 22 = false ∧ own 22 = 1 ∧ hgt 22 = 3) := by decide +kernel
-- 23: SpunModules$Factors.countOf(LSpunModules$Action;)I
theorem d_23_0 : decode (bc 23) 0 = .ok (.iconst 0, 1) := by decide +kernel
theorem d_23_1 : decode (bc 23) 1 = .ok (.istore_n 2, 1) := by decide +kernel
theorem d_23_2 : decode (bc 23) 2 = .ok (.iconst 0, 1) := by decide +kernel
theorem d_23_3 : decode (bc 23) 3 = .ok (.istore_n 3, 1) := by decide +kernel
theorem d_23_4 : decode (bc 23) 4 = .ok (.iload_n 3, 1) := by decide +kernel
theorem d_23_5 : decode (bc 23) 5 = .ok (.aload_n 0, 1) := by decide +kernel
theorem d_23_6 : decode (bc 23) 6 = .ok (.getfield 17, 3) := by decide +kernel
theorem q_23_17 : fq 23 17 = some (1, 2, 8, 0, false) := by decide +kernel
theorem d_23_9 : decode (bc 23) 9 = .ok (.if_icmp .ge 30, 3) := by decide +kernel
theorem d_23_12 : decode (bc 23) 12 = .ok (.iload_n 2, 1) := by decide +kernel
theorem d_23_13 : decode (bc 23) 13 = .ok (.aload_n 0, 1) := by decide +kernel
theorem d_23_14 : decode (bc 23) 14 = .ok (.getfield 11, 3) := by decide +kernel
theorem q_23_11 : fq 23 11 = some (1, 1, 8, 2, true) := by decide +kernel
theorem d_23_17 : decode (bc 23) 17 = .ok (.iload_n 3, 1) := by decide +kernel
theorem d_23_18 : decode (bc 23) 18 = .ok (.aaload, 1) := by decide +kernel
theorem d_23_19 : decode (bc 23) 19 = .ok (.aload_n 1, 1) := by decide +kernel
theorem d_23_20 : decode (bc 23) 20 = .ok (.invokevirtual 71, 3) := by decide +kernel
theorem q_23_71 : cq 23 71 [0, 3] = some (16, 2) := by decide +kernel
theorem d_23_23 : decode (bc 23) 23 = .ok (.ifCond .ne 7, 3) := by decide +kernel
theorem d_23_26 : decode (bc 23) 26 = .ok (.iconst 1, 1) := by decide +kernel
theorem d_23_27 : decode (bc 23) 27 = .ok (.goto 4, 3) := by decide +kernel
theorem d_23_30 : decode (bc 23) 30 = .ok (.iconst 0, 1) := by decide +kernel
theorem d_23_31 : decode (bc 23) 31 = .ok (.iadd, 1) := by decide +kernel
theorem d_23_32 : decode (bc 23) 32 = .ok (.istore_n 2, 1) := by decide +kernel
theorem d_23_33 : decode (bc 23) 33 = .ok (.iinc 3 1, 3) := by decide +kernel
theorem d_23_36 : decode (bc 23) 36 = .ok (.goto (-32), 3) := by decide +kernel
theorem d_23_39 : decode (bc 23) 39 = .ok (.iload_n 2, 1) := by decide +kernel
theorem d_23_40 : decode (bc 23) 40 = .ok (.ireturn, 1) := by decide +kernel
theorem rt_23 : rty 23 = some .int := by decide +kernel
theorem mx_23 : mxl 23 = 4 := by decide +kernel
theorem ow_23 : (sta 23 = false ∧ own 23 = 1 ∧ hgt 23 = 2) := by decide +kernel
-- 24: SpunModules$Factors.sharedWith(LSpunModules$Factors;)I
theorem d_24_0 : decode (bc 24) 0 = .ok (.iconst 0, 1) := by decide +kernel
theorem d_24_1 : decode (bc 24) 1 = .ok (.istore_n 2, 1) := by decide +kernel
theorem d_24_2 : decode (bc 24) 2 = .ok (.iconst 0, 1) := by decide +kernel
theorem d_24_3 : decode (bc 24) 3 = .ok (.istore_n 3, 1) := by decide +kernel
theorem d_24_4 : decode (bc 24) 4 = .ok (.iload_n 3, 1) := by decide +kernel
theorem d_24_5 : decode (bc 24) 5 = .ok (.aload_n 0, 1) := by decide +kernel
theorem d_24_6 : decode (bc 24) 6 = .ok (.getfield 17, 3) := by decide +kernel
theorem q_24_17 : fq 24 17 = some (1, 2, 8, 0, false) := by decide +kernel
theorem d_24_9 : decode (bc 24) 9 = .ok (.if_icmp .ge 59, 3) := by decide +kernel
theorem d_24_12 : decode (bc 24) 12 = .ok (.iload_n 3, 1) := by decide +kernel
theorem d_24_13 : decode (bc 24) 13 = .ok (.ifCond .eq 23, 3) := by decide +kernel
theorem d_24_16 : decode (bc 24) 16 = .ok (.aload_n 0, 1) := by decide +kernel
theorem d_24_17 : decode (bc 24) 17 = .ok (.getfield 11, 3) := by decide +kernel
theorem q_24_11 : fq 24 11 = some (1, 1, 8, 2, true) := by decide +kernel
theorem d_24_20 : decode (bc 24) 20 = .ok (.iload_n 3, 1) := by decide +kernel
theorem d_24_21 : decode (bc 24) 21 = .ok (.aaload, 1) := by decide +kernel
theorem d_24_22 : decode (bc 24) 22 = .ok (.aload_n 0, 1) := by decide +kernel
theorem d_24_23 : decode (bc 24) 23 = .ok (.getfield 11, 3) := by decide +kernel
theorem d_24_26 : decode (bc 24) 26 = .ok (.iload_n 3, 1) := by decide +kernel
theorem d_24_27 : decode (bc 24) 27 = .ok (.iconst 1, 1) := by decide +kernel
theorem d_24_28 : decode (bc 24) 28 = .ok (.isub, 1) := by decide +kernel
theorem d_24_29 : decode (bc 24) 29 = .ok (.aaload, 1) := by decide +kernel
theorem d_24_30 : decode (bc 24) 30 = .ok (.invokevirtual 71, 3) := by decide +kernel
theorem q_24_71 : cq 24 71 [0, 3] = some (16, 2) := by decide +kernel
theorem d_24_33 : decode (bc 24) 33 = .ok (.ifCond .eq 29, 3) := by decide +kernel
theorem d_24_36 : decode (bc 24) 36 = .ok (.iload_n 2, 1) := by decide +kernel
theorem d_24_37 : decode (bc 24) 37 = .ok (.aload_n 0, 1) := by decide +kernel
theorem d_24_38 : decode (bc 24) 38 = .ok (.aload_n 0, 1) := by decide +kernel
theorem d_24_39 : decode (bc 24) 39 = .ok (.getfield 11, 3) := by decide +kernel
theorem d_24_42 : decode (bc 24) 42 = .ok (.iload_n 3, 1) := by decide +kernel
theorem d_24_43 : decode (bc 24) 43 = .ok (.aaload, 1) := by decide +kernel
theorem d_24_44 : decode (bc 24) 44 = .ok (.invokevirtual 137, 3) := by decide +kernel
theorem q_24_137 : cq 24 137 [0, 3] = some (23, 2) := by decide +kernel
theorem d_24_47 : decode (bc 24) 47 = .ok (.aload_n 1, 1) := by decide +kernel
theorem d_24_48 : decode (bc 24) 48 = .ok (.aload_n 0, 1) := by decide +kernel
theorem d_24_49 : decode (bc 24) 49 = .ok (.getfield 11, 3) := by decide +kernel
theorem d_24_52 : decode (bc 24) 52 = .ok (.iload_n 3, 1) := by decide +kernel
theorem d_24_53 : decode (bc 24) 53 = .ok (.aaload, 1) := by decide +kernel
theorem d_24_54 : decode (bc 24) 54 = .ok (.invokevirtual 137, 3) := by decide +kernel
theorem d_24_57 : decode (bc 24) 57 = .ok (.invokestatic 140, 3) := by decide +kernel
theorem q_24_140 : cq 24 140 [1, 4] = some (220, 2) := by decide +kernel
theorem d_24_60 : decode (bc 24) 60 = .ok (.iadd, 1) := by decide +kernel
theorem d_24_61 : decode (bc 24) 61 = .ok (.istore_n 2, 1) := by decide +kernel
theorem d_24_62 : decode (bc 24) 62 = .ok (.iinc 3 1, 3) := by decide +kernel
theorem d_24_65 : decode (bc 24) 65 = .ok (.goto (-61), 3) := by decide +kernel
theorem d_24_68 : decode (bc 24) 68 = .ok (.iload_n 2, 1) := by decide +kernel
theorem d_24_69 : decode (bc 24) 69 = .ok (.ireturn, 1) := by decide +kernel
theorem rt_24 : rty 24 = some .int := by decide +kernel
theorem mx_24 : mxl 24 = 4 := by decide +kernel
theorem ow_24 : (sta 24 = false ∧ own 24 = 1 ∧ hgt 24 = 3) := by decide +kernel
-- 26: SpunModules$Field.largest()I
theorem d_26_0 : decode (bc 26) 0 = .ok (.aload_n 0, 1) := by decide +kernel
theorem d_26_1 : decode (bc 26) 1 = .ok (.getfield 9, 3) := by decide +kernel
theorem q_26_9 : fq 26 9 = some (2, 0, 1, 0, false) := by decide +kernel
theorem d_26_4 : decode (bc 26) 4 = .ok (.iconst 2, 1) := by decide +kernel
theorem d_26_5 : decode (bc 26) 5 = .ok (.if_icmp .ne 8, 3) := by decide +kernel
theorem d_26_8 : decode (bc 26) 8 = .ok (.bipush 6, 2) := by decide +kernel
theorem d_26_10 : decode (bc 26) 10 = .ok (.goto 4, 3) := by decide +kernel
theorem d_26_13 : decode (bc 26) 13 = .ok (.iconst 5, 1) := by decide +kernel
theorem d_26_14 : decode (bc 26) 14 = .ok (.ireturn, 1) := by decide +kernel
theorem rt_26 : rty 26 = some .int := by decide +kernel
theorem mx_26 : mxl 26 = 1 := by decide +kernel
theorem ow_26 : (sta 26 = false ∧ own 26 = 2 ∧ hgt 26 = 0) := by decide +kernel
-- 27: SpunModules$Field.modulo(I)I
theorem d_27_0 : decode (bc 27) 0 = .ok (.aload_n 0, 1) := by decide +kernel
theorem d_27_1 : decode (bc 27) 1 = .ok (.getfield 9, 3) := by decide +kernel
theorem q_27_9 : fq 27 9 = some (2, 0, 1, 0, false) := by decide +kernel
theorem d_27_4 : decode (bc 27) 4 = .ok (.iconst 2, 1) := by decide +kernel
theorem d_27_5 : decode (bc 27) 5 = .ok (.if_icmp .ne 11, 3) := by decide +kernel
theorem d_27_8 : decode (bc 27) 8 = .ok (.iload_n 1, 1) := by decide +kernel
theorem d_27_9 : decode (bc 27) 9 = .ok (.iconst 2, 1) := by decide +kernel
theorem d_27_10 : decode (bc 27) 10 = .ok (.invokestatic 15, 3) := by decide +kernel
theorem q_27_15 : cq 27 15 [1, 4] = some (218, 2) := by decide +kernel
theorem d_27_13 : decode (bc 27) 13 = .ok (.goto 8, 3) := by decide +kernel
theorem d_27_16 : decode (bc 27) 16 = .ok (.iload_n 1, 1) := by decide +kernel
theorem d_27_17 : decode (bc 27) 17 = .ok (.iconst 3, 1) := by decide +kernel
theorem d_27_18 : decode (bc 27) 18 = .ok (.invokestatic 15, 3) := by decide +kernel
theorem d_27_21 : decode (bc 27) 21 = .ok (.ireturn, 1) := by decide +kernel
theorem rt_27 : rty 27 = some .int := by decide +kernel
theorem mx_27 : mxl 27 = 2 := by decide +kernel
theorem ow_27 : (sta 27 = false ∧ own 27 = 2 ∧ hgt 27 = 1) := by decide +kernel
-- 28: SpunModules$Field.negative(I)I
theorem d_28_0 : decode (bc 28) 0 = .ok (.iload_n 1, 1) := by decide +kernel
theorem d_28_1 : decode (bc 28) 1 = .ok (.ifCond .ne 7, 3) := by decide +kernel
theorem d_28_4 : decode (bc 28) 4 = .ok (.iconst 0, 1) := by decide +kernel
theorem d_28_5 : decode (bc 28) 5 = .ok (.goto 9, 3) := by decide +kernel
theorem d_28_8 : decode (bc 28) 8 = .ok (.aload_n 0, 1) := by decide +kernel
theorem d_28_9 : decode (bc 28) 9 = .ok (.getfield 9, 3) := by decide +kernel
theorem q_28_9 : fq 28 9 = some (2, 0, 1, 0, false) := by decide +kernel
theorem d_28_12 : decode (bc 28) 12 = .ok (.iload_n 1, 1) := by decide +kernel
theorem d_28_13 : decode (bc 28) 13 = .ok (.isub, 1) := by decide +kernel
theorem d_28_14 : decode (bc 28) 14 = .ok (.ireturn, 1) := by decide +kernel
theorem rt_28 : rty 28 = some .int := by decide +kernel
theorem mx_28 : mxl 28 = 2 := by decide +kernel
theorem ow_28 : (sta 28 = false ∧ own 28 = 2 ∧ hgt 28 = 0) := by decide +kernel
-- 29: SpunModules$Field.power(I)I
theorem d_29_0 : decode (bc 29) 0 = .ok (.iconst 1, 1) := by decide +kernel
theorem d_29_1 : decode (bc 29) 1 = .ok (.istore_n 2, 1) := by decide +kernel
theorem d_29_2 : decode (bc 29) 2 = .ok (.iconst 0, 1) := by decide +kernel
theorem d_29_3 : decode (bc 29) 3 = .ok (.istore_n 3, 1) := by decide +kernel
theorem d_29_4 : decode (bc 29) 4 = .ok (.iload_n 3, 1) := by decide +kernel
theorem d_29_5 : decode (bc 29) 5 = .ok (.iload_n 1, 1) := by decide +kernel
theorem d_29_6 : decode (bc 29) 6 = .ok (.if_icmp .ge 16, 3) := by decide +kernel
theorem d_29_9 : decode (bc 29) 9 = .ok (.iload_n 2, 1) := by decide +kernel
theorem d_29_10 : decode (bc 29) 10 = .ok (.aload_n 0, 1) := by decide +kernel
theorem d_29_11 : decode (bc 29) 11 = .ok (.getfield 9, 3) := by decide +kernel
theorem q_29_9 : fq 29 9 = some (2, 0, 1, 0, false) := by decide +kernel
theorem d_29_14 : decode (bc 29) 14 = .ok (.imul, 1) := by decide +kernel
theorem d_29_15 : decode (bc 29) 15 = .ok (.istore_n 2, 1) := by decide +kernel
theorem d_29_16 : decode (bc 29) 16 = .ok (.iinc 3 1, 3) := by decide +kernel
theorem d_29_19 : decode (bc 29) 19 = .ok (.goto (-15), 3) := by decide +kernel
theorem d_29_22 : decode (bc 29) 22 = .ok (.iload_n 2, 1) := by decide +kernel
theorem d_29_23 : decode (bc 29) 23 = .ok (.ireturn, 1) := by decide +kernel
theorem rt_29 : rty 29 = some .int := by decide +kernel
theorem mx_29 : mxl 29 = 4 := by decide +kernel
theorem ow_29 : (sta 29 = false ∧ own 29 = 2 ∧ hgt 29 = 0) := by decide +kernel
-- 30: SpunModules$Field.plusTimes(JIJ)J
theorem d_30_0 : decode (bc 30) 0 = .ok (.lload_n 1, 1) := by decide +kernel
theorem d_30_1 : decode (bc 30) 1 = .ok (.lstore 6, 2) := by decide +kernel
theorem d_30_3 : decode (bc 30) 3 = .ok (.iconst 0, 1) := by decide +kernel
theorem d_30_4 : decode (bc 30) 4 = .ok (.istore 8, 2) := by decide +kernel
theorem d_30_6 : decode (bc 30) 6 = .ok (.iload 8, 2) := by decide +kernel
theorem d_30_8 : decode (bc 30) 8 = .ok (.iload_n 3, 1) := by decide +kernel
theorem d_30_9 : decode (bc 30) 9 = .ok (.if_icmp .ge 48, 3) := by decide +kernel
theorem d_30_12 : decode (bc 30) 12 = .ok (.lload 6, 2) := by decide +kernel
theorem d_30_14 : decode (bc 30) 14 = .ok (.lload 4, 2) := by decide +kernel
theorem d_30_16 : decode (bc 30) 16 = .ok (.ladd, 1) := by decide +kernel
theorem d_30_17 : decode (bc 30) 17 = .ok (.lstore 6, 2) := by decide +kernel
theorem d_30_19 : decode (bc 30) 19 = .ok (.lload 6, 2) := by decide +kernel
theorem d_30_21 : decode (bc 30) 21 = .ok (.aload_n 0, 1) := by decide +kernel
theorem d_30_22 : decode (bc 30) 22 = .ok (.getfield 9, 3) := by decide +kernel
theorem q_30_9 : fq 30 9 = some (2, 0, 1, 0, false) := by decide +kernel
theorem d_30_25 : decode (bc 30) 25 = .ok (.i2l, 1) := by decide +kernel
theorem d_30_26 : decode (bc 30) 26 = .ok (.lload 6, 2) := by decide +kernel
theorem d_30_28 : decode (bc 30) 28 = .ok (.bipush 8, 2) := by decide +kernel
theorem d_30_30 : decode (bc 30) 30 = .ok (.aload_n 0, 1) := by decide +kernel
theorem d_30_31 : decode (bc 30) 31 = .ok (.getfield 9, 3) := by decide +kernel
theorem d_30_34 : decode (bc 30) 34 = .ok (.isub, 1) := by decide +kernel
theorem d_30_35 : decode (bc 30) 35 = .ok (.i2l, 1) := by decide +kernel
theorem d_30_36 : decode (bc 30) 36 = .ok (.ldc2_w 21, 3) := by decide +kernel
theorem q_30_21 : klk (own 30) 21 = some (2, 21, 18764998447377, 1, 2168) := by decide +kernel
theorem d_30_39 : decode (bc 30) 39 = .ok (.lmul, 1) := by decide +kernel
theorem d_30_40 : decode (bc 30) 40 = .ok (.ladd, 1) := by decide +kernel
theorem d_30_41 : decode (bc 30) 41 = .ok (.ldc2_w 23, 3) := by decide +kernel
theorem q_30_23 : klk (own 30) 23 = some (2, 23, 150119987579016, 1, 2169) := by decide +kernel
theorem d_30_44 : decode (bc 30) 44 = .ok (.land, 1) := by decide +kernel
theorem d_30_45 : decode (bc 30) 45 = .ok (.iconst 3, 1) := by decide +kernel
theorem d_30_46 : decode (bc 30) 46 = .ok (.lushr, 1) := by decide +kernel
theorem d_30_47 : decode (bc 30) 47 = .ok (.lmul, 1) := by decide +kernel
theorem d_30_48 : decode (bc 30) 48 = .ok (.lsub, 1) := by decide +kernel
theorem d_30_49 : decode (bc 30) 49 = .ok (.lstore 6, 2) := by decide +kernel
theorem d_30_51 : decode (bc 30) 51 = .ok (.iinc 8 1, 3) := by decide +kernel
theorem d_30_54 : decode (bc 30) 54 = .ok (.goto (-48), 3) := by decide +kernel
theorem d_30_57 : decode (bc 30) 57 = .ok (.lload 6, 2) := by decide +kernel
theorem d_30_59 : decode (bc 30) 59 = .ok (.lreturn, 1) := by decide +kernel
theorem rt_30 : rty 30 = some .long := by decide +kernel
theorem mx_30 : mxl 30 = 9 := by decide +kernel
theorem ow_30 : (sta 30 = false ∧ own 30 = 2 ∧ hgt 30 = 0) := by decide +kernel
-- 31: SpunModules$Field.vector(II)J
theorem d_31_0 : decode (bc 31) 0 = .ok (.lconst 0, 1) := by decide +kernel
theorem d_31_1 : decode (bc 31) 1 = .ok (.lstore_n 3, 1) := by decide +kernel
theorem d_31_2 : decode (bc 31) 2 = .ok (.iload_n 1, 1) := by decide +kernel
theorem d_31_3 : decode (bc 31) 3 = .ok (.istore 5, 2) := by decide +kernel
theorem d_31_5 : decode (bc 31) 5 = .ok (.iconst 0, 1) := by decide +kernel
theorem d_31_6 : decode (bc 31) 6 = .ok (.istore 6, 2) := by decide +kernel
theorem d_31_8 : decode (bc 31) 8 = .ok (.iload 6, 2) := by decide +kernel
theorem d_31_10 : decode (bc 31) 10 = .ok (.iload_n 2, 1) := by decide +kernel
theorem d_31_11 : decode (bc 31) 11 = .ok (.if_icmp .ge 50, 3) := by decide +kernel
theorem d_31_14 : decode (bc 31) 14 = .ok (.aload_n 0, 1) := by decide +kernel
theorem d_31_15 : decode (bc 31) 15 = .ok (.iload 5, 2) := by decide +kernel
theorem d_31_17 : decode (bc 31) 17 = .ok (.invokevirtual 25, 3) := by decide +kernel
theorem q_31_25 : cq 31 25 [0, 3] = some (27, 2) := by decide +kernel
theorem d_31_20 : decode (bc 31) 20 = .ok (.istore 7, 2) := by decide +kernel
theorem d_31_22 : decode (bc 31) 22 = .ok (.lload_n 3, 1) := by decide +kernel
theorem d_31_23 : decode (bc 31) 23 = .ok (.iload 7, 2) := by decide +kernel
theorem d_31_25 : decode (bc 31) 25 = .ok (.i2l, 1) := by decide +kernel
theorem d_31_26 : decode (bc 31) 26 = .ok (.iload 6, 2) := by decide +kernel
theorem d_31_28 : decode (bc 31) 28 = .ok (.invokestatic 29, 3) := by decide +kernel
theorem q_31_29 : cq 31 29 [1, 4] = some (121, 1) := by decide +kernel
theorem d_31_31 : decode (bc 31) 31 = .ok (.lmul, 1) := by decide +kernel
theorem d_31_32 : decode (bc 31) 32 = .ok (.lor, 1) := by decide +kernel
theorem d_31_33 : decode (bc 31) 33 = .ok (.lstore_n 3, 1) := by decide +kernel
theorem d_31_34 : decode (bc 31) 34 = .ok (.aload_n 0, 1) := by decide +kernel
theorem d_31_35 : decode (bc 31) 35 = .ok (.getfield 9, 3) := by decide +kernel
theorem q_31_9 : fq 31 9 = some (2, 0, 1, 0, false) := by decide +kernel
theorem d_31_38 : decode (bc 31) 38 = .ok (.iconst 2, 1) := by decide +kernel
theorem d_31_39 : decode (bc 31) 39 = .ok (.if_icmp .ne 10, 3) := by decide +kernel
theorem d_31_42 : decode (bc 31) 42 = .ok (.iload 5, 2) := by decide +kernel
theorem d_31_44 : decode (bc 31) 44 = .ok (.iconst 2, 1) := by decide +kernel
theorem d_31_45 : decode (bc 31) 45 = .ok (.idiv, 1) := by decide +kernel
theorem d_31_46 : decode (bc 31) 46 = .ok (.goto 7, 3) := by decide +kernel
theorem d_31_49 : decode (bc 31) 49 = .ok (.iload 5, 2) := by decide +kernel
theorem d_31_51 : decode (bc 31) 51 = .ok (.iconst 3, 1) := by decide +kernel
theorem d_31_52 : decode (bc 31) 52 = .ok (.idiv, 1) := by decide +kernel
theorem d_31_53 : decode (bc 31) 53 = .ok (.istore 5, 2) := by decide +kernel
theorem d_31_55 : decode (bc 31) 55 = .ok (.iinc 6 1, 3) := by decide +kernel
theorem d_31_58 : decode (bc 31) 58 = .ok (.goto (-50), 3) := by decide +kernel
theorem d_31_61 : decode (bc 31) 61 = .ok (.lload_n 3, 1) := by decide +kernel
theorem d_31_62 : decode (bc 31) 62 = .ok (.lreturn, 1) := by decide +kernel
theorem rt_31 : rty 31 = some .long := by decide +kernel
theorem mx_31 : mxl 31 = 8 := by decide +kernel
theorem ow_31 : (sta 31 = false ∧ own 31 = 2 ∧ hgt 31 = 2) := by decide +kernel
-- 32: SpunModules$Field.number(JI)I
theorem d_32_0 : decode (bc 32) 0 = .ok (.iconst 0, 1) := by decide +kernel
theorem d_32_1 : decode (bc 32) 1 = .ok (.istore 4, 2) := by decide +kernel
theorem d_32_3 : decode (bc 32) 3 = .ok (.iload_n 3, 1) := by decide +kernel
theorem d_32_4 : decode (bc 32) 4 = .ok (.iconst 1, 1) := by decide +kernel
theorem d_32_5 : decode (bc 32) 5 = .ok (.isub, 1) := by decide +kernel
theorem d_32_6 : decode (bc 32) 6 = .ok (.istore 5, 2) := by decide +kernel
theorem d_32_8 : decode (bc 32) 8 = .ok (.iload 5, 2) := by decide +kernel
theorem d_32_10 : decode (bc 32) 10 = .ok (.ifCond .lt 25, 3) := by decide +kernel
theorem d_32_13 : decode (bc 32) 13 = .ok (.iload 4, 2) := by decide +kernel
theorem d_32_15 : decode (bc 32) 15 = .ok (.aload_n 0, 1) := by decide +kernel
theorem d_32_16 : decode (bc 32) 16 = .ok (.getfield 9, 3) := by decide +kernel
theorem q_32_9 : fq 32 9 = some (2, 0, 1, 0, false) := by decide +kernel
theorem d_32_19 : decode (bc 32) 19 = .ok (.imul, 1) := by decide +kernel
theorem d_32_20 : decode (bc 32) 20 = .ok (.lload_n 1, 1) := by decide +kernel
theorem d_32_21 : decode (bc 32) 21 = .ok (.iload 5, 2) := by decide +kernel
theorem d_32_23 : decode (bc 32) 23 = .ok (.invokestatic 33, 3) := by decide +kernel
theorem q_32_33 : cq 32 33 [1, 4] = some (120, 2) := by decide +kernel
theorem d_32_26 : decode (bc 32) 26 = .ok (.iadd, 1) := by decide +kernel
theorem d_32_27 : decode (bc 32) 27 = .ok (.istore 4, 2) := by decide +kernel
theorem d_32_29 : decode (bc 32) 29 = .ok (.iinc 5 (-1), 3) := by decide +kernel
theorem d_32_32 : decode (bc 32) 32 = .ok (.goto (-24), 3) := by decide +kernel
theorem d_32_35 : decode (bc 32) 35 = .ok (.iload 4, 2) := by decide +kernel
theorem d_32_37 : decode (bc 32) 37 = .ok (.ireturn, 1) := by decide +kernel
theorem rt_32 : rty 32 = some .int := by decide +kernel
theorem mx_32 : mxl 32 = 6 := by decide +kernel
theorem ow_32 : (sta 32 = false ∧ own 32 = 2 ∧ hgt 32 = 1) := by decide +kernel
-- 34: SpunModules$Homs.dimension(LSpunModules$Action;LSpunModules$Action;)I
theorem d_34_0 : decode (bc 34) 0 = .ok (.aload_n 0, 1) := by decide +kernel
theorem d_34_1 : decode (bc 34) 1 = .ok (.iconst 0, 1) := by decide +kernel
theorem d_34_2 : decode (bc 34) 2 = .ok (.putfield 23, 3) := by decide +kernel
theorem q_34_23 : fq 34 23 = some (3, 4, 5, 0, false) := by decide +kernel
theorem d_34_5 : decode (bc 34) 5 = .ok (.iconst 0, 1) := by decide +kernel
theorem d_34_6 : decode (bc 34) 6 = .ok (.istore_n 3, 1) := by decide +kernel
theorem d_34_7 : decode (bc 34) 7 = .ok (.iload_n 3, 1) := by decide +kernel
theorem d_34_8 : decode (bc 34) 8 = .ok (.aload_n 1, 1) := by decide +kernel
theorem d_34_9 : decode (bc 34) 9 = .ok (.getfield 31, 3) := by decide +kernel
theorem q_34_31 : fq 34 31 = some (0, 1, 3, 0, false) := by decide +kernel
theorem d_34_12 : decode (bc 34) 12 = .ok (.if_icmp .ge 52, 3) := by decide +kernel
theorem d_34_15 : decode (bc 34) 15 = .ok (.iconst 0, 1) := by decide +kernel
theorem d_34_16 : decode (bc 34) 16 = .ok (.istore 4, 2) := by decide +kernel
theorem d_34_18 : decode (bc 34) 18 = .ok (.iload 4, 2) := by decide +kernel
theorem d_34_20 : decode (bc 34) 20 = .ok (.aload_n 2, 1) := by decide +kernel
theorem d_34_21 : decode (bc 34) 21 = .ok (.getfield 31, 3) := by decide +kernel
theorem d_34_24 : decode (bc 34) 24 = .ok (.if_icmp .ge 34, 3) := by decide +kernel
theorem d_34_27 : decode (bc 34) 27 = .ok (.aload_n 0, 1) := by decide +kernel
theorem d_34_28 : decode (bc 34) 28 = .ok (.aload_n 1, 1) := by decide +kernel
theorem d_34_29 : decode (bc 34) 29 = .ok (.aload_n 2, 1) := by decide +kernel
theorem d_34_30 : decode (bc 34) 30 = .ok (.iload_n 3, 1) := by decide +kernel
theorem d_34_31 : decode (bc 34) 31 = .ok (.iload 4, 2) := by decide +kernel
theorem d_34_33 : decode (bc 34) 33 = .ok (.invokevirtual 36, 3) := by decide +kernel
theorem q_34_36 : cq 34 36 [0, 3] = some (35, 5) := by decide +kernel
theorem d_34_36 : decode (bc 34) 36 = .ok (.aload_n 0, 1) := by decide +kernel
theorem d_34_37 : decode (bc 34) 37 = .ok (.aload_n 1, 1) := by decide +kernel
theorem d_34_38 : decode (bc 34) 38 = .ok (.getfield 31, 3) := by decide +kernel
theorem d_34_41 : decode (bc 34) 41 = .ok (.invokevirtual 40, 3) := by decide +kernel
theorem q_34_40 : cq 34 40 [0, 3] = some (36, 2) := by decide +kernel
theorem d_34_44 : decode (bc 34) 44 = .ok (.aload_n 0, 1) := by decide +kernel
theorem d_34_45 : decode (bc 34) 45 = .ok (.aload_n 1, 1) := by decide +kernel
theorem d_34_46 : decode (bc 34) 46 = .ok (.getfield 31, 3) := by decide +kernel
theorem d_34_49 : decode (bc 34) 49 = .ok (.invokevirtual 44, 3) := by decide +kernel
theorem q_34_44 : cq 34 44 [0, 3] = some (37, 2) := by decide +kernel
theorem d_34_52 : decode (bc 34) 52 = .ok (.iinc 4 1, 3) := by decide +kernel
theorem d_34_55 : decode (bc 34) 55 = .ok (.goto (-37), 3) := by decide +kernel
theorem d_34_58 : decode (bc 34) 58 = .ok (.iinc 3 1, 3) := by decide +kernel
theorem d_34_61 : decode (bc 34) 61 = .ok (.goto (-54), 3) := by decide +kernel
theorem d_34_64 : decode (bc 34) 64 = .ok (.aload_n 1, 1) := by decide +kernel
theorem d_34_65 : decode (bc 34) 65 = .ok (.getfield 31, 3) := by decide +kernel
theorem d_34_68 : decode (bc 34) 68 = .ok (.aload_n 2, 1) := by decide +kernel
theorem d_34_69 : decode (bc 34) 69 = .ok (.getfield 31, 3) := by decide +kernel
theorem d_34_72 : decode (bc 34) 72 = .ok (.imul, 1) := by decide +kernel
theorem d_34_73 : decode (bc 34) 73 = .ok (.aload_n 0, 1) := by decide +kernel
theorem d_34_74 : decode (bc 34) 74 = .ok (.getfield 23, 3) := by decide +kernel
theorem d_34_77 : decode (bc 34) 77 = .ok (.isub, 1) := by decide +kernel
theorem d_34_78 : decode (bc 34) 78 = .ok (.ireturn, 1) := by decide +kernel
theorem rt_34 : rty 34 = some .int := by decide +kernel
theorem mx_34 : mxl 34 = 5 := by decide +kernel
theorem ow_34 : (sta 34 = false ∧ own 34 = 3 ∧ hgt 34 = 3) := by decide +kernel
-- 35: SpunModules$Homs.evaluates(LSpunModules$Action;LSpunModules$Action;II)V
theorem d_35_0 : decode (bc 35) 0 = .ok (.aload_n 0, 1) := by decide +kernel
theorem d_35_1 : decode (bc 35) 1 = .ok (.getfield 11, 3) := by decide +kernel
theorem q_35_11 : fq 35 11 = some (3, 1, 5, 2, true) := by decide +kernel
theorem d_35_4 : decode (bc 35) 4 = .ok (.aload_n 0, 1) := by decide +kernel
theorem d_35_5 : decode (bc 35) 5 = .ok (.getfield 23, 3) := by decide +kernel
theorem q_35_23 : fq 35 23 = some (3, 4, 5, 0, false) := by decide +kernel
theorem d_35_8 : decode (bc 35) 8 = .ok (.aaload, 1) := by decide +kernel
theorem d_35_9 : decode (bc 35) 9 = .ok (.astore 5, 2) := by decide +kernel
theorem d_35_11 : decode (bc 35) 11 = .ok (.iconst 0, 1) := by decide +kernel
theorem d_35_12 : decode (bc 35) 12 = .ok (.istore 6, 2) := by decide +kernel
theorem d_35_14 : decode (bc 35) 14 = .ok (.iload 6, 2) := by decide +kernel
theorem d_35_16 : decode (bc 35) 16 = .ok (.aload_n 1, 1) := by decide +kernel
theorem d_35_17 : decode (bc 35) 17 = .ok (.getfield 31, 3) := by decide +kernel
theorem q_35_31 : fq 35 31 = some (0, 1, 3, 0, false) := by decide +kernel
theorem d_35_20 : decode (bc 35) 20 = .ok (.if_icmp .ge 48, 3) := by decide +kernel
theorem d_35_23 : decode (bc 35) 23 = .ok (.aload 5, 2) := by decide +kernel
theorem d_35_25 : decode (bc 35) 25 = .ok (.iload 6, 2) := by decide +kernel
theorem d_35_27 : decode (bc 35) 27 = .ok (.aload_n 1, 1) := by decide +kernel
theorem d_35_28 : decode (bc 35) 28 = .ok (.iconst 0, 1) := by decide +kernel
theorem d_35_29 : decode (bc 35) 29 = .ok (.iload 6, 2) := by decide +kernel
theorem d_35_31 : decode (bc 35) 31 = .ok (.iload_n 3, 1) := by decide +kernel
theorem d_35_32 : decode (bc 35) 32 = .ok (.invokevirtual 47, 3) := by decide +kernel
theorem q_35_47 : cq 35 47 [0, 3] = some (3, 4) := by decide +kernel
theorem d_35_35 : decode (bc 35) 35 = .ok (.i2l, 1) := by decide +kernel
theorem d_35_36 : decode (bc 35) 36 = .ok (.iload 4, 2) := by decide +kernel
theorem d_35_38 : decode (bc 35) 38 = .ok (.invokestatic 51, 3) := by decide +kernel
theorem q_35_51 : cq 35 51 [1, 4] = some (121, 1) := by decide +kernel
theorem d_35_41 : decode (bc 35) 41 = .ok (.lmul, 1) := by decide +kernel
theorem d_35_42 : decode (bc 35) 42 = .ok (.aload_n 1, 1) := by decide +kernel
theorem d_35_43 : decode (bc 35) 43 = .ok (.iconst 1, 1) := by decide +kernel
theorem d_35_44 : decode (bc 35) 44 = .ok (.iload 6, 2) := by decide +kernel
theorem d_35_46 : decode (bc 35) 46 = .ok (.iload_n 3, 1) := by decide +kernel
theorem d_35_47 : decode (bc 35) 47 = .ok (.invokevirtual 47, 3) := by decide +kernel
theorem d_35_50 : decode (bc 35) 50 = .ok (.i2l, 1) := by decide +kernel
theorem d_35_51 : decode (bc 35) 51 = .ok (.bipush 6, 2) := by decide +kernel
theorem d_35_53 : decode (bc 35) 53 = .ok (.iload 4, 2) := by decide +kernel
theorem d_35_55 : decode (bc 35) 55 = .ok (.iadd, 1) := by decide +kernel
theorem d_35_56 : decode (bc 35) 56 = .ok (.invokestatic 51, 3) := by decide +kernel
theorem d_35_59 : decode (bc 35) 59 = .ok (.lmul, 1) := by decide +kernel
theorem d_35_60 : decode (bc 35) 60 = .ok (.lor, 1) := by decide +kernel
theorem d_35_61 : decode (bc 35) 61 = .ok (.lastore, 1) := by decide +kernel
theorem d_35_62 : decode (bc 35) 62 = .ok (.iinc 6 1, 3) := by decide +kernel
theorem d_35_65 : decode (bc 35) 65 = .ok (.goto (-51), 3) := by decide +kernel
theorem d_35_68 : decode (bc 35) 68 = .ok (.aload_n 2, 1) := by decide +kernel
theorem d_35_69 : decode (bc 35) 69 = .ok (.getfield 55, 3) := by decide +kernel
theorem q_35_55 : fq 35 55 = some (0, 2, 3, 2, true) := by decide +kernel
theorem d_35_72 : decode (bc 35) 72 = .ok (.iload 4, 2) := by decide +kernel
theorem d_35_74 : decode (bc 35) 74 = .ok (.laload, 1) := by decide +kernel
theorem d_35_75 : decode (bc 35) 75 = .ok (.aload_n 2, 1) := by decide +kernel
theorem d_35_76 : decode (bc 35) 76 = .ok (.getfield 55, 3) := by decide +kernel
theorem d_35_79 : decode (bc 35) 79 = .ok (.bipush 6, 2) := by decide +kernel
theorem d_35_81 : decode (bc 35) 81 = .ok (.iload 4, 2) := by decide +kernel
theorem d_35_83 : decode (bc 35) 83 = .ok (.iadd, 1) := by decide +kernel
theorem d_35_84 : decode (bc 35) 84 = .ok (.laload, 1) := by decide +kernel
theorem d_35_85 : decode (bc 35) 85 = .ok (.bipush 24, 2) := by decide +kernel
theorem d_35_87 : decode (bc 35) 87 = .ok (.lushr, 1) := by decide +kernel
theorem d_35_88 : decode (bc 35) 88 = .ok (.lor, 1) := by decide +kernel
theorem d_35_89 : decode (bc 35) 89 = .ok (.lstore 6, 2) := by decide +kernel
theorem d_35_91 : decode (bc 35) 91 = .ok (.aload 5, 2) := by decide +kernel
theorem d_35_93 : decode (bc 35) 93 = .ok (.iload_n 3, 1) := by decide +kernel
theorem d_35_94 : decode (bc 35) 94 = .ok (.aload_n 0, 1) := by decide +kernel
theorem d_35_95 : decode (bc 35) 95 = .ok (.getfield 27, 3) := by decide +kernel
theorem q_35_27 : fq 35 27 = some (3, 0, 5, 2, true) := by decide +kernel
theorem d_35_98 : decode (bc 35) 98 = .ok (.aload 5, 2) := by decide +kernel
theorem d_35_100 : decode (bc 35) 100 = .ok (.iload_n 3, 1) := by decide +kernel
theorem d_35_101 : decode (bc 35) 101 = .ok (.laload, 1) := by decide +kernel
theorem d_35_102 : decode (bc 35) 102 = .ok (.aload_n 0, 1) := by decide +kernel
theorem d_35_103 : decode (bc 35) 103 = .ok (.getfield 27, 3) := by decide +kernel
theorem d_35_106 : decode (bc 35) 106 = .ok (.iconst 1, 1) := by decide +kernel
theorem d_35_107 : decode (bc 35) 107 = .ok (.invokevirtual 59, 3) := by decide +kernel
theorem q_35_59 : cq 35 59 [0, 3] = some (28, 2) := by decide +kernel
theorem d_35_110 : decode (bc 35) 110 = .ok (.lload 6, 2) := by decide +kernel
theorem d_35_112 : decode (bc 35) 112 = .ok (.invokevirtual 65, 3) := by decide +kernel
theorem q_35_65 : cq 35 65 [0, 3] = some (30, 4) := by decide +kernel
theorem d_35_115 : decode (bc 35) 115 = .ok (.lastore, 1) := by decide +kernel
theorem d_35_116 : decode (bc 35) 116 = .ok (.return_, 1) := by decide +kernel
theorem rt_35 : rty 35 = none := by decide +kernel
theorem mx_35 : mxl 35 = 8 := by decide +kernel
theorem ow_35 : (sta 35 = false ∧ own 35 = 3 ∧ hgt 35 = 2) := by decide +kernel
-- 36: SpunModules$Homs.reduces(I)V
theorem d_36_0 : decode (bc 36) 0 = .ok (.aload_n 0, 1) := by decide +kernel
theorem d_36_1 : decode (bc 36) 1 = .ok (.getfield 11, 3) := by decide +kernel
theorem q_36_11 : fq 36 11 = some (3, 1, 5, 2, true) := by decide +kernel
theorem d_36_4 : decode (bc 36) 4 = .ok (.aload_n 0, 1) := by decide +kernel
theorem d_36_5 : decode (bc 36) 5 = .ok (.getfield 23, 3) := by decide +kernel
theorem q_36_23 : fq 36 23 = some (3, 4, 5, 0, false) := by decide +kernel
theorem d_36_8 : decode (bc 36) 8 = .ok (.aaload, 1) := by decide +kernel
theorem d_36_9 : decode (bc 36) 9 = .ok (.astore_n 2, 1) := by decide +kernel
theorem d_36_10 : decode (bc 36) 10 = .ok (.iconst 0, 1) := by decide +kernel
theorem d_36_11 : decode (bc 36) 11 = .ok (.istore_n 3, 1) := by decide +kernel
theorem d_36_12 : decode (bc 36) 12 = .ok (.iload_n 3, 1) := by decide +kernel
theorem d_36_13 : decode (bc 36) 13 = .ok (.aload_n 0, 1) := by decide +kernel
theorem d_36_14 : decode (bc 36) 14 = .ok (.getfield 23, 3) := by decide +kernel
theorem d_36_17 : decode (bc 36) 17 = .ok (.if_icmp .ge 86, 3) := by decide +kernel
theorem d_36_20 : decode (bc 36) 20 = .ok (.aload_n 2, 1) := by decide +kernel
theorem d_36_21 : decode (bc 36) 21 = .ok (.aload_n 0, 1) := by decide +kernel
theorem d_36_22 : decode (bc 36) 22 = .ok (.getfield 16, 3) := by decide +kernel
theorem q_36_16 : fq 36 16 = some (3, 2, 5, 2, true) := by decide +kernel
theorem d_36_25 : decode (bc 36) 25 = .ok (.iload_n 3, 1) := by decide +kernel
theorem d_36_26 : decode (bc 36) 26 = .ok (.iaload, 1) := by decide +kernel
theorem d_36_27 : decode (bc 36) 27 = .ok (.laload, 1) := by decide +kernel
theorem d_36_28 : decode (bc 36) 28 = .ok (.aload_n 0, 1) := by decide +kernel
theorem d_36_29 : decode (bc 36) 29 = .ok (.getfield 20, 3) := by decide +kernel
theorem q_36_20 : fq 36 20 = some (3, 3, 5, 2, true) := by decide +kernel
theorem d_36_32 : decode (bc 36) 32 = .ok (.iload_n 3, 1) := by decide +kernel
theorem d_36_33 : decode (bc 36) 33 = .ok (.iaload, 1) := by decide +kernel
theorem d_36_34 : decode (bc 36) 34 = .ok (.invokestatic 69, 3) := by decide +kernel
theorem q_36_69 : cq 36 69 [1, 4] = some (120, 2) := by decide +kernel
theorem d_36_37 : decode (bc 36) 37 = .ok (.istore 4, 2) := by decide +kernel
theorem d_36_39 : decode (bc 36) 39 = .ok (.iload 4, 2) := by decide +kernel
theorem d_36_41 : decode (bc 36) 41 = .ok (.ifCond .eq 56, 3) := by decide +kernel
theorem d_36_44 : decode (bc 36) 44 = .ok (.aload_n 0, 1) := by decide +kernel
theorem d_36_45 : decode (bc 36) 45 = .ok (.getfield 16, 3) := by decide +kernel
theorem d_36_48 : decode (bc 36) 48 = .ok (.iload_n 3, 1) := by decide +kernel
theorem d_36_49 : decode (bc 36) 49 = .ok (.iaload, 1) := by decide +kernel
theorem d_36_50 : decode (bc 36) 50 = .ok (.istore 5, 2) := by decide +kernel
theorem d_36_52 : decode (bc 36) 52 = .ok (.iload 5, 2) := by decide +kernel
theorem d_36_54 : decode (bc 36) 54 = .ok (.iload_n 1, 1) := by decide +kernel
theorem d_36_55 : decode (bc 36) 55 = .ok (.if_icmp .ge 42, 3) := by decide +kernel
theorem d_36_58 : decode (bc 36) 58 = .ok (.aload_n 2, 1) := by decide +kernel
theorem d_36_59 : decode (bc 36) 59 = .ok (.iload 5, 2) := by decide +kernel
theorem d_36_61 : decode (bc 36) 61 = .ok (.aload_n 0, 1) := by decide +kernel
theorem d_36_62 : decode (bc 36) 62 = .ok (.getfield 27, 3) := by decide +kernel
theorem q_36_27 : fq 36 27 = some (3, 0, 5, 2, true) := by decide +kernel
theorem d_36_65 : decode (bc 36) 65 = .ok (.aload_n 2, 1) := by decide +kernel
theorem d_36_66 : decode (bc 36) 66 = .ok (.iload 5, 2) := by decide +kernel
theorem d_36_68 : decode (bc 36) 68 = .ok (.laload, 1) := by decide +kernel
theorem d_36_69 : decode (bc 36) 69 = .ok (.aload_n 0, 1) := by decide +kernel
theorem d_36_70 : decode (bc 36) 70 = .ok (.getfield 27, 3) := by decide +kernel
theorem d_36_73 : decode (bc 36) 73 = .ok (.iload 4, 2) := by decide +kernel
theorem d_36_75 : decode (bc 36) 75 = .ok (.invokevirtual 59, 3) := by decide +kernel
theorem q_36_59 : cq 36 59 [0, 3] = some (28, 2) := by decide +kernel
theorem d_36_78 : decode (bc 36) 78 = .ok (.aload_n 0, 1) := by decide +kernel
theorem d_36_79 : decode (bc 36) 79 = .ok (.getfield 11, 3) := by decide +kernel
theorem d_36_82 : decode (bc 36) 82 = .ok (.iload_n 3, 1) := by decide +kernel
theorem d_36_83 : decode (bc 36) 83 = .ok (.aaload, 1) := by decide +kernel
theorem d_36_84 : decode (bc 36) 84 = .ok (.iload 5, 2) := by decide +kernel
theorem d_36_86 : decode (bc 36) 86 = .ok (.laload, 1) := by decide +kernel
theorem d_36_87 : decode (bc 36) 87 = .ok (.invokevirtual 65, 3) := by decide +kernel
theorem q_36_65 : cq 36 65 [0, 3] = some (30, 4) := by decide +kernel
theorem d_36_90 : decode (bc 36) 90 = .ok (.lastore, 1) := by decide +kernel
theorem d_36_91 : decode (bc 36) 91 = .ok (.iinc 5 1, 3) := by decide +kernel
theorem d_36_94 : decode (bc 36) 94 = .ok (.goto (-42), 3) := by decide +kernel
theorem d_36_97 : decode (bc 36) 97 = .ok (.iinc 3 1, 3) := by decide +kernel
theorem d_36_100 : decode (bc 36) 100 = .ok (.goto (-88), 3) := by decide +kernel
theorem d_36_103 : decode (bc 36) 103 = .ok (.return_, 1) := by decide +kernel
theorem rt_36 : rty 36 = none := by decide +kernel
theorem mx_36 : mxl 36 = 6 := by decide +kernel
theorem ow_36 : (sta 36 = false ∧ own 36 = 3 ∧ hgt 36 = 1) := by decide +kernel
-- 37: SpunModules$Homs.keepsIfNew(I)V
theorem d_37_0 : decode (bc 37) 0 = .ok (.aload_n 0, 1) := by decide +kernel
theorem d_37_1 : decode (bc 37) 1 = .ok (.getfield 11, 3) := by decide +kernel
theorem q_37_11 : fq 37 11 = some (3, 1, 5, 2, true) := by decide +kernel
theorem d_37_4 : decode (bc 37) 4 = .ok (.aload_n 0, 1) := by decide +kernel
theorem d_37_5 : decode (bc 37) 5 = .ok (.getfield 23, 3) := by decide +kernel
theorem q_37_23 : fq 37 23 = some (3, 4, 5, 0, false) := by decide +kernel
theorem d_37_8 : decode (bc 37) 8 = .ok (.aaload, 1) := by decide +kernel
theorem d_37_9 : decode (bc 37) 9 = .ok (.astore_n 2, 1) := by decide +kernel
theorem d_37_10 : decode (bc 37) 10 = .ok (.iconst 0, 1) := by decide +kernel
theorem d_37_11 : decode (bc 37) 11 = .ok (.istore_n 3, 1) := by decide +kernel
theorem d_37_12 : decode (bc 37) 12 = .ok (.iload_n 3, 1) := by decide +kernel
theorem d_37_13 : decode (bc 37) 13 = .ok (.iload_n 1, 1) := by decide +kernel
theorem d_37_14 : decode (bc 37) 14 = .ok (.if_icmp .ge 17, 3) := by decide +kernel
theorem d_37_17 : decode (bc 37) 17 = .ok (.aload_n 2, 1) := by decide +kernel
theorem d_37_18 : decode (bc 37) 18 = .ok (.iload_n 3, 1) := by decide +kernel
theorem d_37_19 : decode (bc 37) 19 = .ok (.laload, 1) := by decide +kernel
theorem d_37_20 : decode (bc 37) 20 = .ok (.lconst 0, 1) := by decide +kernel
theorem d_37_21 : decode (bc 37) 21 = .ok (.lcmp, 1) := by decide +kernel
theorem d_37_22 : decode (bc 37) 22 = .ok (.ifCond .ne 9, 3) := by decide +kernel
theorem d_37_25 : decode (bc 37) 25 = .ok (.iinc 3 1, 3) := by decide +kernel
theorem d_37_28 : decode (bc 37) 28 = .ok (.goto (-16), 3) := by decide +kernel
theorem d_37_31 : decode (bc 37) 31 = .ok (.iload_n 3, 1) := by decide +kernel
theorem d_37_32 : decode (bc 37) 32 = .ok (.iload_n 1, 1) := by decide +kernel
theorem d_37_33 : decode (bc 37) 33 = .ok (.if_icmp .ge 85, 3) := by decide +kernel
theorem d_37_36 : decode (bc 37) 36 = .ok (.aload_n 2, 1) := by decide +kernel
theorem d_37_37 : decode (bc 37) 37 = .ok (.iload_n 3, 1) := by decide +kernel
theorem d_37_38 : decode (bc 37) 38 = .ok (.laload, 1) := by decide +kernel
theorem d_37_39 : decode (bc 37) 39 = .ok (.invokestatic 73, 3) := by decide +kernel
theorem q_37_73 : cq 37 73 [1, 4] = some (123, 1) := by decide +kernel
theorem d_37_42 : decode (bc 37) 42 = .ok (.istore 4, 2) := by decide +kernel
theorem d_37_44 : decode (bc 37) 44 = .ok (.aload_n 2, 1) := by decide +kernel
theorem d_37_45 : decode (bc 37) 45 = .ok (.iload_n 3, 1) := by decide +kernel
theorem d_37_46 : decode (bc 37) 46 = .ok (.laload, 1) := by decide +kernel
theorem d_37_47 : decode (bc 37) 47 = .ok (.iload 4, 2) := by decide +kernel
theorem d_37_49 : decode (bc 37) 49 = .ok (.invokestatic 69, 3) := by decide +kernel
theorem q_37_69 : cq 37 69 [1, 4] = some (120, 2) := by decide +kernel
theorem d_37_52 : decode (bc 37) 52 = .ok (.istore 5, 2) := by decide +kernel
theorem d_37_54 : decode (bc 37) 54 = .ok (.iload_n 3, 1) := by decide +kernel
theorem d_37_55 : decode (bc 37) 55 = .ok (.istore 6, 2) := by decide +kernel
theorem d_37_57 : decode (bc 37) 57 = .ok (.iload 6, 2) := by decide +kernel
theorem d_37_59 : decode (bc 37) 59 = .ok (.iload_n 1, 1) := by decide +kernel
theorem d_37_60 : decode (bc 37) 60 = .ok (.if_icmp .ge 27, 3) := by decide +kernel
theorem d_37_63 : decode (bc 37) 63 = .ok (.aload_n 2, 1) := by decide +kernel
theorem d_37_64 : decode (bc 37) 64 = .ok (.iload 6, 2) := by decide +kernel
theorem d_37_66 : decode (bc 37) 66 = .ok (.aload_n 0, 1) := by decide +kernel
theorem d_37_67 : decode (bc 37) 67 = .ok (.getfield 27, 3) := by decide +kernel
theorem q_37_27 : fq 37 27 = some (3, 0, 5, 2, true) := by decide +kernel
theorem d_37_70 : decode (bc 37) 70 = .ok (.lconst 0, 1) := by decide +kernel
theorem d_37_71 : decode (bc 37) 71 = .ok (.iload 5, 2) := by decide +kernel
theorem d_37_73 : decode (bc 37) 73 = .ok (.aload_n 2, 1) := by decide +kernel
theorem d_37_74 : decode (bc 37) 74 = .ok (.iload 6, 2) := by decide +kernel
theorem d_37_76 : decode (bc 37) 76 = .ok (.laload, 1) := by decide +kernel
theorem d_37_77 : decode (bc 37) 77 = .ok (.invokevirtual 65, 3) := by decide +kernel
theorem q_37_65 : cq 37 65 [0, 3] = some (30, 4) := by decide +kernel
theorem d_37_80 : decode (bc 37) 80 = .ok (.lastore, 1) := by decide +kernel
theorem d_37_81 : decode (bc 37) 81 = .ok (.iinc 6 1, 3) := by decide +kernel
theorem d_37_84 : decode (bc 37) 84 = .ok (.goto (-27), 3) := by decide +kernel
theorem d_37_87 : decode (bc 37) 87 = .ok (.aload_n 0, 1) := by decide +kernel
theorem d_37_88 : decode (bc 37) 88 = .ok (.getfield 16, 3) := by decide +kernel
theorem q_37_16 : fq 37 16 = some (3, 2, 5, 2, true) := by decide +kernel
theorem d_37_91 : decode (bc 37) 91 = .ok (.aload_n 0, 1) := by decide +kernel
theorem d_37_92 : decode (bc 37) 92 = .ok (.getfield 23, 3) := by decide +kernel
theorem d_37_95 : decode (bc 37) 95 = .ok (.iload_n 3, 1) := by decide +kernel
theorem d_37_96 : decode (bc 37) 96 = .ok (.iastore, 1) := by decide +kernel
theorem d_37_97 : decode (bc 37) 97 = .ok (.aload_n 0, 1) := by decide +kernel
theorem d_37_98 : decode (bc 37) 98 = .ok (.getfield 20, 3) := by decide +kernel
theorem q_37_20 : fq 37 20 = some (3, 3, 5, 2, true) := by decide +kernel
theorem d_37_101 : decode (bc 37) 101 = .ok (.aload_n 0, 1) := by decide +kernel
theorem d_37_102 : decode (bc 37) 102 = .ok (.getfield 23, 3) := by decide +kernel
theorem d_37_105 : decode (bc 37) 105 = .ok (.iload 4, 2) := by decide +kernel
theorem d_37_107 : decode (bc 37) 107 = .ok (.iastore, 1) := by decide +kernel
theorem d_37_108 : decode (bc 37) 108 = .ok (.aload_n 0, 1) := by decide +kernel
theorem d_37_109 : decode (bc 37) 109 = .ok (.dup, 1) := by decide +kernel
theorem d_37_110 : decode (bc 37) 110 = .ok (.getfield 23, 3) := by decide +kernel
theorem d_37_113 : decode (bc 37) 113 = .ok (.iconst 1, 1) := by decide +kernel
theorem d_37_114 : decode (bc 37) 114 = .ok (.iadd, 1) := by decide +kernel
theorem d_37_115 : decode (bc 37) 115 = .ok (.putfield 23, 3) := by decide +kernel
theorem d_37_118 : decode (bc 37) 118 = .ok (.return_, 1) := by decide +kernel
theorem rt_37 : rty 37 = none := by decide +kernel
theorem mx_37 : mxl 37 = 7 := by decide +kernel
theorem ow_37 : (sta 37 = false ∧ own 37 = 3 ∧ hgt 37 = 2) := by decide +kernel
-- 39: SpunModules$Past.keeps([LSpunModules$Action;)V
theorem d_39_0 : decode (bc 39) 0 = .ok (.aload_n 0, 1) := by decide +kernel
theorem d_39_1 : decode (bc 39) 1 = .ok (.getfield 18, 3) := by decide +kernel
theorem q_39_18 : fq 39 18 = some (4, 3, 5, 2, true) := by decide +kernel
theorem d_39_4 : decode (bc 39) 4 = .ok (.aload_n 0, 1) := by decide +kernel
theorem d_39_5 : decode (bc 39) 5 = .ok (.getfield 15, 3) := by decide +kernel
theorem q_39_15 : fq 39 15 = some (4, 2, 5, 0, false) := by decide +kernel
theorem d_39_8 : decode (bc 39) 8 = .ok (.aload_n 0, 1) := by decide +kernel
theorem d_39_9 : decode (bc 39) 9 = .ok (.getfield 28, 3) := by decide +kernel
theorem q_39_28 : fq 39 28 = some (4, 0, 5, 2, true) := by decide +kernel
theorem d_39_12 : decode (bc 39) 12 = .ok (.getfield 35, 3) := by decide +kernel
theorem q_39_35 : fq 39 35 = some (2, 0, 1, 0, false) := by decide +kernel
theorem d_39_15 : decode (bc 39) 15 = .ok (.iastore, 1) := by decide +kernel
theorem d_39_16 : decode (bc 39) 16 = .ok (.iconst 0, 1) := by decide +kernel
theorem d_39_17 : decode (bc 39) 17 = .ok (.istore_n 2, 1) := by decide +kernel
theorem d_39_18 : decode (bc 39) 18 = .ok (.iload_n 2, 1) := by decide +kernel
theorem d_39_19 : decode (bc 39) 19 = .ok (.iconst 4, 1) := by decide +kernel
theorem d_39_20 : decode (bc 39) 20 = .ok (.if_icmp .ge 28, 3) := by decide +kernel
theorem d_39_23 : decode (bc 39) 23 = .ok (.aload_n 0, 1) := by decide +kernel
theorem d_39_24 : decode (bc 39) 24 = .ok (.getfield 24, 3) := by decide +kernel
theorem q_39_24 : fq 39 24 = some (4, 4, 5, 2, true) := by decide +kernel
theorem d_39_27 : decode (bc 39) 27 = .ok (.iconst 4, 1) := by decide +kernel
theorem d_39_28 : decode (bc 39) 28 = .ok (.aload_n 0, 1) := by decide +kernel
theorem d_39_29 : decode (bc 39) 29 = .ok (.getfield 15, 3) := by decide +kernel
theorem d_39_32 : decode (bc 39) 32 = .ok (.imul, 1) := by decide +kernel
theorem d_39_33 : decode (bc 39) 33 = .ok (.iload_n 2, 1) := by decide +kernel
theorem d_39_34 : decode (bc 39) 34 = .ok (.iadd, 1) := by decide +kernel
theorem d_39_35 : decode (bc 39) 35 = .ok (.aaload, 1) := by decide +kernel
theorem d_39_36 : decode (bc 39) 36 = .ok (.aload_n 1, 1) := by decide +kernel
theorem d_39_37 : decode (bc 39) 37 = .ok (.iload_n 2, 1) := by decide +kernel
theorem d_39_38 : decode (bc 39) 38 = .ok (.aaload, 1) := by decide +kernel
theorem d_39_39 : decode (bc 39) 39 = .ok (.invokevirtual 40, 3) := by decide +kernel
theorem q_39_40 : cq 39 40 [0, 3] = some (2, 2) := by decide +kernel
theorem d_39_42 : decode (bc 39) 42 = .ok (.iinc 2 1, 3) := by decide +kernel
theorem d_39_45 : decode (bc 39) 45 = .ok (.goto (-27), 3) := by decide +kernel
theorem d_39_48 : decode (bc 39) 48 = .ok (.aload_n 0, 1) := by decide +kernel
theorem d_39_49 : decode (bc 39) 49 = .ok (.aload_n 0, 1) := by decide +kernel
theorem d_39_50 : decode (bc 39) 50 = .ok (.getfield 15, 3) := by decide +kernel
theorem d_39_53 : decode (bc 39) 53 = .ok (.iconst 1, 1) := by decide +kernel
theorem d_39_54 : decode (bc 39) 54 = .ok (.iadd, 1) := by decide +kernel
theorem d_39_55 : decode (bc 39) 55 = .ok (.bipush 8, 2) := by decide +kernel
theorem d_39_57 : decode (bc 39) 57 = .ok (.irem, 1) := by decide +kernel
theorem d_39_58 : decode (bc 39) 58 = .ok (.putfield 15, 3) := by decide +kernel
theorem d_39_61 : decode (bc 39) 61 = .ok (.aload_n 0, 1) := by decide +kernel
theorem d_39_62 : decode (bc 39) 62 = .ok (.aload_n 0, 1) := by decide +kernel
theorem d_39_63 : decode (bc 39) 63 = .ok (.getfield 9, 3) := by decide +kernel
theorem q_39_9 : fq 39 9 = some (4, 1, 5, 0, false) := by decide +kernel
theorem d_39_66 : decode (bc 39) 66 = .ok (.iconst 1, 1) := by decide +kernel
theorem d_39_67 : decode (bc 39) 67 = .ok (.iadd, 1) := by decide +kernel
theorem d_39_68 : decode (bc 39) 68 = .ok (.bipush 8, 2) := by decide +kernel
theorem d_39_70 : decode (bc 39) 70 = .ok (.invokestatic 44, 3) := by decide +kernel
theorem q_39_44 : cq 39 44 [1, 4] = some (220, 2) := by decide +kernel
theorem d_39_73 : decode (bc 39) 73 = .ok (.putfield 9, 3) := by decide +kernel
theorem d_39_76 : decode (bc 39) 76 = .ok (.return_, 1) := by decide +kernel
theorem rt_39 : rty 39 = none := by decide +kernel
theorem mx_39 : mxl 39 = 3 := by decide +kernel
theorem ow_39 : (sta 39 = false ∧ own 39 = 4 ∧ hgt 39 = 2) := by decide +kernel
-- 40: SpunModules$Past.restores([LSpunModules$Action;)V
theorem d_40_0 : decode (bc 40) 0 = .ok (.aload_n 0, 1) := by decide +kernel
theorem d_40_1 : decode (bc 40) 1 = .ok (.getfield 9, 3) := by decide +kernel
theorem q_40_9 : fq 40 9 = some (4, 1, 5, 0, false) := by decide +kernel
theorem d_40_4 : decode (bc 40) 4 = .ok (.ifCond .le 77, 3) := by decide +kernel
theorem d_40_7 : decode (bc 40) 7 = .ok (.aload_n 0, 1) := by decide +kernel
theorem d_40_8 : decode (bc 40) 8 = .ok (.aload_n 0, 1) := by decide +kernel
theorem d_40_9 : decode (bc 40) 9 = .ok (.getfield 15, 3) := by decide +kernel
theorem q_40_15 : fq 40 15 = some (4, 2, 5, 0, false) := by decide +kernel
theorem d_40_12 : decode (bc 40) 12 = .ok (.bipush 8, 2) := by decide +kernel
theorem d_40_14 : decode (bc 40) 14 = .ok (.iadd, 1) := by decide +kernel
theorem d_40_15 : decode (bc 40) 15 = .ok (.iconst 1, 1) := by decide +kernel
theorem d_40_16 : decode (bc 40) 16 = .ok (.isub, 1) := by decide +kernel
theorem d_40_17 : decode (bc 40) 17 = .ok (.bipush 8, 2) := by decide +kernel
theorem d_40_19 : decode (bc 40) 19 = .ok (.irem, 1) := by decide +kernel
theorem d_40_20 : decode (bc 40) 20 = .ok (.putfield 15, 3) := by decide +kernel
theorem d_40_23 : decode (bc 40) 23 = .ok (.aload_n 0, 1) := by decide +kernel
theorem d_40_24 : decode (bc 40) 24 = .ok (.dup, 1) := by decide +kernel
theorem d_40_25 : decode (bc 40) 25 = .ok (.getfield 9, 3) := by decide +kernel
theorem d_40_28 : decode (bc 40) 28 = .ok (.iconst 1, 1) := by decide +kernel
theorem d_40_29 : decode (bc 40) 29 = .ok (.isub, 1) := by decide +kernel
theorem d_40_30 : decode (bc 40) 30 = .ok (.putfield 9, 3) := by decide +kernel
theorem d_40_33 : decode (bc 40) 33 = .ok (.aload_n 0, 1) := by decide +kernel
theorem d_40_34 : decode (bc 40) 34 = .ok (.getfield 28, 3) := by decide +kernel
theorem q_40_28 : fq 40 28 = some (4, 0, 5, 2, true) := by decide +kernel
theorem d_40_37 : decode (bc 40) 37 = .ok (.aload_n 0, 1) := by decide +kernel
theorem d_40_38 : decode (bc 40) 38 = .ok (.getfield 18, 3) := by decide +kernel
theorem q_40_18 : fq 40 18 = some (4, 3, 5, 2, true) := by decide +kernel
theorem d_40_41 : decode (bc 40) 41 = .ok (.aload_n 0, 1) := by decide +kernel
theorem d_40_42 : decode (bc 40) 42 = .ok (.getfield 15, 3) := by decide +kernel
theorem d_40_45 : decode (bc 40) 45 = .ok (.iaload, 1) := by decide +kernel
theorem d_40_46 : decode (bc 40) 46 = .ok (.putfield 35, 3) := by decide +kernel
theorem q_40_35 : fq 40 35 = some (2, 0, 1, 0, false) := by decide +kernel
theorem d_40_49 : decode (bc 40) 49 = .ok (.iconst 0, 1) := by decide +kernel
theorem d_40_50 : decode (bc 40) 50 = .ok (.istore_n 2, 1) := by decide +kernel
theorem d_40_51 : decode (bc 40) 51 = .ok (.iload_n 2, 1) := by decide +kernel
theorem d_40_52 : decode (bc 40) 52 = .ok (.iconst 4, 1) := by decide +kernel
theorem d_40_53 : decode (bc 40) 53 = .ok (.if_icmp .ge 28, 3) := by decide +kernel
theorem d_40_56 : decode (bc 40) 56 = .ok (.aload_n 1, 1) := by decide +kernel
theorem d_40_57 : decode (bc 40) 57 = .ok (.iload_n 2, 1) := by decide +kernel
theorem d_40_58 : decode (bc 40) 58 = .ok (.aaload, 1) := by decide +kernel
theorem d_40_59 : decode (bc 40) 59 = .ok (.aload_n 0, 1) := by decide +kernel
theorem d_40_60 : decode (bc 40) 60 = .ok (.getfield 24, 3) := by decide +kernel
theorem q_40_24 : fq 40 24 = some (4, 4, 5, 2, true) := by decide +kernel
theorem d_40_63 : decode (bc 40) 63 = .ok (.iconst 4, 1) := by decide +kernel
theorem d_40_64 : decode (bc 40) 64 = .ok (.aload_n 0, 1) := by decide +kernel
theorem d_40_65 : decode (bc 40) 65 = .ok (.getfield 15, 3) := by decide +kernel
theorem d_40_68 : decode (bc 40) 68 = .ok (.imul, 1) := by decide +kernel
theorem d_40_69 : decode (bc 40) 69 = .ok (.iload_n 2, 1) := by decide +kernel
theorem d_40_70 : decode (bc 40) 70 = .ok (.iadd, 1) := by decide +kernel
theorem d_40_71 : decode (bc 40) 71 = .ok (.aaload, 1) := by decide +kernel
theorem d_40_72 : decode (bc 40) 72 = .ok (.invokevirtual 40, 3) := by decide +kernel
theorem q_40_40 : cq 40 40 [0, 3] = some (2, 2) := by decide +kernel
theorem d_40_75 : decode (bc 40) 75 = .ok (.iinc 2 1, 3) := by decide +kernel
theorem d_40_78 : decode (bc 40) 78 = .ok (.goto (-27), 3) := by decide +kernel
theorem d_40_81 : decode (bc 40) 81 = .ok (.return_, 1) := by decide +kernel
theorem rt_40 : rty 40 = none := by decide +kernel
theorem mx_40 : mxl 40 = 3 := by decide +kernel
theorem ow_40 : (sta 40 = false ∧ own 40 = 4 ∧ hgt 40 = 2) := by decide +kernel
-- 42: SpunModules$Polynomial.takesRow(IJ)V
theorem d_42_0 : decode (bc 42) 0 = .ok (.iconst 0, 1) := by decide +kernel
theorem d_42_1 : decode (bc 42) 1 = .ok (.istore 4, 2) := by decide +kernel
theorem d_42_3 : decode (bc 42) 3 = .ok (.iload 4, 2) := by decide +kernel
theorem d_42_5 : decode (bc 42) 5 = .ok (.bipush 6, 2) := by decide +kernel
theorem d_42_7 : decode (bc 42) 7 = .ok (.if_icmp .ge 24, 3) := by decide +kernel
theorem d_42_10 : decode (bc 42) 10 = .ok (.aload_n 0, 1) := by decide +kernel
theorem d_42_11 : decode (bc 42) 11 = .ok (.getfield 17, 3) := by decide +kernel
theorem q_42_17 : fq 42 17 = some (5, 1, 4, 2, true) := by decide +kernel
theorem d_42_14 : decode (bc 42) 14 = .ok (.iload_n 1, 1) := by decide +kernel
theorem d_42_15 : decode (bc 42) 15 = .ok (.aaload, 1) := by decide +kernel
theorem d_42_16 : decode (bc 42) 16 = .ok (.iload 4, 2) := by decide +kernel
theorem d_42_18 : decode (bc 42) 18 = .ok (.lload_n 2, 1) := by decide +kernel
theorem d_42_19 : decode (bc 42) 19 = .ok (.iload 4, 2) := by decide +kernel
theorem d_42_21 : decode (bc 42) 21 = .ok (.invokestatic 26, 3) := by decide +kernel
theorem q_42_26 : cq 42 26 [1, 4] = some (120, 2) := by decide +kernel
theorem d_42_24 : decode (bc 42) 24 = .ok (.iastore, 1) := by decide +kernel
theorem d_42_25 : decode (bc 42) 25 = .ok (.iinc 4 1, 3) := by decide +kernel
theorem d_42_28 : decode (bc 42) 28 = .ok (.goto (-25), 3) := by decide +kernel
theorem d_42_31 : decode (bc 42) 31 = .ok (.return_, 1) := by decide +kernel
theorem rt_42 : rty 42 = none := by decide +kernel
theorem mx_42 : mxl 42 = 5 := by decide +kernel
theorem ow_42 : (sta 42 = false ∧ own 42 = 5 ∧ hgt 42 = 1) := by decide +kernel
-- 43: SpunModules$Polynomial.computes(I)V
theorem d_43_0 : decode (bc 43) 0 = .ok (.iconst 0, 1) := by decide +kernel
theorem d_43_1 : decode (bc 43) 1 = .ok (.istore_n 2, 1) := by decide +kernel
theorem d_43_2 : decode (bc 43) 2 = .ok (.iload_n 2, 1) := by decide +kernel
theorem d_43_3 : decode (bc 43) 3 = .ok (.iload_n 1, 1) := by decide +kernel
theorem d_43_4 : decode (bc 43) 4 = .ok (.if_icmp .ge 31, 3) := by decide +kernel
theorem d_43_7 : decode (bc 43) 7 = .ok (.iconst 0, 1) := by decide +kernel
theorem d_43_8 : decode (bc 43) 8 = .ok (.istore_n 3, 1) := by decide +kernel
theorem d_43_9 : decode (bc 43) 9 = .ok (.iload_n 3, 1) := by decide +kernel
theorem d_43_10 : decode (bc 43) 10 = .ok (.iload_n 1, 1) := by decide +kernel
theorem d_43_11 : decode (bc 43) 11 = .ok (.if_icmp .ge 18, 3) := by decide +kernel
theorem d_43_14 : decode (bc 43) 14 = .ok (.aload_n 0, 1) := by decide +kernel
theorem d_43_15 : decode (bc 43) 15 = .ok (.getfield 23, 3) := by decide +kernel
theorem q_43_23 : fq 43 23 = some (5, 3, 4, 2, true) := by decide +kernel
theorem d_43_18 : decode (bc 43) 18 = .ok (.iload_n 2, 1) := by decide +kernel
theorem d_43_19 : decode (bc 43) 19 = .ok (.aaload, 1) := by decide +kernel
theorem d_43_20 : decode (bc 43) 20 = .ok (.iload_n 3, 1) := by decide +kernel
theorem d_43_21 : decode (bc 43) 21 = .ok (.iconst 0, 1) := by decide +kernel
theorem d_43_22 : decode (bc 43) 22 = .ok (.iastore, 1) := by decide +kernel
theorem d_43_23 : decode (bc 43) 23 = .ok (.iinc 3 1, 3) := by decide +kernel
theorem d_43_26 : decode (bc 43) 26 = .ok (.goto (-17), 3) := by decide +kernel
theorem d_43_29 : decode (bc 43) 29 = .ok (.iinc 2 1, 3) := by decide +kernel
theorem d_43_32 : decode (bc 43) 32 = .ok (.goto (-30), 3) := by decide +kernel
theorem d_43_35 : decode (bc 43) 35 = .ok (.aload_n 0, 1) := by decide +kernel
theorem d_43_36 : decode (bc 43) 36 = .ok (.getfield 9, 3) := by decide +kernel
theorem q_43_9 : fq 43 9 = some (5, 0, 4, 2, true) := by decide +kernel
theorem d_43_39 : decode (bc 43) 39 = .ok (.iload_n 1, 1) := by decide +kernel
theorem d_43_40 : decode (bc 43) 40 = .ok (.iconst 1, 1) := by decide +kernel
theorem d_43_41 : decode (bc 43) 41 = .ok (.iastore, 1) := by decide +kernel
theorem d_43_42 : decode (bc 43) 42 = .ok (.iconst 1, 1) := by decide +kernel
theorem d_43_43 : decode (bc 43) 43 = .ok (.istore_n 2, 1) := by decide +kernel
theorem d_43_44 : decode (bc 43) 44 = .ok (.iload_n 2, 1) := by decide +kernel
theorem d_43_45 : decode (bc 43) 45 = .ok (.iload_n 1, 1) := by decide +kernel
theorem d_43_46 : decode (bc 43) 46 = .ok (.if_icmp .gt 40, 3) := by decide +kernel
theorem d_43_49 : decode (bc 43) 49 = .ok (.aload_n 0, 1) := by decide +kernel
theorem d_43_50 : decode (bc 43) 50 = .ok (.iload_n 1, 1) := by decide +kernel
theorem d_43_51 : decode (bc 43) 51 = .ok (.aload_n 0, 1) := by decide +kernel
theorem d_43_52 : decode (bc 43) 52 = .ok (.getfield 9, 3) := by decide +kernel
theorem d_43_55 : decode (bc 43) 55 = .ok (.iload_n 1, 1) := by decide +kernel
theorem d_43_56 : decode (bc 43) 56 = .ok (.iload_n 2, 1) := by decide +kernel
theorem d_43_57 : decode (bc 43) 57 = .ok (.isub, 1) := by decide +kernel
theorem d_43_58 : decode (bc 43) 58 = .ok (.iconst 1, 1) := by decide +kernel
theorem d_43_59 : decode (bc 43) 59 = .ok (.iadd, 1) := by decide +kernel
theorem d_43_60 : decode (bc 43) 60 = .ok (.iaload, 1) := by decide +kernel
theorem d_43_61 : decode (bc 43) 61 = .ok (.invokevirtual 30, 3) := by decide +kernel
theorem q_43_30 : cq 43 30 [0, 3] = some (44, 3) := by decide +kernel
theorem d_43_64 : decode (bc 43) 64 = .ok (.aload_n 0, 1) := by decide +kernel
theorem d_43_65 : decode (bc 43) 65 = .ok (.getfield 9, 3) := by decide +kernel
theorem d_43_68 : decode (bc 43) 68 = .ok (.iload_n 1, 1) := by decide +kernel
theorem d_43_69 : decode (bc 43) 69 = .ok (.iload_n 2, 1) := by decide +kernel
theorem d_43_70 : decode (bc 43) 70 = .ok (.isub, 1) := by decide +kernel
theorem d_43_71 : decode (bc 43) 71 = .ok (.aload_n 0, 1) := by decide +kernel
theorem d_43_72 : decode (bc 43) 72 = .ok (.iload_n 1, 1) := by decide +kernel
theorem d_43_73 : decode (bc 43) 73 = .ok (.invokevirtual 34, 3) := by decide +kernel
theorem q_43_34 : cq 43 34 [0, 3] = some (45, 2) := by decide +kernel
theorem d_43_76 : decode (bc 43) 76 = .ok (.ineg, 1) := by decide +kernel
theorem d_43_77 : decode (bc 43) 77 = .ok (.iload_n 2, 1) := by decide +kernel
theorem d_43_78 : decode (bc 43) 78 = .ok (.idiv, 1) := by decide +kernel
theorem d_43_79 : decode (bc 43) 79 = .ok (.iastore, 1) := by decide +kernel
theorem d_43_80 : decode (bc 43) 80 = .ok (.iinc 2 1, 3) := by decide +kernel
theorem d_43_83 : decode (bc 43) 83 = .ok (.goto (-39), 3) := by decide +kernel
theorem d_43_86 : decode (bc 43) 86 = .ok (.return_, 1) := by decide +kernel
theorem rt_43 : rty 43 = none := by decide +kernel
theorem mx_43 : mxl 43 = 4 := by decide +kernel
theorem ow_43 : (sta 43 = false ∧ own 43 = 5 ∧ hgt 43 = 1) := by decide +kernel
-- 44: SpunModules$Polynomial.addsUnit(II)V
theorem d_44_0 : decode (bc 44) 0 = .ok (.iconst 0, 1) := by decide +kernel
theorem d_44_1 : decode (bc 44) 1 = .ok (.istore_n 3, 1) := by decide +kernel
theorem d_44_2 : decode (bc 44) 2 = .ok (.iload_n 3, 1) := by decide +kernel
theorem d_44_3 : decode (bc 44) 3 = .ok (.iload_n 1, 1) := by decide +kernel
theorem d_44_4 : decode (bc 44) 4 = .ok (.if_icmp .ge 54, 3) := by decide +kernel
theorem d_44_7 : decode (bc 44) 7 = .ok (.iconst 0, 1) := by decide +kernel
theorem d_44_8 : decode (bc 44) 8 = .ok (.istore 4, 2) := by decide +kernel
theorem d_44_10 : decode (bc 44) 10 = .ok (.iload 4, 2) := by decide +kernel
theorem d_44_12 : decode (bc 44) 12 = .ok (.iload_n 1, 1) := by decide +kernel
theorem d_44_13 : decode (bc 44) 13 = .ok (.if_icmp .ge 39, 3) := by decide +kernel
theorem d_44_16 : decode (bc 44) 16 = .ok (.aload_n 0, 1) := by decide +kernel
theorem d_44_17 : decode (bc 44) 17 = .ok (.getfield 20, 3) := by decide +kernel
theorem q_44_20 : fq 44 20 = some (5, 2, 4, 2, true) := by decide +kernel
theorem d_44_20 : decode (bc 44) 20 = .ok (.iload_n 3, 1) := by decide +kernel
theorem d_44_21 : decode (bc 44) 21 = .ok (.aaload, 1) := by decide +kernel
theorem d_44_22 : decode (bc 44) 22 = .ok (.iload 4, 2) := by decide +kernel
theorem d_44_24 : decode (bc 44) 24 = .ok (.aload_n 0, 1) := by decide +kernel
theorem d_44_25 : decode (bc 44) 25 = .ok (.getfield 23, 3) := by decide +kernel
theorem q_44_23 : fq 44 23 = some (5, 3, 4, 2, true) := by decide +kernel
theorem d_44_28 : decode (bc 44) 28 = .ok (.iload_n 3, 1) := by decide +kernel
theorem d_44_29 : decode (bc 44) 29 = .ok (.aaload, 1) := by decide +kernel
theorem d_44_30 : decode (bc 44) 30 = .ok (.iload 4, 2) := by decide +kernel
theorem d_44_32 : decode (bc 44) 32 = .ok (.iaload, 1) := by decide +kernel
theorem d_44_33 : decode (bc 44) 33 = .ok (.iload_n 3, 1) := by decide +kernel
theorem d_44_34 : decode (bc 44) 34 = .ok (.iload 4, 2) := by decide +kernel
theorem d_44_36 : decode (bc 44) 36 = .ok (.if_icmp .ne 7, 3) := by decide +kernel
theorem d_44_39 : decode (bc 44) 39 = .ok (.iload_n 2, 1) := by decide +kernel
theorem d_44_40 : decode (bc 44) 40 = .ok (.goto 4, 3) := by decide +kernel
theorem d_44_43 : decode (bc 44) 43 = .ok (.iconst 0, 1) := by decide +kernel
theorem d_44_44 : decode (bc 44) 44 = .ok (.iadd, 1) := by decide +kernel
theorem d_44_45 : decode (bc 44) 45 = .ok (.iastore, 1) := by decide +kernel
theorem d_44_46 : decode (bc 44) 46 = .ok (.iinc 4 1, 3) := by decide +kernel
theorem d_44_49 : decode (bc 44) 49 = .ok (.goto (-39), 3) := by decide +kernel
theorem d_44_52 : decode (bc 44) 52 = .ok (.iinc 3 1, 3) := by decide +kernel
theorem d_44_55 : decode (bc 44) 55 = .ok (.goto (-53), 3) := by decide +kernel
theorem d_44_58 : decode (bc 44) 58 = .ok (.return_, 1) := by decide +kernel
theorem rt_44 : rty 44 = none := by decide +kernel
theorem mx_44 : mxl 44 = 5 := by decide +kernel
theorem ow_44 : (sta 44 = false ∧ own 44 = 5 ∧ hgt 44 = 0) := by decide +kernel
-- 45: SpunModules$Polynomial.multiplied(I)I
theorem d_45_0 : decode (bc 45) 0 = .ok (.iconst 0, 1) := by decide +kernel
theorem d_45_1 : decode (bc 45) 1 = .ok (.istore_n 2, 1) := by decide +kernel
theorem d_45_2 : decode (bc 45) 2 = .ok (.iconst 0, 1) := by decide +kernel
theorem d_45_3 : decode (bc 45) 3 = .ok (.istore_n 3, 1) := by decide +kernel
theorem d_45_4 : decode (bc 45) 4 = .ok (.iload_n 3, 1) := by decide +kernel
theorem d_45_5 : decode (bc 45) 5 = .ok (.iload_n 1, 1) := by decide +kernel
theorem d_45_6 : decode (bc 45) 6 = .ok (.if_icmp .ge 89, 3) := by decide +kernel
theorem d_45_9 : decode (bc 45) 9 = .ok (.iconst 0, 1) := by decide +kernel
theorem d_45_10 : decode (bc 45) 10 = .ok (.istore 4, 2) := by decide +kernel
theorem d_45_12 : decode (bc 45) 12 = .ok (.iload 4, 2) := by decide +kernel
theorem d_45_14 : decode (bc 45) 14 = .ok (.iload_n 1, 1) := by decide +kernel
theorem d_45_15 : decode (bc 45) 15 = .ok (.if_icmp .ge 63, 3) := by decide +kernel
theorem d_45_18 : decode (bc 45) 18 = .ok (.iconst 0, 1) := by decide +kernel
theorem d_45_19 : decode (bc 45) 19 = .ok (.istore 5, 2) := by decide +kernel
theorem d_45_21 : decode (bc 45) 21 = .ok (.iconst 0, 1) := by decide +kernel
theorem d_45_22 : decode (bc 45) 22 = .ok (.istore 6, 2) := by decide +kernel
theorem d_45_24 : decode (bc 45) 24 = .ok (.iload 6, 2) := by decide +kernel
theorem d_45_26 : decode (bc 45) 26 = .ok (.iload_n 1, 1) := by decide +kernel
theorem d_45_27 : decode (bc 45) 27 = .ok (.if_icmp .ge 34, 3) := by decide +kernel
theorem d_45_30 : decode (bc 45) 30 = .ok (.iload 5, 2) := by decide +kernel
theorem d_45_32 : decode (bc 45) 32 = .ok (.aload_n 0, 1) := by decide +kernel
theorem d_45_33 : decode (bc 45) 33 = .ok (.getfield 17, 3) := by decide +kernel
theorem q_45_17 : fq 45 17 = some (5, 1, 4, 2, true) := by decide +kernel
theorem d_45_36 : decode (bc 45) 36 = .ok (.iload_n 3, 1) := by decide +kernel
theorem d_45_37 : decode (bc 45) 37 = .ok (.aaload, 1) := by decide +kernel
theorem d_45_38 : decode (bc 45) 38 = .ok (.iload 6, 2) := by decide +kernel
theorem d_45_40 : decode (bc 45) 40 = .ok (.iaload, 1) := by decide +kernel
theorem d_45_41 : decode (bc 45) 41 = .ok (.aload_n 0, 1) := by decide +kernel
theorem d_45_42 : decode (bc 45) 42 = .ok (.getfield 20, 3) := by decide +kernel
theorem q_45_20 : fq 45 20 = some (5, 2, 4, 2, true) := by decide +kernel
theorem d_45_45 : decode (bc 45) 45 = .ok (.iload 6, 2) := by decide +kernel
theorem d_45_47 : decode (bc 45) 47 = .ok (.aaload, 1) := by decide +kernel
theorem d_45_48 : decode (bc 45) 48 = .ok (.iload 4, 2) := by decide +kernel
theorem d_45_50 : decode (bc 45) 50 = .ok (.iaload, 1) := by decide +kernel
theorem d_45_51 : decode (bc 45) 51 = .ok (.imul, 1) := by decide +kernel
theorem d_45_52 : decode (bc 45) 52 = .ok (.iadd, 1) := by decide +kernel
theorem d_45_53 : decode (bc 45) 53 = .ok (.istore 5, 2) := by decide +kernel
theorem d_45_55 : decode (bc 45) 55 = .ok (.iinc 6 1, 3) := by decide +kernel
theorem d_45_58 : decode (bc 45) 58 = .ok (.goto (-34), 3) := by decide +kernel
theorem d_45_61 : decode (bc 45) 61 = .ok (.aload_n 0, 1) := by decide +kernel
theorem d_45_62 : decode (bc 45) 62 = .ok (.getfield 23, 3) := by decide +kernel
theorem q_45_23 : fq 45 23 = some (5, 3, 4, 2, true) := by decide +kernel
theorem d_45_65 : decode (bc 45) 65 = .ok (.iload_n 3, 1) := by decide +kernel
theorem d_45_66 : decode (bc 45) 66 = .ok (.aaload, 1) := by decide +kernel
theorem d_45_67 : decode (bc 45) 67 = .ok (.iload 4, 2) := by decide +kernel
theorem d_45_69 : decode (bc 45) 69 = .ok (.iload 5, 2) := by decide +kernel
theorem d_45_71 : decode (bc 45) 71 = .ok (.iastore, 1) := by decide +kernel
theorem d_45_72 : decode (bc 45) 72 = .ok (.iinc 4 1, 3) := by decide +kernel
theorem d_45_75 : decode (bc 45) 75 = .ok (.goto (-63), 3) := by decide +kernel
theorem d_45_78 : decode (bc 45) 78 = .ok (.iload_n 2, 1) := by decide +kernel
theorem d_45_79 : decode (bc 45) 79 = .ok (.aload_n 0, 1) := by decide +kernel
theorem d_45_80 : decode (bc 45) 80 = .ok (.getfield 23, 3) := by decide +kernel
theorem d_45_83 : decode (bc 45) 83 = .ok (.iload_n 3, 1) := by decide +kernel
theorem d_45_84 : decode (bc 45) 84 = .ok (.aaload, 1) := by decide +kernel
theorem d_45_85 : decode (bc 45) 85 = .ok (.iload_n 3, 1) := by decide +kernel
theorem d_45_86 : decode (bc 45) 86 = .ok (.iaload, 1) := by decide +kernel
theorem d_45_87 : decode (bc 45) 87 = .ok (.iadd, 1) := by decide +kernel
theorem d_45_88 : decode (bc 45) 88 = .ok (.istore_n 2, 1) := by decide +kernel
theorem d_45_89 : decode (bc 45) 89 = .ok (.iinc 3 1, 3) := by decide +kernel
theorem d_45_92 : decode (bc 45) 92 = .ok (.goto (-88), 3) := by decide +kernel
theorem d_45_95 : decode (bc 45) 95 = .ok (.iload_n 2, 1) := by decide +kernel
theorem d_45_96 : decode (bc 45) 96 = .ok (.ireturn, 1) := by decide +kernel
theorem rt_45 : rty 45 = some .int := by decide +kernel
theorem mx_45 : mxl 45 = 7 := by decide +kernel
theorem ow_45 : (sta 45 = false ∧ own 45 = 5 ∧ hgt 45 = 0) := by decide +kernel
-- 47: SpunModules$Socles.layerOf(LSpunModules$Action;I)I
theorem d_47_0 : decode (bc 47) 0 = .ok (.aload_n 0, 1) := by decide +kernel
theorem d_47_1 : decode (bc 47) 1 = .ok (.getfield 24, 3) := by decide +kernel
theorem q_47_24 : fq 47 24 = some (6, 1, 7, 2, true) := by decide +kernel
theorem d_47_4 : decode (bc 47) 4 = .ok (.aload_n 1, 1) := by decide +kernel
theorem d_47_5 : decode (bc 47) 5 = .ok (.invokevirtual 44, 3) := by decide +kernel
theorem q_47_44 : cq 47 44 [0, 3] = some (2, 2) := by decide +kernel
theorem d_47_8 : decode (bc 47) 8 = .ok (.iconst 0, 1) := by decide +kernel
theorem d_47_9 : decode (bc 47) 9 = .ok (.istore_n 3, 1) := by decide +kernel
theorem d_47_10 : decode (bc 47) 10 = .ok (.iload_n 3, 1) := by decide +kernel
theorem d_47_11 : decode (bc 47) 11 = .ok (.bipush 6, 2) := by decide +kernel
theorem d_47_13 : decode (bc 47) 13 = .ok (.if_icmp .ge 66, 3) := by decide +kernel
theorem d_47_16 : decode (bc 47) 16 = .ok (.aload_n 0, 1) := by decide +kernel
theorem d_47_17 : decode (bc 47) 17 = .ok (.getfield 24, 3) := by decide +kernel
theorem d_47_20 : decode (bc 47) 20 = .ok (.getfield 48, 3) := by decide +kernel
theorem q_47_48 : fq 47 48 = some (0, 1, 3, 0, false) := by decide +kernel
theorem d_47_23 : decode (bc 47) 23 = .ok (.ifCond .le 56, 3) := by decide +kernel
theorem d_47_26 : decode (bc 47) 26 = .ok (.aload_n 0, 1) := by decide +kernel
theorem d_47_27 : decode (bc 47) 27 = .ok (.invokevirtual 52, 3) := by decide +kernel
theorem q_47_52 : cq 47 52 [0, 3] = some (48, 1) := by decide +kernel
theorem d_47_30 : decode (bc 47) 30 = .ok (.aload_n 0, 1) := by decide +kernel
theorem d_47_31 : decode (bc 47) 31 = .ok (.invokevirtual 55, 3) := by decide +kernel
theorem q_47_55 : cq 47 55 [0, 3] = some (49, 1) := by decide +kernel
theorem d_47_34 : decode (bc 47) 34 = .ok (.iload_n 3, 1) := by decide +kernel
theorem d_47_35 : decode (bc 47) 35 = .ok (.iload_n 2, 1) := by decide +kernel
theorem d_47_36 : decode (bc 47) 36 = .ok (.if_icmp .ne 11, 3) := by decide +kernel
theorem d_47_39 : decode (bc 47) 39 = .ok (.aload_n 0, 1) := by decide +kernel
theorem d_47_40 : decode (bc 47) 40 = .ok (.getfield 34, 3) := by decide +kernel
theorem q_47_34 : fq 47 34 = some (6, 3, 7, 2, true) := by decide +kernel
theorem d_47_43 : decode (bc 47) 43 = .ok (.getfield 58, 3) := by decide +kernel
theorem q_47_58 : fq 47 58 = some (7, 2, 5, 0, false) := by decide +kernel
theorem d_47_46 : decode (bc 47) 46 = .ok (.ireturn, 1) := by decide +kernel
theorem d_47_47 : decode (bc 47) 47 = .ok (.aload_n 0, 1) := by decide +kernel
theorem d_47_48 : decode (bc 47) 48 = .ok (.getfield 28, 3) := by decide +kernel
theorem q_47_28 : fq 47 28 = some (6, 2, 7, 2, true) := by decide +kernel
theorem d_47_51 : decode (bc 47) 51 = .ok (.aload_n 0, 1) := by decide +kernel
theorem d_47_52 : decode (bc 47) 52 = .ok (.getfield 24, 3) := by decide +kernel
theorem d_47_55 : decode (bc 47) 55 = .ok (.aload_n 0, 1) := by decide +kernel
theorem d_47_56 : decode (bc 47) 56 = .ok (.getfield 34, 3) := by decide +kernel
theorem d_47_59 : decode (bc 47) 59 = .ok (.invokevirtual 61, 3) := by decide +kernel
theorem q_47_61 : cq 47 61 [0, 3] = some (14, 3) := by decide +kernel
theorem d_47_62 : decode (bc 47) 62 = .ok (.aload_n 0, 1) := by decide +kernel
theorem d_47_63 : decode (bc 47) 63 = .ok (.getfield 24, 3) := by decide +kernel
theorem d_47_66 : decode (bc 47) 66 = .ok (.aload_n 0, 1) := by decide +kernel
theorem d_47_67 : decode (bc 47) 67 = .ok (.getfield 28, 3) := by decide +kernel
theorem d_47_70 : decode (bc 47) 70 = .ok (.invokevirtual 44, 3) := by decide +kernel
theorem d_47_73 : decode (bc 47) 73 = .ok (.iinc 3 1, 3) := by decide +kernel
theorem d_47_76 : decode (bc 47) 76 = .ok (.goto (-66), 3) := by decide +kernel
theorem d_47_79 : decode (bc 47) 79 = .ok (.iconst (-1), 1) := by decide +kernel
theorem d_47_80 : decode (bc 47) 80 = .ok (.ireturn, 1) := by decide +kernel
theorem rt_47 : rty 47 = some .int := by decide +kernel
theorem mx_47 : mxl 47 = 4 := by decide +kernel
theorem ow_47 : (sta 47 = false ∧ own 47 = 6 ∧ hgt 47 = 6) := by decide +kernel
-- 48: SpunModules$Socles.findsDimensions()V
theorem d_48_0 : decode (bc 48) 0 = .ok (.aload_n 0, 1) := by decide +kernel
theorem d_48_1 : decode (bc 48) 1 = .ok (.getfield 24, 3) := by decide +kernel
theorem q_48_24 : fq 48 24 = some (6, 1, 7, 2, true) := by decide +kernel
theorem d_48_4 : decode (bc 48) 4 = .ok (.getfield 48, 3) := by decide +kernel
theorem q_48_48 : fq 48 48 = some (0, 1, 3, 0, false) := by decide +kernel
theorem d_48_7 : decode (bc 48) 7 = .ok (.istore_n 1, 1) := by decide +kernel
theorem d_48_8 : decode (bc 48) 8 = .ok (.iconst 0, 1) := by decide +kernel
theorem d_48_9 : decode (bc 48) 9 = .ok (.istore_n 2, 1) := by decide +kernel
theorem d_48_10 : decode (bc 48) 10 = .ok (.iload_n 2, 1) := by decide +kernel
theorem d_48_11 : decode (bc 48) 11 = .ok (.iload_n 1, 1) := by decide +kernel
theorem d_48_12 : decode (bc 48) 12 = .ok (.if_icmp .ge 93, 3) := by decide +kernel
theorem d_48_15 : decode (bc 48) 15 = .ok (.aload_n 0, 1) := by decide +kernel
theorem d_48_16 : decode (bc 48) 16 = .ok (.getfield 15, 3) := by decide +kernel
theorem q_48_15 : fq 48 15 = some (6, 0, 7, 2, true) := by decide +kernel
theorem d_48_19 : decode (bc 48) 19 = .ok (.iload_n 2, 1) := by decide +kernel
theorem d_48_20 : decode (bc 48) 20 = .ok (.invokevirtual 65, 3) := by decide +kernel
theorem q_48_65 : cq 48 65 [0, 3] = some (29, 2) := by decide +kernel
theorem d_48_23 : decode (bc 48) 23 = .ok (.istore_n 3, 1) := by decide +kernel
theorem d_48_24 : decode (bc 48) 24 = .ok (.iload_n 3, 1) := by decide +kernel
theorem d_48_25 : decode (bc 48) 25 = .ok (.istore 4, 2) := by decide +kernel
theorem d_48_27 : decode (bc 48) 27 = .ok (.iload 4, 2) := by decide +kernel
theorem d_48_29 : decode (bc 48) 29 = .ok (.iconst 2, 1) := by decide +kernel
theorem d_48_30 : decode (bc 48) 30 = .ok (.iload_n 3, 1) := by decide +kernel
theorem d_48_31 : decode (bc 48) 31 = .ok (.imul, 1) := by decide +kernel
theorem d_48_32 : decode (bc 48) 32 = .ok (.if_icmp .ge 67, 3) := by decide +kernel
theorem d_48_35 : decode (bc 48) 35 = .ok (.iload 4, 2) := by decide +kernel
theorem d_48_37 : decode (bc 48) 37 = .ok (.sipush 243, 3) := by decide +kernel
theorem d_48_40 : decode (bc 48) 40 = .ok (.if_icmp .ge 59, 3) := by decide +kernel
theorem d_48_43 : decode (bc 48) 43 = .ok (.aload_n 0, 1) := by decide +kernel
theorem d_48_44 : decode (bc 48) 44 = .ok (.getfield 38, 3) := by decide +kernel
theorem q_48_38 : fq 48 38 = some (6, 4, 7, 2, true) := by decide +kernel
theorem d_48_47 : decode (bc 48) 47 = .ok (.iload_n 1, 1) := by decide +kernel
theorem d_48_48 : decode (bc 48) 48 = .ok (.invokevirtual 71, 3) := by decide +kernel
theorem q_48_71 : cq 48 71 [0, 3] = some (52, 2) := by decide +kernel
theorem d_48_51 : decode (bc 48) 51 = .ok (.aload_n 0, 1) := by decide +kernel
theorem d_48_52 : decode (bc 48) 52 = .ok (.getfield 38, 3) := by decide +kernel
theorem d_48_55 : decode (bc 48) 55 = .ok (.aload_n 0, 1) := by decide +kernel
theorem d_48_56 : decode (bc 48) 56 = .ok (.getfield 15, 3) := by decide +kernel
theorem d_48_59 : decode (bc 48) 59 = .ok (.iload 4, 2) := by decide +kernel
theorem d_48_61 : decode (bc 48) 61 = .ok (.iload_n 1, 1) := by decide +kernel
theorem d_48_62 : decode (bc 48) 62 = .ok (.invokevirtual 75, 3) := by decide +kernel
theorem q_48_75 : cq 48 75 [0, 3] = some (31, 3) := by decide +kernel
theorem d_48_65 : decode (bc 48) 65 = .ok (.invokevirtual 79, 3) := by decide +kernel
theorem q_48_79 : cq 48 79 [0, 3] = some (56, 2) := by decide +kernel
theorem d_48_68 : decode (bc 48) 68 = .ok (.aload_n 0, 1) := by decide +kernel
theorem d_48_69 : decode (bc 48) 69 = .ok (.getfield 38, 3) := by decide +kernel
theorem d_48_72 : decode (bc 48) 72 = .ok (.aload_n 0, 1) := by decide +kernel
theorem d_48_73 : decode (bc 48) 73 = .ok (.getfield 24, 3) := by decide +kernel
theorem d_48_76 : decode (bc 48) 76 = .ok (.invokevirtual 83, 3) := by decide +kernel
theorem q_48_83 : cq 48 83 [0, 3] = some (57, 2) := by decide +kernel
theorem d_48_79 : decode (bc 48) 79 = .ok (.aload_n 0, 1) := by decide +kernel
theorem d_48_80 : decode (bc 48) 80 = .ok (.getfield 9, 3) := by decide +kernel
theorem q_48_9 : fq 48 9 = some (6, 6, 7, 2, true) := by decide +kernel
theorem d_48_83 : decode (bc 48) 83 = .ok (.iload 4, 2) := by decide +kernel
theorem d_48_85 : decode (bc 48) 85 = .ok (.aload_n 0, 1) := by decide +kernel
theorem d_48_86 : decode (bc 48) 86 = .ok (.getfield 38, 3) := by decide +kernel
theorem d_48_89 : decode (bc 48) 89 = .ok (.getfield 58, 3) := by decide +kernel
theorem q_48_58 : fq 48 58 = some (7, 2, 5, 0, false) := by decide +kernel
theorem d_48_92 : decode (bc 48) 92 = .ok (.iastore, 1) := by decide +kernel
theorem d_48_93 : decode (bc 48) 93 = .ok (.iinc 4 1, 3) := by decide +kernel
theorem d_48_96 : decode (bc 48) 96 = .ok (.goto (-69), 3) := by decide +kernel
theorem d_48_99 : decode (bc 48) 99 = .ok (.iinc 2 1, 3) := by decide +kernel
theorem d_48_102 : decode (bc 48) 102 = .ok (.goto (-92), 3) := by decide +kernel
theorem d_48_105 : decode (bc 48) 105 = .ok (.return_, 1) := by decide +kernel
theorem rt_48 : rty 48 = none := by decide +kernel
theorem mx_48 : mxl 48 = 5 := by decide +kernel
theorem ow_48 : (sta 48 = false ∧ own 48 = 6 ∧ hgt 48 = 4) := by decide +kernel
-- 49: SpunModules$Socles.findsSocle()V
theorem d_49_0 : decode (bc 49) 0 = .ok (.aload_n 0, 1) := by decide +kernel
theorem d_49_1 : decode (bc 49) 1 = .ok (.getfield 24, 3) := by decide +kernel
theorem q_49_24 : fq 49 24 = some (6, 1, 7, 2, true) := by decide +kernel
theorem d_49_4 : decode (bc 49) 4 = .ok (.getfield 48, 3) := by decide +kernel
theorem q_49_48 : fq 49 48 = some (0, 1, 3, 0, false) := by decide +kernel
theorem d_49_7 : decode (bc 49) 7 = .ok (.istore_n 1, 1) := by decide +kernel
theorem d_49_8 : decode (bc 49) 8 = .ok (.aload_n 0, 1) := by decide +kernel
theorem d_49_9 : decode (bc 49) 9 = .ok (.getfield 34, 3) := by decide +kernel
theorem q_49_34 : fq 49 34 = some (6, 3, 7, 2, true) := by decide +kernel
theorem d_49_12 : decode (bc 49) 12 = .ok (.iload_n 1, 1) := by decide +kernel
theorem d_49_13 : decode (bc 49) 13 = .ok (.invokevirtual 71, 3) := by decide +kernel
theorem q_49_71 : cq 49 71 [0, 3] = some (52, 2) := by decide +kernel
theorem d_49_16 : decode (bc 49) 16 = .ok (.iconst 1, 1) := by decide +kernel
theorem d_49_17 : decode (bc 49) 17 = .ok (.istore_n 2, 1) := by decide +kernel
theorem d_49_18 : decode (bc 49) 18 = .ok (.iload_n 2, 1) := by decide +kernel
theorem d_49_19 : decode (bc 49) 19 = .ok (.iload_n 1, 1) := by decide +kernel
theorem d_49_20 : decode (bc 49) 20 = .ok (.if_icmp .gt 84, 3) := by decide +kernel
theorem d_49_23 : decode (bc 49) 23 = .ok (.iconst 0, 1) := by decide +kernel
theorem d_49_24 : decode (bc 49) 24 = .ok (.istore_n 3, 1) := by decide +kernel
theorem d_49_25 : decode (bc 49) 25 = .ok (.iload_n 3, 1) := by decide +kernel
theorem d_49_26 : decode (bc 49) 26 = .ok (.iload_n 1, 1) := by decide +kernel
theorem d_49_27 : decode (bc 49) 27 = .ok (.if_icmp .ge 71, 3) := by decide +kernel
theorem d_49_30 : decode (bc 49) 30 = .ok (.aload_n 0, 1) := by decide +kernel
theorem d_49_31 : decode (bc 49) 31 = .ok (.getfield 15, 3) := by decide +kernel
theorem q_49_15 : fq 49 15 = some (6, 0, 7, 2, true) := by decide +kernel
theorem d_49_34 : decode (bc 49) 34 = .ok (.iload_n 3, 1) := by decide +kernel
theorem d_49_35 : decode (bc 49) 35 = .ok (.invokevirtual 65, 3) := by decide +kernel
theorem q_49_65 : cq 49 65 [0, 3] = some (29, 2) := by decide +kernel
theorem d_49_38 : decode (bc 49) 38 = .ok (.istore 4, 2) := by decide +kernel
theorem d_49_40 : decode (bc 49) 40 = .ok (.iload 4, 2) := by decide +kernel
theorem d_49_42 : decode (bc 49) 42 = .ok (.istore 5, 2) := by decide +kernel
theorem d_49_44 : decode (bc 49) 44 = .ok (.iload 5, 2) := by decide +kernel
theorem d_49_46 : decode (bc 49) 46 = .ok (.iconst 2, 1) := by decide +kernel
theorem d_49_47 : decode (bc 49) 47 = .ok (.iload 4, 2) := by decide +kernel
theorem d_49_49 : decode (bc 49) 49 = .ok (.imul, 1) := by decide +kernel
theorem d_49_50 : decode (bc 49) 50 = .ok (.if_icmp .ge 42, 3) := by decide +kernel
theorem d_49_53 : decode (bc 49) 53 = .ok (.iload 5, 2) := by decide +kernel
theorem d_49_55 : decode (bc 49) 55 = .ok (.sipush 243, 3) := by decide +kernel
theorem d_49_58 : decode (bc 49) 58 = .ok (.if_icmp .ge 34, 3) := by decide +kernel
theorem d_49_61 : decode (bc 49) 61 = .ok (.aload_n 0, 1) := by decide +kernel
theorem d_49_62 : decode (bc 49) 62 = .ok (.getfield 9, 3) := by decide +kernel
theorem q_49_9 : fq 49 9 = some (6, 6, 7, 2, true) := by decide +kernel
theorem d_49_65 : decode (bc 49) 65 = .ok (.iload 5, 2) := by decide +kernel
theorem d_49_67 : decode (bc 49) 67 = .ok (.iaload, 1) := by decide +kernel
theorem d_49_68 : decode (bc 49) 68 = .ok (.iload_n 2, 1) := by decide +kernel
theorem d_49_69 : decode (bc 49) 69 = .ok (.if_icmp .ne 17, 3) := by decide +kernel
theorem d_49_72 : decode (bc 49) 72 = .ok (.aload_n 0, 1) := by decide +kernel
theorem d_49_73 : decode (bc 49) 73 = .ok (.aload_n 0, 1) := by decide +kernel
theorem d_49_74 : decode (bc 49) 74 = .ok (.getfield 15, 3) := by decide +kernel
theorem d_49_77 : decode (bc 49) 77 = .ok (.iload 5, 2) := by decide +kernel
theorem d_49_79 : decode (bc 49) 79 = .ok (.iload_n 1, 1) := by decide +kernel
theorem d_49_80 : decode (bc 49) 80 = .ok (.invokevirtual 75, 3) := by decide +kernel
theorem q_49_75 : cq 49 75 [0, 3] = some (31, 3) := by decide +kernel
theorem d_49_83 : decode (bc 49) 83 = .ok (.invokevirtual 86, 3) := by decide +kernel
theorem q_49_86 : cq 49 86 [0, 3] = some (50, 2) := by decide +kernel
theorem d_49_86 : decode (bc 49) 86 = .ok (.iinc 5 1, 3) := by decide +kernel
theorem d_49_89 : decode (bc 49) 89 = .ok (.goto (-45), 3) := by decide +kernel
theorem d_49_92 : decode (bc 49) 92 = .ok (.iinc 3 1, 3) := by decide +kernel
theorem d_49_95 : decode (bc 49) 95 = .ok (.goto (-70), 3) := by decide +kernel
theorem d_49_98 : decode (bc 49) 98 = .ok (.iinc 2 1, 3) := by decide +kernel
theorem d_49_101 : decode (bc 49) 101 = .ok (.goto (-83), 3) := by decide +kernel
theorem d_49_104 : decode (bc 49) 104 = .ok (.return_, 1) := by decide +kernel
theorem rt_49 : rty 49 = none := by decide +kernel
theorem mx_49 : mxl 49 = 6 := by decide +kernel
theorem ow_49 : (sta 49 = false ∧ own 49 = 6 ∧ hgt 49 = 5) := by decide +kernel
-- 50: SpunModules$Socles.addsIfSimple(J)V
theorem d_50_0 : decode (bc 50) 0 = .ok (.aload_n 0, 1) := by decide +kernel
theorem d_50_1 : decode (bc 50) 1 = .ok (.getfield 34, 3) := by decide +kernel
theorem q_50_34 : fq 50 34 = some (6, 3, 7, 2, true) := by decide +kernel
theorem d_50_4 : decode (bc 50) 4 = .ok (.lload_n 1, 1) := by decide +kernel
theorem d_50_5 : decode (bc 50) 5 = .ok (.invokevirtual 89, 3) := by decide +kernel
theorem q_50_89 : cq 50 89 [0, 3] = some (55, 2) := by decide +kernel
theorem d_50_8 : decode (bc 50) 8 = .ok (.invokestatic 93, 3) := by decide +kernel
theorem q_50_93 : cq 50 93 [1, 4] = some (122, 1) := by decide +kernel
theorem d_50_11 : decode (bc 50) 11 = .ok (.ifCond .eq 4, 3) := by decide +kernel
theorem d_50_14 : decode (bc 50) 14 = .ok (.return_, 1) := by decide +kernel
theorem d_50_15 : decode (bc 50) 15 = .ok (.aload_n 0, 1) := by decide +kernel
theorem d_50_16 : decode (bc 50) 16 = .ok (.getfield 38, 3) := by decide +kernel
theorem q_50_38 : fq 50 38 = some (6, 4, 7, 2, true) := by decide +kernel
theorem d_50_19 : decode (bc 50) 19 = .ok (.aload_n 0, 1) := by decide +kernel
theorem d_50_20 : decode (bc 50) 20 = .ok (.getfield 24, 3) := by decide +kernel
theorem q_50_24 : fq 50 24 = some (6, 1, 7, 2, true) := by decide +kernel
theorem d_50_23 : decode (bc 50) 23 = .ok (.getfield 48, 3) := by decide +kernel
theorem q_50_48 : fq 50 48 = some (0, 1, 3, 0, false) := by decide +kernel
theorem d_50_26 : decode (bc 50) 26 = .ok (.invokevirtual 71, 3) := by decide +kernel
theorem q_50_71 : cq 50 71 [0, 3] = some (52, 2) := by decide +kernel
theorem d_50_29 : decode (bc 50) 29 = .ok (.aload_n 0, 1) := by decide +kernel
theorem d_50_30 : decode (bc 50) 30 = .ok (.getfield 38, 3) := by decide +kernel
theorem d_50_33 : decode (bc 50) 33 = .ok (.lload_n 1, 1) := by decide +kernel
theorem d_50_34 : decode (bc 50) 34 = .ok (.invokevirtual 79, 3) := by decide +kernel
theorem q_50_79 : cq 50 79 [0, 3] = some (56, 2) := by decide +kernel
theorem d_50_37 : decode (bc 50) 37 = .ok (.aload_n 0, 1) := by decide +kernel
theorem d_50_38 : decode (bc 50) 38 = .ok (.getfield 38, 3) := by decide +kernel
theorem d_50_41 : decode (bc 50) 41 = .ok (.aload_n 0, 1) := by decide +kernel
theorem d_50_42 : decode (bc 50) 42 = .ok (.getfield 24, 3) := by decide +kernel
theorem d_50_45 : decode (bc 50) 45 = .ok (.invokevirtual 83, 3) := by decide +kernel
theorem q_50_83 : cq 50 83 [0, 3] = some (57, 2) := by decide +kernel
theorem d_50_48 : decode (bc 50) 48 = .ok (.aload_n 0, 1) := by decide +kernel
theorem d_50_49 : decode (bc 50) 49 = .ok (.getfield 41, 3) := by decide +kernel
theorem q_50_41 : fq 50 41 = some (6, 5, 7, 2, true) := by decide +kernel
theorem d_50_52 : decode (bc 50) 52 = .ok (.aload_n 0, 1) := by decide +kernel
theorem d_50_53 : decode (bc 50) 53 = .ok (.getfield 34, 3) := by decide +kernel
theorem d_50_56 : decode (bc 50) 56 = .ok (.invokevirtual 97, 3) := by decide +kernel
theorem q_50_97 : cq 50 97 [0, 3] = some (53, 2) := by decide +kernel
theorem d_50_59 : decode (bc 50) 59 = .ok (.iconst 0, 1) := by decide +kernel
theorem d_50_60 : decode (bc 50) 60 = .ok (.istore_n 3, 1) := by decide +kernel
theorem d_50_61 : decode (bc 50) 61 = .ok (.iload_n 3, 1) := by decide +kernel
theorem d_50_62 : decode (bc 50) 62 = .ok (.aload_n 0, 1) := by decide +kernel
theorem d_50_63 : decode (bc 50) 63 = .ok (.getfield 38, 3) := by decide +kernel
theorem d_50_66 : decode (bc 50) 66 = .ok (.getfield 58, 3) := by decide +kernel
theorem q_50_58 : fq 50 58 = some (7, 2, 5, 0, false) := by decide +kernel
theorem d_50_69 : decode (bc 50) 69 = .ok (.if_icmp .ge 25, 3) := by decide +kernel
theorem d_50_72 : decode (bc 50) 72 = .ok (.aload_n 0, 1) := by decide +kernel
theorem d_50_73 : decode (bc 50) 73 = .ok (.getfield 41, 3) := by decide +kernel
theorem d_50_76 : decode (bc 50) 76 = .ok (.aload_n 0, 1) := by decide +kernel
theorem d_50_77 : decode (bc 50) 77 = .ok (.getfield 38, 3) := by decide +kernel
theorem d_50_80 : decode (bc 50) 80 = .ok (.getfield 100, 3) := by decide +kernel
theorem q_50_100 : fq 50 100 = some (7, 4, 5, 2, true) := by decide +kernel
theorem d_50_83 : decode (bc 50) 83 = .ok (.iload_n 3, 1) := by decide +kernel
theorem d_50_84 : decode (bc 50) 84 = .ok (.laload, 1) := by decide +kernel
theorem d_50_85 : decode (bc 50) 85 = .ok (.invokevirtual 79, 3) := by decide +kernel
theorem d_50_88 : decode (bc 50) 88 = .ok (.iinc 3 1, 3) := by decide +kernel
theorem d_50_91 : decode (bc 50) 91 = .ok (.goto (-30), 3) := by decide +kernel
theorem d_50_94 : decode (bc 50) 94 = .ok (.aload_n 0, 1) := by decide +kernel
theorem d_50_95 : decode (bc 50) 95 = .ok (.getfield 41, 3) := by decide +kernel
theorem d_50_98 : decode (bc 50) 98 = .ok (.getfield 58, 3) := by decide +kernel
theorem d_50_101 : decode (bc 50) 101 = .ok (.aload_n 0, 1) := by decide +kernel
theorem d_50_102 : decode (bc 50) 102 = .ok (.getfield 34, 3) := by decide +kernel
theorem d_50_105 : decode (bc 50) 105 = .ok (.getfield 58, 3) := by decide +kernel
theorem d_50_108 : decode (bc 50) 108 = .ok (.aload_n 0, 1) := by decide +kernel
theorem d_50_109 : decode (bc 50) 109 = .ok (.getfield 38, 3) := by decide +kernel
theorem d_50_112 : decode (bc 50) 112 = .ok (.getfield 58, 3) := by decide +kernel
theorem d_50_115 : decode (bc 50) 115 = .ok (.iadd, 1) := by decide +kernel
theorem d_50_116 : decode (bc 50) 116 = .ok (.if_icmp .ne 14, 3) := by decide +kernel
theorem d_50_119 : decode (bc 50) 119 = .ok (.aload_n 0, 1) := by decide +kernel
theorem d_50_120 : decode (bc 50) 120 = .ok (.getfield 34, 3) := by decide +kernel
theorem d_50_123 : decode (bc 50) 123 = .ok (.aload_n 0, 1) := by decide +kernel
theorem d_50_124 : decode (bc 50) 124 = .ok (.getfield 41, 3) := by decide +kernel
theorem d_50_127 : decode (bc 50) 127 = .ok (.invokevirtual 97, 3) := by decide +kernel
theorem d_50_130 : decode (bc 50) 130 = .ok (.return_, 1) := by decide +kernel
theorem rt_50 : rty 50 = none := by decide +kernel
theorem mx_50 : mxl 50 = 4 := by decide +kernel
theorem ow_50 : (sta 50 = false ∧ own 50 = 6 ∧ hgt 50 = 4) := by decide +kernel
-- 52: SpunModules$Space.empties(I)V
theorem d_52_0 : decode (bc 52) 0 = .ok (.aload_n 0, 1) := by decide +kernel
theorem d_52_1 : decode (bc 52) 1 = .ok (.iload_n 1, 1) := by decide +kernel
theorem d_52_2 : decode (bc 52) 2 = .ok (.putfield 9, 3) := by decide +kernel
theorem q_52_9 : fq 52 9 = some (7, 1, 5, 0, false) := by decide +kernel
theorem d_52_5 : decode (bc 52) 5 = .ok (.aload_n 0, 1) := by decide +kernel
theorem d_52_6 : decode (bc 52) 6 = .ok (.iconst 0, 1) := by decide +kernel
theorem d_52_7 : decode (bc 52) 7 = .ok (.putfield 15, 3) := by decide +kernel
theorem q_52_15 : fq 52 15 = some (7, 2, 5, 0, false) := by decide +kernel
theorem d_52_10 : decode (bc 52) 10 = .ok (.iconst 0, 1) := by decide +kernel
theorem d_52_11 : decode (bc 52) 11 = .ok (.istore_n 2, 1) := by decide +kernel
theorem d_52_12 : decode (bc 52) 12 = .ok (.iload_n 2, 1) := by decide +kernel
theorem d_52_13 : decode (bc 52) 13 = .ok (.bipush 6, 2) := by decide +kernel
theorem d_52_15 : decode (bc 52) 15 = .ok (.if_icmp .ge 16, 3) := by decide +kernel
theorem d_52_18 : decode (bc 52) 18 = .ok (.aload_n 0, 1) := by decide +kernel
theorem d_52_19 : decode (bc 52) 19 = .ok (.getfield 18, 3) := by decide +kernel
theorem q_52_18 : fq 52 18 = some (7, 3, 5, 2, true) := by decide +kernel
theorem d_52_22 : decode (bc 52) 22 = .ok (.iload_n 2, 1) := by decide +kernel
theorem d_52_23 : decode (bc 52) 23 = .ok (.lconst 0, 1) := by decide +kernel
theorem d_52_24 : decode (bc 52) 24 = .ok (.lastore, 1) := by decide +kernel
theorem d_52_25 : decode (bc 52) 25 = .ok (.iinc 2 1, 3) := by decide +kernel
theorem d_52_28 : decode (bc 52) 28 = .ok (.goto (-16), 3) := by decide +kernel
theorem d_52_31 : decode (bc 52) 31 = .ok (.return_, 1) := by decide +kernel
theorem rt_52 : rty 52 = none := by decide +kernel
theorem mx_52 : mxl 52 = 3 := by decide +kernel
theorem ow_52 : (sta 52 = false ∧ own 52 = 7 ∧ hgt 52 = 0) := by decide +kernel
-- 53: SpunModules$Space.copies(LSpunModules$Space;)V
theorem d_53_0 : decode (bc 53) 0 = .ok (.aload_n 0, 1) := by decide +kernel
theorem d_53_1 : decode (bc 53) 1 = .ok (.aload_n 1, 1) := by decide +kernel
theorem d_53_2 : decode (bc 53) 2 = .ok (.getfield 9, 3) := by decide +kernel
theorem q_53_9 : fq 53 9 = some (7, 1, 5, 0, false) := by decide +kernel
theorem d_53_5 : decode (bc 53) 5 = .ok (.putfield 9, 3) := by decide +kernel
theorem d_53_8 : decode (bc 53) 8 = .ok (.aload_n 0, 1) := by decide +kernel
theorem d_53_9 : decode (bc 53) 9 = .ok (.aload_n 1, 1) := by decide +kernel
theorem d_53_10 : decode (bc 53) 10 = .ok (.getfield 15, 3) := by decide +kernel
theorem q_53_15 : fq 53 15 = some (7, 2, 5, 0, false) := by decide +kernel
theorem d_53_13 : decode (bc 53) 13 = .ok (.putfield 15, 3) := by decide +kernel
theorem d_53_16 : decode (bc 53) 16 = .ok (.aload_n 1, 1) := by decide +kernel
theorem d_53_17 : decode (bc 53) 17 = .ok (.getfield 18, 3) := by decide +kernel
theorem q_53_18 : fq 53 18 = some (7, 3, 5, 2, true) := by decide +kernel
theorem d_53_20 : decode (bc 53) 20 = .ok (.iconst 0, 1) := by decide +kernel
theorem d_53_21 : decode (bc 53) 21 = .ok (.aload_n 0, 1) := by decide +kernel
theorem d_53_22 : decode (bc 53) 22 = .ok (.getfield 18, 3) := by decide +kernel
theorem d_53_25 : decode (bc 53) 25 = .ok (.iconst 0, 1) := by decide +kernel
theorem d_53_26 : decode (bc 53) 26 = .ok (.bipush 6, 2) := by decide +kernel
theorem d_53_28 : decode (bc 53) 28 = .ok (.invokestatic 29, 3) := by decide +kernel
theorem q_53_29 : (mlk (own 53) 29).map (fun e => e.2.2.2.1) = some 7 := by decide +kernel
theorem d_53_31 : decode (bc 53) 31 = .ok (.aload_n 1, 1) := by decide +kernel
theorem d_53_32 : decode (bc 53) 32 = .ok (.getfield 22, 3) := by decide +kernel
theorem q_53_22 : fq 53 22 = some (7, 4, 5, 2, true) := by decide +kernel
theorem d_53_35 : decode (bc 53) 35 = .ok (.iconst 0, 1) := by decide +kernel
theorem d_53_36 : decode (bc 53) 36 = .ok (.aload_n 0, 1) := by decide +kernel
theorem d_53_37 : decode (bc 53) 37 = .ok (.getfield 22, 3) := by decide +kernel
theorem d_53_40 : decode (bc 53) 40 = .ok (.iconst 0, 1) := by decide +kernel
theorem d_53_41 : decode (bc 53) 41 = .ok (.bipush 6, 2) := by decide +kernel
theorem d_53_43 : decode (bc 53) 43 = .ok (.invokestatic 29, 3) := by decide +kernel
theorem d_53_46 : decode (bc 53) 46 = .ok (.return_, 1) := by decide +kernel
theorem rt_53 : rty 53 = none := by decide +kernel
theorem mx_53 : mxl 53 = 2 := by decide +kernel
theorem ow_53 : (sta 53 = false ∧ own 53 = 7 ∧ hgt 53 = 1) := by decide +kernel
-- 54: SpunModules$Space.hasPivot(I)Z
theorem d_54_0 : decode (bc 54) 0 = .ok (.aload_n 0, 1) := by decide +kernel
theorem d_54_1 : decode (bc 54) 1 = .ok (.getfield 18, 3) := by decide +kernel
theorem q_54_18 : fq 54 18 = some (7, 3, 5, 2, true) := by decide +kernel
theorem d_54_4 : decode (bc 54) 4 = .ok (.iload_n 1, 1) := by decide +kernel
theorem d_54_5 : decode (bc 54) 5 = .ok (.laload, 1) := by decide +kernel
theorem d_54_6 : decode (bc 54) 6 = .ok (.lconst 0, 1) := by decide +kernel
theorem d_54_7 : decode (bc 54) 7 = .ok (.lcmp, 1) := by decide +kernel
theorem d_54_8 : decode (bc 54) 8 = .ok (.ifCond .eq 7, 3) := by decide +kernel
theorem d_54_11 : decode (bc 54) 11 = .ok (.iconst 1, 1) := by decide +kernel
theorem d_54_12 : decode (bc 54) 12 = .ok (.goto 4, 3) := by decide +kernel
theorem d_54_15 : decode (bc 54) 15 = .ok (.iconst 0, 1) := by decide +kernel
theorem d_54_16 : decode (bc 54) 16 = .ok (.ireturn, 1) := by decide +kernel
theorem rt_54 : rty 54 = some .boolean := by decide +kernel
theorem mx_54 : mxl 54 = 2 := by decide +kernel
theorem ow_54 : (sta 54 = false ∧ own 54 = 7 ∧ hgt 54 = 0) := by decide +kernel
-- 55: SpunModules$Space.reduced(J)J
theorem d_55_0 : decode (bc 55) 0 = .ok (.lload_n 1, 1) := by decide +kernel
theorem d_55_1 : decode (bc 55) 1 = .ok (.lstore_n 3, 1) := by decide +kernel
theorem d_55_2 : decode (bc 55) 2 = .ok (.iconst 0, 1) := by decide +kernel
theorem d_55_3 : decode (bc 55) 3 = .ok (.istore 5, 2) := by decide +kernel
theorem d_55_5 : decode (bc 55) 5 = .ok (.iload 5, 2) := by decide +kernel
theorem d_55_7 : decode (bc 55) 7 = .ok (.aload_n 0, 1) := by decide +kernel
theorem d_55_8 : decode (bc 55) 8 = .ok (.getfield 9, 3) := by decide +kernel
theorem q_55_9 : fq 55 9 = some (7, 1, 5, 0, false) := by decide +kernel
theorem d_55_11 : decode (bc 55) 11 = .ok (.if_icmp .ge 63, 3) := by decide +kernel
theorem d_55_14 : decode (bc 55) 14 = .ok (.aload_n 0, 1) := by decide +kernel
theorem d_55_15 : decode (bc 55) 15 = .ok (.getfield 18, 3) := by decide +kernel
theorem q_55_18 : fq 55 18 = some (7, 3, 5, 2, true) := by decide +kernel
theorem d_55_18 : decode (bc 55) 18 = .ok (.iload 5, 2) := by decide +kernel
theorem d_55_20 : decode (bc 55) 20 = .ok (.laload, 1) := by decide +kernel
theorem d_55_21 : decode (bc 55) 21 = .ok (.lconst 0, 1) := by decide +kernel
theorem d_55_22 : decode (bc 55) 22 = .ok (.lcmp, 1) := by decide +kernel
theorem d_55_23 : decode (bc 55) 23 = .ok (.ifCond .ne 7, 3) := by decide +kernel
theorem d_55_26 : decode (bc 55) 26 = .ok (.iconst 0, 1) := by decide +kernel
theorem d_55_27 : decode (bc 55) 27 = .ok (.goto 9, 3) := by decide +kernel
theorem d_55_30 : decode (bc 55) 30 = .ok (.lload_n 3, 1) := by decide +kernel
theorem d_55_31 : decode (bc 55) 31 = .ok (.iload 5, 2) := by decide +kernel
theorem d_55_33 : decode (bc 55) 33 = .ok (.invokestatic 35, 3) := by decide +kernel
theorem q_55_35 : cq 55 35 [1, 4] = some (120, 2) := by decide +kernel
theorem d_55_36 : decode (bc 55) 36 = .ok (.istore 6, 2) := by decide +kernel
theorem d_55_38 : decode (bc 55) 38 = .ok (.iload 6, 2) := by decide +kernel
theorem d_55_40 : decode (bc 55) 40 = .ok (.ifCond .eq 28, 3) := by decide +kernel
theorem d_55_43 : decode (bc 55) 43 = .ok (.aload_n 0, 1) := by decide +kernel
theorem d_55_44 : decode (bc 55) 44 = .ok (.getfield 25, 3) := by decide +kernel
theorem q_55_25 : fq 55 25 = some (7, 0, 5, 2, true) := by decide +kernel
theorem d_55_47 : decode (bc 55) 47 = .ok (.lload_n 3, 1) := by decide +kernel
theorem d_55_48 : decode (bc 55) 48 = .ok (.aload_n 0, 1) := by decide +kernel
theorem d_55_49 : decode (bc 55) 49 = .ok (.getfield 25, 3) := by decide +kernel
theorem d_55_52 : decode (bc 55) 52 = .ok (.iload 6, 2) := by decide +kernel
theorem d_55_54 : decode (bc 55) 54 = .ok (.invokevirtual 39, 3) := by decide +kernel
theorem q_55_39 : cq 55 39 [0, 3] = some (28, 2) := by decide +kernel
theorem d_55_57 : decode (bc 55) 57 = .ok (.aload_n 0, 1) := by decide +kernel
theorem d_55_58 : decode (bc 55) 58 = .ok (.getfield 18, 3) := by decide +kernel
theorem d_55_61 : decode (bc 55) 61 = .ok (.iload 5, 2) := by decide +kernel
theorem d_55_63 : decode (bc 55) 63 = .ok (.laload, 1) := by decide +kernel
theorem d_55_64 : decode (bc 55) 64 = .ok (.invokevirtual 45, 3) := by decide +kernel
theorem q_55_45 : cq 55 45 [0, 3] = some (30, 4) := by decide +kernel
theorem d_55_67 : decode (bc 55) 67 = .ok (.lstore_n 3, 1) := by decide +kernel
theorem d_55_68 : decode (bc 55) 68 = .ok (.iinc 5 1, 3) := by decide +kernel
theorem d_55_71 : decode (bc 55) 71 = .ok (.goto (-66), 3) := by decide +kernel
theorem d_55_74 : decode (bc 55) 74 = .ok (.lload_n 3, 1) := by decide +kernel
theorem d_55_75 : decode (bc 55) 75 = .ok (.lreturn, 1) := by decide +kernel
theorem rt_55 : rty 55 = some .long := by decide +kernel
theorem mx_55 : mxl 55 = 7 := by decide +kernel
theorem ow_55 : (sta 55 = false ∧ own 55 = 7 ∧ hgt 55 = 1) := by decide +kernel
-- 56: SpunModules$Space.takes(J)V
theorem d_56_0 : decode (bc 56) 0 = .ok (.aload_n 0, 1) := by decide +kernel
theorem d_56_1 : decode (bc 56) 1 = .ok (.lload_n 1, 1) := by decide +kernel
theorem d_56_2 : decode (bc 56) 2 = .ok (.invokevirtual 49, 3) := by decide +kernel
theorem q_56_49 : cq 56 49 [0, 3] = some (55, 2) := by decide +kernel
theorem d_56_5 : decode (bc 56) 5 = .ok (.lstore_n 3, 1) := by decide +kernel
theorem d_56_6 : decode (bc 56) 6 = .ok (.lload_n 3, 1) := by decide +kernel
theorem d_56_7 : decode (bc 56) 7 = .ok (.invokestatic 53, 3) := by decide +kernel
theorem q_56_53 : cq 56 53 [1, 4] = some (123, 1) := by decide +kernel
theorem d_56_10 : decode (bc 56) 10 = .ok (.istore 5, 2) := by decide +kernel
theorem d_56_12 : decode (bc 56) 12 = .ok (.iload 5, 2) := by decide +kernel
theorem d_56_14 : decode (bc 56) 14 = .ok (.aload_n 0, 1) := by decide +kernel
theorem d_56_15 : decode (bc 56) 15 = .ok (.getfield 9, 3) := by decide +kernel
theorem q_56_9 : fq 56 9 = some (7, 1, 5, 0, false) := by decide +kernel
theorem d_56_18 : decode (bc 56) 18 = .ok (.if_icmp .ge 14, 3) := by decide +kernel
theorem d_56_21 : decode (bc 56) 21 = .ok (.aload_n 0, 1) := by decide +kernel
theorem d_56_22 : decode (bc 56) 22 = .ok (.getfield 15, 3) := by decide +kernel
theorem q_56_15 : fq 56 15 = some (7, 2, 5, 0, false) := by decide +kernel
theorem d_56_25 : decode (bc 56) 25 = .ok (.aload_n 0, 1) := by decide +kernel
theorem d_56_26 : decode (bc 56) 26 = .ok (.getfield 9, 3) := by decide +kernel
theorem d_56_29 : decode (bc 56) 29 = .ok (.if_icmp .lt 4, 3) := by decide +kernel
theorem d_56_32 : decode (bc 56) 32 = .ok (.return_, 1) := by decide +kernel
theorem d_56_33 : decode (bc 56) 33 = .ok (.aload_n 0, 1) := by decide +kernel
theorem d_56_34 : decode (bc 56) 34 = .ok (.getfield 22, 3) := by decide +kernel
theorem q_56_22 : fq 56 22 = some (7, 4, 5, 2, true) := by decide +kernel
theorem d_56_37 : decode (bc 56) 37 = .ok (.aload_n 0, 1) := by decide +kernel
theorem d_56_38 : decode (bc 56) 38 = .ok (.getfield 15, 3) := by decide +kernel
theorem d_56_41 : decode (bc 56) 41 = .ok (.lload_n 1, 1) := by decide +kernel
theorem d_56_42 : decode (bc 56) 42 = .ok (.lastore, 1) := by decide +kernel
theorem d_56_43 : decode (bc 56) 43 = .ok (.aload_n 0, 1) := by decide +kernel
theorem d_56_44 : decode (bc 56) 44 = .ok (.dup, 1) := by decide +kernel
theorem d_56_45 : decode (bc 56) 45 = .ok (.getfield 15, 3) := by decide +kernel
theorem d_56_48 : decode (bc 56) 48 = .ok (.iconst 1, 1) := by decide +kernel
theorem d_56_49 : decode (bc 56) 49 = .ok (.iadd, 1) := by decide +kernel
theorem d_56_50 : decode (bc 56) 50 = .ok (.putfield 15, 3) := by decide +kernel
theorem d_56_53 : decode (bc 56) 53 = .ok (.aload_n 0, 1) := by decide +kernel
theorem d_56_54 : decode (bc 56) 54 = .ok (.getfield 25, 3) := by decide +kernel
theorem q_56_25 : fq 56 25 = some (7, 0, 5, 2, true) := by decide +kernel
theorem d_56_57 : decode (bc 56) 57 = .ok (.lconst 0, 1) := by decide +kernel
theorem d_56_58 : decode (bc 56) 58 = .ok (.lload_n 3, 1) := by decide +kernel
theorem d_56_59 : decode (bc 56) 59 = .ok (.iload 5, 2) := by decide +kernel
theorem d_56_61 : decode (bc 56) 61 = .ok (.invokestatic 35, 3) := by decide +kernel
theorem q_56_35 : cq 56 35 [1, 4] = some (120, 2) := by decide +kernel
theorem d_56_64 : decode (bc 56) 64 = .ok (.lload_n 3, 1) := by decide +kernel
theorem d_56_65 : decode (bc 56) 65 = .ok (.invokevirtual 45, 3) := by decide +kernel
theorem q_56_45 : cq 56 45 [0, 3] = some (30, 4) := by decide +kernel
theorem d_56_68 : decode (bc 56) 68 = .ok (.lstore 6, 2) := by decide +kernel
theorem d_56_70 : decode (bc 56) 70 = .ok (.iconst 0, 1) := by decide +kernel
theorem d_56_71 : decode (bc 56) 71 = .ok (.istore 8, 2) := by decide +kernel
theorem d_56_73 : decode (bc 56) 73 = .ok (.iload 8, 2) := by decide +kernel
theorem d_56_75 : decode (bc 56) 75 = .ok (.aload_n 0, 1) := by decide +kernel
theorem d_56_76 : decode (bc 56) 76 = .ok (.getfield 9, 3) := by decide +kernel
theorem d_56_79 : decode (bc 56) 79 = .ok (.if_icmp .ge 60, 3) := by decide +kernel
theorem d_56_82 : decode (bc 56) 82 = .ok (.aload_n 0, 1) := by decide +kernel
theorem d_56_83 : decode (bc 56) 83 = .ok (.getfield 18, 3) := by decide +kernel
theorem q_56_18 : fq 56 18 = some (7, 3, 5, 2, true) := by decide +kernel
theorem d_56_86 : decode (bc 56) 86 = .ok (.iload 8, 2) := by decide +kernel
theorem d_56_88 : decode (bc 56) 88 = .ok (.laload, 1) := by decide +kernel
theorem d_56_89 : decode (bc 56) 89 = .ok (.iload 5, 2) := by decide +kernel
theorem d_56_91 : decode (bc 56) 91 = .ok (.invokestatic 35, 3) := by decide +kernel
theorem d_56_94 : decode (bc 56) 94 = .ok (.istore 9, 2) := by decide +kernel
theorem d_56_96 : decode (bc 56) 96 = .ok (.iload 9, 2) := by decide +kernel
theorem d_56_98 : decode (bc 56) 98 = .ok (.ifCond .eq 35, 3) := by decide +kernel
theorem d_56_101 : decode (bc 56) 101 = .ok (.aload_n 0, 1) := by decide +kernel
theorem d_56_102 : decode (bc 56) 102 = .ok (.getfield 18, 3) := by decide +kernel
theorem d_56_105 : decode (bc 56) 105 = .ok (.iload 8, 2) := by decide +kernel
theorem d_56_107 : decode (bc 56) 107 = .ok (.aload_n 0, 1) := by decide +kernel
theorem d_56_108 : decode (bc 56) 108 = .ok (.getfield 25, 3) := by decide +kernel
theorem d_56_111 : decode (bc 56) 111 = .ok (.aload_n 0, 1) := by decide +kernel
theorem d_56_112 : decode (bc 56) 112 = .ok (.getfield 18, 3) := by decide +kernel
theorem d_56_115 : decode (bc 56) 115 = .ok (.iload 8, 2) := by decide +kernel
theorem d_56_117 : decode (bc 56) 117 = .ok (.laload, 1) := by decide +kernel
theorem d_56_118 : decode (bc 56) 118 = .ok (.aload_n 0, 1) := by decide +kernel
theorem d_56_119 : decode (bc 56) 119 = .ok (.getfield 25, 3) := by decide +kernel
theorem d_56_122 : decode (bc 56) 122 = .ok (.iload 9, 2) := by decide +kernel
theorem d_56_124 : decode (bc 56) 124 = .ok (.invokevirtual 39, 3) := by decide +kernel
theorem q_56_39 : cq 56 39 [0, 3] = some (28, 2) := by decide +kernel
theorem d_56_127 : decode (bc 56) 127 = .ok (.lload 6, 2) := by decide +kernel
theorem d_56_129 : decode (bc 56) 129 = .ok (.invokevirtual 45, 3) := by decide +kernel
theorem d_56_132 : decode (bc 56) 132 = .ok (.lastore, 1) := by decide +kernel
theorem d_56_133 : decode (bc 56) 133 = .ok (.iinc 8 1, 3) := by decide +kernel
theorem d_56_136 : decode (bc 56) 136 = .ok (.goto (-63), 3) := by decide +kernel
theorem d_56_139 : decode (bc 56) 139 = .ok (.aload_n 0, 1) := by decide +kernel
theorem d_56_140 : decode (bc 56) 140 = .ok (.getfield 18, 3) := by decide +kernel
theorem d_56_143 : decode (bc 56) 143 = .ok (.iload 5, 2) := by decide +kernel
theorem d_56_145 : decode (bc 56) 145 = .ok (.lload 6, 2) := by decide +kernel
theorem d_56_147 : decode (bc 56) 147 = .ok (.lastore, 1) := by decide +kernel
theorem d_56_148 : decode (bc 56) 148 = .ok (.return_, 1) := by decide +kernel
theorem rt_56 : rty 56 = none := by decide +kernel
theorem mx_56 : mxl 56 = 10 := by decide +kernel
theorem ow_56 : (sta 56 = false ∧ own 56 = 7 ∧ hgt 56 = 2) := by decide +kernel
-- 57: SpunModules$Space.spins(LSpunModules$Action;)V
theorem d_57_0 : decode (bc 57) 0 = .ok (.iconst 0, 1) := by decide +kernel
theorem d_57_1 : decode (bc 57) 1 = .ok (.istore_n 2, 1) := by decide +kernel
theorem d_57_2 : decode (bc 57) 2 = .ok (.iload_n 2, 1) := by decide +kernel
theorem d_57_3 : decode (bc 57) 3 = .ok (.aload_n 0, 1) := by decide +kernel
theorem d_57_4 : decode (bc 57) 4 = .ok (.getfield 9, 3) := by decide +kernel
theorem q_57_9 : fq 57 9 = some (7, 1, 5, 0, false) := by decide +kernel
theorem d_57_7 : decode (bc 57) 7 = .ok (.if_icmp .ge 58, 3) := by decide +kernel
theorem d_57_10 : decode (bc 57) 10 = .ok (.iload_n 2, 1) := by decide +kernel
theorem d_57_11 : decode (bc 57) 11 = .ok (.aload_n 0, 1) := by decide +kernel
theorem d_57_12 : decode (bc 57) 12 = .ok (.getfield 15, 3) := by decide +kernel
theorem q_57_15 : fq 57 15 = some (7, 2, 5, 0, false) := by decide +kernel
theorem d_57_15 : decode (bc 57) 15 = .ok (.if_icmp .ge 50, 3) := by decide +kernel
theorem d_57_18 : decode (bc 57) 18 = .ok (.aload_n 0, 1) := by decide +kernel
theorem d_57_19 : decode (bc 57) 19 = .ok (.getfield 15, 3) := by decide +kernel
theorem d_57_22 : decode (bc 57) 22 = .ok (.aload_n 0, 1) := by decide +kernel
theorem d_57_23 : decode (bc 57) 23 = .ok (.getfield 9, 3) := by decide +kernel
theorem d_57_26 : decode (bc 57) 26 = .ok (.if_icmp .ge 39, 3) := by decide +kernel
theorem d_57_29 : decode (bc 57) 29 = .ok (.aload_n 0, 1) := by decide +kernel
theorem d_57_30 : decode (bc 57) 30 = .ok (.aload_n 1, 1) := by decide +kernel
theorem d_57_31 : decode (bc 57) 31 = .ok (.iconst 0, 1) := by decide +kernel
theorem d_57_32 : decode (bc 57) 32 = .ok (.aload_n 0, 1) := by decide +kernel
theorem d_57_33 : decode (bc 57) 33 = .ok (.getfield 22, 3) := by decide +kernel
theorem q_57_22 : fq 57 22 = some (7, 4, 5, 2, true) := by decide +kernel
theorem d_57_36 : decode (bc 57) 36 = .ok (.iload_n 2, 1) := by decide +kernel
theorem d_57_37 : decode (bc 57) 37 = .ok (.laload, 1) := by decide +kernel
theorem d_57_38 : decode (bc 57) 38 = .ok (.invokevirtual 57, 3) := by decide +kernel
theorem q_57_57 : cq 57 57 [0, 3] = some (5, 3) := by decide +kernel
theorem d_57_41 : decode (bc 57) 41 = .ok (.invokevirtual 63, 3) := by decide +kernel
theorem q_57_63 : cq 57 63 [0, 3] = some (56, 2) := by decide +kernel
theorem d_57_44 : decode (bc 57) 44 = .ok (.aload_n 0, 1) := by decide +kernel
theorem d_57_45 : decode (bc 57) 45 = .ok (.aload_n 1, 1) := by decide +kernel
theorem d_57_46 : decode (bc 57) 46 = .ok (.iconst 1, 1) := by decide +kernel
theorem d_57_47 : decode (bc 57) 47 = .ok (.aload_n 0, 1) := by decide +kernel
theorem d_57_48 : decode (bc 57) 48 = .ok (.getfield 22, 3) := by decide +kernel
theorem d_57_51 : decode (bc 57) 51 = .ok (.iload_n 2, 1) := by decide +kernel
theorem d_57_52 : decode (bc 57) 52 = .ok (.laload, 1) := by decide +kernel
theorem d_57_53 : decode (bc 57) 53 = .ok (.invokevirtual 57, 3) := by decide +kernel
theorem d_57_56 : decode (bc 57) 56 = .ok (.invokevirtual 63, 3) := by decide +kernel
theorem d_57_59 : decode (bc 57) 59 = .ok (.iinc 2 1, 3) := by decide +kernel
theorem d_57_62 : decode (bc 57) 62 = .ok (.goto (-60), 3) := by decide +kernel
theorem d_57_65 : decode (bc 57) 65 = .ok (.return_, 1) := by decide +kernel
theorem rt_57 : rty 57 = none := by decide +kernel
theorem mx_57 : mxl 57 = 3 := by decide +kernel
theorem ow_57 : (sta 57 = false ∧ own 57 = 7 ∧ hgt 57 = 3) := by decide +kernel
-- 58: SpunModules$Space.spinsLeast(LSpunModules$Action;)V
theorem d_58_0 : decode (bc 58) 0 = .ok (.bipush 7, 2) := by decide +kernel
theorem d_58_2 : decode (bc 58) 2 = .ok (.istore_n 2, 1) := by decide +kernel
theorem d_58_3 : decode (bc 58) 3 = .ok (.iconst 0, 1) := by decide +kernel
theorem d_58_4 : decode (bc 58) 4 = .ok (.istore_n 3, 1) := by decide +kernel
theorem d_58_5 : decode (bc 58) 5 = .ok (.iconst 0, 1) := by decide +kernel
theorem d_58_6 : decode (bc 58) 6 = .ok (.istore 4, 2) := by decide +kernel
theorem d_58_8 : decode (bc 58) 8 = .ok (.iload 4, 2) := by decide +kernel
theorem d_58_10 : decode (bc 58) 10 = .ok (.aload_n 1, 1) := by decide +kernel
theorem d_58_11 : decode (bc 58) 11 = .ok (.getfield 67, 3) := by decide +kernel
theorem q_58_67 : fq 58 67 = some (0, 1, 3, 0, false) := by decide +kernel
theorem d_58_14 : decode (bc 58) 14 = .ok (.if_icmp .ge 90, 3) := by decide +kernel
theorem d_58_17 : decode (bc 58) 17 = .ok (.aload_n 0, 1) := by decide +kernel
theorem d_58_18 : decode (bc 58) 18 = .ok (.getfield 25, 3) := by decide +kernel
theorem q_58_25 : fq 58 25 = some (7, 0, 5, 2, true) := by decide +kernel
theorem d_58_21 : decode (bc 58) 21 = .ok (.iload 4, 2) := by decide +kernel
theorem d_58_23 : decode (bc 58) 23 = .ok (.invokevirtual 70, 3) := by decide +kernel
theorem q_58_70 : cq 58 70 [0, 3] = some (29, 2) := by decide +kernel
theorem d_58_26 : decode (bc 58) 26 = .ok (.istore 5, 2) := by decide +kernel
theorem d_58_28 : decode (bc 58) 28 = .ok (.iload 5, 2) := by decide +kernel
theorem d_58_30 : decode (bc 58) 30 = .ok (.istore 6, 2) := by decide +kernel
theorem d_58_32 : decode (bc 58) 32 = .ok (.iload 6, 2) := by decide +kernel
theorem d_58_34 : decode (bc 58) 34 = .ok (.iconst 2, 1) := by decide +kernel
theorem d_58_35 : decode (bc 58) 35 = .ok (.iload 5, 2) := by decide +kernel
theorem d_58_37 : decode (bc 58) 37 = .ok (.imul, 1) := by decide +kernel
theorem d_58_38 : decode (bc 58) 38 = .ok (.if_icmp .ge 60, 3) := by decide +kernel
theorem d_58_41 : decode (bc 58) 41 = .ok (.iload_n 2, 1) := by decide +kernel
theorem d_58_42 : decode (bc 58) 42 = .ok (.iconst 1, 1) := by decide +kernel
theorem d_58_43 : decode (bc 58) 43 = .ok (.if_icmp .le 55, 3) := by decide +kernel
theorem d_58_46 : decode (bc 58) 46 = .ok (.aload_n 0, 1) := by decide +kernel
theorem d_58_47 : decode (bc 58) 47 = .ok (.aload_n 1, 1) := by decide +kernel
theorem d_58_48 : decode (bc 58) 48 = .ok (.getfield 67, 3) := by decide +kernel
theorem d_58_51 : decode (bc 58) 51 = .ok (.invokevirtual 73, 3) := by decide +kernel
theorem q_58_73 : cq 58 73 [0, 3] = some (52, 2) := by decide +kernel
theorem d_58_54 : decode (bc 58) 54 = .ok (.aload_n 0, 1) := by decide +kernel
theorem d_58_55 : decode (bc 58) 55 = .ok (.aload_n 0, 1) := by decide +kernel
theorem d_58_56 : decode (bc 58) 56 = .ok (.getfield 25, 3) := by decide +kernel
theorem d_58_59 : decode (bc 58) 59 = .ok (.iload 6, 2) := by decide +kernel
theorem d_58_61 : decode (bc 58) 61 = .ok (.aload_n 1, 1) := by decide +kernel
theorem d_58_62 : decode (bc 58) 62 = .ok (.getfield 67, 3) := by decide +kernel
theorem d_58_65 : decode (bc 58) 65 = .ok (.invokevirtual 77, 3) := by decide +kernel
theorem q_58_77 : cq 58 77 [0, 3] = some (31, 3) := by decide +kernel
theorem d_58_68 : decode (bc 58) 68 = .ok (.invokevirtual 63, 3) := by decide +kernel
theorem q_58_63 : cq 58 63 [0, 3] = some (56, 2) := by decide +kernel
theorem d_58_71 : decode (bc 58) 71 = .ok (.aload_n 0, 1) := by decide +kernel
theorem d_58_72 : decode (bc 58) 72 = .ok (.aload_n 1, 1) := by decide +kernel
theorem d_58_73 : decode (bc 58) 73 = .ok (.invokevirtual 81, 3) := by decide +kernel
theorem q_58_81 : cq 58 81 [0, 3] = some (57, 2) := by decide +kernel
theorem d_58_76 : decode (bc 58) 76 = .ok (.aload_n 0, 1) := by decide +kernel
theorem d_58_77 : decode (bc 58) 77 = .ok (.getfield 15, 3) := by decide +kernel
theorem q_58_15 : fq 58 15 = some (7, 2, 5, 0, false) := by decide +kernel
theorem d_58_80 : decode (bc 58) 80 = .ok (.iload_n 2, 1) := by decide +kernel
theorem d_58_81 : decode (bc 58) 81 = .ok (.if_icmp .ge 11, 3) := by decide +kernel
theorem d_58_84 : decode (bc 58) 84 = .ok (.aload_n 0, 1) := by decide +kernel
theorem d_58_85 : decode (bc 58) 85 = .ok (.getfield 15, 3) := by decide +kernel
theorem d_58_88 : decode (bc 58) 88 = .ok (.istore_n 2, 1) := by decide +kernel
theorem d_58_89 : decode (bc 58) 89 = .ok (.iload 6, 2) := by decide +kernel
theorem d_58_91 : decode (bc 58) 91 = .ok (.istore_n 3, 1) := by decide +kernel
theorem d_58_92 : decode (bc 58) 92 = .ok (.iinc 6 1, 3) := by decide +kernel
theorem d_58_95 : decode (bc 58) 95 = .ok (.goto (-63), 3) := by decide +kernel
theorem d_58_98 : decode (bc 58) 98 = .ok (.iinc 4 1, 3) := by decide +kernel
theorem d_58_101 : decode (bc 58) 101 = .ok (.goto (-93), 3) := by decide +kernel
theorem d_58_104 : decode (bc 58) 104 = .ok (.aload_n 0, 1) := by decide +kernel
theorem d_58_105 : decode (bc 58) 105 = .ok (.aload_n 1, 1) := by decide +kernel
theorem d_58_106 : decode (bc 58) 106 = .ok (.getfield 67, 3) := by decide +kernel
theorem d_58_109 : decode (bc 58) 109 = .ok (.invokevirtual 73, 3) := by decide +kernel
theorem d_58_112 : decode (bc 58) 112 = .ok (.aload_n 0, 1) := by decide +kernel
theorem d_58_113 : decode (bc 58) 113 = .ok (.aload_n 0, 1) := by decide +kernel
theorem d_58_114 : decode (bc 58) 114 = .ok (.getfield 25, 3) := by decide +kernel
theorem d_58_117 : decode (bc 58) 117 = .ok (.iload_n 3, 1) := by decide +kernel
theorem d_58_118 : decode (bc 58) 118 = .ok (.aload_n 1, 1) := by decide +kernel
theorem d_58_119 : decode (bc 58) 119 = .ok (.getfield 67, 3) := by decide +kernel
theorem d_58_122 : decode (bc 58) 122 = .ok (.invokevirtual 77, 3) := by decide +kernel
theorem d_58_125 : decode (bc 58) 125 = .ok (.invokevirtual 63, 3) := by decide +kernel
theorem d_58_128 : decode (bc 58) 128 = .ok (.aload_n 0, 1) := by decide +kernel
theorem d_58_129 : decode (bc 58) 129 = .ok (.aload_n 1, 1) := by decide +kernel
theorem d_58_130 : decode (bc 58) 130 = .ok (.invokevirtual 81, 3) := by decide +kernel
theorem d_58_133 : decode (bc 58) 133 = .ok (.return_, 1) := by decide +kernel
theorem rt_58 : rty 58 = none := by decide +kernel
theorem mx_58 : mxl 58 = 7 := by decide +kernel
theorem ow_58 : (sta 58 = false ∧ own 58 = 7 ∧ hgt 58 = 4) := by decide +kernel
-- 59: SpunModules$Space.basisVector(I)J
theorem d_59_0 : decode (bc 59) 0 = .ok (.iload_n 1, 1) := by decide +kernel
theorem d_59_1 : decode (bc 59) 1 = .ok (.istore_n 2, 1) := by decide +kernel
theorem d_59_2 : decode (bc 59) 2 = .ok (.iconst 0, 1) := by decide +kernel
theorem d_59_3 : decode (bc 59) 3 = .ok (.istore_n 3, 1) := by decide +kernel
theorem d_59_4 : decode (bc 59) 4 = .ok (.iload_n 3, 1) := by decide +kernel
theorem d_59_5 : decode (bc 59) 5 = .ok (.aload_n 0, 1) := by decide +kernel
theorem d_59_6 : decode (bc 59) 6 = .ok (.getfield 9, 3) := by decide +kernel
theorem q_59_9 : fq 59 9 = some (7, 1, 5, 0, false) := by decide +kernel
theorem d_59_9 : decode (bc 59) 9 = .ok (.if_icmp .ge 31, 3) := by decide +kernel
theorem d_59_12 : decode (bc 59) 12 = .ok (.aload_n 0, 1) := by decide +kernel
theorem d_59_13 : decode (bc 59) 13 = .ok (.iload_n 3, 1) := by decide +kernel
theorem d_59_14 : decode (bc 59) 14 = .ok (.invokevirtual 85, 3) := by decide +kernel
theorem q_59_85 : cq 59 85 [0, 3] = some (54, 2) := by decide +kernel
theorem d_59_17 : decode (bc 59) 17 = .ok (.ifCond .eq 17, 3) := by decide +kernel
theorem d_59_20 : decode (bc 59) 20 = .ok (.iload_n 2, 1) := by decide +kernel
theorem d_59_21 : decode (bc 59) 21 = .ok (.ifCond .ne 10, 3) := by decide +kernel
theorem d_59_24 : decode (bc 59) 24 = .ok (.aload_n 0, 1) := by decide +kernel
theorem d_59_25 : decode (bc 59) 25 = .ok (.getfield 18, 3) := by decide +kernel
theorem q_59_18 : fq 59 18 = some (7, 3, 5, 2, true) := by decide +kernel
theorem d_59_28 : decode (bc 59) 28 = .ok (.iload_n 3, 1) := by decide +kernel
theorem d_59_29 : decode (bc 59) 29 = .ok (.laload, 1) := by decide +kernel
theorem d_59_30 : decode (bc 59) 30 = .ok (.lreturn, 1) := by decide +kernel
theorem d_59_31 : decode (bc 59) 31 = .ok (.iinc 2 (-1), 3) := by decide +kernel
theorem d_59_34 : decode (bc 59) 34 = .ok (.iinc 3 1, 3) := by decide +kernel
theorem d_59_37 : decode (bc 59) 37 = .ok (.goto (-33), 3) := by decide +kernel
theorem d_59_40 : decode (bc 59) 40 = .ok (.lconst 0, 1) := by decide +kernel
theorem d_59_41 : decode (bc 59) 41 = .ok (.lreturn, 1) := by decide +kernel
theorem rt_59 : rty 59 = some .long := by decide +kernel
theorem mx_59 : mxl 59 = 4 := by decide +kernel
theorem ow_59 : (sta 59 = false ∧ own 59 = 7 ∧ hgt 59 = 1) := by decide +kernel
-- 60: SpunModules$Space.picks(JZ)J
theorem d_60_0 : decode (bc 60) 0 = .ok (.lconst 0, 1) := by decide +kernel
theorem d_60_1 : decode (bc 60) 1 = .ok (.lstore 4, 2) := by decide +kernel
theorem d_60_3 : decode (bc 60) 3 = .ok (.iconst 0, 1) := by decide +kernel
theorem d_60_4 : decode (bc 60) 4 = .ok (.istore 6, 2) := by decide +kernel
theorem d_60_6 : decode (bc 60) 6 = .ok (.iconst 0, 1) := by decide +kernel
theorem d_60_7 : decode (bc 60) 7 = .ok (.istore 7, 2) := by decide +kernel
theorem d_60_9 : decode (bc 60) 9 = .ok (.iload 7, 2) := by decide +kernel
theorem d_60_11 : decode (bc 60) 11 = .ok (.aload_n 0, 1) := by decide +kernel
theorem d_60_12 : decode (bc 60) 12 = .ok (.getfield 9, 3) := by decide +kernel
theorem q_60_9 : fq 60 9 = some (7, 1, 5, 0, false) := by decide +kernel
theorem d_60_15 : decode (bc 60) 15 = .ok (.if_icmp .ge 40, 3) := by decide +kernel
theorem d_60_18 : decode (bc 60) 18 = .ok (.aload_n 0, 1) := by decide +kernel
theorem d_60_19 : decode (bc 60) 19 = .ok (.iload 7, 2) := by decide +kernel
theorem d_60_21 : decode (bc 60) 21 = .ok (.invokevirtual 85, 3) := by decide +kernel
theorem q_60_85 : cq 60 85 [0, 3] = some (54, 2) := by decide +kernel
theorem d_60_24 : decode (bc 60) 24 = .ok (.iload_n 3, 1) := by decide +kernel
theorem d_60_25 : decode (bc 60) 25 = .ok (.if_icmp .ne 24, 3) := by decide +kernel
theorem d_60_28 : decode (bc 60) 28 = .ok (.lload 4, 2) := by decide +kernel
theorem d_60_30 : decode (bc 60) 30 = .ok (.lload_n 1, 1) := by decide +kernel
theorem d_60_31 : decode (bc 60) 31 = .ok (.iload 7, 2) := by decide +kernel
theorem d_60_33 : decode (bc 60) 33 = .ok (.invokestatic 35, 3) := by decide +kernel
theorem q_60_35 : cq 60 35 [1, 4] = some (120, 2) := by decide +kernel
theorem d_60_36 : decode (bc 60) 36 = .ok (.i2l, 1) := by decide +kernel
theorem d_60_37 : decode (bc 60) 37 = .ok (.iload 6, 2) := by decide +kernel
theorem d_60_39 : decode (bc 60) 39 = .ok (.invokestatic 89, 3) := by decide +kernel
theorem q_60_89 : cq 60 89 [1, 4] = some (121, 1) := by decide +kernel
theorem d_60_42 : decode (bc 60) 42 = .ok (.lmul, 1) := by decide +kernel
theorem d_60_43 : decode (bc 60) 43 = .ok (.lor, 1) := by decide +kernel
theorem d_60_44 : decode (bc 60) 44 = .ok (.lstore 4, 2) := by decide +kernel
theorem d_60_46 : decode (bc 60) 46 = .ok (.iinc 6 1, 3) := by decide +kernel
theorem d_60_49 : decode (bc 60) 49 = .ok (.iinc 7 1, 3) := by decide +kernel
theorem d_60_52 : decode (bc 60) 52 = .ok (.goto (-43), 3) := by decide +kernel
theorem d_60_55 : decode (bc 60) 55 = .ok (.lload 4, 2) := by decide +kernel
theorem d_60_57 : decode (bc 60) 57 = .ok (.lreturn, 1) := by decide +kernel
theorem rt_60 : rty 60 = some .long := by decide +kernel
theorem mx_60 : mxl 60 = 8 := by decide +kernel
theorem ow_60 : (sta 60 = false ∧ own 60 = 7 ∧ hgt 60 = 1) := by decide +kernel
-- 61: SpunModules$Space.smallestNumber()I
theorem d_61_0 : decode (bc 61) 0 = .ok (.aload_n 0, 1) := by decide +kernel
theorem d_61_1 : decode (bc 61) 1 = .ok (.getfield 15, 3) := by decide +kernel
theorem q_61_15 : fq 61 15 = some (7, 2, 5, 0, false) := by decide +kernel
theorem d_61_4 : decode (bc 61) 4 = .ok (.ifCond .ne 5, 3) := by decide +kernel
theorem d_61_7 : decode (bc 61) 7 = .ok (.iconst (-1), 1) := by decide +kernel
theorem d_61_8 : decode (bc 61) 8 = .ok (.ireturn, 1) := by decide +kernel
theorem d_61_9 : decode (bc 61) 9 = .ok (.aload_n 0, 1) := by decide +kernel
theorem d_61_10 : decode (bc 61) 10 = .ok (.getfield 25, 3) := by decide +kernel
theorem q_61_25 : fq 61 25 = some (7, 0, 5, 2, true) := by decide +kernel
theorem d_61_13 : decode (bc 61) 13 = .ok (.aload_n 0, 1) := by decide +kernel
theorem d_61_14 : decode (bc 61) 14 = .ok (.getfield 9, 3) := by decide +kernel
theorem q_61_9 : fq 61 9 = some (7, 1, 5, 0, false) := by decide +kernel
theorem d_61_17 : decode (bc 61) 17 = .ok (.invokevirtual 70, 3) := by decide +kernel
theorem q_61_70 : cq 61 70 [0, 3] = some (29, 2) := by decide +kernel
theorem d_61_20 : decode (bc 61) 20 = .ok (.istore_n 1, 1) := by decide +kernel
theorem d_61_21 : decode (bc 61) 21 = .ok (.iconst 1, 1) := by decide +kernel
theorem d_61_22 : decode (bc 61) 22 = .ok (.istore_n 2, 1) := by decide +kernel
theorem d_61_23 : decode (bc 61) 23 = .ok (.iload_n 2, 1) := by decide +kernel
theorem d_61_24 : decode (bc 61) 24 = .ok (.iload_n 1, 1) := by decide +kernel
theorem d_61_25 : decode (bc 61) 25 = .ok (.if_icmp .ge 33, 3) := by decide +kernel
theorem d_61_28 : decode (bc 61) 28 = .ok (.aload_n 0, 1) := by decide +kernel
theorem d_61_29 : decode (bc 61) 29 = .ok (.aload_n 0, 1) := by decide +kernel
theorem d_61_30 : decode (bc 61) 30 = .ok (.getfield 25, 3) := by decide +kernel
theorem d_61_33 : decode (bc 61) 33 = .ok (.iload_n 2, 1) := by decide +kernel
theorem d_61_34 : decode (bc 61) 34 = .ok (.aload_n 0, 1) := by decide +kernel
theorem d_61_35 : decode (bc 61) 35 = .ok (.getfield 9, 3) := by decide +kernel
theorem d_61_38 : decode (bc 61) 38 = .ok (.invokevirtual 77, 3) := by decide +kernel
theorem q_61_77 : cq 61 77 [0, 3] = some (31, 3) := by decide +kernel
theorem d_61_41 : decode (bc 61) 41 = .ok (.invokevirtual 49, 3) := by decide +kernel
theorem q_61_49 : cq 61 49 [0, 3] = some (55, 2) := by decide +kernel
theorem d_61_44 : decode (bc 61) 44 = .ok (.invokestatic 93, 3) := by decide +kernel
theorem q_61_93 : cq 61 93 [1, 4] = some (122, 1) := by decide +kernel
theorem d_61_47 : decode (bc 61) 47 = .ok (.ifCond .eq 5, 3) := by decide +kernel
theorem d_61_50 : decode (bc 61) 50 = .ok (.iload_n 2, 1) := by decide +kernel
theorem d_61_51 : decode (bc 61) 51 = .ok (.ireturn, 1) := by decide +kernel
theorem d_61_52 : decode (bc 61) 52 = .ok (.iinc 2 1, 3) := by decide +kernel
theorem d_61_55 : decode (bc 61) 55 = .ok (.goto (-32), 3) := by decide +kernel
theorem d_61_58 : decode (bc 61) 58 = .ok (.iconst (-1), 1) := by decide +kernel
theorem d_61_59 : decode (bc 61) 59 = .ok (.ireturn, 1) := by decide +kernel
theorem rt_61 : rty 61 = some .int := by decide +kernel
theorem mx_61 : mxl 61 = 3 := by decide +kernel
theorem ow_61 : (sta 61 = false ∧ own 61 = 7 ∧ hgt 61 = 3) := by decide +kernel
-- 62: SpunModules$Space.fills(III)V
theorem d_62_0 : decode (bc 62) 0 = .ok (.aload_n 0, 1) := by decide +kernel
theorem d_62_1 : decode (bc 62) 1 = .ok (.iload_n 1, 1) := by decide +kernel
theorem d_62_2 : decode (bc 62) 2 = .ok (.invokevirtual 73, 3) := by decide +kernel
theorem q_62_73 : cq 62 73 [0, 3] = some (52, 2) := by decide +kernel
theorem d_62_5 : decode (bc 62) 5 = .ok (.aload_n 0, 1) := by decide +kernel
theorem d_62_6 : decode (bc 62) 6 = .ok (.getfield 25, 3) := by decide +kernel
theorem q_62_25 : fq 62 25 = some (7, 0, 5, 2, true) := by decide +kernel
theorem d_62_9 : decode (bc 62) 9 = .ok (.iload_n 3, 1) := by decide +kernel
theorem d_62_10 : decode (bc 62) 10 = .ok (.bipush 6, 2) := by decide +kernel
theorem d_62_12 : decode (bc 62) 12 = .ok (.invokevirtual 77, 3) := by decide +kernel
theorem q_62_77 : cq 62 77 [0, 3] = some (31, 3) := by decide +kernel
theorem d_62_15 : decode (bc 62) 15 = .ok (.lstore 4, 2) := by decide +kernel
theorem d_62_17 : decode (bc 62) 17 = .ok (.iconst 0, 1) := by decide +kernel
theorem d_62_18 : decode (bc 62) 18 = .ok (.istore 6, 2) := by decide +kernel
theorem d_62_20 : decode (bc 62) 20 = .ok (.iconst 0, 1) := by decide +kernel
theorem d_62_21 : decode (bc 62) 21 = .ok (.istore 7, 2) := by decide +kernel
theorem d_62_23 : decode (bc 62) 23 = .ok (.iload 7, 2) := by decide +kernel
theorem d_62_25 : decode (bc 62) 25 = .ok (.iload_n 1, 1) := by decide +kernel
theorem d_62_26 : decode (bc 62) 26 = .ok (.if_icmp .ge 94, 3) := by decide +kernel
theorem d_62_29 : decode (bc 62) 29 = .ok (.iload_n 2, 1) := by decide +kernel
theorem d_62_30 : decode (bc 62) 30 = .ok (.iload 7, 2) := by decide +kernel
theorem d_62_32 : decode (bc 62) 32 = .ok (.invokestatic 97, 3) := by decide +kernel
theorem q_62_97 : cq 62 97 [1, 4] = some (119, 2) := by decide +kernel
theorem d_62_35 : decode (bc 62) 35 = .ok (.ifCond .eq 79, 3) := by decide +kernel
theorem d_62_38 : decode (bc 62) 38 = .ok (.aload_n 0, 1) := by decide +kernel
theorem d_62_39 : decode (bc 62) 39 = .ok (.getfield 18, 3) := by decide +kernel
theorem q_62_18 : fq 62 18 = some (7, 3, 5, 2, true) := by decide +kernel
theorem d_62_42 : decode (bc 62) 42 = .ok (.iload 7, 2) := by decide +kernel
theorem d_62_44 : decode (bc 62) 44 = .ok (.iload 7, 2) := by decide +kernel
theorem d_62_46 : decode (bc 62) 46 = .ok (.invokestatic 89, 3) := by decide +kernel
theorem q_62_89 : cq 62 89 [1, 4] = some (121, 1) := by decide +kernel
theorem d_62_49 : decode (bc 62) 49 = .ok (.lastore, 1) := by decide +kernel
theorem d_62_50 : decode (bc 62) 50 = .ok (.aload_n 0, 1) := by decide +kernel
theorem d_62_51 : decode (bc 62) 51 = .ok (.dup, 1) := by decide +kernel
theorem d_62_52 : decode (bc 62) 52 = .ok (.getfield 15, 3) := by decide +kernel
theorem q_62_15 : fq 62 15 = some (7, 2, 5, 0, false) := by decide +kernel
theorem d_62_55 : decode (bc 62) 55 = .ok (.iconst 1, 1) := by decide +kernel
theorem d_62_56 : decode (bc 62) 56 = .ok (.iadd, 1) := by decide +kernel
theorem d_62_57 : decode (bc 62) 57 = .ok (.putfield 15, 3) := by decide +kernel
theorem d_62_60 : decode (bc 62) 60 = .ok (.iload 7, 2) := by decide +kernel
theorem d_62_62 : decode (bc 62) 62 = .ok (.iconst 1, 1) := by decide +kernel
theorem d_62_63 : decode (bc 62) 63 = .ok (.iadd, 1) := by decide +kernel
theorem d_62_64 : decode (bc 62) 64 = .ok (.istore 8, 2) := by decide +kernel
theorem d_62_66 : decode (bc 62) 66 = .ok (.iload 8, 2) := by decide +kernel
theorem d_62_68 : decode (bc 62) 68 = .ok (.iload_n 1, 1) := by decide +kernel
theorem d_62_69 : decode (bc 62) 69 = .ok (.if_icmp .ge 45, 3) := by decide +kernel
theorem d_62_72 : decode (bc 62) 72 = .ok (.iload_n 2, 1) := by decide +kernel
theorem d_62_73 : decode (bc 62) 73 = .ok (.iload 8, 2) := by decide +kernel
theorem d_62_75 : decode (bc 62) 75 = .ok (.invokestatic 97, 3) := by decide +kernel
theorem d_62_78 : decode (bc 62) 78 = .ok (.ifCond .ne 30, 3) := by decide +kernel
theorem d_62_81 : decode (bc 62) 81 = .ok (.aload_n 0, 1) := by decide +kernel
theorem d_62_82 : decode (bc 62) 82 = .ok (.getfield 18, 3) := by decide +kernel
theorem d_62_85 : decode (bc 62) 85 = .ok (.iload 7, 2) := by decide +kernel
theorem d_62_87 : decode (bc 62) 87 = .ok (.dup2, 1) := by decide +kernel
theorem d_62_88 : decode (bc 62) 88 = .ok (.laload, 1) := by decide +kernel
theorem d_62_89 : decode (bc 62) 89 = .ok (.lload 4, 2) := by decide +kernel
theorem d_62_91 : decode (bc 62) 91 = .ok (.iload 6, 2) := by decide +kernel
theorem d_62_93 : decode (bc 62) 93 = .ok (.invokestatic 35, 3) := by decide +kernel
theorem q_62_35 : cq 62 35 [1, 4] = some (120, 2) := by decide +kernel
theorem d_62_96 : decode (bc 62) 96 = .ok (.i2l, 1) := by decide +kernel
theorem d_62_97 : decode (bc 62) 97 = .ok (.iload 8, 2) := by decide +kernel
theorem d_62_99 : decode (bc 62) 99 = .ok (.invokestatic 89, 3) := by decide +kernel
theorem d_62_102 : decode (bc 62) 102 = .ok (.lmul, 1) := by decide +kernel
theorem d_62_103 : decode (bc 62) 103 = .ok (.lor, 1) := by decide +kernel
theorem d_62_104 : decode (bc 62) 104 = .ok (.lastore, 1) := by decide +kernel
theorem d_62_105 : decode (bc 62) 105 = .ok (.iinc 6 1, 3) := by decide +kernel
theorem d_62_108 : decode (bc 62) 108 = .ok (.iinc 8 1, 3) := by decide +kernel
theorem d_62_111 : decode (bc 62) 111 = .ok (.goto (-45), 3) := by decide +kernel
theorem d_62_114 : decode (bc 62) 114 = .ok (.iinc 7 1, 3) := by decide +kernel
theorem d_62_117 : decode (bc 62) 117 = .ok (.goto (-94), 3) := by decide +kernel
theorem d_62_120 : decode (bc 62) 120 = .ok (.return_, 1) := by decide +kernel
theorem rt_62 : rty 62 = none := by decide +kernel
theorem mx_62 : mxl 62 = 9 := by decide +kernel
theorem ow_62 : (sta 62 = false ∧ own 62 = 7 ∧ hgt 62 = 3) := by decide +kernel
-- 63: SpunModules$Space.isInvariant(LSpunModules$Action;)Z
theorem d_63_0 : decode (bc 63) 0 = .ok (.iconst 0, 1) := by decide +kernel
theorem d_63_1 : decode (bc 63) 1 = .ok (.istore_n 2, 1) := by decide +kernel
theorem d_63_2 : decode (bc 63) 2 = .ok (.iload_n 2, 1) := by decide +kernel
theorem d_63_3 : decode (bc 63) 3 = .ok (.aload_n 0, 1) := by decide +kernel
theorem d_63_4 : decode (bc 63) 4 = .ok (.getfield 9, 3) := by decide +kernel
theorem q_63_9 : fq 63 9 = some (7, 1, 5, 0, false) := by decide +kernel
theorem d_63_7 : decode (bc 63) 7 = .ok (.if_icmp .ge 45, 3) := by decide +kernel
theorem d_63_10 : decode (bc 63) 10 = .ok (.iconst 0, 1) := by decide +kernel
theorem d_63_11 : decode (bc 63) 11 = .ok (.istore_n 3, 1) := by decide +kernel
theorem d_63_12 : decode (bc 63) 12 = .ok (.iload_n 3, 1) := by decide +kernel
theorem d_63_13 : decode (bc 63) 13 = .ok (.iconst 2, 1) := by decide +kernel
theorem d_63_14 : decode (bc 63) 14 = .ok (.if_icmp .ge 32, 3) := by decide +kernel
theorem d_63_17 : decode (bc 63) 17 = .ok (.aload_n 0, 1) := by decide +kernel
theorem d_63_18 : decode (bc 63) 18 = .ok (.aload_n 1, 1) := by decide +kernel
theorem d_63_19 : decode (bc 63) 19 = .ok (.iload_n 3, 1) := by decide +kernel
theorem d_63_20 : decode (bc 63) 20 = .ok (.aload_n 0, 1) := by decide +kernel
theorem d_63_21 : decode (bc 63) 21 = .ok (.getfield 18, 3) := by decide +kernel
theorem q_63_18 : fq 63 18 = some (7, 3, 5, 2, true) := by decide +kernel
theorem d_63_24 : decode (bc 63) 24 = .ok (.iload_n 2, 1) := by decide +kernel
theorem d_63_25 : decode (bc 63) 25 = .ok (.laload, 1) := by decide +kernel
theorem d_63_26 : decode (bc 63) 26 = .ok (.invokevirtual 57, 3) := by decide +kernel
theorem q_63_57 : cq 63 57 [0, 3] = some (5, 3) := by decide +kernel
theorem d_63_29 : decode (bc 63) 29 = .ok (.invokevirtual 49, 3) := by decide +kernel
theorem q_63_49 : cq 63 49 [0, 3] = some (55, 2) := by decide +kernel
theorem d_63_32 : decode (bc 63) 32 = .ok (.invokestatic 93, 3) := by decide +kernel
theorem q_63_93 : cq 63 93 [1, 4] = some (122, 1) := by decide +kernel
theorem d_63_35 : decode (bc 63) 35 = .ok (.ifCond .ne 5, 3) := by decide +kernel
theorem d_63_38 : decode (bc 63) 38 = .ok (.iconst 0, 1) := by decide +kernel
theorem d_63_39 : decode (bc 63) 39 = .ok (.ireturn, 1) := by decide +kernel
theorem d_63_40 : decode (bc 63) 40 = .ok (.iinc 3 1, 3) := by decide +kernel
theorem d_63_43 : decode (bc 63) 43 = .ok (.goto (-31), 3) := by decide +kernel
theorem d_63_46 : decode (bc 63) 46 = .ok (.iinc 2 1, 3) := by decide +kernel
theorem d_63_49 : decode (bc 63) 49 = .ok (.goto (-47), 3) := by decide +kernel
theorem d_63_52 : decode (bc 63) 52 = .ok (.iconst 1, 1) := by decide +kernel
theorem d_63_53 : decode (bc 63) 53 = .ok (.ireturn, 1) := by decide +kernel
theorem rt_63 : rty 63 = some .boolean := by decide +kernel
theorem mx_63 : mxl 63 = 4 := by decide +kernel
theorem ow_63 : (sta 63 = false ∧ own 63 = 7 ∧ hgt 63 = 2) := by decide +kernel
-- 65: SpunModules$Words.appends(I)V
theorem d_65_0 : decode (bc 65) 0 = .ok (.aload_n 0, 1) := by decide +kernel
theorem d_65_1 : decode (bc 65) 1 = .ok (.getfield 9, 3) := by decide +kernel
theorem q_65_9 : fq 65 9 = some (8, 1, 6, 0, false) := by decide +kernel
theorem d_65_4 : decode (bc 65) 4 = .ok (.bipush 40, 2) := by decide +kernel
theorem d_65_6 : decode (bc 65) 6 = .ok (.if_icmp .ge 23, 3) := by decide +kernel
theorem d_65_9 : decode (bc 65) 9 = .ok (.aload_n 0, 1) := by decide +kernel
theorem d_65_10 : decode (bc 65) 10 = .ok (.getfield 15, 3) := by decide +kernel
theorem q_65_15 : fq 65 15 = some (8, 2, 6, 2, true) := by decide +kernel
theorem d_65_13 : decode (bc 65) 13 = .ok (.aload_n 0, 1) := by decide +kernel
theorem d_65_14 : decode (bc 65) 14 = .ok (.getfield 9, 3) := by decide +kernel
theorem d_65_17 : decode (bc 65) 17 = .ok (.iload_n 1, 1) := by decide +kernel
theorem d_65_18 : decode (bc 65) 18 = .ok (.iastore, 1) := by decide +kernel
theorem d_65_19 : decode (bc 65) 19 = .ok (.aload_n 0, 1) := by decide +kernel
theorem d_65_20 : decode (bc 65) 20 = .ok (.dup, 1) := by decide +kernel
theorem d_65_21 : decode (bc 65) 21 = .ok (.getfield 9, 3) := by decide +kernel
theorem d_65_24 : decode (bc 65) 24 = .ok (.iconst 1, 1) := by decide +kernel
theorem d_65_25 : decode (bc 65) 25 = .ok (.iadd, 1) := by decide +kernel
theorem d_65_26 : decode (bc 65) 26 = .ok (.putfield 9, 3) := by decide +kernel
theorem d_65_29 : decode (bc 65) 29 = .ok (.return_, 1) := by decide +kernel
theorem rt_65 : rty 65 = none := by decide +kernel
theorem mx_65 : mxl 65 = 2 := by decide +kernel
theorem ow_65 : (sta 65 = false ∧ own 65 = 8 ∧ hgt 65 = 0) := by decide +kernel
-- 66: SpunModules$Words.fault()I
theorem d_66_0 : decode (bc 66) 0 = .ok (.iconst (-1), 1) := by decide +kernel
theorem d_66_1 : decode (bc 66) 1 = .ok (.istore_n 1, 1) := by decide +kernel
theorem d_66_2 : decode (bc 66) 2 = .ok (.iconst 0, 1) := by decide +kernel
theorem d_66_3 : decode (bc 66) 3 = .ok (.istore_n 2, 1) := by decide +kernel
theorem d_66_4 : decode (bc 66) 4 = .ok (.iload_n 2, 1) := by decide +kernel
theorem d_66_5 : decode (bc 66) 5 = .ok (.aload_n 0, 1) := by decide +kernel
theorem d_66_6 : decode (bc 66) 6 = .ok (.getfield 9, 3) := by decide +kernel
theorem q_66_9 : fq 66 9 = some (8, 1, 6, 0, false) := by decide +kernel
theorem d_66_9 : decode (bc 66) 9 = .ok (.if_icmp .ge 75, 3) := by decide +kernel
theorem d_66_12 : decode (bc 66) 12 = .ok (.aload_n 0, 1) := by decide +kernel
theorem d_66_13 : decode (bc 66) 13 = .ok (.getfield 15, 3) := by decide +kernel
theorem q_66_15 : fq 66 15 = some (8, 2, 6, 2, true) := by decide +kernel
theorem d_66_16 : decode (bc 66) 16 = .ok (.iload_n 2, 1) := by decide +kernel
theorem d_66_17 : decode (bc 66) 17 = .ok (.iaload, 1) := by decide +kernel
theorem d_66_18 : decode (bc 66) 18 = .ok (.istore_n 3, 1) := by decide +kernel
theorem d_66_19 : decode (bc 66) 19 = .ok (.iload_n 3, 1) := by decide +kernel
theorem d_66_20 : decode (bc 66) 20 = .ok (.invokestatic 38, 3) := by decide +kernel
theorem q_66_38 : cq 66 38 [1, 4] = some (72, 1) := by decide +kernel
theorem d_66_23 : decode (bc 66) 23 = .ok (.ifCond .eq 20, 3) := by decide +kernel
theorem d_66_26 : decode (bc 66) 26 = .ok (.iload_n 1, 1) := by decide +kernel
theorem d_66_27 : decode (bc 66) 27 = .ok (.bipush 6, 2) := by decide +kernel
theorem d_66_29 : decode (bc 66) 29 = .ok (.if_icmp .ge 14, 3) := by decide +kernel
theorem d_66_32 : decode (bc 66) 32 = .ok (.iload_n 1, 1) := by decide +kernel
theorem d_66_33 : decode (bc 66) 33 = .ok (.iconst 0, 1) := by decide +kernel
theorem d_66_34 : decode (bc 66) 34 = .ok (.invokestatic 42, 3) := by decide +kernel
theorem q_66_42 : cq 66 42 [1, 4] = some (219, 2) := by decide +kernel
theorem d_66_37 : decode (bc 66) 37 = .ok (.iconst 1, 1) := by decide +kernel
theorem d_66_38 : decode (bc 66) 38 = .ok (.iadd, 1) := by decide +kernel
theorem d_66_39 : decode (bc 66) 39 = .ok (.istore_n 1, 1) := by decide +kernel
theorem d_66_40 : decode (bc 66) 40 = .ok (.goto 38, 3) := by decide +kernel
theorem d_66_43 : decode (bc 66) 43 = .ok (.iload_n 3, 1) := by decide +kernel
theorem d_66_44 : decode (bc 66) 44 = .ok (.invokestatic 48, 3) := by decide +kernel
theorem q_66_48 : cq 66 48 [1, 4] = some (71, 1) := by decide +kernel
theorem d_66_47 : decode (bc 66) 47 = .ok (.ifCond .eq 13, 3) := by decide +kernel
theorem d_66_50 : decode (bc 66) 50 = .ok (.iload_n 1, 1) := by decide +kernel
theorem d_66_51 : decode (bc 66) 51 = .ok (.iconst (-1), 1) := by decide +kernel
theorem d_66_52 : decode (bc 66) 52 = .ok (.if_icmp .ne 8, 3) := by decide +kernel
theorem d_66_55 : decode (bc 66) 55 = .ok (.iconst 0, 1) := by decide +kernel
theorem d_66_56 : decode (bc 66) 56 = .ok (.istore_n 1, 1) := by decide +kernel
theorem d_66_57 : decode (bc 66) 57 = .ok (.goto 21, 3) := by decide +kernel
theorem d_66_60 : decode (bc 66) 60 = .ok (.iload_n 3, 1) := by decide +kernel
theorem d_66_61 : decode (bc 66) 61 = .ok (.bipush 43, 2) := by decide +kernel
theorem d_66_63 : decode (bc 66) 63 = .ok (.if_icmp .ne 13, 3) := by decide +kernel
theorem d_66_66 : decode (bc 66) 66 = .ok (.iload_n 1, 1) := by decide +kernel
theorem d_66_67 : decode (bc 66) 67 = .ok (.iconst (-1), 1) := by decide +kernel
theorem d_66_68 : decode (bc 66) 68 = .ok (.if_icmp .eq 8, 3) := by decide +kernel
theorem d_66_71 : decode (bc 66) 71 = .ok (.iconst (-1), 1) := by decide +kernel
theorem d_66_72 : decode (bc 66) 72 = .ok (.istore_n 1, 1) := by decide +kernel
theorem d_66_73 : decode (bc 66) 73 = .ok (.goto 5, 3) := by decide +kernel
theorem d_66_76 : decode (bc 66) 76 = .ok (.iload_n 2, 1) := by decide +kernel
theorem d_66_77 : decode (bc 66) 77 = .ok (.ireturn, 1) := by decide +kernel
theorem d_66_78 : decode (bc 66) 78 = .ok (.iinc 2 1, 3) := by decide +kernel
theorem d_66_81 : decode (bc 66) 81 = .ok (.goto (-77), 3) := by decide +kernel
theorem d_66_84 : decode (bc 66) 84 = .ok (.iload_n 1, 1) := by decide +kernel
theorem d_66_85 : decode (bc 66) 85 = .ok (.iconst (-1), 1) := by decide +kernel
theorem d_66_86 : decode (bc 66) 86 = .ok (.if_icmp .ne 10, 3) := by decide +kernel
theorem d_66_89 : decode (bc 66) 89 = .ok (.aload_n 0, 1) := by decide +kernel
theorem d_66_90 : decode (bc 66) 90 = .ok (.getfield 9, 3) := by decide +kernel
theorem d_66_93 : decode (bc 66) 93 = .ok (.goto 4, 3) := by decide +kernel
theorem d_66_96 : decode (bc 66) 96 = .ok (.iconst (-1), 1) := by decide +kernel
theorem d_66_97 : decode (bc 66) 97 = .ok (.ireturn, 1) := by decide +kernel
theorem rt_66 : rty 66 = some .int := by decide +kernel
theorem mx_66 : mxl 66 = 4 := by decide +kernel
theorem ow_66 : (sta 66 = false ∧ own 66 = 8 ∧ hgt 66 = 1) := by decide +kernel
-- 67: SpunModules$Words.takesText()V
theorem d_67_0 : decode (bc 67) 0 = .ok (.aload_n 0, 1) := by decide +kernel
theorem d_67_1 : decode (bc 67) 1 = .ok (.getfield 15, 3) := by decide +kernel
theorem q_67_15 : fq 67 15 = some (8, 2, 6, 2, true) := by decide +kernel
theorem d_67_4 : decode (bc 67) 4 = .ok (.iconst 0, 1) := by decide +kernel
theorem d_67_5 : decode (bc 67) 5 = .ok (.aload_n 0, 1) := by decide +kernel
theorem d_67_6 : decode (bc 67) 6 = .ok (.getfield 22, 3) := by decide +kernel
theorem q_67_22 : fq 67 22 = some (8, 4, 6, 2, true) := by decide +kernel
theorem d_67_9 : decode (bc 67) 9 = .ok (.iconst 0, 1) := by decide +kernel
theorem d_67_10 : decode (bc 67) 10 = .ok (.bipush 40, 2) := by decide +kernel
theorem d_67_12 : decode (bc 67) 12 = .ok (.invokestatic 51, 3) := by decide +kernel
theorem q_67_51 : (mlk (own 67) 51).map (fun e => e.2.2.2.1) = some 7 := by decide +kernel
theorem d_67_15 : decode (bc 67) 15 = .ok (.aload_n 0, 1) := by decide +kernel
theorem d_67_16 : decode (bc 67) 16 = .ok (.aload_n 0, 1) := by decide +kernel
theorem d_67_17 : decode (bc 67) 17 = .ok (.getfield 9, 3) := by decide +kernel
theorem q_67_9 : fq 67 9 = some (8, 1, 6, 0, false) := by decide +kernel
theorem d_67_20 : decode (bc 67) 20 = .ok (.putfield 19, 3) := by decide +kernel
theorem q_67_19 : fq 67 19 = some (8, 3, 6, 0, false) := by decide +kernel
theorem d_67_23 : decode (bc 67) 23 = .ok (.return_, 1) := by decide +kernel
theorem rt_67 : rty 67 = none := by decide +kernel
theorem mx_67 : mxl 67 = 1 := by decide +kernel
theorem ow_67 : (sta 67 = false ∧ own 67 = 8 ∧ hgt 67 = 1) := by decide +kernel
-- 68: SpunModules$Words.terms()I
theorem d_68_0 : decode (bc 68) 0 = .ok (.iconst 1, 1) := by decide +kernel
theorem d_68_1 : decode (bc 68) 1 = .ok (.istore_n 1, 1) := by decide +kernel
theorem d_68_2 : decode (bc 68) 2 = .ok (.iconst 0, 1) := by decide +kernel
theorem d_68_3 : decode (bc 68) 3 = .ok (.istore_n 2, 1) := by decide +kernel
theorem d_68_4 : decode (bc 68) 4 = .ok (.iload_n 2, 1) := by decide +kernel
theorem d_68_5 : decode (bc 68) 5 = .ok (.aload_n 0, 1) := by decide +kernel
theorem d_68_6 : decode (bc 68) 6 = .ok (.getfield 19, 3) := by decide +kernel
theorem q_68_19 : fq 68 19 = some (8, 3, 6, 0, false) := by decide +kernel
theorem d_68_9 : decode (bc 68) 9 = .ok (.if_icmp .ge 28, 3) := by decide +kernel
theorem d_68_12 : decode (bc 68) 12 = .ok (.iload_n 1, 1) := by decide +kernel
theorem d_68_13 : decode (bc 68) 13 = .ok (.aload_n 0, 1) := by decide +kernel
theorem d_68_14 : decode (bc 68) 14 = .ok (.getfield 22, 3) := by decide +kernel
theorem q_68_22 : fq 68 22 = some (8, 4, 6, 2, true) := by decide +kernel
theorem d_68_17 : decode (bc 68) 17 = .ok (.iload_n 2, 1) := by decide +kernel
theorem d_68_18 : decode (bc 68) 18 = .ok (.iaload, 1) := by decide +kernel
theorem d_68_19 : decode (bc 68) 19 = .ok (.bipush 43, 2) := by decide +kernel
theorem d_68_21 : decode (bc 68) 21 = .ok (.if_icmp .ne 7, 3) := by decide +kernel
theorem d_68_24 : decode (bc 68) 24 = .ok (.iconst 1, 1) := by decide +kernel
theorem d_68_25 : decode (bc 68) 25 = .ok (.goto 4, 3) := by decide +kernel
theorem d_68_28 : decode (bc 68) 28 = .ok (.iconst 0, 1) := by decide +kernel
theorem d_68_29 : decode (bc 68) 29 = .ok (.iadd, 1) := by decide +kernel
theorem d_68_30 : decode (bc 68) 30 = .ok (.istore_n 1, 1) := by decide +kernel
theorem d_68_31 : decode (bc 68) 31 = .ok (.iinc 2 1, 3) := by decide +kernel
theorem d_68_34 : decode (bc 68) 34 = .ok (.goto (-30), 3) := by decide +kernel
theorem d_68_37 : decode (bc 68) 37 = .ok (.iload_n 1, 1) := by decide +kernel
theorem d_68_38 : decode (bc 68) 38 = .ok (.ireturn, 1) := by decide +kernel
theorem rt_68 : rty 68 = some .int := by decide +kernel
theorem mx_68 : mxl 68 = 3 := by decide +kernel
theorem ow_68 : (sta 68 = false ∧ own 68 = 8 ∧ hgt 68 = 0) := by decide +kernel
-- 69: SpunModules$Words.valueRow(LSpunModules$Action;I)J
theorem d_69_0 : decode (bc 69) 0 = .ok (.lconst 0, 1) := by decide +kernel
theorem d_69_1 : decode (bc 69) 1 = .ok (.lstore_n 3, 1) := by decide +kernel
theorem d_69_2 : decode (bc 69) 2 = .ok (.iconst 1, 1) := by decide +kernel
theorem d_69_3 : decode (bc 69) 3 = .ok (.istore 5, 2) := by decide +kernel
theorem d_69_5 : decode (bc 69) 5 = .ok (.iload_n 2, 1) := by decide +kernel
theorem d_69_6 : decode (bc 69) 6 = .ok (.invokestatic 57, 3) := by decide +kernel
theorem q_69_57 : cq 69 57 [1, 4] = some (121, 1) := by decide +kernel
theorem d_69_9 : decode (bc 69) 9 = .ok (.lstore 6, 2) := by decide +kernel
theorem d_69_11 : decode (bc 69) 11 = .ok (.iconst 0, 1) := by decide +kernel
theorem d_69_12 : decode (bc 69) 12 = .ok (.istore 8, 2) := by decide +kernel
theorem d_69_14 : decode (bc 69) 14 = .ok (.iload 8, 2) := by decide +kernel
theorem d_69_16 : decode (bc 69) 16 = .ok (.aload_n 0, 1) := by decide +kernel
theorem d_69_17 : decode (bc 69) 17 = .ok (.getfield 19, 3) := by decide +kernel
theorem q_69_19 : fq 69 19 = some (8, 3, 6, 0, false) := by decide +kernel
theorem d_69_20 : decode (bc 69) 20 = .ok (.if_icmp .ge 100, 3) := by decide +kernel
theorem d_69_23 : decode (bc 69) 23 = .ok (.aload_n 0, 1) := by decide +kernel
theorem d_69_24 : decode (bc 69) 24 = .ok (.getfield 22, 3) := by decide +kernel
theorem q_69_22 : fq 69 22 = some (8, 4, 6, 2, true) := by decide +kernel
theorem d_69_27 : decode (bc 69) 27 = .ok (.iload 8, 2) := by decide +kernel
theorem d_69_29 : decode (bc 69) 29 = .ok (.iaload, 1) := by decide +kernel
theorem d_69_30 : decode (bc 69) 30 = .ok (.invokestatic 48, 3) := by decide +kernel
theorem q_69_48 : cq 69 48 [1, 4] = some (71, 1) := by decide +kernel
theorem d_69_33 : decode (bc 69) 33 = .ok (.ifCond .eq 25, 3) := by decide +kernel
theorem d_69_36 : decode (bc 69) 36 = .ok (.aload_n 0, 1) := by decide +kernel
theorem d_69_37 : decode (bc 69) 37 = .ok (.getfield 25, 3) := by decide +kernel
theorem q_69_25 : fq 69 25 = some (8, 0, 6, 2, true) := by decide +kernel
theorem d_69_40 : decode (bc 69) 40 = .ok (.aload_n 0, 1) := by decide +kernel
theorem d_69_41 : decode (bc 69) 41 = .ok (.getfield 22, 3) := by decide +kernel
theorem d_69_44 : decode (bc 69) 44 = .ok (.iload 8, 2) := by decide +kernel
theorem d_69_46 : decode (bc 69) 46 = .ok (.iaload, 1) := by decide +kernel
theorem d_69_47 : decode (bc 69) 47 = .ok (.bipush 48, 2) := by decide +kernel
theorem d_69_49 : decode (bc 69) 49 = .ok (.isub, 1) := by decide +kernel
theorem d_69_50 : decode (bc 69) 50 = .ok (.invokevirtual 61, 3) := by decide +kernel
theorem q_69_61 : cq 69 61 [0, 3] = some (27, 2) := by decide +kernel
theorem d_69_53 : decode (bc 69) 53 = .ok (.istore 5, 2) := by decide +kernel
theorem d_69_55 : decode (bc 69) 55 = .ok (.goto 59, 3) := by decide +kernel
theorem d_69_58 : decode (bc 69) 58 = .ok (.aload_n 0, 1) := by decide +kernel
theorem d_69_59 : decode (bc 69) 59 = .ok (.getfield 22, 3) := by decide +kernel
theorem d_69_62 : decode (bc 69) 62 = .ok (.iload 8, 2) := by decide +kernel
theorem d_69_64 : decode (bc 69) 64 = .ok (.iaload, 1) := by decide +kernel
theorem d_69_65 : decode (bc 69) 65 = .ok (.invokestatic 38, 3) := by decide +kernel
theorem q_69_38 : cq 69 38 [1, 4] = some (72, 1) := by decide +kernel
theorem d_69_68 : decode (bc 69) 68 = .ok (.ifCond .eq 24, 3) := by decide +kernel
theorem d_69_71 : decode (bc 69) 71 = .ok (.aload_n 1, 1) := by decide +kernel
theorem d_69_72 : decode (bc 69) 72 = .ok (.aload_n 0, 1) := by decide +kernel
theorem d_69_73 : decode (bc 69) 73 = .ok (.getfield 22, 3) := by decide +kernel
theorem d_69_76 : decode (bc 69) 76 = .ok (.iload 8, 2) := by decide +kernel
theorem d_69_78 : decode (bc 69) 78 = .ok (.iaload, 1) := by decide +kernel
theorem d_69_79 : decode (bc 69) 79 = .ok (.bipush 97, 2) := by decide +kernel
theorem d_69_81 : decode (bc 69) 81 = .ok (.isub, 1) := by decide +kernel
theorem d_69_82 : decode (bc 69) 82 = .ok (.lload 6, 2) := by decide +kernel
theorem d_69_84 : decode (bc 69) 84 = .ok (.invokevirtual 67, 3) := by decide +kernel
theorem q_69_67 : cq 69 67 [0, 3] = some (5, 3) := by decide +kernel
theorem d_69_87 : decode (bc 69) 87 = .ok (.lstore 6, 2) := by decide +kernel
theorem d_69_89 : decode (bc 69) 89 = .ok (.goto 25, 3) := by decide +kernel
theorem d_69_92 : decode (bc 69) 92 = .ok (.aload_n 0, 1) := by decide +kernel
theorem d_69_93 : decode (bc 69) 93 = .ok (.getfield 25, 3) := by decide +kernel
theorem d_69_96 : decode (bc 69) 96 = .ok (.lload_n 3, 1) := by decide +kernel
theorem d_69_97 : decode (bc 69) 97 = .ok (.iload 5, 2) := by decide +kernel
theorem d_69_99 : decode (bc 69) 99 = .ok (.lload 6, 2) := by decide +kernel
theorem d_69_101 : decode (bc 69) 101 = .ok (.invokevirtual 73, 3) := by decide +kernel
theorem q_69_73 : cq 69 73 [0, 3] = some (30, 4) := by decide +kernel
theorem d_69_104 : decode (bc 69) 104 = .ok (.lstore_n 3, 1) := by decide +kernel
theorem d_69_105 : decode (bc 69) 105 = .ok (.iconst 1, 1) := by decide +kernel
theorem d_69_106 : decode (bc 69) 106 = .ok (.istore 5, 2) := by decide +kernel
theorem d_69_108 : decode (bc 69) 108 = .ok (.iload_n 2, 1) := by decide +kernel
theorem d_69_109 : decode (bc 69) 109 = .ok (.invokestatic 57, 3) := by decide +kernel
theorem d_69_112 : decode (bc 69) 112 = .ok (.lstore 6, 2) := by decide +kernel
theorem d_69_114 : decode (bc 69) 114 = .ok (.iinc 8 1, 3) := by decide +kernel
theorem d_69_117 : decode (bc 69) 117 = .ok (.goto (-103), 3) := by decide +kernel
theorem d_69_120 : decode (bc 69) 120 = .ok (.aload_n 0, 1) := by decide +kernel
theorem d_69_121 : decode (bc 69) 121 = .ok (.getfield 25, 3) := by decide +kernel
theorem d_69_124 : decode (bc 69) 124 = .ok (.lload_n 3, 1) := by decide +kernel
theorem d_69_125 : decode (bc 69) 125 = .ok (.iload 5, 2) := by decide +kernel
theorem d_69_127 : decode (bc 69) 127 = .ok (.lload 6, 2) := by decide +kernel
theorem d_69_129 : decode (bc 69) 129 = .ok (.invokevirtual 73, 3) := by decide +kernel
theorem d_69_132 : decode (bc 69) 132 = .ok (.lreturn, 1) := by decide +kernel
theorem rt_69 : rty 69 = some .long := by decide +kernel
theorem mx_69 : mxl 69 = 9 := by decide +kernel
theorem ow_69 : (sta 69 = false ∧ own 69 = 8 ∧ hgt 69 = 2) := by decide +kernel
-- 70: SpunModules$Words.findsNulls(LSpunModules$Action;LSpunModules$Space;)V
theorem d_70_0 : decode (bc 70) 0 = .ok (.aload_n 2, 1) := by decide +kernel
theorem d_70_1 : decode (bc 70) 1 = .ok (.aload_n 1, 1) := by decide +kernel
theorem d_70_2 : decode (bc 70) 2 = .ok (.getfield 77, 3) := by decide +kernel
theorem q_70_77 : fq 70 77 = some (0, 1, 3, 0, false) := by decide +kernel
theorem d_70_5 : decode (bc 70) 5 = .ok (.invokevirtual 80, 3) := by decide +kernel
theorem q_70_80 : cq 70 80 [0, 3] = some (52, 2) := by decide +kernel
theorem d_70_8 : decode (bc 70) 8 = .ok (.aload_n 0, 1) := by decide +kernel
theorem d_70_9 : decode (bc 70) 9 = .ok (.getfield 34, 3) := by decide +kernel
theorem q_70_34 : fq 70 34 = some (8, 5, 6, 2, true) := by decide +kernel
theorem d_70_12 : decode (bc 70) 12 = .ok (.aload_n 1, 1) := by decide +kernel
theorem d_70_13 : decode (bc 70) 13 = .ok (.getfield 77, 3) := by decide +kernel
theorem d_70_16 : decode (bc 70) 16 = .ok (.invokevirtual 80, 3) := by decide +kernel
theorem d_70_19 : decode (bc 70) 19 = .ok (.iconst 0, 1) := by decide +kernel
theorem d_70_20 : decode (bc 70) 20 = .ok (.istore_n 3, 1) := by decide +kernel
theorem d_70_21 : decode (bc 70) 21 = .ok (.iload_n 3, 1) := by decide +kernel
theorem d_70_22 : decode (bc 70) 22 = .ok (.aload_n 1, 1) := by decide +kernel
theorem d_70_23 : decode (bc 70) 23 = .ok (.getfield 77, 3) := by decide +kernel
theorem d_70_26 : decode (bc 70) 26 = .ok (.if_icmp .ge 65, 3) := by decide +kernel
theorem d_70_29 : decode (bc 70) 29 = .ok (.aload_n 0, 1) := by decide +kernel
theorem d_70_30 : decode (bc 70) 30 = .ok (.aload_n 1, 1) := by decide +kernel
theorem d_70_31 : decode (bc 70) 31 = .ok (.iload_n 3, 1) := by decide +kernel
theorem d_70_32 : decode (bc 70) 32 = .ok (.invokevirtual 84, 3) := by decide +kernel
theorem q_70_84 : cq 70 84 [0, 3] = some (69, 3) := by decide +kernel
theorem d_70_35 : decode (bc 70) 35 = .ok (.bipush 6, 2) := by decide +kernel
theorem d_70_37 : decode (bc 70) 37 = .ok (.iload_n 3, 1) := by decide +kernel
theorem d_70_38 : decode (bc 70) 38 = .ok (.iadd, 1) := by decide +kernel
theorem d_70_39 : decode (bc 70) 39 = .ok (.invokestatic 57, 3) := by decide +kernel
theorem q_70_57 : cq 70 57 [1, 4] = some (121, 1) := by decide +kernel
theorem d_70_42 : decode (bc 70) 42 = .ok (.lor, 1) := by decide +kernel
theorem d_70_43 : decode (bc 70) 43 = .ok (.lstore 4, 2) := by decide +kernel
theorem d_70_45 : decode (bc 70) 45 = .ok (.aload_n 0, 1) := by decide +kernel
theorem d_70_46 : decode (bc 70) 46 = .ok (.getfield 34, 3) := by decide +kernel
theorem d_70_49 : decode (bc 70) 49 = .ok (.lload 4, 2) := by decide +kernel
theorem d_70_51 : decode (bc 70) 51 = .ok (.invokevirtual 88, 3) := by decide +kernel
theorem q_70_88 : cq 70 88 [0, 3] = some (55, 2) := by decide +kernel
theorem d_70_54 : decode (bc 70) 54 = .ok (.lstore 6, 2) := by decide +kernel
theorem d_70_56 : decode (bc 70) 56 = .ok (.lload 6, 2) := by decide +kernel
theorem d_70_58 : decode (bc 70) 58 = .ok (.invokestatic 92, 3) := by decide +kernel
theorem q_70_92 : cq 70 92 [1, 4] = some (122, 1) := by decide +kernel
theorem d_70_61 : decode (bc 70) 61 = .ok (.ifCond .eq 15, 3) := by decide +kernel
theorem d_70_64 : decode (bc 70) 64 = .ok (.aload_n 2, 1) := by decide +kernel
theorem d_70_65 : decode (bc 70) 65 = .ok (.lload 6, 2) := by decide +kernel
theorem d_70_67 : decode (bc 70) 67 = .ok (.bipush 24, 2) := by decide +kernel
theorem d_70_69 : decode (bc 70) 69 = .ok (.lshl, 1) := by decide +kernel
theorem d_70_70 : decode (bc 70) 70 = .ok (.invokevirtual 96, 3) := by decide +kernel
theorem q_70_96 : cq 70 96 [0, 3] = some (56, 2) := by decide +kernel
theorem d_70_73 : decode (bc 70) 73 = .ok (.goto 12, 3) := by decide +kernel
theorem d_70_76 : decode (bc 70) 76 = .ok (.aload_n 0, 1) := by decide +kernel
theorem d_70_77 : decode (bc 70) 77 = .ok (.getfield 34, 3) := by decide +kernel
theorem d_70_80 : decode (bc 70) 80 = .ok (.lload 4, 2) := by decide +kernel
theorem d_70_82 : decode (bc 70) 82 = .ok (.invokevirtual 96, 3) := by decide +kernel
theorem d_70_85 : decode (bc 70) 85 = .ok (.iinc 3 1, 3) := by decide +kernel
theorem d_70_88 : decode (bc 70) 88 = .ok (.goto (-67), 3) := by decide +kernel
theorem d_70_91 : decode (bc 70) 91 = .ok (.return_, 1) := by decide +kernel
theorem rt_70 : rty 70 = none := by decide +kernel
theorem mx_70 : mxl 70 = 8 := by decide +kernel
theorem ow_70 : (sta 70 = false ∧ own 70 = 8 ∧ hgt 70 = 3) := by decide +kernel
-- 71: SpunModules$Words.isDigit(I)Z
theorem d_71_0 : decode (bc 71) 0 = .ok (.iload_n 0, 1) := by decide +kernel
theorem d_71_1 : decode (bc 71) 1 = .ok (.bipush 48, 2) := by decide +kernel
theorem d_71_3 : decode (bc 71) 3 = .ok (.if_icmp .lt 13, 3) := by decide +kernel
theorem d_71_6 : decode (bc 71) 6 = .ok (.iload_n 0, 1) := by decide +kernel
theorem d_71_7 : decode (bc 71) 7 = .ok (.bipush 50, 2) := by decide +kernel
theorem d_71_9 : decode (bc 71) 9 = .ok (.if_icmp .gt 7, 3) := by decide +kernel
theorem d_71_12 : decode (bc 71) 12 = .ok (.iconst 1, 1) := by decide +kernel
theorem d_71_13 : decode (bc 71) 13 = .ok (.goto 4, 3) := by decide +kernel
theorem d_71_16 : decode (bc 71) 16 = .ok (.iconst 0, 1) := by decide +kernel
theorem d_71_17 : decode (bc 71) 17 = .ok (.ireturn, 1) := by decide +kernel
theorem rt_71 : rty 71 = some .boolean := by decide +kernel
theorem mx_71 : mxl 71 = 1 := by decide +kernel
theorem ow_71 : (sta 71 = true ∧ own 71 = 8 ∧ hgt 71 = 0) := by decide +kernel
-- 72: SpunModules$Words.isLetter(I)Z
theorem d_72_0 : decode (bc 72) 0 = .ok (.iload_n 0, 1) := by decide +kernel
theorem d_72_1 : decode (bc 72) 1 = .ok (.bipush 97, 2) := by decide +kernel
theorem d_72_3 : decode (bc 72) 3 = .ok (.if_icmp .eq 9, 3) := by decide +kernel
theorem d_72_6 : decode (bc 72) 6 = .ok (.iload_n 0, 1) := by decide +kernel
theorem d_72_7 : decode (bc 72) 7 = .ok (.bipush 98, 2) := by decide +kernel
theorem d_72_9 : decode (bc 72) 9 = .ok (.if_icmp .ne 7, 3) := by decide +kernel
theorem d_72_12 : decode (bc 72) 12 = .ok (.iconst 1, 1) := by decide +kernel
theorem d_72_13 : decode (bc 72) 13 = .ok (.goto 4, 3) := by decide +kernel
theorem d_72_16 : decode (bc 72) 16 = .ok (.iconst 0, 1) := by decide +kernel
theorem d_72_17 : decode (bc 72) 17 = .ok (.ireturn, 1) := by decide +kernel
theorem rt_72 : rty 72 = some .boolean := by decide +kernel
theorem mx_72 : mxl 72 = 1 := by decide +kernel
theorem ow_72 : (sta 72 = true ∧ own 72 = 8 ∧ hgt 72 = 0) := by decide +kernel
