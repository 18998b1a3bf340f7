-- ===== PART A: goes FIRST, ahead of the names: the tables' words, and 'selects' of the private methods out of them =====
/-- a private method of a class that the tables say can be made, by its rows of tables_1 -/
def lw_okq (q : MethodName × Nat) : Prop := (q.1.cls ≠ "java/lang/invoke/MethodHandle" ∧ q.1.cls ≠ "java/lang/invoke/VarHandle") ∧ Cond.instantiable q.1.cls q.2 ∈ tables_1 ∧ Cond.privateMethod q.1 ∈ tables_1 ∧ Cond.instanceMethod q.1 ∈ tables_1
theorem lw_p0 : lw_okq (⟨"SpunModules", "fails", "(I)I"⟩, 14) := ⟨⟨by decide +kernel, by decide +kernel⟩, List.mem_of_getElem? (i := 17) (by decide +kernel), List.mem_of_getElem? (i := 308) (by decide +kernel), List.mem_of_getElem? (i := 309) (by decide +kernel)⟩
theorem lw_p1 : lw_okq (⟨"SpunModules", "isModule", "(I)Z"⟩, 14) := ⟨⟨by decide +kernel, by decide +kernel⟩, List.mem_of_getElem? (i := 17) (by decide +kernel), List.mem_of_getElem? (i := 334) (by decide +kernel), List.mem_of_getElem? (i := 335) (by decide +kernel)⟩
theorem lw_p2 : lw_okq (⟨"SpunModules", "isEntry", "(IIII)Z"⟩, 14) := ⟨⟨by decide +kernel, by decide +kernel⟩, List.mem_of_getElem? (i := 17) (by decide +kernel), List.mem_of_getElem? (i := 346) (by decide +kernel), List.mem_of_getElem? (i := 347) (by decide +kernel)⟩
theorem lw_p3 : lw_okq (⟨"SpunModules", "isMatrix", "(I)Z"⟩, 14) := ⟨⟨by decide +kernel, by decide +kernel⟩, List.mem_of_getElem? (i := 17) (by decide +kernel), List.mem_of_getElem? (i := 350) (by decide +kernel), List.mem_of_getElem? (i := 351) (by decide +kernel)⟩
theorem lw_p4 : lw_okq (⟨"SpunModules", "isPlace", "(II)Z"⟩, 14) := ⟨⟨by decide +kernel, by decide +kernel⟩, List.mem_of_getElem? (i := 17) (by decide +kernel), List.mem_of_getElem? (i := 354) (by decide +kernel), List.mem_of_getElem? (i := 355) (by decide +kernel)⟩
theorem lw_p5 : lw_okq (⟨"SpunModules", "isElement", "(I)Z"⟩, 14) := ⟨⟨by decide +kernel, by decide +kernel⟩, List.mem_of_getElem? (i := 17) (by decide +kernel), List.mem_of_getElem? (i := 358) (by decide +kernel), List.mem_of_getElem? (i := 359) (by decide +kernel)⟩
theorem lw_p6 : lw_okq (⟨"SpunModules", "changesTo", "(I)I"⟩, 14) := ⟨⟨by decide +kernel, by decide +kernel⟩, List.mem_of_getElem? (i := 17) (by decide +kernel), List.mem_of_getElem? (i := 424) (by decide +kernel), List.mem_of_getElem? (i := 425) (by decide +kernel)⟩
theorem lw_p7 : lw_okq (⟨"SpunModules$Action", "addsBlock", "(LSpunModules$Action;IIII)V"⟩, 3) := ⟨⟨by decide +kernel, by decide +kernel⟩, List.mem_of_getElem? (i := 38) (by decide +kernel), List.mem_of_getElem? (i := 438) (by decide +kernel), List.mem_of_getElem? (i := 439) (by decide +kernel)⟩
theorem lw_p8 : lw_okq (⟨"SpunModules", "isVector", "(II)Z"⟩, 14) := ⟨⟨by decide +kernel, by decide +kernel⟩, List.mem_of_getElem? (i := 17) (by decide +kernel), List.mem_of_getElem? (i := 454) (by decide +kernel), List.mem_of_getElem? (i := 455) (by decide +kernel)⟩
theorem lw_p9 : lw_okq (⟨"SpunModules", "spins", "(II)V"⟩, 14) := ⟨⟨by decide +kernel, by decide +kernel⟩, List.mem_of_getElem? (i := 17) (by decide +kernel), List.mem_of_getElem? (i := 462) (by decide +kernel), List.mem_of_getElem? (i := 463) (by decide +kernel)⟩
theorem lw_p10 : lw_okq (⟨"SpunModules$Factors", "formsPart", "(LSpunModules$Action;)V"⟩, 8) := ⟨⟨by decide +kernel, by decide +kernel⟩, List.mem_of_getElem? (i := 146) (by decide +kernel), List.mem_of_getElem? (i := 585) (by decide +kernel), List.mem_of_getElem? (i := 586) (by decide +kernel)⟩
theorem lw_p11 : lw_okq (⟨"SpunModules$Factors", "writesFrom", "(JLSpunModules$Action;)V"⟩, 8) := ⟨⟨by decide +kernel, by decide +kernel⟩, List.mem_of_getElem? (i := 146) (by decide +kernel), List.mem_of_getElem? (i := 592) (by decide +kernel), List.mem_of_getElem? (i := 593) (by decide +kernel)⟩
theorem lw_p12 : lw_okq (⟨"SpunModules$Factors", "sinksLast", "()V"⟩, 8) := ⟨⟨by decide +kernel, by decide +kernel⟩, List.mem_of_getElem? (i := 146) (by decide +kernel), List.mem_of_getElem? (i := 617) (by decide +kernel), List.mem_of_getElem? (i := 618) (by decide +kernel)⟩
theorem lw_p13 : lw_okq (⟨"SpunModules$Homs", "evaluates", "(LSpunModules$Action;LSpunModules$Action;II)V"⟩, 5) := ⟨⟨by decide +kernel, by decide +kernel⟩, List.mem_of_getElem? (i := 183) (by decide +kernel), List.mem_of_getElem? (i := 633) (by decide +kernel), List.mem_of_getElem? (i := 634) (by decide +kernel)⟩
theorem lw_p14 : lw_okq (⟨"SpunModules$Homs", "reduces", "(I)V"⟩, 5) := ⟨⟨by decide +kernel, by decide +kernel⟩, List.mem_of_getElem? (i := 183) (by decide +kernel), List.mem_of_getElem? (i := 641) (by decide +kernel), List.mem_of_getElem? (i := 642) (by decide +kernel)⟩
theorem lw_p15 : lw_okq (⟨"SpunModules$Homs", "keepsIfNew", "(I)V"⟩, 5) := ⟨⟨by decide +kernel, by decide +kernel⟩, List.mem_of_getElem? (i := 183) (by decide +kernel), List.mem_of_getElem? (i := 646) (by decide +kernel), List.mem_of_getElem? (i := 647) (by decide +kernel)⟩
def lw_privs_1 : List (MethodName × Nat) := [(⟨"SpunModules", "fails", "(I)I"⟩, 14), (⟨"SpunModules", "isModule", "(I)Z"⟩, 14), (⟨"SpunModules", "isEntry", "(IIII)Z"⟩, 14), (⟨"SpunModules", "isMatrix", "(I)Z"⟩, 14), (⟨"SpunModules", "isPlace", "(II)Z"⟩, 14), (⟨"SpunModules", "isElement", "(I)Z"⟩, 14), (⟨"SpunModules", "changesTo", "(I)I"⟩, 14), (⟨"SpunModules$Action", "addsBlock", "(LSpunModules$Action;IIII)V"⟩, 3), (⟨"SpunModules", "isVector", "(II)Z"⟩, 14), (⟨"SpunModules", "spins", "(II)V"⟩, 14), (⟨"SpunModules$Factors", "formsPart", "(LSpunModules$Action;)V"⟩, 8), (⟨"SpunModules$Factors", "writesFrom", "(JLSpunModules$Action;)V"⟩, 8), (⟨"SpunModules$Factors", "sinksLast", "()V"⟩, 8), (⟨"SpunModules$Homs", "evaluates", "(LSpunModules$Action;LSpunModules$Action;II)V"⟩, 5), (⟨"SpunModules$Homs", "reduces", "(I)V"⟩, 5), (⟨"SpunModules$Homs", "keepsIfNew", "(I)V"⟩, 5)]
theorem lw_r1 : ∀ q ∈ lw_privs_1, lw_okq q := List.forall_mem_cons.mpr ⟨lw_p0, List.forall_mem_cons.mpr ⟨lw_p1, List.forall_mem_cons.mpr ⟨lw_p2, List.forall_mem_cons.mpr ⟨lw_p3, List.forall_mem_cons.mpr ⟨lw_p4, List.forall_mem_cons.mpr ⟨lw_p5, List.forall_mem_cons.mpr ⟨lw_p6, List.forall_mem_cons.mpr ⟨lw_p7, List.forall_mem_cons.mpr ⟨lw_p8, List.forall_mem_cons.mpr ⟨lw_p9, List.forall_mem_cons.mpr ⟨lw_p10, List.forall_mem_cons.mpr ⟨lw_p11, List.forall_mem_cons.mpr ⟨lw_p12, List.forall_mem_cons.mpr ⟨lw_p13, List.forall_mem_cons.mpr ⟨lw_p14, List.forall_mem_cons.mpr ⟨lw_p15, fun _ h => absurd h List.not_mem_nil⟩⟩⟩⟩⟩⟩⟩⟩⟩⟩⟩⟩⟩⟩⟩⟩
theorem lw_p16 : lw_okq (⟨"SpunModules$Socles", "findsDimensions", "()V"⟩, 7) := ⟨⟨by decide +kernel, by decide +kernel⟩, List.mem_of_getElem? (i := 207) (by decide +kernel), List.mem_of_getElem? (i := 682) (by decide +kernel), List.mem_of_getElem? (i := 683) (by decide +kernel)⟩
theorem lw_p17 : lw_okq (⟨"SpunModules$Socles", "findsSocle", "()V"⟩, 7) := ⟨⟨by decide +kernel, by decide +kernel⟩, List.mem_of_getElem? (i := 207) (by decide +kernel), List.mem_of_getElem? (i := 691) (by decide +kernel), List.mem_of_getElem? (i := 692) (by decide +kernel)⟩
theorem lw_p18 : lw_okq (⟨"SpunModules$Socles", "addsIfSimple", "(J)V"⟩, 7) := ⟨⟨by decide +kernel, by decide +kernel⟩, List.mem_of_getElem? (i := 207) (by decide +kernel), List.mem_of_getElem? (i := 695) (by decide +kernel), List.mem_of_getElem? (i := 696) (by decide +kernel)⟩
theorem lw_p19 : lw_okq (⟨"SpunModules", "invariantSpaces", "(LSpunModules$Action;I)I"⟩, 14) := ⟨⟨by decide +kernel, by decide +kernel⟩, List.mem_of_getElem? (i := 17) (by decide +kernel), List.mem_of_getElem? (i := 717) (by decide +kernel), List.mem_of_getElem? (i := 718) (by decide +kernel)⟩
theorem lw_p20 : lw_okq (⟨"SpunModules$Polynomial", "addsUnit", "(II)V"⟩, 4) := ⟨⟨by decide +kernel, by decide +kernel⟩, List.mem_of_getElem? (i := 239) (by decide +kernel), List.mem_of_getElem? (i := 817) (by decide +kernel), List.mem_of_getElem? (i := 818) (by decide +kernel)⟩
theorem lw_p21 : lw_okq (⟨"SpunModules$Polynomial", "multiplied", "(I)I"⟩, 4) := ⟨⟨by decide +kernel, by decide +kernel⟩, List.mem_of_getElem? (i := 239) (by decide +kernel), List.mem_of_getElem? (i := 821) (by decide +kernel), List.mem_of_getElem? (i := 822) (by decide +kernel)⟩
theorem lw_p22 : lw_okq (⟨"SpunModules", "toldNumber", "(I)I"⟩, 14) := ⟨⟨by decide +kernel, by decide +kernel⟩, List.mem_of_getElem? (i := 17) (by decide +kernel), List.mem_of_getElem? (i := 838) (by decide +kernel), List.mem_of_getElem? (i := 839) (by decide +kernel)⟩
theorem lw_p23 : lw_okq (⟨"SpunModulesModel", "no", "()I"⟩, 38) := ⟨⟨by decide +kernel, by decide +kernel⟩, List.mem_of_getElem? (i := 857) (by decide +kernel), List.mem_of_getElem? (i := 982) (by decide +kernel), List.mem_of_getElem? (i := 983) (by decide +kernel)⟩
theorem lw_p24 : lw_okq (⟨"SpunModulesModel", "bad", "()I"⟩, 38) := ⟨⟨by decide +kernel, by decide +kernel⟩, List.mem_of_getElem? (i := 857) (by decide +kernel), List.mem_of_getElem? (i := 993) (by decide +kernel), List.mem_of_getElem? (i := 994) (by decide +kernel)⟩
theorem lw_p25 : lw_okq (⟨"SpunModulesModel", "leavesState", "()V"⟩, 38) := ⟨⟨by decide +kernel, by decide +kernel⟩, List.mem_of_getElem? (i := 857) (by decide +kernel), List.mem_of_getElem? (i := 997) (by decide +kernel), List.mem_of_getElem? (i := 998) (by decide +kernel)⟩
theorem lw_p26 : lw_okq (⟨"SpunModulesModel", "clearsFresh", "()V"⟩, 38) := ⟨⟨by decide +kernel, by decide +kernel⟩, List.mem_of_getElem? (i := 857) (by decide +kernel), List.mem_of_getElem? (i := 1001) (by decide +kernel), List.mem_of_getElem? (i := 1002) (by decide +kernel)⟩
theorem lw_p27 : lw_okq (⟨"SpunModulesModel", "takesFresh", "(II)V"⟩, 38) := ⟨⟨by decide +kernel, by decide +kernel⟩, List.mem_of_getElem? (i := 857) (by decide +kernel), List.mem_of_getElem? (i := 1005) (by decide +kernel), List.mem_of_getElem? (i := 1006) (by decide +kernel)⟩
theorem lw_p28 : lw_okq (⟨"SpunModulesModel", "limit", "()I"⟩, 38) := ⟨⟨by decide +kernel, by decide +kernel⟩, List.mem_of_getElem? (i := 857) (by decide +kernel), List.mem_of_getElem? (i := 1016) (by decide +kernel), List.mem_of_getElem? (i := 1017) (by decide +kernel)⟩
theorem lw_p29 : lw_okq (⟨"SpunModulesModel", "isPlace", "(II)Z"⟩, 38) := ⟨⟨by decide +kernel, by decide +kernel⟩, List.mem_of_getElem? (i := 857) (by decide +kernel), List.mem_of_getElem? (i := 1024) (by decide +kernel), List.mem_of_getElem? (i := 1025) (by decide +kernel)⟩
theorem lw_p30 : lw_okq (⟨"SpunModulesModel", "turned", "(IIII[I)I"⟩, 38) := ⟨⟨by decide +kernel, by decide +kernel⟩, List.mem_of_getElem? (i := 857) (by decide +kernel), List.mem_of_getElem? (i := 1044) (by decide +kernel), List.mem_of_getElem? (i := 1045) (by decide +kernel)⟩
theorem lw_p31 : lw_okq (⟨"SpunModulesModel", "isVector", "(II)Z"⟩, 38) := ⟨⟨by decide +kernel, by decide +kernel⟩, List.mem_of_getElem? (i := 857) (by decide +kernel), List.mem_of_getElem? (i := 1064) (by decide +kernel), List.mem_of_getElem? (i := 1065) (by decide +kernel)⟩
def lw_privs_2 : List (MethodName × Nat) := [(⟨"SpunModules$Socles", "findsDimensions", "()V"⟩, 7), (⟨"SpunModules$Socles", "findsSocle", "()V"⟩, 7), (⟨"SpunModules$Socles", "addsIfSimple", "(J)V"⟩, 7), (⟨"SpunModules", "invariantSpaces", "(LSpunModules$Action;I)I"⟩, 14), (⟨"SpunModules$Polynomial", "addsUnit", "(II)V"⟩, 4), (⟨"SpunModules$Polynomial", "multiplied", "(I)I"⟩, 4), (⟨"SpunModules", "toldNumber", "(I)I"⟩, 14), (⟨"SpunModulesModel", "no", "()I"⟩, 38), (⟨"SpunModulesModel", "bad", "()I"⟩, 38), (⟨"SpunModulesModel", "leavesState", "()V"⟩, 38), (⟨"SpunModulesModel", "clearsFresh", "()V"⟩, 38), (⟨"SpunModulesModel", "takesFresh", "(II)V"⟩, 38), (⟨"SpunModulesModel", "limit", "()I"⟩, 38), (⟨"SpunModulesModel", "isPlace", "(II)Z"⟩, 38), (⟨"SpunModulesModel", "turned", "(IIII[I)I"⟩, 38), (⟨"SpunModulesModel", "isVector", "(II)Z"⟩, 38)]
theorem lw_r2 : ∀ q ∈ lw_privs_2, lw_okq q := List.forall_mem_cons.mpr ⟨lw_p16, List.forall_mem_cons.mpr ⟨lw_p17, List.forall_mem_cons.mpr ⟨lw_p18, List.forall_mem_cons.mpr ⟨lw_p19, List.forall_mem_cons.mpr ⟨lw_p20, List.forall_mem_cons.mpr ⟨lw_p21, List.forall_mem_cons.mpr ⟨lw_p22, List.forall_mem_cons.mpr ⟨lw_p23, List.forall_mem_cons.mpr ⟨lw_p24, List.forall_mem_cons.mpr ⟨lw_p25, List.forall_mem_cons.mpr ⟨lw_p26, List.forall_mem_cons.mpr ⟨lw_p27, List.forall_mem_cons.mpr ⟨lw_p28, List.forall_mem_cons.mpr ⟨lw_p29, List.forall_mem_cons.mpr ⟨lw_p30, List.forall_mem_cons.mpr ⟨lw_p31, fun _ h => absurd h List.not_mem_nil⟩⟩⟩⟩⟩⟩⟩⟩⟩⟩⟩⟩⟩⟩⟩⟩
theorem lw_p32 : lw_okq (⟨"SpunModulesModel", "power", "(I)I"⟩, 38) := ⟨⟨by decide +kernel, by decide +kernel⟩, List.mem_of_getElem? (i := 857) (by decide +kernel), List.mem_of_getElem? (i := 1068) (by decide +kernel), List.mem_of_getElem? (i := 1069) (by decide +kernel)⟩
theorem lw_p33 : lw_okq (⟨"SpunModulesModel", "spins", "(II)V"⟩, 38) := ⟨⟨by decide +kernel, by decide +kernel⟩, List.mem_of_getElem? (i := 857) (by decide +kernel), List.mem_of_getElem? (i := 1072) (by decide +kernel), List.mem_of_getElem? (i := 1073) (by decide +kernel)⟩
theorem lw_p34 : lw_okq (⟨"SpunModulesModel", "nothing", "()V"⟩, 38) := ⟨⟨by decide +kernel, by decide +kernel⟩, List.mem_of_getElem? (i := 857) (by decide +kernel), List.mem_of_getElem? (i := 1076) (by decide +kernel), List.mem_of_getElem? (i := 1077) (by decide +kernel)⟩
theorem lw_p35 : lw_okq (⟨"SpunModulesModel", "spinsOn", "(II)V"⟩, 38) := ⟨⟨by decide +kernel, by decide +kernel⟩, List.mem_of_getElem? (i := 857) (by decide +kernel), List.mem_of_getElem? (i := 1080) (by decide +kernel), List.mem_of_getElem? (i := 1081) (by decide +kernel)⟩
theorem lw_p36 : lw_okq (⟨"SpunModulesModel", "joins", "(II)V"⟩, 38) := ⟨⟨by decide +kernel, by decide +kernel⟩, List.mem_of_getElem? (i := 857) (by decide +kernel), List.mem_of_getElem? (i := 1084) (by decide +kernel), List.mem_of_getElem? (i := 1085) (by decide +kernel)⟩
theorem lw_p37 : lw_okq (⟨"SpunModulesModel", "plus", "(III)I"⟩, 38) := ⟨⟨by decide +kernel, by decide +kernel⟩, List.mem_of_getElem? (i := 857) (by decide +kernel), List.mem_of_getElem? (i := 1088) (by decide +kernel), List.mem_of_getElem? (i := 1089) (by decide +kernel)⟩
theorem lw_p38 : lw_okq (⟨"SpunModulesModel", "moves", "(III)I"⟩, 38) := ⟨⟨by decide +kernel, by decide +kernel⟩, List.mem_of_getElem? (i := 857) (by decide +kernel), List.mem_of_getElem? (i := 1092) (by decide +kernel), List.mem_of_getElem? (i := 1093) (by decide +kernel)⟩
theorem lw_p39 : lw_okq (⟨"SpunModulesModel", "tellsPart", "(II)V"⟩, 38) := ⟨⟨by decide +kernel, by decide +kernel⟩, List.mem_of_getElem? (i := 857) (by decide +kernel), List.mem_of_getElem? (i := 1096) (by decide +kernel), List.mem_of_getElem? (i := 1097) (by decide +kernel)⟩
theorem lw_p40 : lw_okq (⟨"SpunModulesModel", "findsRows", "(I)V"⟩, 38) := ⟨⟨by decide +kernel, by decide +kernel⟩, List.mem_of_getElem? (i := 857) (by decide +kernel), List.mem_of_getElem? (i := 1100) (by decide +kernel), List.mem_of_getElem? (i := 1101) (by decide +kernel)⟩
theorem lw_p41 : lw_okq (⟨"SpunModulesModel", "firstOf", "(II)I"⟩, 38) := ⟨⟨by decide +kernel, by decide +kernel⟩, List.mem_of_getElem? (i := 857) (by decide +kernel), List.mem_of_getElem? (i := 1104) (by decide +kernel), List.mem_of_getElem? (i := 1105) (by decide +kernel)⟩
theorem lw_p42 : lw_okq (⟨"SpunModulesModel", "figure", "(II)I"⟩, 38) := ⟨⟨by decide +kernel, by decide +kernel⟩, List.mem_of_getElem? (i := 857) (by decide +kernel), List.mem_of_getElem? (i := 1108) (by decide +kernel), List.mem_of_getElem? (i := 1109) (by decide +kernel)⟩
theorem lw_p43 : lw_okq (⟨"SpunModulesModel", "isRow", "(III)Z"⟩, 38) := ⟨⟨by decide +kernel, by decide +kernel⟩, List.mem_of_getElem? (i := 857) (by decide +kernel), List.mem_of_getElem? (i := 1112) (by decide +kernel), List.mem_of_getElem? (i := 1113) (by decide +kernel)⟩
theorem lw_p44 : lw_okq (⟨"SpunModulesModel", "tellsRest", "(II)V"⟩, 38) := ⟨⟨by decide +kernel, by decide +kernel⟩, List.mem_of_getElem? (i := 857) (by decide +kernel), List.mem_of_getElem? (i := 1120) (by decide +kernel), List.mem_of_getElem? (i := 1121) (by decide +kernel)⟩
theorem lw_p45 : lw_okq (⟨"SpunModulesModel", "without", "(I)I"⟩, 38) := ⟨⟨by decide +kernel, by decide +kernel⟩, List.mem_of_getElem? (i := 857) (by decide +kernel), List.mem_of_getElem? (i := 1124) (by decide +kernel), List.mem_of_getElem? (i := 1125) (by decide +kernel)⟩
theorem lw_p46 : lw_okq (⟨"SpunModulesModel", "splitter", "(I)I"⟩, 38) := ⟨⟨by decide +kernel, by decide +kernel⟩, List.mem_of_getElem? (i := 857) (by decide +kernel), List.mem_of_getElem? (i := 1152) (by decide +kernel), List.mem_of_getElem? (i := 1153) (by decide +kernel)⟩
theorem lw_p47 : lw_okq (⟨"SpunModulesModel", "cuts", "(I)V"⟩, 38) := ⟨⟨by decide +kernel, by decide +kernel⟩, List.mem_of_getElem? (i := 857) (by decide +kernel), List.mem_of_getElem? (i := 1164) (by decide +kernel), List.mem_of_getElem? (i := 1165) (by decide +kernel)⟩
def lw_privs_3 : List (MethodName × Nat) := [(⟨"SpunModulesModel", "power", "(I)I"⟩, 38), (⟨"SpunModulesModel", "spins", "(II)V"⟩, 38), (⟨"SpunModulesModel", "nothing", "()V"⟩, 38), (⟨"SpunModulesModel", "spinsOn", "(II)V"⟩, 38), (⟨"SpunModulesModel", "joins", "(II)V"⟩, 38), (⟨"SpunModulesModel", "plus", "(III)I"⟩, 38), (⟨"SpunModulesModel", "moves", "(III)I"⟩, 38), (⟨"SpunModulesModel", "tellsPart", "(II)V"⟩, 38), (⟨"SpunModulesModel", "findsRows", "(I)V"⟩, 38), (⟨"SpunModulesModel", "firstOf", "(II)I"⟩, 38), (⟨"SpunModulesModel", "figure", "(II)I"⟩, 38), (⟨"SpunModulesModel", "isRow", "(III)Z"⟩, 38), (⟨"SpunModulesModel", "tellsRest", "(II)V"⟩, 38), (⟨"SpunModulesModel", "without", "(I)I"⟩, 38), (⟨"SpunModulesModel", "splitter", "(I)I"⟩, 38), (⟨"SpunModulesModel", "cuts", "(I)V"⟩, 38)]
theorem lw_r3 : ∀ q ∈ lw_privs_3, lw_okq q := List.forall_mem_cons.mpr ⟨lw_p32, List.forall_mem_cons.mpr ⟨lw_p33, List.forall_mem_cons.mpr ⟨lw_p34, List.forall_mem_cons.mpr ⟨lw_p35, List.forall_mem_cons.mpr ⟨lw_p36, List.forall_mem_cons.mpr ⟨lw_p37, List.forall_mem_cons.mpr ⟨lw_p38, List.forall_mem_cons.mpr ⟨lw_p39, List.forall_mem_cons.mpr ⟨lw_p40, List.forall_mem_cons.mpr ⟨lw_p41, List.forall_mem_cons.mpr ⟨lw_p42, List.forall_mem_cons.mpr ⟨lw_p43, List.forall_mem_cons.mpr ⟨lw_p44, List.forall_mem_cons.mpr ⟨lw_p45, List.forall_mem_cons.mpr ⟨lw_p46, List.forall_mem_cons.mpr ⟨lw_p47, fun _ h => absurd h List.not_mem_nil⟩⟩⟩⟩⟩⟩⟩⟩⟩⟩⟩⟩⟩⟩⟩⟩
theorem lw_p48 : lw_okq (⟨"SpunModulesModel", "tellsPiece", "(I)V"⟩, 38) := ⟨⟨by decide +kernel, by decide +kernel⟩, List.mem_of_getElem? (i := 857) (by decide +kernel), List.mem_of_getElem? (i := 1168) (by decide +kernel), List.mem_of_getElem? (i := 1169) (by decide +kernel)⟩
theorem lw_p49 : lw_okq (⟨"SpunModulesModel", "tries", "(II)V"⟩, 38) := ⟨⟨by decide +kernel, by decide +kernel⟩, List.mem_of_getElem? (i := 857) (by decide +kernel), List.mem_of_getElem? (i := 1172) (by decide +kernel), List.mem_of_getElem? (i := 1173) (by decide +kernel)⟩
theorem lw_p50 : lw_okq (⟨"SpunModulesModel", "findsCodes", "(I)V"⟩, 38) := ⟨⟨by decide +kernel, by decide +kernel⟩, List.mem_of_getElem? (i := 857) (by decide +kernel), List.mem_of_getElem? (i := 1176) (by decide +kernel), List.mem_of_getElem? (i := 1177) (by decide +kernel)⟩
theorem lw_p51 : lw_okq (⟨"SpunModulesModel", "isLess", "(II)Z"⟩, 38) := ⟨⟨by decide +kernel, by decide +kernel⟩, List.mem_of_getElem? (i := 857) (by decide +kernel), List.mem_of_getElem? (i := 1180) (by decide +kernel), List.mem_of_getElem? (i := 1181) (by decide +kernel)⟩
theorem lw_p52 : lw_okq (⟨"SpunModulesModel", "sorts", "()V"⟩, 38) := ⟨⟨by decide +kernel, by decide +kernel⟩, List.mem_of_getElem? (i := 857) (by decide +kernel), List.mem_of_getElem? (i := 1184) (by decide +kernel), List.mem_of_getElem? (i := 1185) (by decide +kernel)⟩
theorem lw_p53 : lw_okq (⟨"SpunModulesModel", "compare", "(II)I"⟩, 38) := ⟨⟨by decide +kernel, by decide +kernel⟩, List.mem_of_getElem? (i := 857) (by decide +kernel), List.mem_of_getElem? (i := 1188) (by decide +kernel), List.mem_of_getElem? (i := 1189) (by decide +kernel)⟩
theorem lw_p54 : lw_okq (⟨"SpunModulesModel", "alikeTo", "(I)I"⟩, 38) := ⟨⟨by decide +kernel, by decide +kernel⟩, List.mem_of_getElem? (i := 857) (by decide +kernel), List.mem_of_getElem? (i := 1196) (by decide +kernel), List.mem_of_getElem? (i := 1197) (by decide +kernel)⟩
theorem lw_p55 : lw_okq (⟨"SpunModulesModel", "waysOf", "(II)I"⟩, 38) := ⟨⟨by decide +kernel, by decide +kernel⟩, List.mem_of_getElem? (i := 857) (by decide +kernel), List.mem_of_getElem? (i := 1200) (by decide +kernel), List.mem_of_getElem? (i := 1201) (by decide +kernel)⟩
theorem lw_p56 : lw_okq (⟨"SpunModulesModel", "tellsEquation", "(IIIII)V"⟩, 38) := ⟨⟨by decide +kernel, by decide +kernel⟩, List.mem_of_getElem? (i := 857) (by decide +kernel), List.mem_of_getElem? (i := 1204) (by decide +kernel), List.mem_of_getElem? (i := 1205) (by decide +kernel)⟩
theorem lw_p57 : lw_okq (⟨"SpunModulesModel", "isNew", "(I)Z"⟩, 38) := ⟨⟨by decide +kernel, by decide +kernel⟩, List.mem_of_getElem? (i := 857) (by decide +kernel), List.mem_of_getElem? (i := 1208) (by decide +kernel), List.mem_of_getElem? (i := 1209) (by decide +kernel)⟩
theorem lw_p58 : lw_okq (⟨"SpunModulesModel", "areAlike", "(II)Z"⟩, 38) := ⟨⟨by decide +kernel, by decide +kernel⟩, List.mem_of_getElem? (i := 857) (by decide +kernel), List.mem_of_getElem? (i := 1220) (by decide +kernel), List.mem_of_getElem? (i := 1221) (by decide +kernel)⟩
theorem lw_p59 : lw_okq (⟨"SpunModulesModel", "findsSocle", "()V"⟩, 38) := ⟨⟨by decide +kernel, by decide +kernel⟩, List.mem_of_getElem? (i := 857) (by decide +kernel), List.mem_of_getElem? (i := 1232) (by decide +kernel), List.mem_of_getElem? (i := 1233) (by decide +kernel)⟩
theorem lw_p60 : lw_okq (⟨"SpunModulesModel", "isByEach", "(I)Z"⟩, 38) := ⟨⟨by decide +kernel, by decide +kernel⟩, List.mem_of_getElem? (i := 857) (by decide +kernel), List.mem_of_getElem? (i := 1236) (by decide +kernel), List.mem_of_getElem? (i := 1237) (by decide +kernel)⟩
theorem lw_p61 : lw_okq (⟨"SpunModulesModel", "freeOf", "(II)I"⟩, 38) := ⟨⟨by decide +kernel, by decide +kernel⟩, List.mem_of_getElem? (i := 857) (by decide +kernel), List.mem_of_getElem? (i := 1244) (by decide +kernel), List.mem_of_getElem? (i := 1245) (by decide +kernel)⟩
theorem lw_p62 : lw_okq (⟨"SpunModulesModel", "tellsRows", "(III)V"⟩, 38) := ⟨⟨by decide +kernel, by decide +kernel⟩, List.mem_of_getElem? (i := 857) (by decide +kernel), List.mem_of_getElem? (i := 1248) (by decide +kernel), List.mem_of_getElem? (i := 1249) (by decide +kernel)⟩
theorem lw_p63 : lw_okq (⟨"SpunModulesModel", "areKept", "(I)Z"⟩, 38) := ⟨⟨by decide +kernel, by decide +kernel⟩, List.mem_of_getElem? (i := 857) (by decide +kernel), List.mem_of_getElem? (i := 1252) (by decide +kernel), List.mem_of_getElem? (i := 1253) (by decide +kernel)⟩
def lw_privs_4 : List (MethodName × Nat) := [(⟨"SpunModulesModel", "tellsPiece", "(I)V"⟩, 38), (⟨"SpunModulesModel", "tries", "(II)V"⟩, 38), (⟨"SpunModulesModel", "findsCodes", "(I)V"⟩, 38), (⟨"SpunModulesModel", "isLess", "(II)Z"⟩, 38), (⟨"SpunModulesModel", "sorts", "()V"⟩, 38), (⟨"SpunModulesModel", "compare", "(II)I"⟩, 38), (⟨"SpunModulesModel", "alikeTo", "(I)I"⟩, 38), (⟨"SpunModulesModel", "waysOf", "(II)I"⟩, 38), (⟨"SpunModulesModel", "tellsEquation", "(IIIII)V"⟩, 38), (⟨"SpunModulesModel", "isNew", "(I)Z"⟩, 38), (⟨"SpunModulesModel", "areAlike", "(II)Z"⟩, 38), (⟨"SpunModulesModel", "findsSocle", "()V"⟩, 38), (⟨"SpunModulesModel", "isByEach", "(I)Z"⟩, 38), (⟨"SpunModulesModel", "freeOf", "(II)I"⟩, 38), (⟨"SpunModulesModel", "tellsRows", "(III)V"⟩, 38), (⟨"SpunModulesModel", "areKept", "(I)Z"⟩, 38)]
theorem lw_r4 : ∀ q ∈ lw_privs_4, lw_okq q := List.forall_mem_cons.mpr ⟨lw_p48, List.forall_mem_cons.mpr ⟨lw_p49, List.forall_mem_cons.mpr ⟨lw_p50, List.forall_mem_cons.mpr ⟨lw_p51, List.forall_mem_cons.mpr ⟨lw_p52, List.forall_mem_cons.mpr ⟨lw_p53, List.forall_mem_cons.mpr ⟨lw_p54, List.forall_mem_cons.mpr ⟨lw_p55, List.forall_mem_cons.mpr ⟨lw_p56, List.forall_mem_cons.mpr ⟨lw_p57, List.forall_mem_cons.mpr ⟨lw_p58, List.forall_mem_cons.mpr ⟨lw_p59, List.forall_mem_cons.mpr ⟨lw_p60, List.forall_mem_cons.mpr ⟨lw_p61, List.forall_mem_cons.mpr ⟨lw_p62, List.forall_mem_cons.mpr ⟨lw_p63, fun _ h => absurd h List.not_mem_nil⟩⟩⟩⟩⟩⟩⟩⟩⟩⟩⟩⟩⟩⟩⟩⟩
theorem lw_p64 : lw_okq (⟨"SpunModulesModel", "full", "()I"⟩, 38) := ⟨⟨by decide +kernel, by decide +kernel⟩, List.mem_of_getElem? (i := 857) (by decide +kernel), List.mem_of_getElem? (i := 1260) (by decide +kernel), List.mem_of_getElem? (i := 1261) (by decide +kernel)⟩
theorem lw_p65 : lw_okq (⟨"SpunModulesModel", "isFigureAt", "(I)Z"⟩, 38) := ⟨⟨by decide +kernel, by decide +kernel⟩, List.mem_of_getElem? (i := 857) (by decide +kernel), List.mem_of_getElem? (i := 1272) (by decide +kernel), List.mem_of_getElem? (i := 1273) (by decide +kernel)⟩
theorem lw_p66 : lw_okq (⟨"SpunModulesModel", "isLetterAt", "(I)Z"⟩, 38) := ⟨⟨by decide +kernel, by decide +kernel⟩, List.mem_of_getElem? (i := 857) (by decide +kernel), List.mem_of_getElem? (i := 1276) (by decide +kernel), List.mem_of_getElem? (i := 1277) (by decide +kernel)⟩
theorem lw_p67 : lw_okq (⟨"SpunModulesModel", "tellsWord", "(I)V"⟩, 38) := ⟨⟨by decide +kernel, by decide +kernel⟩, List.mem_of_getElem? (i := 857) (by decide +kernel), List.mem_of_getElem? (i := 1284) (by decide +kernel), List.mem_of_getElem? (i := 1285) (by decide +kernel)⟩
theorem lw_p68 : lw_okq (⟨"SpunModulesModel", "beginsTerm", "()V"⟩, 38) := ⟨⟨by decide +kernel, by decide +kernel⟩, List.mem_of_getElem? (i := 857) (by decide +kernel), List.mem_of_getElem? (i := 1288) (by decide +kernel), List.mem_of_getElem? (i := 1289) (by decide +kernel)⟩
theorem lw_p69 : lw_okq (⟨"SpunModulesModel", "endsTerm", "(I)V"⟩, 38) := ⟨⟨by decide +kernel, by decide +kernel⟩, List.mem_of_getElem? (i := 857) (by decide +kernel), List.mem_of_getElem? (i := 1292) (by decide +kernel), List.mem_of_getElem? (i := 1293) (by decide +kernel)⟩
theorem lw_p70 : lw_okq (⟨"SpunModulesModel", "goesOn", "(II)V"⟩, 38) := ⟨⟨by decide +kernel, by decide +kernel⟩, List.mem_of_getElem? (i := 857) (by decide +kernel), List.mem_of_getElem? (i := 1296) (by decide +kernel), List.mem_of_getElem? (i := 1297) (by decide +kernel)⟩
theorem lw_p71 : lw_okq (⟨"SpunModulesModel", "isNull", "(II)Z"⟩, 38) := ⟨⟨by decide +kernel, by decide +kernel⟩, List.mem_of_getElem? (i := 857) (by decide +kernel), List.mem_of_getElem? (i := 1304) (by decide +kernel), List.mem_of_getElem? (i := 1305) (by decide +kernel)⟩
theorem lw_p72 : lw_okq (⟨"SpunModulesModel", "minor", "(I)I"⟩, 38) := ⟨⟨by decide +kernel, by decide +kernel⟩, List.mem_of_getElem? (i := 857) (by decide +kernel), List.mem_of_getElem? (i := 1315) (by decide +kernel), List.mem_of_getElem? (i := 1316) (by decide +kernel)⟩
theorem lw_p73 : lw_okq (⟨"SpunModulesModel", "toldBy", "(I)I"⟩, 38) := ⟨⟨by decide +kernel, by decide +kernel⟩, List.mem_of_getElem? (i := 857) (by decide +kernel), List.mem_of_getElem? (i := 1326) (by decide +kernel), List.mem_of_getElem? (i := 1327) (by decide +kernel)⟩
def lw_privs_5 : List (MethodName × Nat) := [(⟨"SpunModulesModel", "full", "()I"⟩, 38), (⟨"SpunModulesModel", "isFigureAt", "(I)Z"⟩, 38), (⟨"SpunModulesModel", "isLetterAt", "(I)Z"⟩, 38), (⟨"SpunModulesModel", "tellsWord", "(I)V"⟩, 38), (⟨"SpunModulesModel", "beginsTerm", "()V"⟩, 38), (⟨"SpunModulesModel", "endsTerm", "(I)V"⟩, 38), (⟨"SpunModulesModel", "goesOn", "(II)V"⟩, 38), (⟨"SpunModulesModel", "isNull", "(II)Z"⟩, 38), (⟨"SpunModulesModel", "minor", "(I)I"⟩, 38), (⟨"SpunModulesModel", "toldBy", "(I)I"⟩, 38)]
theorem lw_r5 : ∀ q ∈ lw_privs_5, lw_okq q := List.forall_mem_cons.mpr ⟨lw_p64, List.forall_mem_cons.mpr ⟨lw_p65, List.forall_mem_cons.mpr ⟨lw_p66, List.forall_mem_cons.mpr ⟨lw_p67, List.forall_mem_cons.mpr ⟨lw_p68, List.forall_mem_cons.mpr ⟨lw_p69, List.forall_mem_cons.mpr ⟨lw_p70, List.forall_mem_cons.mpr ⟨lw_p71, List.forall_mem_cons.mpr ⟨lw_p72, List.forall_mem_cons.mpr ⟨lw_p73, fun _ h => absurd h List.not_mem_nil⟩⟩⟩⟩⟩⟩⟩⟩⟩⟩
def lw_privs : List (MethodName × Nat) := lw_privs_1 ++ (lw_privs_2 ++ (lw_privs_3 ++ (lw_privs_4 ++ (lw_privs_5))))
def lw_tbl : List Cond := k2_sels lw_privs ++ tables_1
theorem lw_privs_ok : ∀ q ∈ lw_privs, lw_okq q := by
  show ∀ q ∈ lw_privs_1 ++ (lw_privs_2 ++ (lw_privs_3 ++ (lw_privs_4 ++ (lw_privs_5)))), lw_okq q
  exact List.forall_mem_append.mpr ⟨lw_r1, List.forall_mem_append.mpr ⟨lw_r2, List.forall_mem_append.mpr ⟨lw_r3, List.forall_mem_append.mpr ⟨lw_r4, lw_r5⟩⟩⟩⟩
def RX0 : String := "SpunModules$Action"
def TX0 : u_T := fun k => match k with
  | 0 => ("SpunModules$Action", "field", "LSpunModules$Field;", true)
  | 1 => ("SpunModules$Action", "size", "I", false)
  | _ => ("SpunModules$Action", "rows", "[J", true)
def tyX0 : Nat → FieldType := fun k => match k with
  | 0 => .object "SpunModules$Field"
  | 1 => .int
  | _ => .array .long
theorem nmX0 : ∀ a, a < 3 → ∀ b, b < 3 → a ≠ b → (TX0 a).2.1 ≠ (TX0 b).2.1 := by decide +kernel
theorem tyX0_ok : ∀ k, k < 3 → parseFieldDescriptor (TX0 k).2.2.1 = some (tyX0 k) := by decide +kernel
def RX1 : String := "SpunModules$Factors"
def TX1 : u_T := fun k => match k with
  | 0 => ("SpunModules$Factors", "field", "LSpunModules$Field;", true)
  | 1 => ("SpunModules$Factors", "forms", "[LSpunModules$Action;", true)
  | 2 => ("SpunModules$Factors", "count", "I", false)
  | 3 => ("SpunModules$Factors", "whole", "LSpunModules$Action;", true)
  | 4 => ("SpunModules$Factors", "rest", "LSpunModules$Action;", true)
  | 5 => ("SpunModules$Factors", "part", "LSpunModules$Action;", true)
  | 6 => ("SpunModules$Factors", "tried", "LSpunModules$Action;", true)
  | _ => ("SpunModules$Factors", "space", "LSpunModules$Space;", true)
def tyX1 : Nat → FieldType := fun k => match k with
  | 0 => .object "SpunModules$Field"
  | 1 => .array (.object "SpunModules$Action")
  | 2 => .int
  | 3 => .object "SpunModules$Action"
  | 4 => .object "SpunModules$Action"
  | 5 => .object "SpunModules$Action"
  | 6 => .object "SpunModules$Action"
  | _ => .object "SpunModules$Space"
theorem nmX1 : ∀ a, a < 8 → ∀ b, b < 8 → a ≠ b → (TX1 a).2.1 ≠ (TX1 b).2.1 := by decide +kernel
theorem tyX1_ok : ∀ k, k < 8 → parseFieldDescriptor (TX1 k).2.2.1 = some (tyX1 k) := by decide +kernel
def RX2 : String := "SpunModules$Field"
def TX2 : u_T := fun k => match k with
  | _ => ("SpunModules$Field", "p", "I", false)
def tyX2 : Nat → FieldType := fun k => match k with
  | _ => .int
theorem nmX2 : ∀ a, a < 1 → ∀ b, b < 1 → a ≠ b → (TX2 a).2.1 ≠ (TX2 b).2.1 := by decide +kernel
theorem tyX2_ok : ∀ k, k < 1 → parseFieldDescriptor (TX2 k).2.2.1 = some (tyX2 k) := by decide +kernel
def RX3 : String := "SpunModules$Homs"
def TX3 : u_T := fun k => match k with
  | 0 => ("SpunModules$Homs", "field", "LSpunModules$Field;", true)
  | 1 => ("SpunModules$Homs", "values", "[[J", true)
  | 2 => ("SpunModules$Homs", "pivotRows", "[I", true)
  | 3 => ("SpunModules$Homs", "pivotPlaces", "[I", true)
  | _ => ("SpunModules$Homs", "rank", "I", false)
def tyX3 : Nat → FieldType := fun k => match k with
  | 0 => .object "SpunModules$Field"
  | 1 => .array (.array .long)
  | 2 => .array .int
  | 3 => .array .int
  | _ => .int
theorem nmX3 : ∀ a, a < 5 → ∀ b, b < 5 → a ≠ b → (TX3 a).2.1 ≠ (TX3 b).2.1 := by decide +kernel
theorem tyX3_ok : ∀ k, k < 5 → parseFieldDescriptor (TX3 k).2.2.1 = some (tyX3 k) := by decide +kernel
def RX4 : String := "SpunModules$Past"
def TX4 : u_T := fun k => match k with
  | 0 => ("SpunModules$Past", "field", "LSpunModules$Field;", true)
  | 1 => ("SpunModules$Past", "count", "I", false)
  | 2 => ("SpunModules$Past", "next", "I", false)
  | 3 => ("SpunModules$Past", "fields", "[I", true)
  | _ => ("SpunModules$Past", "kept", "[LSpunModules$Action;", true)
def tyX4 : Nat → FieldType := fun k => match k with
  | 0 => .object "SpunModules$Field"
  | 1 => .int
  | 2 => .int
  | 3 => .array .int
  | _ => .array (.object "SpunModules$Action")
theorem nmX4 : ∀ a, a < 5 → ∀ b, b < 5 → a ≠ b → (TX4 a).2.1 ≠ (TX4 b).2.1 := by decide +kernel
theorem tyX4_ok : ∀ k, k < 5 → parseFieldDescriptor (TX4 k).2.2.1 = some (tyX4 k) := by decide +kernel
def RX5 : String := "SpunModules$Polynomial"
def TX5 : u_T := fun k => match k with
  | 0 => ("SpunModules$Polynomial", "coefficients", "[I", true)
  | 1 => ("SpunModules$Polynomial", "matrix", "[[I", true)
  | 2 => ("SpunModules$Polynomial", "power", "[[I", true)
  | _ => ("SpunModules$Polynomial", "product", "[[I", true)
def tyX5 : Nat → FieldType := fun k => match k with
  | 0 => .array .int
  | 1 => .array (.array .int)
  | 2 => .array (.array .int)
  | _ => .array (.array .int)
theorem nmX5 : ∀ a, a < 4 → ∀ b, b < 4 → a ≠ b → (TX5 a).2.1 ≠ (TX5 b).2.1 := by decide +kernel
theorem tyX5_ok : ∀ k, k < 4 → parseFieldDescriptor (TX5 k).2.2.1 = some (tyX5 k) := by decide +kernel
def RX6 : String := "SpunModules$Socles"
def TX6 : u_T := fun k => match k with
  | 0 => ("SpunModules$Socles", "field", "LSpunModules$Field;", true)
  | 1 => ("SpunModules$Socles", "whole", "LSpunModules$Action;", true)
  | 2 => ("SpunModules$Socles", "rest", "LSpunModules$Action;", true)
  | 3 => ("SpunModules$Socles", "socle", "LSpunModules$Space;", true)
  | 4 => ("SpunModules$Socles", "part", "LSpunModules$Space;", true)
  | 5 => ("SpunModules$Socles", "sum", "LSpunModules$Space;", true)
  | _ => ("SpunModules$Socles", "dims", "[I", true)
def tyX6 : Nat → FieldType := fun k => match k with
  | 0 => .object "SpunModules$Field"
  | 1 => .object "SpunModules$Action"
  | 2 => .object "SpunModules$Action"
  | 3 => .object "SpunModules$Space"
  | 4 => .object "SpunModules$Space"
  | 5 => .object "SpunModules$Space"
  | _ => .array .int
theorem nmX6 : ∀ a, a < 7 → ∀ b, b < 7 → a ≠ b → (TX6 a).2.1 ≠ (TX6 b).2.1 := by decide +kernel
theorem tyX6_ok : ∀ k, k < 7 → parseFieldDescriptor (TX6 k).2.2.1 = some (tyX6 k) := by decide +kernel
def RX7 : String := "SpunModules$Space"
def TX7 : u_T := fun k => match k with
  | 0 => ("SpunModules$Space", "field", "LSpunModules$Field;", true)
  | 1 => ("SpunModules$Space", "places", "I", false)
  | 2 => ("SpunModules$Space", "dim", "I", false)
  | 3 => ("SpunModules$Space", "rows", "[J", true)
  | _ => ("SpunModules$Space", "taken", "[J", true)
def tyX7 : Nat → FieldType := fun k => match k with
  | 0 => .object "SpunModules$Field"
  | 1 => .int
  | 2 => .int
  | 3 => .array .long
  | _ => .array .long
theorem nmX7 : ∀ a, a < 5 → ∀ b, b < 5 → a ≠ b → (TX7 a).2.1 ≠ (TX7 b).2.1 := by decide +kernel
theorem tyX7_ok : ∀ k, k < 5 → parseFieldDescriptor (TX7 k).2.2.1 = some (tyX7 k) := by decide +kernel
def RX8 : String := "SpunModules$Words"
def TX8 : u_T := fun k => match k with
  | 0 => ("SpunModules$Words", "field", "LSpunModules$Field;", true)
  | 1 => ("SpunModules$Words", "textLength", "I", false)
  | 2 => ("SpunModules$Words", "text", "[I", true)
  | 3 => ("SpunModules$Words", "length", "I", false)
  | 4 => ("SpunModules$Words", "bytes", "[I", true)
  | _ => ("SpunModules$Words", "images", "LSpunModules$Space;", true)
def tyX8 : Nat → FieldType := fun k => match k with
  | 0 => .object "SpunModules$Field"
  | 1 => .int
  | 2 => .array .int
  | 3 => .int
  | 4 => .array .int
  | _ => .object "SpunModules$Space"
theorem nmX8 : ∀ a, a < 6 → ∀ b, b < 6 → a ≠ b → (TX8 a).2.1 ≠ (TX8 b).2.1 := by decide +kernel
theorem tyX8_ok : ∀ k, k < 6 → parseFieldDescriptor (TX8 k).2.2.1 = some (tyX8 k) := by decide +kernel
def RX9 : String := "SpunModules"
def TX9 : u_T := fun k => match k with
  | 0 => ("SpunModules", "field", "LSpunModules$Field;", true)
  | 1 => ("SpunModules", "modules", "[LSpunModules$Action;", true)
  | 2 => ("SpunModules", "made", "LSpunModules$Action;", true)
  | 3 => ("SpunModules", "space", "LSpunModules$Space;", true)
  | 4 => ("SpunModules", "past", "LSpunModules$Past;", true)
  | 5 => ("SpunModules", "words", "LSpunModules$Words;", true)
  | 6 => ("SpunModules", "factorsOfFirst", "LSpunModules$Factors;", true)
  | 7 => ("SpunModules", "factorsOfSecond", "LSpunModules$Factors;", true)
  | 8 => ("SpunModules", "homs", "LSpunModules$Homs;", true)
  | 9 => ("SpunModules", "socles", "LSpunModules$Socles;", true)
  | 10 => ("SpunModules", "polynomial", "LSpunModules$Polynomial;", true)
  | 11 => ("SpunModules", "badCalls", "I", false)
  | 12 => ("SpunModules", "noCalls", "I", false)
  | _ => ("SpunModules", "fullCalls", "I", false)
def tyX9 : Nat → FieldType := fun k => match k with
  | 0 => .object "SpunModules$Field"
  | 1 => .array (.object "SpunModules$Action")
  | 2 => .object "SpunModules$Action"
  | 3 => .object "SpunModules$Space"
  | 4 => .object "SpunModules$Past"
  | 5 => .object "SpunModules$Words"
  | 6 => .object "SpunModules$Factors"
  | 7 => .object "SpunModules$Factors"
  | 8 => .object "SpunModules$Homs"
  | 9 => .object "SpunModules$Socles"
  | 10 => .object "SpunModules$Polynomial"
  | 11 => .int
  | 12 => .int
  | _ => .int
theorem nmX9 : ∀ a, a < 14 → ∀ b, b < 14 → a ≠ b → (TX9 a).2.1 ≠ (TX9 b).2.1 := by decide +kernel
theorem tyX9_ok : ∀ k, k < 14 → parseFieldDescriptor (TX9 k).2.2.1 = some (tyX9 k) := by decide +kernel
def RX10 : String := "SpunModulesModel"
def TX10 : u_T := fun k => match k with
  | 0 => ("SpunModulesModel", "refused", "[I", true)
  | 1 => ("SpunModulesModel", "p", "I", false)
  | 2 => ("SpunModulesModel", "size", "[I", true)
  | 3 => ("SpunModulesModel", "figures", "[I", true)
  | 4 => ("SpunModulesModel", "fresh", "[I", true)
  | 5 => ("SpunModulesModel", "cut", "I", false)
  | 6 => ("SpunModulesModel", "has", "[I", true)
  | 7 => ("SpunModulesModel", "dimension", "I", false)
  | 8 => ("SpunModulesModel", "taken", "[I", true)
  | 9 => ("SpunModulesModel", "waiting", "[I", true)
  | 10 => ("SpunModulesModel", "isFirst", "[I", true)
  | 11 => ("SpunModulesModel", "rows", "[I", true)
  | 12 => ("SpunModulesModel", "firsts", "[I", true)
  | 13 => ("SpunModulesModel", "states", "I", false)
  | 14 => ("SpunModulesModel", "kept", "[I", true)
  | 15 => ("SpunModulesModel", "by", "[I", true)
  | 16 => ("SpunModulesModel", "pieces", "I", false)
  | 17 => ("SpunModulesModel", "tellings", "[I", true)
  | 18 => ("SpunModulesModel", "order", "[I", true)
  | 19 => ("SpunModulesModel", "tried", "[I", true)
  | 20 => ("SpunModulesModel", "codes", "[I", true)
  | 21 => ("SpunModulesModel", "elderMany", "I", false)
  | 22 => ("SpunModulesModel", "elderSizes", "[I", true)
  | 23 => ("SpunModulesModel", "elders", "[I", true)
  | 24 => ("SpunModulesModel", "isMet", "[I", true)
  | 25 => ("SpunModulesModel", "equation", "[I", true)
  | 26 => ("SpunModulesModel", "leading", "[I", true)
  | 27 => ("SpunModulesModel", "isLed", "[I", true)
  | 28 => ("SpunModulesModel", "depths", "[I", true)
  | 29 => ("SpunModulesModel", "isSimple", "[I", true)
  | 30 => ("SpunModulesModel", "text", "[I", true)
  | 31 => ("SpunModulesModel", "length", "I", false)
  | 32 => ("SpunModulesModel", "word", "[I", true)
  | 33 => ("SpunModulesModel", "wordLength", "I", false)
  | 34 => ("SpunModulesModel", "whole", "[I", true)
  | 35 => ("SpunModulesModel", "term", "[I", true)
  | 36 => ("SpunModulesModel", "product", "[I", true)
  | _ => ("SpunModulesModel", "minors", "[I", true)
def tyX10 : Nat → FieldType := fun k => match k with
  | 0 => .array .int
  | 1 => .int
  | 2 => .array .int
  | 3 => .array .int
  | 4 => .array .int
  | 5 => .int
  | 6 => .array .int
  | 7 => .int
  | 8 => .array .int
  | 9 => .array .int
  | 10 => .array .int
  | 11 => .array .int
  | 12 => .array .int
  | 13 => .int
  | 14 => .array .int
  | 15 => .array .int
  | 16 => .int
  | 17 => .array .int
  | 18 => .array .int
  | 19 => .array .int
  | 20 => .array .int
  | 21 => .int
  | 22 => .array .int
  | 23 => .array .int
  | 24 => .array .int
  | 25 => .array .int
  | 26 => .array .int
  | 27 => .array .int
  | 28 => .array .int
  | 29 => .array .int
  | 30 => .array .int
  | 31 => .int
  | 32 => .array .int
  | 33 => .int
  | 34 => .array .int
  | 35 => .array .int
  | 36 => .array .int
  | _ => .array .int
theorem nmX10 : ∀ a, a < 38 → ∀ b, b < 38 → a ≠ b → (TX10 a).2.1 ≠ (TX10 b).2.1 := by decide +kernel
theorem tyX10_ok : ∀ k, k < 38 → parseFieldDescriptor (TX10 k).2.2.1 = some (tyX10 k) := by decide +kernel
def RJ6 : String := "java/lang/Integer"
def RJ13 : String := "java/lang/Long"
def RJ9 : String := "java/lang/Math"
def RJ10 : String := "java/lang/System"
abbrev vwCl : List vw_C := [(RX0, TX0, 3), (RX1, TX1, 8), (RX2, TX2, 1), (RX3, TX3, 5), (RX4, TX4, 5), (RX5, TX5, 4), (RX6, TX6, 7), (RX7, TX7, 5), (RX8, TX8, 6), (RX9, TX9, 14), (RX10, TX10, 38)]
def cnL : List String := ["SpunModules$Action", "SpunModules$Factors", "SpunModules$Field", "SpunModules$Homs", "SpunModules$Past", "SpunModules$Polynomial", "SpunModules$Socles", "SpunModules$Space", "SpunModules$Words", "SpunModules", "SpunModulesModel", "SpunModulesLaw", "java/lang/Integer", "java/lang/Long", "java/lang/Math"]
def cn (k : Nat) : String := cnL.getD k ""
def mtL : List (ByteArray × MethodName × Nat × Option FieldType × Nat × Nat × Nat × Bool × Nat) := [
  (prog_2_method_1_code, ⟨"SpunModules$Action", "<init>", "(LSpunModules$Field;)V"⟩, 2, none, 0, 1, 1, false, 1041),
  (prog_2_method_2_code, ⟨"SpunModules$Action", "empties", "(I)V"⟩, 3, none, 0, 0, 1, false, 2088),
  (prog_2_method_3_code, ⟨"SpunModules$Action", "copies", "(LSpunModules$Action;)V"⟩, 2, none, 0, 1, 1, false, 2078),
  (prog_2_method_4_code, ⟨"SpunModules$Action", "entry", "(III)I"⟩, 4, (some .int), 0, 1, 3, false, 2124),
  (prog_2_method_5_code, ⟨"SpunModules$Action", "puts", "(IIII)V"⟩, 6, none, 0, 1, 4, false, 2131),
  (prog_2_method_6_code, ⟨"SpunModules$Action", "image", "(IJ)J"⟩, 8, (some .long), 0, 1, 2, false, 3020),
  (prog_2_method_7_code, ⟨"SpunModules$Action", "fillsAtRandom", "(I)I"⟩, 9, (some .int), 0, 2, 1, false, 2143),
  (prog_2_method_8_code, ⟨"SpunModules$Action", "changesBasis", "(III)V"⟩, 8, none, 0, 2, 3, false, 2163),
  (prog_2_method_9_code, ⟨"SpunModules$Action", "differences", "(LSpunModules$Action;)I"⟩, 5, (some .int), 0, 1, 1, false, 2173),
  (prog_2_method_10_code, ⟨"SpunModules$Action", "joins", "(LSpunModules$Action;LSpunModules$Action;)V"⟩, 5, none, 0, 2, 2, false, 2181),
  (prog_2_method_11_code, ⟨"SpunModules$Action", "multiplies", "(LSpunModules$Action;LSpunModules$Action;)V"⟩, 6, none, 0, 2, 2, false, 2194),
  (prog_2_method_12_code, ⟨"SpunModules$Action", "addsBlock", "(LSpunModules$Action;IIII)V"⟩, 8, none, 0, 1, 5, false, 2200),
  (prog_2_method_13_code, ⟨"SpunModules$Action", "transposes", "(LSpunModules$Action;)V"⟩, 5, none, 0, 2, 1, false, 2208),
  (prog_2_method_14_code, ⟨"SpunModules$Action", "restricts", "(LSpunModules$Action;LSpunModules$Space;)V"⟩, 6, none, 0, 2, 2, false, 3025),
  (prog_2_method_15_code, ⟨"SpunModules$Action", "divides", "(LSpunModules$Action;LSpunModules$Space;)V"⟩, 6, none, 0, 2, 2, false, 3044),
  (prog_2_method_16_code, ⟨"SpunModules$Action", "entryInSequence", "(I)I"⟩, 5, (some .int), 0, 2, 1, false, 3177),
  (prog_2_method_17_code, ⟨"SpunModules$Action", "compares", "(LSpunModules$Action;)I"⟩, 4, (some .int), 0, 1, 1, false, 3131),
  (prog_2_method_18_code, ⟨"SpunModules$Action", "digestOnto", "(J)J"⟩, 7, (some .long), 0, 2, 1, false, 4130),
  (prog_3_method_1_code, ⟨"SpunModules$Factors", "<init>", "(LSpunModules$Field;)V"⟩, 3, none, 1, 2, 1, false, 1149),
  (prog_3_method_2_code, ⟨"SpunModules$Factors", "finds", "(LSpunModules$Action;)V"⟩, 3, none, 1, 5, 1, false, 3099),
  (prog_3_method_3_code, ⟨"SpunModules$Factors", "sinksLast", "()V"⟩, 3, none, 1, 2, 0, false, 3139),
  (prog_3_method_4_code, ⟨"SpunModules$Factors", "formsPart", "(LSpunModules$Action;)V"⟩, 6, none, 1, 4, 1, false, 3107),
  (prog_3_method_5_code, ⟨"SpunModules$Factors", "writesFrom", "(JLSpunModules$Action;)V"⟩, 12, none, 1, 3, 2, false, 3114),
  (prog_3_method_6_code, ⟨"SpunModules$Factors", "countOf", "(LSpunModules$Action;)I"⟩, 4, (some .int), 1, 2, 1, false, 3147),
  (prog_3_method_7_code, ⟨"SpunModules$Factors", "sharedWith", "(LSpunModules$Factors;)I"⟩, 4, (some .int), 1, 3, 1, false, 3185),
  (prog_4_method_1_code, ⟨"SpunModules$Field", "<init>", "()V"⟩, 1, none, 2, 1, 0, false, 1028),
  (prog_4_method_2_code, ⟨"SpunModules$Field", "largest", "()I"⟩, 1, (some .int), 2, 0, 0, false, 2100),
  (prog_4_method_3_code, ⟨"SpunModules$Field", "modulo", "(I)I"⟩, 2, (some .int), 2, 1, 1, false, 2150),
  (prog_4_method_4_code, ⟨"SpunModules$Field", "negative", "(I)I"⟩, 2, (some .int), 2, 0, 1, false, 3007),
  (prog_4_method_5_code, ⟨"SpunModules$Field", "power", "(I)I"⟩, 4, (some .int), 2, 0, 1, false, 2220),
  (prog_4_method_6_code, ⟨"SpunModules$Field", "plusTimes", "(JIJ)J"⟩, 9, (some .long), 2, 0, 3, false, 2167),
  (prog_4_method_7_code, ⟨"SpunModules$Field", "vector", "(II)J"⟩, 8, (some .long), 2, 2, 2, false, 2232),
  (prog_4_method_8_code, ⟨"SpunModules$Field", "number", "(JI)I"⟩, 6, (some .int), 2, 1, 2, false, 3062),
  (prog_5_method_1_code, ⟨"SpunModules$Homs", "<init>", "(LSpunModules$Field;)V"⟩, 2, none, 3, 1, 1, false, 1186),
  (prog_5_method_2_code, ⟨"SpunModules$Homs", "dimension", "(LSpunModules$Action;LSpunModules$Action;)I"⟩, 5, (some .int), 3, 3, 2, false, 3151),
  (prog_5_method_3_code, ⟨"SpunModules$Homs", "evaluates", "(LSpunModules$Action;LSpunModules$Action;II)V"⟩, 8, none, 3, 2, 4, false, 3155),
  (prog_5_method_4_code, ⟨"SpunModules$Homs", "reduces", "(I)V"⟩, 6, none, 3, 1, 1, false, 3163),
  (prog_5_method_5_code, ⟨"SpunModules$Homs", "keepsIfNew", "(I)V"⟩, 7, none, 3, 2, 1, false, 3168),
  (prog_6_method_1_code, ⟨"SpunModules$Past", "<init>", "(LSpunModules$Field;)V"⟩, 3, none, 4, 2, 1, false, 1095),
  (prog_6_method_2_code, ⟨"SpunModules$Past", "keeps", "([LSpunModules$Action;)V"⟩, 3, none, 4, 2, 1, false, 2074),
  (prog_6_method_3_code, ⟨"SpunModules$Past", "restores", "([LSpunModules$Action;)V"⟩, 3, none, 4, 2, 1, false, 4112),
  (prog_7_method_1_code, ⟨"SpunModules$Polynomial", "<init>", "()V"⟩, 1, none, 5, 1, 0, false, 2002),
  (prog_7_method_2_code, ⟨"SpunModules$Polynomial", "takesRow", "(IJ)V"⟩, 5, none, 5, 1, 2, false, 4090),
  (prog_7_method_3_code, ⟨"SpunModules$Polynomial", "computes", "(I)V"⟩, 4, none, 5, 1, 1, false, 4095),
  (prog_7_method_4_code, ⟨"SpunModules$Polynomial", "addsUnit", "(II)V"⟩, 5, none, 5, 0, 2, false, 4099),
  (prog_7_method_5_code, ⟨"SpunModules$Polynomial", "multiplied", "(I)I"⟩, 7, (some .int), 5, 0, 1, false, 4103),
  (prog_8_method_1_code, ⟨"SpunModules$Socles", "<init>", "(LSpunModules$Field;)V"⟩, 2, none, 6, 2, 1, false, 1210),
  (prog_8_method_2_code, ⟨"SpunModules$Socles", "layerOf", "(LSpunModules$Action;I)I"⟩, 4, (some .int), 6, 6, 2, false, 3199),
  (prog_8_method_3_code, ⟨"SpunModules$Socles", "findsDimensions", "()V"⟩, 5, none, 6, 4, 0, false, 3204),
  (prog_8_method_4_code, ⟨"SpunModules$Socles", "findsSocle", "()V"⟩, 6, none, 6, 5, 0, false, 3213),
  (prog_8_method_5_code, ⟨"SpunModules$Socles", "addsIfSimple", "(J)V"⟩, 4, none, 6, 4, 1, false, 3217),
  (prog_9_method_1_code, ⟨"SpunModules$Space", "<init>", "(LSpunModules$Field;)V"⟩, 2, none, 7, 1, 1, false, 1066),
  (prog_9_method_2_code, ⟨"SpunModules$Space", "empties", "(I)V"⟩, 3, none, 7, 0, 1, false, 2228),
  (prog_9_method_3_code, ⟨"SpunModules$Space", "copies", "(LSpunModules$Space;)V"⟩, 2, none, 7, 1, 1, false, 3223),
  (prog_9_method_4_code, ⟨"SpunModules$Space", "hasPivot", "(I)Z"⟩, 2, (some .boolean), 7, 0, 1, false, 3029),
  (prog_9_method_5_code, ⟨"SpunModules$Space", "reduced", "(J)J"⟩, 7, (some .long), 7, 1, 1, false, 3002),
  (prog_9_method_6_code, ⟨"SpunModules$Space", "takes", "(J)V"⟩, 10, none, 7, 2, 1, false, 2238),
  (prog_9_method_7_code, ⟨"SpunModules$Space", "spins", "(LSpunModules$Action;)V"⟩, 3, none, 7, 3, 1, false, 3016),
  (prog_9_method_8_code, ⟨"SpunModules$Space", "spinsLeast", "(LSpunModules$Action;)V"⟩, 7, none, 7, 4, 1, false, 3083),
  (prog_9_method_9_code, ⟨"SpunModules$Space", "basisVector", "(I)J"⟩, 4, (some .long), 7, 1, 1, false, 3075),
  (prog_9_method_10_code, ⟨"SpunModules$Space", "picks", "(JZ)J"⟩, 8, (some .long), 7, 1, 2, false, 3034),
  (prog_9_method_11_code, ⟨"SpunModules$Space", "smallestNumber", "()I"⟩, 3, (some .int), 7, 3, 0, false, 4082),
  (prog_9_method_12_code, ⟨"SpunModules$Space", "fills", "(III)V"⟩, 9, none, 7, 3, 3, false, 4009),
  (prog_9_method_13_code, ⟨"SpunModules$Space", "isInvariant", "(LSpunModules$Action;)Z"⟩, 4, (some .boolean), 7, 2, 1, false, 4014),
  (prog_10_method_1_code, ⟨"SpunModules$Words", "<init>", "(LSpunModules$Field;)V"⟩, 2, none, 8, 2, 1, false, 1121),
  (prog_10_method_2_code, ⟨"SpunModules$Words", "appends", "(I)V"⟩, 2, none, 8, 0, 1, false, 4023),
  (prog_10_method_3_code, ⟨"SpunModules$Words", "fault", "()I"⟩, 4, (some .int), 8, 1, 0, false, 4035),
  (prog_10_method_4_code, ⟨"SpunModules$Words", "takesText", "()V"⟩, 1, none, 8, 1, 0, false, 4048),
  (prog_10_method_5_code, ⟨"SpunModules$Words", "terms", "()I"⟩, 3, (some .int), 8, 0, 0, false, 4053),
  (prog_10_method_6_code, ⟨"SpunModules$Words", "valueRow", "(LSpunModules$Action;I)J"⟩, 9, (some .long), 8, 2, 2, false, 4061),
  (prog_10_method_7_code, ⟨"SpunModules$Words", "findsNulls", "(LSpunModules$Action;LSpunModules$Space;)V"⟩, 8, none, 8, 3, 2, false, 4073),
  (prog_10_method_8_code, ⟨"SpunModules$Words", "isDigit", "(I)Z"⟩, 1, (some .boolean), 8, 0, 1, true, 4044),
  (prog_10_method_9_code, ⟨"SpunModules$Words", "isLetter", "(I)Z"⟩, 1, (some .boolean), 8, 0, 1, true, 4038),
  (prog_1_method_1_code, ⟨"SpunModules", "<init>", "()V"⟩, 2, none, 9, 3, 0, false, 1020),
  (prog_1_method_2_code, ⟨"SpunModules", "begins", "(I)I"⟩, 3, (some .int), 9, 3, 1, false, 2066),
  (prog_1_method_3_code, ⟨"SpunModules", "sizes", "(II)I"⟩, 3, (some .int), 9, 3, 2, false, 2092),
  (prog_1_method_4_code, ⟨"SpunModules", "sets", "(IIIII)I"⟩, 7, (some .int), 9, 3, 5, false, 2104),
  (prog_1_method_5_code, ⟨"SpunModules", "draws", "(II)I"⟩, 3, (some .int), 9, 3, 2, false, 2138),
  (prog_1_method_6_code, ⟨"SpunModules", "turns", "(IIII)I"⟩, 6, (some .int), 9, 3, 4, false, 2158),
  (prog_1_method_7_code, ⟨"SpunModules", "adds", "(III)I"⟩, 4, (some .int), 9, 4, 3, false, 2177),
  (prog_1_method_8_code, ⟨"SpunModules", "times", "(III)I"⟩, 4, (some .int), 9, 4, 3, false, 2190),
  (prog_1_method_9_code, ⟨"SpunModules", "over", "(II)I"⟩, 3, (some .int), 9, 4, 2, false, 2204),
  (prog_1_method_10_code, ⟨"SpunModules", "parts", "(III)I"⟩, 4, (some .int), 9, 5, 3, false, 2212),
  (prog_1_method_11_code, ⟨"SpunModules", "rests", "(III)I"⟩, 4, (some .int), 9, 5, 3, false, 3040),
  (prog_1_method_12_code, ⟨"SpunModules", "size", "(I)I"⟩, 2, (some .int), 9, 1, 1, false, 3049),
  (prog_1_method_13_code, ⟨"SpunModules", "at", "(IIII)I"⟩, 5, (some .int), 9, 3, 4, false, 3053),
  (prog_1_method_14_code, ⟨"SpunModules", "moved", "(III)I"⟩, 5, (some .int), 9, 3, 3, false, 3057),
  (prog_1_method_15_code, ⟨"SpunModules", "spun", "(II)I"⟩, 3, (some .int), 9, 5, 2, false, 3067),
  (prog_1_method_16_code, ⟨"SpunModules", "row", "(III)I"⟩, 4, (some .int), 9, 5, 3, false, 3071),
  (prog_1_method_17_code, ⟨"SpunModules", "simple", "(I)I"⟩, 2, (some .int), 9, 5, 1, false, 3079),
  (prog_1_method_18_code, ⟨"SpunModules", "least", "(I)I"⟩, 2, (some .int), 9, 5, 1, false, 3091),
  (prog_1_method_19_code, ⟨"SpunModules", "factors", "(I)I"⟩, 2, (some .int), 9, 6, 1, false, 3095),
  (prog_1_method_20_code, ⟨"SpunModules", "factor", "(III)I"⟩, 5, (some .int), 9, 6, 3, false, 3143),
  (prog_1_method_21_code, ⟨"SpunModules", "telling", "(III)I"⟩, 4, (some .int), 9, 6, 3, false, 3173),
  (prog_1_method_22_code, ⟨"SpunModules", "common", "(II)I"⟩, 3, (some .int), 9, 6, 2, false, 3181),
  (prog_1_method_23_code, ⟨"SpunModules", "ways", "(II)I"⟩, 3, (some .int), 9, 4, 2, false, 3191),
  (prog_1_method_24_code, ⟨"SpunModules", "layer", "(II)I"⟩, 3, (some .int), 9, 7, 2, false, 3195),
  (prog_1_method_25_code, ⟨"SpunModules", "spaces", "(II)I"⟩, 6, (some .int), 9, 5, 2, false, 3229),
  (prog_1_method_26_code, ⟨"SpunModules", "type", "(I)I"⟩, 2, (some .int), 9, 1, 1, false, 4019),
  (prog_1_method_27_code, ⟨"SpunModules", "clear", "()I"⟩, 2, (some .int), 9, 0, 0, false, 4027),
  (prog_1_method_28_code, ⟨"SpunModules", "tells", "()I"⟩, 2, (some .int), 9, 2, 0, false, 4031),
  (prog_1_method_29_code, ⟨"SpunModules", "word", "(III)I"⟩, 4, (some .int), 9, 3, 3, false, 4057),
  (prog_1_method_30_code, ⟨"SpunModules", "nulls", "(II)I"⟩, 3, (some .int), 9, 4, 2, false, 4069),
  (prog_1_method_31_code, ⟨"SpunModules", "poly", "(II)I"⟩, 5, (some .int), 9, 3, 2, false, 4086),
  (prog_1_method_32_code, ⟨"SpunModules", "back", "()I"⟩, 1, (some .int), 9, 3, 0, false, 4108),
  (prog_1_method_33_code, ⟨"SpunModules", "told", "(I)I"⟩, 2, (some .int), 9, 1, 1, false, 4116),
  (prog_1_method_34_code, ⟨"SpunModules", "digest", "()J"⟩, 5, (some .long), 9, 3, 0, false, 4124),
  (prog_1_method_35_code, ⟨"SpunModules", "fails", "(I)I"⟩, 2, (some .int), 9, 0, 1, false, 2070),
  (prog_1_method_36_code, ⟨"SpunModules", "toldNumber", "(I)I"⟩, 2, (some .int), 9, 0, 1, false, 4120),
  (prog_1_method_37_code, ⟨"SpunModules", "isModule", "(I)Z"⟩, 2, (some .boolean), 9, 0, 1, false, 2096),
  (prog_1_method_38_code, ⟨"SpunModules", "isMatrix", "(I)Z"⟩, 2, (some .boolean), 9, 0, 1, false, 2112),
  (prog_1_method_39_code, ⟨"SpunModules", "isElement", "(I)Z"⟩, 2, (some .boolean), 9, 0, 1, false, 2120),
  (prog_1_method_40_code, ⟨"SpunModules", "isPlace", "(II)Z"⟩, 3, (some .boolean), 9, 1, 2, false, 2116),
  (prog_1_method_41_code, ⟨"SpunModules", "isEntry", "(IIII)Z"⟩, 5, (some .boolean), 9, 2, 4, false, 2108),
  (prog_1_method_42_code, ⟨"SpunModules", "isVector", "(II)Z"⟩, 3, (some .boolean), 9, 1, 2, false, 2216),
  (prog_1_method_43_code, ⟨"SpunModules", "changesTo", "(I)I"⟩, 2, (some .int), 9, 3, 1, false, 2186),
  (prog_1_method_44_code, ⟨"SpunModules", "spins", "(II)V"⟩, 4, none, 9, 4, 2, false, 2224),
  (prog_1_method_45_code, ⟨"SpunModules", "invariantSpaces", "(LSpunModules$Action;I)I"⟩, 6, (some .int), 9, 4, 2, false, 3239),
  (prog_1_method_46_code, ⟨"SpunModules", "freePlaces", "(II)I"⟩, 5, (some .int), 9, 1, 2, true, 4002),
  (prog_1_method_47_code, ⟨"SpunModules", "isPivot", "(II)Z"⟩, 2, (some .boolean), 9, 0, 2, true, 4005),
  (prog_1_method_48_code, ⟨"SpunModules", "element", "(JI)I"⟩, 3, (some .int), 9, 0, 2, true, 2127),
  (prog_1_method_49_code, ⟨"SpunModules", "unit", "(I)J"⟩, 1, (some .long), 9, 0, 1, true, 2134),
  (prog_1_method_50_code, ⟨"SpunModules", "isZero", "(J)Z"⟩, 2, (some .boolean), 9, 0, 1, true, 3122),
  (prog_1_method_51_code, ⟨"SpunModules", "firstPlace", "(J)I"⟩, 3, (some .int), 9, 1, 1, true, 3011),
  (prog_1_method_52_code, ⟨"SpunModules", "rowOnto", "(JJI)J"⟩, 8, (some .long), 9, 1, 3, true, 4134),
  (prog_12_method_1_code, ⟨"SpunModulesModel", "<init>", "()V"⟩, 1, none, 10, 1, 0, false, 4140),
  (prog_12_method_2_code, ⟨"SpunModulesModel", "bad", "()I"⟩, 1, (some .int), 10, 0, 0, false, 5035),
  (prog_12_method_3_code, ⟨"SpunModulesModel", "no", "()I"⟩, 1, (some .int), 10, 0, 0, false, 5024),
  (prog_12_method_4_code, ⟨"SpunModulesModel", "full", "()I"⟩, 1, (some .int), 10, 0, 0, false, 6062),
  (prog_12_method_5_code, ⟨"SpunModulesModel", "in", "(III)Z"⟩, 3, (some .boolean), 10, 0, 3, true, 5031),
  (prog_12_method_6_code, ⟨"SpunModulesModel", "limit", "()I"⟩, 1, (some .int), 10, 0, 0, false, 5058),
  (prog_12_method_7_code, ⟨"SpunModulesModel", "power", "(I)I"⟩, 4, (some .int), 10, 0, 1, false, 5110),
  (prog_12_method_8_code, ⟨"SpunModulesModel", "figure", "(II)I"⟩, 3, (some .int), 10, 1, 2, false, 5150),
  (prog_12_method_9_code, ⟨"SpunModulesModel", "cell", "(IIII)I"⟩, 4, (some .int), 10, 0, 4, true, 5069),
  (prog_12_method_10_code, ⟨"SpunModulesModel", "plus", "(III)I"⟩, 8, (some .int), 10, 0, 3, false, 5130),
  (prog_12_method_11_code, ⟨"SpunModulesModel", "moves", "(III)I"⟩, 11, (some .int), 10, 1, 3, false, 5134),
  (prog_12_method_12_code, ⟨"SpunModulesModel", "takesFresh", "(II)V"⟩, 4, none, 10, 0, 2, false, 5047),
  (prog_12_method_13_code, ⟨"SpunModulesModel", "clearsFresh", "()V"⟩, 2, none, 10, 0, 0, false, 5043),
  (prog_12_method_14_code, ⟨"SpunModulesModel", "isModule", "(I)Z"⟩, 1, (some .boolean), 10, 1, 1, true, 5054),
  (prog_12_method_15_code, ⟨"SpunModulesModel", "isPlace", "(II)Z"⟩, 3, (some .boolean), 10, 1, 2, false, 5066),
  (prog_12_method_16_code, ⟨"SpunModulesModel", "isVector", "(II)Z"⟩, 3, (some .boolean), 10, 1, 2, false, 5106),
  (prog_12_method_17_code, ⟨"SpunModulesModel", "nothing", "()V"⟩, 2, none, 10, 0, 0, false, 5118),
  (prog_12_method_18_code, ⟨"SpunModulesModel", "joins", "(II)V"⟩, 6, none, 10, 1, 2, false, 5126),
  (prog_12_method_19_code, ⟨"SpunModulesModel", "spinsOn", "(II)V"⟩, 6, none, 10, 2, 2, false, 5122),
  (prog_12_method_20_code, ⟨"SpunModulesModel", "spins", "(II)V"⟩, 3, none, 10, 3, 2, false, 5114),
  (prog_12_method_21_code, ⟨"SpunModulesModel", "firstOf", "(II)I"⟩, 4, (some .int), 10, 2, 2, false, 5146),
  (prog_12_method_22_code, ⟨"SpunModulesModel", "isRow", "(III)Z"⟩, 6, (some .boolean), 10, 3, 3, false, 5154),
  (prog_12_method_23_code, ⟨"SpunModulesModel", "findsRows", "(I)V"⟩, 6, none, 10, 4, 1, false, 5142),
  (prog_12_method_24_code, ⟨"SpunModulesModel", "tellsPart", "(II)V"⟩, 7, none, 10, 5, 2, false, 5138),
  (prog_12_method_25_code, ⟨"SpunModulesModel", "without", "(I)I"⟩, 5, (some .int), 10, 2, 1, false, 5166),
  (prog_12_method_26_code, ⟨"SpunModulesModel", "tellsRest", "(II)V"⟩, 10, none, 10, 5, 2, false, 5162),
  (prog_12_method_27_code, ⟨"SpunModulesModel", "leavesState", "()V"⟩, 3, none, 10, 0, 0, false, 5039),
  (prog_12_method_28_code, ⟨"SpunModulesModel", "back", "()I"⟩, 3, (some .int), 10, 1, 0, false, 5020),
  (prog_12_method_29_code, ⟨"SpunModulesModel", "begins", "(I)I"⟩, 3, (some .int), 10, 1, 1, false, 5028),
  (prog_12_method_30_code, ⟨"SpunModulesModel", "sizes", "(II)I"⟩, 3, (some .int), 10, 2, 2, false, 5051),
  (prog_12_method_31_code, ⟨"SpunModulesModel", "sets", "(IIIII)I"⟩, 7, (some .int), 10, 2, 5, false, 5062),
  (prog_12_method_32_code, ⟨"SpunModulesModel", "draws", "(II)I"⟩, 10, (some .int), 10, 2, 2, false, 5073),
  (prog_12_method_33_code, ⟨"SpunModulesModel", "turned", "(IIII[I)I"⟩, 8, (some .int), 10, 1, 5, false, 5086),
  (prog_12_method_34_code, ⟨"SpunModulesModel", "turns", "(IIII)I"⟩, 10, (some .int), 10, 2, 4, false, 5082),
  (prog_12_method_35_code, ⟨"SpunModulesModel", "adds", "(III)I"⟩, 11, (some .int), 10, 2, 3, false, 5090),
  (prog_12_method_36_code, ⟨"SpunModulesModel", "times", "(III)I"⟩, 10, (some .int), 10, 2, 3, false, 5094),
  (prog_12_method_37_code, ⟨"SpunModulesModel", "over", "(II)I"⟩, 7, (some .int), 10, 2, 2, false, 5098),
  (prog_12_method_38_code, ⟨"SpunModulesModel", "parts", "(III)I"⟩, 4, (some .int), 10, 6, 3, false, 5102),
  (prog_12_method_39_code, ⟨"SpunModulesModel", "rests", "(III)I"⟩, 4, (some .int), 10, 6, 3, false, 5158),
  (prog_12_method_40_code, ⟨"SpunModulesModel", "size", "(I)I"⟩, 2, (some .int), 10, 2, 1, false, 5170),
  (prog_12_method_41_code, ⟨"SpunModulesModel", "at", "(IIII)I"⟩, 5, (some .int), 10, 2, 4, false, 5174),
  (prog_12_method_42_code, ⟨"SpunModulesModel", "moved", "(III)I"⟩, 4, (some .int), 10, 2, 3, false, 5178),
  (prog_12_method_43_code, ⟨"SpunModulesModel", "spun", "(II)I"⟩, 3, (some .int), 10, 4, 2, false, 5182),
  (prog_12_method_44_code, ⟨"SpunModulesModel", "row", "(III)I"⟩, 4, (some .int), 10, 5, 3, false, 5186),
  (prog_12_method_45_code, ⟨"SpunModulesModel", "splitter", "(I)I"⟩, 4, (some .int), 10, 4, 1, false, 5194),
  (prog_12_method_46_code, ⟨"SpunModulesModel", "simple", "(I)I"⟩, 2, (some .int), 10, 5, 1, false, 5190),
  (prog_12_method_47_code, ⟨"SpunModulesModel", "least", "(I)I"⟩, 5, (some .int), 10, 4, 1, false, 5198),
  (prog_12_method_48_code, ⟨"SpunModulesModel", "findsCodes", "(I)V"⟩, 6, none, 10, 2, 1, false, 5218),
  (prog_12_method_49_code, ⟨"SpunModulesModel", "tries", "(II)V"⟩, 7, none, 10, 4, 2, false, 5214),
  (prog_12_method_50_code, ⟨"SpunModulesModel", "isLess", "(II)Z"⟩, 4, (some .boolean), 10, 0, 2, false, 5222),
  (prog_12_method_51_code, ⟨"SpunModulesModel", "tellsPiece", "(I)V"⟩, 8, none, 10, 5, 1, false, 5210),
  (prog_12_method_52_code, ⟨"SpunModulesModel", "compare", "(II)I"⟩, 7, (some .int), 10, 0, 2, false, 5230),
  (prog_12_method_53_code, ⟨"SpunModulesModel", "sorts", "()V"⟩, 3, none, 10, 1, 0, false, 5226),
  (prog_12_method_54_code, ⟨"SpunModulesModel", "cuts", "(I)V"⟩, 4, none, 10, 6, 1, false, 5206),
  (prog_12_method_55_code, ⟨"SpunModulesModel", "factors", "(I)I"⟩, 2, (some .int), 10, 7, 1, false, 5202),
  (prog_12_method_56_code, ⟨"SpunModulesModel", "alikeTo", "(I)I"⟩, 4, (some .int), 10, 1, 1, false, 5238),
  (prog_12_method_57_code, ⟨"SpunModulesModel", "factor", "(III)I"⟩, 5, (some .int), 10, 7, 3, false, 5234),
  (prog_12_method_58_code, ⟨"SpunModulesModel", "telling", "(III)I"⟩, 5, (some .int), 10, 7, 3, false, 6014),
  (prog_12_method_59_code, ⟨"SpunModulesModel", "areAlike", "(II)Z"⟩, 6, (some .boolean), 10, 0, 2, false, 6022),
  (prog_12_method_60_code, ⟨"SpunModulesModel", "common", "(II)I"⟩, 7, (some .int), 10, 7, 2, false, 6018),
  (prog_12_method_61_code, ⟨"SpunModulesModel", "isNew", "(I)Z"⟩, 5, (some .boolean), 10, 0, 1, false, 6010),
  (prog_12_method_62_code, ⟨"SpunModulesModel", "tellsEquation", "(IIIII)V"⟩, 9, none, 10, 1, 5, false, 6006),
  (prog_12_method_63_code, ⟨"SpunModulesModel", "waysOf", "(II)I"⟩, 7, (some .int), 10, 2, 2, false, 6002),
  (prog_12_method_64_code, ⟨"SpunModulesModel", "ways", "(II)I"⟩, 3, (some .int), 10, 3, 2, false, 6026),
  (prog_12_method_65_code, ⟨"SpunModulesModel", "isByEach", "(I)Z"⟩, 4, (some .boolean), 10, 0, 1, false, 6038),
  (prog_12_method_66_code, ⟨"SpunModulesModel", "findsSocle", "()V"⟩, 4, none, 10, 4, 0, false, 6034),
  (prog_12_method_67_code, ⟨"SpunModulesModel", "layer", "(II)I"⟩, 4, (some .int), 10, 6, 2, false, 6030),
  (prog_12_method_68_code, ⟨"SpunModulesModel", "tellsRows", "(III)V"⟩, 8, none, 10, 1, 3, false, 6050),
  (prog_12_method_69_code, ⟨"SpunModulesModel", "freeOf", "(II)I"⟩, 6, (some .int), 10, 0, 2, false, 6046),
  (prog_12_method_70_code, ⟨"SpunModulesModel", "areKept", "(I)Z"⟩, 4, (some .boolean), 10, 3, 1, false, 6054),
  (prog_12_method_71_code, ⟨"SpunModulesModel", "spaces", "(II)I"⟩, 8, (some .int), 10, 4, 2, false, 6042),
  (prog_12_method_72_code, ⟨"SpunModulesModel", "type", "(I)I"⟩, 2, (some .int), 10, 1, 1, false, 6058),
  (prog_12_method_73_code, ⟨"SpunModulesModel", "clear", "()I"⟩, 2, (some .int), 10, 0, 0, false, 6066),
  (prog_12_method_74_code, ⟨"SpunModulesModel", "isFigureAt", "(I)Z"⟩, 2, (some .boolean), 10, 1, 1, false, 6074),
  (prog_12_method_75_code, ⟨"SpunModulesModel", "isLetterAt", "(I)Z"⟩, 2, (some .boolean), 10, 0, 1, false, 6078),
  (prog_12_method_76_code, ⟨"SpunModulesModel", "tells", "()I"⟩, 6, (some .int), 10, 2, 0, false, 6070),
  (prog_12_method_77_code, ⟨"SpunModulesModel", "beginsTerm", "()V"⟩, 2, none, 10, 0, 0, false, 6090),
  (prog_12_method_78_code, ⟨"SpunModulesModel", "goesOn", "(II)V"⟩, 8, none, 10, 1, 2, false, 6098),
  (prog_12_method_79_code, ⟨"SpunModulesModel", "endsTerm", "(I)V"⟩, 3, none, 10, 0, 1, false, 6094),
  (prog_12_method_80_code, ⟨"SpunModulesModel", "tellsWord", "(I)V"⟩, 5, none, 10, 2, 1, false, 6086),
  (prog_12_method_81_code, ⟨"SpunModulesModel", "word", "(III)I"⟩, 4, (some .int), 10, 3, 3, false, 6082),
  (prog_12_method_82_code, ⟨"SpunModulesModel", "isNull", "(II)Z"⟩, 7, (some .boolean), 10, 2, 2, false, 6106),
  (prog_12_method_83_code, ⟨"SpunModulesModel", "nulls", "(II)I"⟩, 8, (some .int), 10, 3, 2, false, 6102),
  (prog_12_method_84_code, ⟨"SpunModulesModel", "ones", "(I)I"⟩, 3, (some .int), 10, 0, 1, true, 6113),
  (prog_12_method_85_code, ⟨"SpunModulesModel", "rowOf", "(II)I"⟩, 3, (some .int), 10, 1, 2, true, 6120),
  (prog_12_method_86_code, ⟨"SpunModulesModel", "minor", "(I)I"⟩, 7, (some .int), 10, 2, 1, false, 6117),
  (prog_12_method_87_code, ⟨"SpunModulesModel", "poly", "(II)I"⟩, 6, (some .int), 10, 3, 2, false, 6110),
  (prog_12_method_88_code, ⟨"SpunModulesModel", "toldBy", "(I)I"⟩, 2, (some .int), 10, 0, 1, false, 6128),
  (prog_12_method_89_code, ⟨"SpunModulesModel", "told", "(I)I"⟩, 2, (some .int), 10, 1, 1, false, 6124),
  (prog_12_method_90_code, ⟨"SpunModulesModel", "digest", "()J"⟩, 7, (some .long), 10, 3, 0, false, 6132),
  (prog_13_method_40_code, ⟨"java/lang/Integer", "compare", "(II)I"⟩, 2, (some .int), 12, 0, 2, true, 3134),
  (prog_13_method_49_code, ⟨"java/lang/Integer", "bitCount", "(I)I"⟩, 1, (some .int), 12, 0, 1, true, 3232),
  (prog_14_method_42_code, ⟨"java/lang/Long", "compare", "(JJ)I"⟩, 4, (some .int), 13, 0, 2, true, 3127),
  (prog_15_method_50_code, ⟨"java/lang/Math", "floorMod", "(II)I"⟩, 3, (some .int), 14, 0, 2, true, 2153),
  (prog_15_method_65_code, ⟨"java/lang/Math", "max", "(II)I"⟩, 2, (some .int), 14, 0, 2, true, 4041),
  (prog_15_method_69_code, ⟨"java/lang/Math", "min", "(II)I"⟩, 2, (some .int), 14, 0, 2, true, 2084),
  (code, ⟨"SpunModulesLaw", "law", "([I)Z"⟩, 4, (some .boolean), 11, 8, 1, true, 0)]
/-- fields: own class, pool number, class, field, place of its word -/
def fT : List (Nat × Nat × Nat × Nat × Nat) := [(0, 9, 0, 1, 1044), (0, 15, 0, 2, 1051), (0, 19, 0, 0, 1043), (0, 73, 7, 2, 1074), (0, 82, 7, 3, 1076), (1, 11, 1, 1, 1156), (1, 17, 1, 2, 1158), (1, 21, 1, 0, 1155), (1, 28, 1, 3, 1160), (1, 32, 1, 4, 1161), (1, 35, 1, 5, 1162), (1, 38, 1, 6, 1163), (1, 44, 1, 7, 1164), (1, 52, 0, 1, 1047), (1, 102, 7, 2, 1072), (1, 105, 7, 4, 1079), (1, 121, 0, 2, 1053), (2, 9, 2, 0, 1030), (3, 11, 3, 1, 1191), (3, 16, 3, 2, 1192), (3, 20, 3, 3, 1193), (3, 23, 3, 4, 1194), (3, 27, 3, 0, 1190), (3, 31, 0, 1, 1045), (3, 55, 0, 2, 1052), (4, 9, 4, 1, 1100), (4, 15, 4, 2, 1102), (4, 18, 4, 3, 1103), (4, 24, 4, 4, 1104), (4, 28, 4, 0, 1099), (4, 35, 2, 0, 1031), (5, 9, 5, 0, 2006), (5, 17, 5, 1, 2008), (5, 20, 5, 2, 2009), (5, 23, 5, 3, 2010), (6, 9, 6, 6, 1222), (6, 15, 6, 0, 1216), (6, 24, 6, 1, 1217), (6, 28, 6, 2, 1218), (6, 34, 6, 3, 1219), (6, 38, 6, 4, 1220), (6, 41, 6, 5, 1221), (6, 48, 0, 1, 1046), (6, 58, 7, 2, 1071), (6, 100, 7, 4, 1078), (7, 9, 7, 1, 1069), (7, 15, 7, 2, 1070), (7, 18, 7, 3, 1075), (7, 22, 7, 4, 1077), (7, 25, 7, 0, 1068), (7, 67, 0, 1, 1050), (8, 9, 8, 1, 1126), (8, 15, 8, 2, 1128), (8, 19, 8, 3, 1129), (8, 22, 8, 4, 1130), (8, 25, 8, 0, 1125), (8, 34, 8, 5, 1131), (8, 77, 0, 1, 1048), (9, 10, 9, 0, 2020), (9, 18, 9, 1, 2021), (9, 25, 9, 2, 2022), (9, 32, 9, 3, 2023), (9, 39, 9, 4, 2024), (9, 46, 9, 5, 2025), (9, 53, 9, 6, 2026), (9, 57, 9, 7, 2027), (9, 63, 9, 8, 2028), (9, 70, 9, 9, 2029), (9, 77, 9, 10, 2030), (9, 81, 9, 11, 2031), (9, 85, 9, 12, 2032), (9, 88, 9, 13, 2033), (9, 99, 2, 0, 1032), (9, 149, 0, 1, 1049), (9, 176, 7, 2, 1073), (9, 207, 1, 2, 1159), (9, 210, 1, 1, 1157), (9, 239, 8, 1, 1127), (9, 276, 5, 0, 2007), (9, 283, 4, 1, 1101), (10, 7, 10, 0, 4142), (10, 13, 10, 1, 4143), (10, 17, 10, 2, 4144), (10, 20, 10, 3, 4145), (10, 23, 10, 4, 4146), (10, 26, 10, 5, 4147), (10, 29, 10, 6, 4148), (10, 32, 10, 8, 4150), (10, 35, 10, 9, 4151), (10, 38, 10, 10, 4152), (10, 41, 10, 11, 4153), (10, 44, 10, 12, 4154), (10, 47, 10, 14, 4156), (10, 50, 10, 15, 4157), (10, 53, 10, 17, 4159), (10, 56, 10, 18, 4160), (10, 59, 10, 19, 4161), (10, 62, 10, 20, 4162), (10, 65, 10, 22, 4164), (10, 68, 10, 23, 4165), (10, 71, 10, 24, 4166), (10, 74, 10, 25, 4167), (10, 77, 10, 26, 4168), (10, 80, 10, 27, 4169), (10, 83, 10, 28, 4170), (10, 86, 10, 29, 4171), (10, 89, 10, 30, 4172), (10, 92, 10, 32, 4174), (10, 95, 10, 33, 4175), (10, 98, 10, 34, 4176), (10, 101, 10, 35, 4177), (10, 104, 10, 36, 4178), (10, 107, 10, 37, 4179), (10, 122, 10, 7, 4149), (10, 165, 10, 13, 4155), (10, 226, 10, 16, 4158), (10, 247, 10, 21, 4163), (10, 276, 10, 31, 4173)]
/-- methods: own class, pool number, method, kind (0 virtual, 1 static, 2 init; 3, 4, 5 the same of a nest mate; 6 Object.init, 7 arraycopy), places of its words -/
def mT : List (Nat × Nat × Nat × Nat × Nat × Nat × Nat × Nat) := [(0, 3, 900, 6, 1042, 0, 0, 0), (0, 23, 901, 7, 2079, 0, 0, 0), (0, 29, 120, 4, 2125, 1001, 2126, 0), (0, 33, 121, 4, 2132, 1001, 2133, 0), (0, 37, 30, 0, 2164, 1002, 2165, 2166), (0, 49, 27, 0, 2147, 1002, 2148, 2149), (0, 53, 4, 0, 2154, 1003, 2129, 2130), (0, 57, 2, 0, 2182, 1003, 2076, 2077), (0, 61, 1, 0, 2195, 1003, 2086, 2087), (0, 65, 3, 0, 2196, 1003, 2122, 2123), (0, 69, 11, 0, 2197, 1003, 2199, 7), (0, 78, 54, 0, 3026, 1004, 3027, 3028), (0, 83, 5, 0, 3030, 1003, 3018, 3019), (0, 87, 60, 0, 3031, 1004, 3032, 3033), (0, 91, 55, 0, 3045, 1004, 3000, 3001), (0, 95, 215, 1, 3132, 1015, 3133, 0), (0, 101, 217, 1, 3135, 1014, 3126, 0), (0, 108, 124, 4, 4132, 1001, 4133, 0), (1, 3, 900, 6, 1150, 0, 0, 0), (1, 25, 0, 2, 1152, 1003, 1040, 0), (1, 43, 51, 2, 1154, 1004, 1065, 0), (1, 48, 2, 0, 3100, 1003, 2076, 2077), (1, 55, 58, 0, 3101, 1004, 3081, 3082), (1, 58, 13, 0, 3102, 1003, 3023, 3024), (1, 62, 14, 0, 3103, 1003, 3042, 3043), (1, 65, 21, 0, 3104, 1007, 3106, 10), (1, 68, 20, 0, 3136, 1007, 3138, 12), (1, 71, 16, 0, 3128, 1003, 3129, 3130), (1, 75, 1, 0, 3108, 1003, 2086, 2087), (1, 79, 29, 0, 3109, 1002, 2218, 2219), (1, 85, 31, 0, 3110, 1002, 2230, 2231), (1, 89, 22, 0, 3111, 1007, 3113, 11), (1, 93, 52, 0, 3115, 1004, 2226, 2227), (1, 94, 121, 4, 3116, 1001, 2133, 0), (1, 98, 56, 0, 3117, 1004, 2236, 2237), (1, 109, 5, 0, 3118, 1003, 3018, 3019), (1, 113, 55, 0, 3119, 1004, 3000, 3001), (1, 117, 122, 4, 3120, 1001, 3121, 0), (1, 124, 28, 0, 3123, 1002, 3005, 3006), (1, 127, 30, 0, 3124, 1002, 2165, 2166), (1, 131, 217, 1, 3125, 1014, 3126, 0), (1, 137, 23, 0, 3186, 1007, 3145, 3146), (1, 140, 220, 1, 3187, 1013, 2083, 0), (2, 3, 900, 6, 1029, 0, 0, 0), (2, 15, 218, 1, 2151, 1013, 2152, 0), (2, 25, 27, 0, 2233, 1002, 2148, 2149), (2, 29, 121, 4, 2234, 1001, 2133, 0), (2, 33, 120, 4, 3063, 1001, 2126, 0), (3, 3, 900, 6, 1187, 0, 0, 0), (3, 36, 35, 0, 3152, 1008, 3154, 13), (3, 40, 36, 0, 3160, 1008, 3162, 14), (3, 44, 37, 0, 3165, 1008, 3167, 15), (3, 47, 3, 0, 3156, 1003, 2122, 2123), (3, 51, 121, 4, 3157, 1001, 2133, 0), (3, 59, 28, 0, 3158, 1002, 3005, 3006), (3, 65, 30, 0, 3159, 1002, 2165, 2166), (3, 69, 120, 4, 3164, 1001, 2126, 0), (3, 73, 123, 4, 3169, 1001, 3010, 0), (4, 3, 900, 6, 1096, 0, 0, 0), (4, 32, 0, 2, 1098, 1003, 1040, 0), (4, 40, 2, 0, 2075, 1003, 2076, 2077), (4, 44, 220, 1, 2082, 1013, 2083, 0), (5, 3, 900, 6, 2003, 0, 0, 0), (5, 26, 120, 4, 4091, 1001, 2126, 0), (5, 30, 44, 0, 4096, 1010, 4098, 20), (5, 34, 45, 0, 4100, 1010, 4102, 21), (6, 3, 900, 6, 1211, 0, 0, 0), (6, 21, 0, 2, 1213, 1003, 1040, 0), (6, 33, 51, 2, 1215, 1004, 1065, 0), (6, 44, 2, 0, 3200, 1003, 2076, 2077), (6, 52, 48, 0, 3201, 1009, 3203, 16), (6, 55, 49, 0, 3210, 1009, 3212, 17), (6, 61, 14, 0, 3225, 1003, 3042, 3043), (6, 65, 29, 0, 3205, 1002, 2218, 2219), (6, 71, 52, 0, 3206, 1004, 2226, 2227), (6, 75, 31, 0, 3207, 1002, 2230, 2231), (6, 79, 56, 0, 3208, 1004, 2236, 2237), (6, 83, 57, 0, 3209, 1004, 3014, 3015), (6, 86, 50, 0, 3214, 1009, 3216, 18), (6, 89, 55, 0, 3218, 1004, 3000, 3001), (6, 93, 122, 4, 3219, 1001, 3121, 0), (6, 97, 53, 0, 3220, 1004, 3221, 3222), (7, 3, 900, 6, 1067, 0, 0, 0), (7, 29, 901, 7, 3224, 0, 0, 0), (7, 35, 120, 4, 3003, 1001, 2126, 0), (7, 39, 28, 0, 3004, 1002, 3005, 3006), (7, 45, 30, 0, 3008, 1002, 2165, 2166), (7, 49, 55, 0, 2239, 1004, 3000, 3001), (7, 53, 123, 4, 3009, 1001, 3010, 0), (7, 57, 5, 0, 3017, 1003, 3018, 3019), (7, 63, 56, 0, 3021, 1004, 2236, 2237), (7, 70, 29, 0, 3084, 1002, 2218, 2219), (7, 73, 52, 0, 3085, 1004, 2226, 2227), (7, 77, 31, 0, 3086, 1002, 2230, 2231), (7, 81, 57, 0, 3087, 1004, 3014, 3015), (7, 85, 54, 0, 3035, 1004, 3027, 3028), (7, 89, 121, 4, 3036, 1001, 2133, 0), (7, 93, 122, 4, 4015, 1001, 3121, 0), (7, 97, 119, 4, 4010, 1001, 4004, 0), (8, 3, 900, 6, 1122, 0, 0, 0), (8, 31, 51, 2, 1124, 1004, 1065, 0), (8, 38, 72, 1, 4036, 1006, 4037, 0), (8, 42, 219, 1, 4039, 1013, 4040, 0), (8, 48, 71, 1, 4042, 1006, 4043, 0), (8, 51, 901, 7, 4049, 0, 0, 0), (8, 57, 121, 4, 4062, 1001, 2133, 0), (8, 61, 27, 0, 4063, 1002, 2148, 2149), (8, 67, 5, 0, 4064, 1003, 3018, 3019), (8, 73, 30, 0, 4065, 1002, 2165, 2166), (8, 80, 52, 0, 4074, 1004, 2226, 2227), (8, 84, 69, 0, 4075, 1006, 4059, 4060), (8, 88, 55, 0, 4076, 1004, 3000, 3001), (8, 92, 122, 4, 4077, 1001, 3121, 0), (8, 96, 56, 0, 4078, 1004, 2236, 2237), (9, 1, 900, 6, 1021, 0, 0, 0), (9, 9, 25, 5, 1026, 1002, 1027, 0), (9, 22, 0, 2, 1039, 1003, 1040, 0), (9, 31, 51, 2, 1064, 1004, 1065, 0), (9, 38, 38, 2, 1093, 1005, 1094, 0), (9, 45, 64, 2, 1119, 1006, 1120, 0), (9, 52, 18, 2, 1147, 1007, 1148, 0), (9, 62, 33, 2, 1184, 1008, 1185, 0), (9, 69, 46, 2, 1208, 1009, 1209, 0), (9, 76, 41, 5, 2000, 1010, 2001, 0), (9, 91, 107, 0, 2067, 1001, 2069, 0), (9, 95, 39, 0, 2071, 1005, 2072, 2073), (9, 102, 1, 0, 2085, 1003, 2086, 2087), (9, 106, 109, 0, 2093, 1001, 2095, 1), (9, 110, 26, 0, 2097, 1002, 2098, 2099), (9, 114, 113, 0, 2105, 1001, 2107, 2), (9, 118, 111, 0, 2117, 1001, 2119, 5), (9, 121, 3, 0, 2121, 1003, 2122, 2123), (9, 125, 4, 0, 2128, 1003, 2129, 2130), (9, 130, 6, 0, 2140, 1003, 2141, 2142), (9, 133, 112, 0, 2113, 1001, 2115, 4), (9, 137, 2, 0, 2159, 1003, 2076, 2077), (9, 141, 7, 0, 2160, 1003, 2161, 2162), (9, 145, 8, 0, 2170, 1003, 2171, 2172), (9, 152, 9, 0, 2178, 1003, 2179, 2180), (9, 156, 115, 0, 2183, 1001, 2185, 6), (9, 159, 10, 0, 2191, 1003, 2192, 2193), (9, 162, 12, 0, 2205, 1003, 2206, 2207), (9, 165, 114, 0, 2213, 1001, 2215, 8), (9, 168, 116, 0, 2221, 1001, 2223, 9), (9, 172, 13, 0, 3022, 1003, 3023, 3024), (9, 179, 14, 0, 3041, 1003, 3042, 3043), (9, 182, 110, 0, 2109, 1001, 2111, 3), (9, 185, 31, 0, 2229, 1002, 2230, 2231), (9, 189, 5, 0, 3058, 1003, 3018, 3019), (9, 193, 32, 0, 3059, 1002, 3060, 3061), (9, 197, 59, 0, 3072, 1004, 3073, 3074), (9, 201, 58, 0, 3080, 1004, 3081, 3082), (9, 204, 19, 0, 3096, 1007, 3097, 3098), (9, 213, 23, 0, 3144, 1007, 3145, 3146), (9, 216, 34, 0, 3148, 1008, 3149, 3150), (9, 220, 15, 0, 3174, 1003, 3175, 3176), (9, 223, 24, 0, 3182, 1007, 3183, 3184), (9, 227, 47, 0, 3196, 1009, 3197, 3198), (9, 231, 216, 1, 3230, 1015, 3231, 0), (9, 236, 117, 0, 3236, 1001, 3238, 19), (9, 242, 65, 0, 4020, 1006, 4021, 4022), (9, 245, 66, 0, 4032, 1006, 4033, 4034), (9, 248, 67, 0, 4045, 1006, 4046, 4047), (9, 251, 68, 0, 4050, 1006, 4051, 4052), (9, 254, 69, 0, 4058, 1006, 4059, 4060), (9, 258, 120, 1, 3012, 1001, 2126, 0), (9, 261, 70, 0, 4070, 1006, 4071, 4072), (9, 264, 61, 0, 4079, 1004, 4080, 4081), (9, 267, 57, 0, 3013, 1004, 3014, 3015), (9, 269, 42, 0, 4087, 1010, 4088, 4089), (9, 273, 43, 0, 4092, 1010, 4093, 4094), (9, 280, 27, 0, 4104, 1002, 2148, 2149), (9, 284, 40, 0, 4109, 1005, 4110, 4111), (9, 287, 108, 0, 4117, 1001, 4119, 22), (9, 294, 17, 0, 4127, 1003, 4128, 4129), (9, 298, 124, 1, 4135, 1001, 4133, 0), (9, 302, 29, 0, 2217, 1002, 2218, 2219), (9, 305, 52, 0, 2225, 1004, 2226, 2227), (9, 306, 56, 0, 2235, 1004, 2236, 2237), (9, 310, 118, 1, 4000, 1001, 4001, 0), (9, 314, 62, 0, 4006, 1004, 4007, 4008), (9, 317, 63, 0, 4011, 1004, 4012, 4013), (9, 321, 119, 1, 4003, 1001, 4004, 0), (10, 1, 900, 6, 4141, 0, 0, 0), (10, 110, 131, 0, 5107, 1011, 5109, 32), (10, 114, 133, 1, 5067, 1011, 5068, 0), (10, 118, 129, 1, 5029, 1011, 5030, 0), (10, 125, 134, 0, 5127, 1011, 5129, 37), (10, 129, 142, 0, 5123, 1011, 5125, 36), (10, 133, 135, 0, 5131, 1011, 5133, 38), (10, 136, 141, 0, 5115, 1011, 5117, 34), (10, 139, 143, 0, 5119, 1011, 5121, 35), (10, 142, 132, 0, 5147, 1011, 5149, 42), (10, 146, 145, 0, 5143, 1011, 5145, 41), (10, 149, 146, 0, 5151, 1011, 5153, 43), (10, 152, 147, 0, 5139, 1011, 5141, 40), (10, 156, 137, 0, 5040, 1011, 5042, 26), (10, 159, 136, 0, 5044, 1011, 5046, 27), (10, 162, 149, 0, 5163, 1011, 5165, 45), (10, 168, 127, 0, 5021, 1011, 5023, 23), (10, 172, 126, 0, 5032, 1011, 5034, 24), (10, 175, 151, 0, 5036, 1011, 5038, 25), (10, 178, 138, 1, 5052, 1011, 5053, 0), (10, 182, 130, 0, 5055, 1011, 5057, 28), (10, 185, 139, 0, 5063, 1011, 5065, 29), (10, 198, 157, 0, 5083, 1011, 5085, 30), (10, 202, 140, 0, 5103, 1011, 5105, 31), (10, 205, 144, 0, 5111, 1011, 5113, 33), (10, 208, 148, 0, 5135, 1011, 5137, 39), (10, 211, 150, 0, 5159, 1011, 5161, 44), (10, 214, 169, 0, 5191, 1011, 5193, 46), (10, 217, 172, 0, 5215, 1011, 5217, 50), (10, 220, 173, 0, 5211, 1011, 5213, 49), (10, 223, 174, 0, 5219, 1011, 5221, 51), (10, 229, 176, 0, 5227, 1011, 5229, 53), (10, 232, 175, 0, 5207, 1011, 5209, 48), (10, 235, 177, 0, 5223, 1011, 5225, 52), (10, 238, 178, 0, 5203, 1011, 5205, 47), (10, 241, 180, 0, 5235, 1011, 5237, 54), (10, 244, 187, 0, 5239, 1011, 6001, 55), (10, 250, 183, 0, 6019, 1011, 6021, 58), (10, 253, 186, 0, 6003, 1011, 6005, 56), (10, 257, 185, 0, 6007, 1011, 6009, 57), (10, 260, 189, 0, 6035, 1011, 6037, 60), (10, 263, 190, 0, 6031, 1011, 6033, 59), (10, 266, 193, 0, 6043, 1011, 6045, 61), (10, 269, 192, 0, 6047, 1011, 6049, 62), (10, 273, 194, 0, 6051, 1011, 6053, 63), (10, 279, 128, 0, 6059, 1011, 6061, 64), (10, 282, 198, 0, 6071, 1011, 6073, 65), (10, 285, 199, 0, 6075, 1011, 6077, 66), (10, 288, 201, 0, 6087, 1011, 6089, 68), (10, 291, 203, 0, 6091, 1011, 6093, 69), (10, 294, 202, 0, 6095, 1011, 6097, 70), (10, 297, 204, 0, 6083, 1011, 6085, 67), (10, 300, 206, 0, 6103, 1011, 6105, 71), (10, 303, 208, 1, 6111, 1011, 6112, 0), (10, 306, 209, 1, 6118, 1011, 6119, 0), (10, 309, 210, 0, 6114, 1011, 6116, 72), (10, 312, 212, 0, 6125, 1011, 6127, 73), (11, 9, 73, 2, 1018, 1001, 1019, 0), (11, 12, 125, 2, 4138, 1011, 4139, 0), (11, 13, 74, 0, 2063, 1001, 2064, 2065), (11, 17, 153, 0, 5025, 1011, 5026, 5027), (11, 18, 75, 0, 2089, 1001, 2090, 2091), (11, 22, 154, 0, 5048, 1011, 5049, 5050), (11, 23, 76, 0, 2101, 1001, 2102, 2103), (11, 27, 155, 0, 5059, 1011, 5060, 5061), (11, 28, 77, 0, 2135, 1001, 2136, 2137), (11, 31, 156, 0, 5070, 1011, 5071, 5072), (11, 32, 78, 0, 2155, 1001, 2156, 2157), (11, 36, 158, 0, 5079, 1011, 5080, 5081), (11, 37, 79, 0, 2174, 1001, 2175, 2176), (11, 41, 159, 0, 5087, 1011, 5088, 5089), (11, 42, 80, 0, 2187, 1001, 2188, 2189), (11, 45, 160, 0, 5091, 1011, 5092, 5093), (11, 46, 81, 0, 2201, 1001, 2202, 2203), (11, 49, 161, 0, 5095, 1011, 5096, 5097), (11, 50, 82, 0, 2209, 1001, 2210, 2211), (11, 53, 162, 0, 5099, 1011, 5100, 5101), (11, 54, 83, 0, 3037, 1001, 3038, 3039), (11, 57, 163, 0, 5155, 1011, 5156, 5157), (11, 58, 84, 0, 3046, 1001, 3047, 3048), (11, 61, 164, 0, 5167, 1011, 5168, 5169), (11, 62, 85, 0, 3050, 1001, 3051, 3052), (11, 65, 165, 0, 5171, 1011, 5172, 5173), (11, 66, 86, 0, 3054, 1001, 3055, 3056), (11, 69, 166, 0, 5175, 1011, 5176, 5177), (11, 70, 87, 0, 3064, 1001, 3065, 3066), (11, 73, 167, 0, 5179, 1011, 5180, 5181), (11, 74, 88, 0, 3068, 1001, 3069, 3070), (11, 77, 168, 0, 5183, 1011, 5184, 5185), (11, 78, 89, 0, 3076, 1001, 3077, 3078), (11, 81, 170, 0, 5187, 1011, 5188, 5189), (11, 82, 90, 0, 3088, 1001, 3089, 3090), (11, 85, 171, 0, 5195, 1011, 5196, 5197), (11, 86, 91, 0, 3092, 1001, 3093, 3094), (11, 89, 179, 0, 5199, 1011, 5200, 5201), (11, 90, 92, 0, 3140, 1001, 3141, 3142), (11, 93, 181, 0, 5231, 1011, 5232, 5233), (11, 94, 93, 0, 3170, 1001, 3171, 3172), (11, 97, 182, 0, 6011, 1011, 6012, 6013), (11, 98, 94, 0, 3178, 1001, 3179, 3180), (11, 101, 184, 0, 6015, 1011, 6016, 6017), (11, 102, 95, 0, 3188, 1001, 3189, 3190), (11, 105, 188, 0, 6023, 1011, 6024, 6025), (11, 106, 96, 0, 3192, 1001, 3193, 3194), (11, 109, 191, 0, 6027, 1011, 6028, 6029), (11, 110, 97, 0, 3226, 1001, 3227, 3228), (11, 113, 195, 0, 6039, 1011, 6040, 6041), (11, 114, 98, 0, 4016, 1001, 4017, 4018), (11, 117, 196, 0, 6055, 1011, 6056, 6057), (11, 118, 99, 0, 4024, 1001, 4025, 4026), (11, 122, 197, 0, 6063, 1011, 6064, 6065), (11, 123, 100, 0, 4028, 1001, 4029, 4030), (11, 126, 200, 0, 6067, 1011, 6068, 6069), (11, 127, 101, 0, 4054, 1001, 4055, 4056), (11, 130, 205, 0, 6079, 1011, 6080, 6081), (11, 131, 102, 0, 4066, 1001, 4067, 4068), (11, 134, 207, 0, 6099, 1011, 6100, 6101), (11, 135, 103, 0, 4083, 1001, 4084, 4085), (11, 138, 211, 0, 6107, 1011, 6108, 6109), (11, 139, 104, 0, 4105, 1001, 4106, 4107), (11, 142, 152, 0, 5017, 1011, 5018, 5019), (11, 143, 105, 0, 4113, 1001, 4114, 4115), (11, 146, 213, 0, 6121, 1011, 6122, 6123), (11, 147, 106, 0, 4121, 1001, 4122, 4123), (11, 151, 214, 0, 6129, 1011, 6130, 6131)]
/-- constants: own class, pool number, value, 1 for a long, place -/
def kT : List (Nat × Nat × Int × Nat × Nat) := [(0, 43, 1103515245, 1, 2144), (0, 45, 12345, 1, 2145), (0, 47, 2147483647, 1, 2146), (0, 106, 31, 1, 4131), (2, 21, 18764998447377, 1, 2168), (2, 23, 150119987579016, 1, 2169), (9, 129, 999999, 0, 2139), (9, 290, 1562, 1, 4125), (9, 292, 31, 1, 4126), (10, 189, 999999, 0, 5074), (10, 190, 1103515245, 1, 5075), (10, 192, 12345, 1, 5076), (10, 194, 2147483648, 1, 5077), (10, 196, 65536, 1, 5078), (10, 315, 1562, 1, 6133), (10, 317, 31, 1, 6134), (12, 265, 1431655765, 0, 3233), (12, 266, 858993459, 0, 3234), (12, 267, 252645135, 0, 3235)]
def nT : List (Nat × Nat × Nat × Nat × Nat × Nat) := [(1, 9, 0, 1151, 1038, 1003), (1, 41, 7, 1153, 1063, 1004), (4, 22, 0, 1097, 1038, 1003), (6, 19, 0, 1212, 1038, 1003), (6, 31, 7, 1214, 1063, 1004), (8, 29, 7, 1123, 1063, 1004), (9, 7, 2, 1024, 1025, 1002), (9, 16, 0, 1036, 1038, 1003), (9, 29, 7, 1062, 1063, 1004), (9, 36, 4, 1091, 1092, 1005), (9, 43, 8, 1117, 1118, 1006), (9, 50, 1, 1145, 1146, 1007), (9, 60, 3, 1182, 1183, 1008), (9, 67, 6, 1206, 1207, 1009), (9, 74, 5, 1238, 1239, 1010), (11, 7, 9, 1016, 1017, 1001), (11, 10, 10, 4136, 4137, 1011)]
def aT : List (Nat × Nat × Nat) := [(1, 9, 1151), (4, 22, 1097), (9, 16, 1036)]
def gT : List (Nat × Nat × Nat × Nat) := [(3, 9, 24, 1188), (5, 15, 23, 2004)]
/-- the kind of each field: 0 int, 1 long, 2 a reference -/
def tgL : List (List Nat) := [[2, 0, 2], [2, 2, 0, 2, 2, 2, 2, 2], [0], [2, 2, 2, 2, 0], [2, 0, 0, 2, 2], [2, 2, 2, 2], [2, 2, 2, 2, 2, 2, 2], [2, 0, 0, 2, 2], [2, 0, 2, 0, 2, 2], [2, 2, 2, 2, 2, 2, 2, 2, 2, 2, 2, 0, 0, 0], [2, 0, 2, 2, 2, 0, 2, 0, 2, 2, 2, 2, 2, 0, 2, 2, 0, 2, 2, 2, 2, 0, 2, 2, 2, 2, 2, 2, 2, 2, 2, 0, 2, 0, 2, 2, 2, 2]]
/-- the places of the words of the fields -/
def lyL : List (List Nat) := [[1054, 1056, 1058], [1165, 1167, 1169, 1171, 1173, 1175, 1177, 1179], [1033], [1195, 1197, 1199, 1201, 1203], [1105, 1107, 1109, 1111, 1113], [2011, 2013, 2015, 2017], [1223, 1225, 1227, 1229, 1231, 1233, 1235], [1080, 1082, 1084, 1086, 1088], [1132, 1134, 1136, 1138, 1140, 1142], [2034, 2036, 2038, 2040, 2042, 2044, 2046, 2048, 2050, 2052, 2054, 2056, 2058, 2060], [4180, 4182, 4184, 4186, 4188, 4190, 4192, 4194, 4196, 4198, 4200, 4202, 4204, 4206, 4208, 4210, 4212, 4214, 4216, 4218, 4220, 4222, 4224, 4226, 4228, 4230, 4232, 4234, 4236, 4238, 5000, 5002, 5004, 5006, 5008, 5010, 5012, 5014]]
