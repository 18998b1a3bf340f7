section
-- ===== PART A: goes FIRST, ahead of the names: the tables' words, and 'selects' of the private methods out of them =====
/-- a private method of a class that the tables say can be made, by its rows of tables_1 -/
def lw_okq (q : MethodName × Nat) : Prop := (q.1.cls ≠ "java/lang/invoke/MethodHandle" ∧ q.1.cls ≠ "java/lang/invoke/VarHandle") ∧ Cond.instantiable q.1.cls q.2 ∈ tables_1 ∧ Cond.privateMethod q.1 ∈ tables_1 ∧ Cond.instanceMethod q.1 ∈ tables_1
theorem lw_p0 : lw_okq (⟨"SpunModules", "fails", "(I)I"⟩, 14) := ⟨⟨by decide +kernel, by decide +kernel⟩, List.mem_of_getElem? (i := 17) (by decide +kernel), List.mem_of_getElem? (i := 308) (by decide +kernel), List.mem_of_getElem? (i := 309) (by decide +kernel)⟩
theorem lw_p1 : lw_okq (⟨"SpunModules", "isModule", "(I)Z"⟩, 14) := ⟨⟨by decide +kernel, by decide +kernel⟩, List.mem_of_getElem? (i := 17) (by decide +kernel), List.mem_of_getElem? (i := 334) (by decide +kernel), List.mem_of_getElem? (i := 335) (by decide +kernel)⟩
theorem lw_p2 : lw_okq (⟨"SpunModules", "isEntry", "(IIII)Z"⟩, 14) := ⟨⟨by decide +kernel, by decide +kernel⟩, List.mem_of_getElem? (i := 17) (by decide +kernel), List.mem_of_getElem? (i := 346) (by decide +kernel), List.mem_of_getElem? (i := 347) (by decide +kernel)⟩
theorem lw_p3 : lw_okq (⟨"SpunModules", "isMatrix", "(I)Z"⟩, 14) := ⟨⟨by decide +kernel, by decide +kernel⟩, List.mem_of_getElem? (i := 17) (by decide +kernel), List.mem_of_getElem? (i := 350) (by decide +kernel), List.mem_of_getElem? (i := 351) (by decide +kernel)⟩
theorem lw_p4 : lw_okq (⟨"SpunModules", "isPlace", "(II)Z"⟩, 14) := ⟨⟨by decide +kernel, by decide +kernel⟩, List.mem_of_getElem? (i := 17) (by decide +kernel), List.mem_of_getElem? (i := 354) (by decide +kernel), List.mem_of_getElem? (i := 355) (by decide +kernel)⟩
theorem lw_p5 : lw_okq (⟨"SpunModules", "isElement", "(I)Z"⟩, 14) := ⟨⟨by decide +kernel, by decide +kernel⟩, List.mem_of_getElem? (i := 17) (by decide +kernel), List.mem_of_getElem? (i := 358) (by decide +kernel), List.mem_of_getElem? (i := 359) (by decide +kernel)⟩
theorem lw_p6 : lw_okq (⟨"SpunModules", "changesTo", "(I)I"⟩, 14) := ⟨⟨by decide +kernel, by decide +kernel⟩, List.mem_of_getElem? (i := 17) (by decide +kernel), List.mem_of_getElem? (i := 424) (by decide +kernel), List.mem_of_getElem? (i := 425) (by decide +kernel)⟩
theorem lw_p7 : lw_okq (⟨"SpunModules$Action", "addsBlock", "(LSpunModules$Action;IIII)V"⟩, 3) := ⟨⟨by decide +kernel, by decide +kernel⟩, List.mem_of_getElem? (i := 38) (by decide +kernel), List.mem_of_getElem? (i := 438) (by decide +kernel), List.mem_of_getElem? (i := 439) (by decide +kernel)⟩
theorem lw_p8 : lw_okq (⟨"SpunModules", "isVector", "(II)Z"⟩, 14) := ⟨⟨by decide +kernel, by decide +kernel⟩, List.mem_of_getElem? (i := 17) (by decide +kernel), List.mem_of_getElem? (i := 454) (by decide +kernel), List.mem_of_getElem? (i := 455) (by decide +kernel)⟩
theorem lw_p9 : lw_okq (⟨"SpunModules", "spins", "(II)V"⟩, 14) := ⟨⟨by decide +kernel, by decide +kernel⟩, List.mem_of_getElem? (i := 17) (by decide +kernel), List.mem_of_getElem? (i := 462) (by decide +kernel), List.mem_of_getElem? (i := 463) (by decide +kernel)⟩
theorem lw_p10 : lw_okq (⟨"SpunModules$Factors", "formsPart", "(LSpunModules$Action;)V"⟩, 8) := ⟨⟨by decide +kernel, by decide +kernel⟩, List.mem_of_getElem? (i := 146) (by decide +kernel), List.mem_of_getElem? (i := 585) (by decide +kernel), List.mem_of_getElem? (i := 586) (by decide +kernel)⟩
theorem lw_p11 : lw_okq (⟨"SpunModules$Factors", "writesFrom", "(JLSpunModules$Action;)V"⟩, 8) := ⟨⟨by decide +kernel, by decide +kernel⟩, List.mem_of_getElem? (i := 146) (by decide +kernel), List.mem_of_getElem? (i := 592) (by decide +kernel), List.mem_of_getElem? (i := 593) (by decide +kernel)⟩
theorem lw_p12 : lw_okq (⟨"SpunModules$Factors", "sinksLast", "()V"⟩, 8) := ⟨⟨by decide +kernel, by decide +kernel⟩, List.mem_of_getElem? (i := 146) (by decide +kernel), List.mem_of_getElem? (i := 617) (by decide +kernel), List.mem_of_getElem? (i := 618) (by decide +kernel)⟩
theorem lw_p13 : lw_okq (⟨"SpunModules$Homs", "evaluates", "(LSpunModules$Action;LSpunModules$Action;II)V"⟩, 5) := ⟨⟨by decide +kernel, by decide +kernel⟩, List.mem_of_getElem? (i := 183) (by decide +kernel), List.mem_of_getElem? (i := 633) (by decide +kernel), List.mem_of_getElem? (i := 634) (by decide +kernel)⟩
theorem lw_p14 : lw_okq (⟨"SpunModules$Homs", "reduces", "(I)V"⟩, 5) := ⟨⟨by decide +kernel, by decide +kernel⟩, List.mem_of_getElem? (i := 183) (by decide +kernel), List.mem_of_getElem? (i := 641) (by decide +kernel), List.mem_of_getElem? (i := 642) (by decide +kernel)⟩
theorem lw_p15 : lw_okq (⟨"SpunModules$Homs", "keepsIfNew", "(I)V"⟩, 5) := ⟨⟨by decide +kernel, by decide +kernel⟩, List.mem_of_getElem? (i := 183) (by decide +kernel), List.mem_of_getElem? (i := 646) (by decide +kernel), List.mem_of_getElem? (i := 647) (by decide +kernel)⟩
def lw_privs_1 : List (MethodName × Nat) := [(⟨"SpunModules", "fails", "(I)I"⟩, 14), (⟨"SpunModules", "isModule", "(I)Z"⟩, 14), (⟨"SpunModules", "isEntry", "(IIII)Z"⟩, 14), (⟨"SpunModules", "isMatrix", "(I)Z"⟩, 14), (⟨"SpunModules", "isPlace", "(II)Z"⟩, 14), (⟨"SpunModules", "isElement", "(I)Z"⟩, 14), (⟨"SpunModules", "changesTo", "(I)I"⟩, 14), (⟨"SpunModules$Action", "addsBlock", "(LSpunModules$Action;IIII)V"⟩, 3), (⟨"SpunModules", "isVector", "(II)Z"⟩, 14), (⟨"SpunModules", "spins", "(II)V"⟩, 14), (⟨"SpunModules$Factors", "formsPart", "(LSpunModules$Action;)V"⟩, 8), (⟨"SpunModules$Factors", "writesFrom", "(JLSpunModules$Action;)V"⟩, 8), (⟨"SpunModules$Factors", "sinksLast", "()V"⟩, 8), (⟨"SpunModules$Homs", "evaluates", "(LSpunModules$Action;LSpunModules$Action;II)V"⟩, 5), (⟨"SpunModules$Homs", "reduces", "(I)V"⟩, 5), (⟨"SpunModules$Homs", "keepsIfNew", "(I)V"⟩, 5)]
theorem lw_r1 : ∀ q ∈ lw_privs_1, lw_okq q := List.forall_mem_cons.mpr ⟨lw_p0, List.forall_mem_cons.mpr ⟨lw_p1, List.forall_mem_cons.mpr ⟨lw_p2, List.forall_mem_cons.mpr ⟨lw_p3, List.forall_mem_cons.mpr ⟨lw_p4, List.forall_mem_cons.mpr ⟨lw_p5, List.forall_mem_cons.mpr ⟨lw_p6, List.forall_mem_cons.mpr ⟨lw_p7, List.forall_mem_cons.mpr ⟨lw_p8, List.forall_mem_cons.mpr ⟨lw_p9, List.forall_mem_cons.mpr ⟨lw_p10, List.forall_mem_cons.mpr ⟨lw_p11, List.forall_mem_cons.mpr ⟨lw_p12, List.forall_mem_cons.mpr ⟨lw_p13, List.forall_mem_cons.mpr ⟨lw_p14, List.forall_mem_cons.mpr ⟨lw_p15, fun _ h => absurd h List.not_mem_nil⟩⟩⟩⟩⟩⟩⟩⟩⟩⟩⟩⟩⟩⟩⟩⟩
theorem lw_p16 : lw_okq (⟨"SpunModules$Socles", "findsDimensions", "()V"⟩, 7) := ⟨⟨by decide +kernel, by decide +kernel⟩, List.mem_of_getElem? (i := 207) (by decide +kernel), List.mem_of_getElem? (i := 682) (by decide +kernel), List.mem_of_getElem? (i := 683) (by decide +kernel)⟩
theorem lw_p17 : lw_okq (⟨"SpunModules$Socles", "findsSocle", "()V"⟩, 7) := ⟨⟨by decide +kernel, by decide +kernel⟩, List.mem_of_getElem? (i := 207) (by decide +kernel), List.mem_of_getElem? (i := 691) (by decide +kernel), List.mem_of_getElem? (i := 692) (by decide +kernel)⟩
theorem lw_p18 : lw_okq (⟨"SpunModules$Socles", "addsIfSimple", "(J)V"⟩, 7) := ⟨⟨by decide +kernel, by decide +kernel⟩, List.mem_of_getElem? (i := 207) (by decide +kernel), List.mem_of_getElem? (i := 695) (by decide +kernel), List.mem_of_getElem? (i := 696) (by decide +kernel)⟩
theorem lw_p19 : lw_okq (⟨"SpunModules", "invariantSpaces", "(LSpunModules$Action;I)I"⟩, 14) := ⟨⟨by decide +kernel, by decide +kernel⟩, List.mem_of_getElem? (i := 17) (by decide +kernel), List.mem_of_getElem? (i := 717) (by decide +kernel), List.mem_of_getElem? (i := 718) (by decide +kernel)⟩
theorem lw_p20 : lw_okq (⟨"SpunModules$Polynomial", "addsUnit", "(II)V"⟩, 4) := ⟨⟨by decide +kernel, by decide +kernel⟩, List.mem_of_getElem? (i := 239) (by decide +kernel), List.mem_of_getElem? (i := 817) (by decide +kernel), List.mem_of_getElem? (i := 818) (by decide +kernel)⟩
theorem lw_p21 : lw_okq (⟨"SpunModules$Polynomial", "multiplied", "(I)I"⟩, 4) := ⟨⟨by decide +kernel, by decide +kernel⟩, List.mem_of_getElem? (i := 239) (by decide +kernel), List.mem_of_getElem? (i := 821) (by decide +kernel), List.mem_of_getElem? (i := 822) (by decide +kernel)⟩
theorem lw_p22 : lw_okq (⟨"SpunModules", "toldNumber", "(I)I"⟩, 14) := ⟨⟨by decide +kernel, by decide +kernel⟩, List.mem_of_getElem? (i := 17) (by decide +kernel), List.mem_of_getElem? (i := 838) (by decide +kernel), List.mem_of_getElem? (i := 839) (by decide +kernel)⟩
theorem lw_p23 : lw_okq (⟨"SpunModulesModel", "no", "()I"⟩, 38) := ⟨⟨by decide +kernel, by decide +kernel⟩, List.mem_of_getElem? (i := 857) (by decide +kernel), List.mem_of_getElem? (i := 982) (by decide +kernel), List.mem_of_getElem? (i := 983) (by decide +kernel)⟩
theorem lw_p24 : lw_okq (⟨"SpunModulesModel", "bad", "()I"⟩, 38) := ⟨⟨by decide +kernel, by decide +kernel⟩, List.mem_of_getElem? (i := 857) (by decide +kernel), List.mem_of_getElem? (i := 993) (by decide +kernel), List.mem_of_getElem? (i := 994) (by decide +kernel)⟩
theorem lw_p25 : lw_okq (⟨"SpunModulesModel", "leavesState", "()V"⟩, 38) := ⟨⟨by decide +kernel, by decide +kernel⟩, List.mem_of_getElem? (i := 857) (by decide +kernel), List.mem_of_getElem? (i := 997) (by decide +kernel), List.mem_of_getElem? (i := 998) (by decide +kernel)⟩
theorem lw_p26 : lw_okq (⟨"SpunModulesModel", "clearsFresh", "()V"⟩, 38) := ⟨⟨by decide +kernel, by decide +kernel⟩, List.mem_of_getElem? (i := 857) (by decide +kernel), List.mem_of_getElem? (i := 1001) (by decide +kernel), List.mem_of_getElem? (i := 1002) (by decide +kernel)⟩
theorem lw_p27 : lw_okq (⟨"SpunModulesModel", "takesFresh", "(II)V"⟩, 38) := ⟨⟨by decide +kernel, by decide +kernel⟩, List.mem_of_getElem? (i := 857) (by decide +kernel), List.mem_of_getElem? (i := 1005) (by decide +kernel), List.mem_of_getElem? (i := 1006) (by decide +kernel)⟩
theorem lw_p28 : lw_okq (⟨"SpunModulesModel", "limit", "()I"⟩, 38) := ⟨⟨by decide +kernel, by decide +kernel⟩, List.mem_of_getElem? (i := 857) (by decide +kernel), List.mem_of_getElem? (i := 1016) (by decide +kernel), List.mem_of_getElem? (i := 1017) (by decide +kernel)⟩
theorem lw_p29 : lw_okq (⟨"SpunModulesModel", "isPlace", "(II)Z"⟩, 38) := ⟨⟨by decide +kernel, by decide +kernel⟩, List.mem_of_getElem? (i := 857) (by decide +kernel), List.mem_of_getElem? (i := 1024) (by decide +kernel), List.mem_of_getElem? (i := 1025) (by decide +kernel)⟩
theorem lw_p30 : lw_okq (⟨"SpunModulesModel", "turned", "(IIII[I)I"⟩, 38) := ⟨⟨by decide +kernel, by decide +kernel⟩, List.mem_of_getElem? (i := 857) (by decide +kernel), List.mem_of_getElem? (i := 1044) (by decide +kernel), List.mem_of_getElem? (i := 1045) (by decide +kernel)⟩
theorem lw_p31 : lw_okq (⟨"SpunModulesModel", "isVector", "(II)Z"⟩, 38) := ⟨⟨by decide +kernel, by decide +kernel⟩, List.mem_of_getElem? (i := 857) (by decide +kernel), List.mem_of_getElem? (i := 1064) (by decide +kernel), List.mem_of_getElem? (i := 1065) (by decide +kernel)⟩
def lw_privs_2 : List (MethodName × Nat) := [(⟨"SpunModules$Socles", "findsDimensions", "()V"⟩, 7), (⟨"SpunModules$Socles", "findsSocle", "()V"⟩, 7), (⟨"SpunModules$Socles", "addsIfSimple", "(J)V"⟩, 7), (⟨"SpunModules", "invariantSpaces", "(LSpunModules$Action;I)I"⟩, 14), (⟨"SpunModules$Polynomial", "addsUnit", "(II)V"⟩, 4), (⟨"SpunModules$Polynomial", "multiplied", "(I)I"⟩, 4), (⟨"SpunModules", "toldNumber", "(I)I"⟩, 14), (⟨"SpunModulesModel", "no", "()I"⟩, 38), (⟨"SpunModulesModel", "bad", "()I"⟩, 38), (⟨"SpunModulesModel", "leavesState", "()V"⟩, 38), (⟨"SpunModulesModel", "clearsFresh", "()V"⟩, 38), (⟨"SpunModulesModel", "takesFresh", "(II)V"⟩, 38), (⟨"SpunModulesModel", "limit", "()I"⟩, 38), (⟨"SpunModulesModel", "isPlace", "(II)Z"⟩, 38), (⟨"SpunModulesModel", "turned", "(IIII[I)I"⟩, 38), (⟨"SpunModulesModel", "isVector", "(II)Z"⟩, 38)]
theorem lw_r2 : ∀ q ∈ lw_privs_2, lw_okq q := List.forall_mem_cons.mpr ⟨lw_p16, List.forall_mem_cons.mpr ⟨lw_p17, List.forall_mem_cons.mpr ⟨lw_p18, List.forall_mem_cons.mpr ⟨lw_p19, List.forall_mem_cons.mpr ⟨lw_p20, List.forall_mem_cons.mpr ⟨lw_p21, List.forall_mem_cons.mpr ⟨lw_p22, List.forall_mem_cons.mpr ⟨lw_p23, List.forall_mem_cons.mpr ⟨lw_p24, List.forall_mem_cons.mpr ⟨lw_p25, List.forall_mem_cons.mpr ⟨lw_p26, List.forall_mem_cons.mpr ⟨lw_p27, List.forall_mem_cons.mpr ⟨lw_p28, List.forall_mem_cons.mpr ⟨lw_p29, List.forall_mem_cons.mpr ⟨lw_p30, List.forall_mem_cons.mpr ⟨lw_p31, fun _ h => absurd h List.not_mem_nil⟩⟩⟩⟩⟩⟩⟩⟩⟩⟩⟩⟩⟩⟩⟩⟩
theorem lw_p32 : lw_okq (⟨"SpunModulesModel", "power", "(I)I"⟩, 38) := ⟨⟨by decide +kernel, by decide +kernel⟩, List.mem_of_getElem? (i := 857) (by decide +kernel), List.mem_of_getElem? (i := 1068) (by decide +kernel), List.mem_of_getElem? (i := 1069) (by decide +kernel)⟩
theorem lw_p33 : lw_okq (⟨"SpunModulesModel", "spins", "(II)V"⟩, 38) := ⟨⟨by decide +kernel, by decide +kernel⟩, List.mem_of_getElem? (i := 857) (by decide +kernel), List.mem_of_getElem? (i := 1072) (by decide +kernel), List.mem_of_getElem? (i := 1073) (by decide +kernel)⟩
theorem lw_p34 : lw_okq (⟨"SpunModulesModel", "nothing", "()V"⟩, 38) := ⟨⟨by decide +kernel, by decide +kernel⟩, List.mem_of_getElem? (i := 857) (by decide +kernel), List.mem_of_getElem? (i := 1076) (by decide +kernel), List.mem_of_getElem? (i := 1077) (by decide +kernel)⟩
theorem lw_p35 : lw_okq (⟨"SpunModulesModel", "spinsOn", "(II)V"⟩, 38) := ⟨⟨by decide +kernel, by decide +kernel⟩, List.mem_of_getElem? (i := 857) (by decide +kernel), List.mem_of_getElem? (i := 1080) (by decide +kernel), List.mem_of_getElem? (i := 1081) (by decide +kernel)⟩
theorem lw_p36 : lw_okq (⟨"SpunModulesModel", "joins", "(II)V"⟩, 38) := ⟨⟨by decide +kernel, by decide +kernel⟩, List.mem_of_getElem? (i := 857) (by decide +kernel), List.mem_of_getElem? (i := 1084) (by decide +kernel), List.mem_of_getElem? (i := 1085) (by decide +kernel)⟩
theorem lw_p37 : lw_okq (⟨"SpunModulesModel", "plus", "(III)I"⟩, 38) := ⟨⟨by decide +kernel, by decide +kernel⟩, List.mem_of_getElem? (i := 857) (by decide +kernel), List.mem_of_getElem? (i := 1088) (by decide +kernel), List.mem_of_getElem? (i := 1089) (by decide +kernel)⟩
theorem lw_p38 : lw_okq (⟨"SpunModulesModel", "moves", "(III)I"⟩, 38) := ⟨⟨by decide +kernel, by decide +kernel⟩, List.mem_of_getElem? (i := 857) (by decide +kernel), List.mem_of_getElem? (i := 1092) (by decide +kernel), List.mem_of_getElem? (i := 1093) (by decide +kernel)⟩
theorem lw_p39 : lw_okq (⟨"SpunModulesModel", "tellsPart", "(II)V"⟩, 38) := ⟨⟨by decide +kernel, by decide +kernel⟩, List.mem_of_getElem? (i := 857) (by decide +kernel), List.mem_of_getElem? (i := 1096) (by decide +kernel), List.mem_of_getElem? (i := 1097) (by decide +kernel)⟩
theorem lw_p40 : lw_okq (⟨"SpunModulesModel", "findsRows", "(I)V"⟩, 38) := ⟨⟨by decide +kernel, by decide +kernel⟩, List.mem_of_getElem? (i := 857) (by decide +kernel), List.mem_of_getElem? (i := 1100) (by decide +kernel), List.mem_of_getElem? (i := 1101) (by decide +kernel)⟩
theorem lw_p41 : lw_okq (⟨"SpunModulesModel", "firstOf", "(II)I"⟩, 38) := ⟨⟨by decide +kernel, by decide +kernel⟩, List.mem_of_getElem? (i := 857) (by decide +kernel), List.mem_of_getElem? (i := 1104) (by decide +kernel), List.mem_of_getElem? (i := 1105) (by decide +kernel)⟩
theorem lw_p42 : lw_okq (⟨"SpunModulesModel", "figure", "(II)I"⟩, 38) := ⟨⟨by decide +kernel, by decide +kernel⟩, List.mem_of_getElem? (i := 857) (by decide +kernel), List.mem_of_getElem? (i := 1108) (by decide +kernel), List.mem_of_getElem? (i := 1109) (by decide +kernel)⟩
theorem lw_p43 : lw_okq (⟨"SpunModulesModel", "isRow", "(III)Z"⟩, 38) := ⟨⟨by decide +kernel, by decide +kernel⟩, List.mem_of_getElem? (i := 857) (by decide +kernel), List.mem_of_getElem? (i := 1112) (by decide +kernel), List.mem_of_getElem? (i := 1113) (by decide +kernel)⟩
theorem lw_p44 : lw_okq (⟨"SpunModulesModel", "tellsRest", "(II)V"⟩, 38) := ⟨⟨by decide +kernel, by decide +kernel⟩, List.mem_of_getElem? (i := 857) (by decide +kernel), List.mem_of_getElem? (i := 1120) (by decide +kernel), List.mem_of_getElem? (i := 1121) (by decide +kernel)⟩
theorem lw_p45 : lw_okq (⟨"SpunModulesModel", "without", "(I)I"⟩, 38) := ⟨⟨by decide +kernel, by decide +kernel⟩, List.mem_of_getElem? (i := 857) (by decide +kernel), List.mem_of_getElem? (i := 1124) (by decide +kernel), List.mem_of_getElem? (i := 1125) (by decide +kernel)⟩
theorem lw_p46 : lw_okq (⟨"SpunModulesModel", "splitter", "(I)I"⟩, 38) := ⟨⟨by decide +kernel, by decide +kernel⟩, List.mem_of_getElem? (i := 857) (by decide +kernel), List.mem_of_getElem? (i := 1152) (by decide +kernel), List.mem_of_getElem? (i := 1153) (by decide +kernel)⟩
theorem lw_p47 : lw_okq (⟨"SpunModulesModel", "cuts", "(I)V"⟩, 38) := ⟨⟨by decide +kernel, by decide +kernel⟩, List.mem_of_getElem? (i := 857) (by decide +kernel), List.mem_of_getElem? (i := 1164) (by decide +kernel), List.mem_of_getElem? (i := 1165) (by decide +kernel)⟩
def lw_privs_3 : List (MethodName × Nat) := [(⟨"SpunModulesModel", "power", "(I)I"⟩, 38), (⟨"SpunModulesModel", "spins", "(II)V"⟩, 38), (⟨"SpunModulesModel", "nothing", "()V"⟩, 38), (⟨"SpunModulesModel", "spinsOn", "(II)V"⟩, 38), (⟨"SpunModulesModel", "joins", "(II)V"⟩, 38), (⟨"SpunModulesModel", "plus", "(III)I"⟩, 38), (⟨"SpunModulesModel", "moves", "(III)I"⟩, 38), (⟨"SpunModulesModel", "tellsPart", "(II)V"⟩, 38), (⟨"SpunModulesModel", "findsRows", "(I)V"⟩, 38), (⟨"SpunModulesModel", "firstOf", "(II)I"⟩, 38), (⟨"SpunModulesModel", "figure", "(II)I"⟩, 38), (⟨"SpunModulesModel", "isRow", "(III)Z"⟩, 38), (⟨"SpunModulesModel", "tellsRest", "(II)V"⟩, 38), (⟨"SpunModulesModel", "without", "(I)I"⟩, 38), (⟨"SpunModulesModel", "splitter", "(I)I"⟩, 38), (⟨"SpunModulesModel", "cuts", "(I)V"⟩, 38)]
theorem lw_r3 : ∀ q ∈ lw_privs_3, lw_okq q := List.forall_mem_cons.mpr ⟨lw_p32, List.forall_mem_cons.mpr ⟨lw_p33, List.forall_mem_cons.mpr ⟨lw_p34, List.forall_mem_cons.mpr ⟨lw_p35, List.forall_mem_cons.mpr ⟨lw_p36, List.forall_mem_cons.mpr ⟨lw_p37, List.forall_mem_cons.mpr ⟨lw_p38, List.forall_mem_cons.mpr ⟨lw_p39, List.forall_mem_cons.mpr ⟨lw_p40, List.forall_mem_cons.mpr ⟨lw_p41, List.forall_mem_cons.mpr ⟨lw_p42, List.forall_mem_cons.mpr ⟨lw_p43, List.forall_mem_cons.mpr ⟨lw_p44, List.forall_mem_cons.mpr ⟨lw_p45, List.forall_mem_cons.mpr ⟨lw_p46, List.forall_mem_cons.mpr ⟨lw_p47, fun _ h => absurd h List.not_mem_nil⟩⟩⟩⟩⟩⟩⟩⟩⟩⟩⟩⟩⟩⟩⟩⟩
theorem lw_p48 : lw_okq (⟨"SpunModulesModel", "tellsPiece", "(I)V"⟩, 38) := ⟨⟨by decide +kernel, by decide +kernel⟩, List.mem_of_getElem? (i := 857) (by decide +kernel), List.mem_of_getElem? (i := 1168) (by decide +kernel), List.mem_of_getElem? (i := 1169) (by decide +kernel)⟩
theorem lw_p49 : lw_okq (⟨"SpunModulesModel", "tries", "(II)V"⟩, 38) := ⟨⟨by decide +kernel, by decide +kernel⟩, List.mem_of_getElem? (i := 857) (by decide +kernel), List.mem_of_getElem? (i := 1172) (by decide +kernel), List.mem_of_getElem? (i := 1173) (by decide +kernel)⟩
theorem lw_p50 : lw_okq (⟨"SpunModulesModel", "findsCodes", "(I)V"⟩, 38) := ⟨⟨by decide +kernel, by decide +kernel⟩, List.mem_of_getElem? (i := 857) (by decide +kernel), List.mem_of_getElem? (i := 1176) (by decide +kernel), List.mem_of_getElem? (i := 1177) (by decide +kernel)⟩
theorem lw_p51 : lw_okq (⟨"SpunModulesModel", "isLess", "(II)Z"⟩, 38) := ⟨⟨by decide +kernel, by decide +kernel⟩, List.mem_of_getElem? (i := 857) (by decide +kernel), List.mem_of_getElem? (i := 1180) (by decide +kernel), List.mem_of_getElem? (i := 1181) (by decide +kernel)⟩
theorem lw_p52 : lw_okq (⟨"SpunModulesModel", "sorts", "()V"⟩, 38) := ⟨⟨by decide +kernel, by decide +kernel⟩, List.mem_of_getElem? (i := 857) (by decide +kernel), List.mem_of_getElem? (i := 1184) (by decide +kernel), List.mem_of_getElem? (i := 1185) (by decide +kernel)⟩
theorem lw_p53 : lw_okq (⟨"SpunModulesModel", "compare", "(II)I"⟩, 38) := ⟨⟨by decide +kernel, by decide +kernel⟩, List.mem_of_getElem? (i := 857) (by decide +kernel), List.mem_of_getElem? (i := 1188) (by decide +kernel), List.mem_of_getElem? (i := 1189) (by decide +kernel)⟩
theorem lw_p54 : lw_okq (⟨"SpunModulesModel", "alikeTo", "(I)I"⟩, 38) := ⟨⟨by decide +kernel, by decide +kernel⟩, List.mem_of_getElem? (i := 857) (by decide +kernel), List.mem_of_getElem? (i := 1196) (by decide +kernel), List.mem_of_getElem? (i := 1197) (by decide +kernel)⟩
theorem lw_p55 : lw_okq (⟨"SpunModulesModel", "waysOf", "(II)I"⟩, 38) := ⟨⟨by decide +kernel, by decide +kernel⟩, List.mem_of_getElem? (i := 857) (by decide +kernel), List.mem_of_getElem? (i := 1200) (by decide +kernel), List.mem_of_getElem? (i := 1201) (by decide +kernel)⟩
theorem lw_p56 : lw_okq (⟨"SpunModulesModel", "tellsEquation", "(IIIII)V"⟩, 38) := ⟨⟨by decide +kernel, by decide +kernel⟩, List.mem_of_getElem? (i := 857) (by decide +kernel), List.mem_of_getElem? (i := 1204) (by decide +kernel), List.mem_of_getElem? (i := 1205) (by decide +kernel)⟩
theorem lw_p57 : lw_okq (⟨"SpunModulesModel", "isNew", "(I)Z"⟩, 38) := ⟨⟨by decide +kernel, by decide +kernel⟩, List.mem_of_getElem? (i := 857) (by decide +kernel), List.mem_of_getElem? (i := 1208) (by decide +kernel), List.mem_of_getElem? (i := 1209) (by decide +kernel)⟩
theorem lw_p58 : lw_okq (⟨"SpunModulesModel", "areAlike", "(II)Z"⟩, 38) := ⟨⟨by decide +kernel, by decide +kernel⟩, List.mem_of_getElem? (i := 857) (by decide +kernel), List.mem_of_getElem? (i := 1220) (by decide +kernel), List.mem_of_getElem? (i := 1221) (by decide +kernel)⟩
theorem lw_p59 : lw_okq (⟨"SpunModulesModel", "findsSocle", "()V"⟩, 38) := ⟨⟨by decide +kernel, by decide +kernel⟩, List.mem_of_getElem? (i := 857) (by decide +kernel), List.mem_of_getElem? (i := 1232) (by decide +kernel), List.mem_of_getElem? (i := 1233) (by decide +kernel)⟩
theorem lw_p60 : lw_okq (⟨"SpunModulesModel", "isByEach", "(I)Z"⟩, 38) := ⟨⟨by decide +kernel, by decide +kernel⟩, List.mem_of_getElem? (i := 857) (by decide +kernel), List.mem_of_getElem? (i := 1236) (by decide +kernel), List.mem_of_getElem? (i := 1237) (by decide +kernel)⟩
theorem lw_p61 : lw_okq (⟨"SpunModulesModel", "freeOf", "(II)I"⟩, 38) := ⟨⟨by decide +kernel, by decide +kernel⟩, List.mem_of_getElem? (i := 857) (by decide +kernel), List.mem_of_getElem? (i := 1244) (by decide +kernel), List.mem_of_getElem? (i := 1245) (by decide +kernel)⟩
theorem lw_p62 : lw_okq (⟨"SpunModulesModel", "tellsRows", "(III)V"⟩, 38) := ⟨⟨by decide +kernel, by decide +kernel⟩, List.mem_of_getElem? (i := 857) (by decide +kernel), List.mem_of_getElem? (i := 1248) (by decide +kernel), List.mem_of_getElem? (i := 1249) (by decide +kernel)⟩
theorem lw_p63 : lw_okq (⟨"SpunModulesModel", "areKept", "(I)Z"⟩, 38) := ⟨⟨by decide +kernel, by decide +kernel⟩, List.mem_of_getElem? (i := 857) (by decide +kernel), List.mem_of_getElem? (i := 1252) (by decide +kernel), List.mem_of_getElem? (i := 1253) (by decide +kernel)⟩
def lw_privs_4 : List (MethodName × Nat) := [(⟨"SpunModulesModel", "tellsPiece", "(I)V"⟩, 38), (⟨"SpunModulesModel", "tries", "(II)V"⟩, 38), (⟨"SpunModulesModel", "findsCodes", "(I)V"⟩, 38), (⟨"SpunModulesModel", "isLess", "(II)Z"⟩, 38), (⟨"SpunModulesModel", "sorts", "()V"⟩, 38), (⟨"SpunModulesModel", "compare", "(II)I"⟩, 38), (⟨"SpunModulesModel", "alikeTo", "(I)I"⟩, 38), (⟨"SpunModulesModel", "waysOf", "(II)I"⟩, 38), (⟨"SpunModulesModel", "tellsEquation", "(IIIII)V"⟩, 38), (⟨"SpunModulesModel", "isNew", "(I)Z"⟩, 38), (⟨"SpunModulesModel", "areAlike", "(II)Z"⟩, 38), (⟨"SpunModulesModel", "findsSocle", "()V"⟩, 38), (⟨"SpunModulesModel", "isByEach", "(I)Z"⟩, 38), (⟨"SpunModulesModel", "freeOf", "(II)I"⟩, 38), (⟨"SpunModulesModel", "tellsRows", "(III)V"⟩, 38), (⟨"SpunModulesModel", "areKept", "(I)Z"⟩, 38)]
theorem lw_r4 : ∀ q ∈ lw_privs_4, lw_okq q := List.forall_mem_cons.mpr ⟨lw_p48, List.forall_mem_cons.mpr ⟨lw_p49, List.forall_mem_cons.mpr ⟨lw_p50, List.forall_mem_cons.mpr ⟨lw_p51, List.forall_mem_cons.mpr ⟨lw_p52, List.forall_mem_cons.mpr ⟨lw_p53, List.forall_mem_cons.mpr ⟨lw_p54, List.forall_mem_cons.mpr ⟨lw_p55, List.forall_mem_cons.mpr ⟨lw_p56, List.forall_mem_cons.mpr ⟨lw_p57, List.forall_mem_cons.mpr ⟨lw_p58, List.forall_mem_cons.mpr ⟨lw_p59, List.forall_mem_cons.mpr ⟨lw_p60, List.forall_mem_cons.mpr ⟨lw_p61, List.forall_mem_cons.mpr ⟨lw_p62, List.forall_mem_cons.mpr ⟨lw_p63, fun _ h => absurd h List.not_mem_nil⟩⟩⟩⟩⟩⟩⟩⟩⟩⟩⟩⟩⟩⟩⟩⟩
theorem lw_p64 : lw_okq (⟨"SpunModulesModel", "full", "()I"⟩, 38) := ⟨⟨by decide +kernel, by decide +kernel⟩, List.mem_of_getElem? (i := 857) (by decide +kernel), List.mem_of_getElem? (i := 1260) (by decide +kernel), List.mem_of_getElem? (i := 1261) (by decide +kernel)⟩
theorem lw_p65 : lw_okq (⟨"SpunModulesModel", "isFigureAt", "(I)Z"⟩, 38) := ⟨⟨by decide +kernel, by decide +kernel⟩, List.mem_of_getElem? (i := 857) (by decide +kernel), List.mem_of_getElem? (i := 1272) (by decide +kernel), List.mem_of_getElem? (i := 1273) (by decide +kernel)⟩
theorem lw_p66 : lw_okq (⟨"SpunModulesModel", "isLetterAt", "(I)Z"⟩, 38) := ⟨⟨by decide +kernel, by decide +kernel⟩, List.mem_of_getElem? (i := 857) (by decide +kernel), List.mem_of_getElem? (i := 1276) (by decide +kernel), List.mem_of_getElem? (i := 1277) (by decide +kernel)⟩
theorem lw_p67 : lw_okq (⟨"SpunModulesModel", "tellsWord", "(I)V"⟩, 38) := ⟨⟨by decide +kernel, by decide +kernel⟩, List.mem_of_getElem? (i := 857) (by decide +kernel), List.mem_of_getElem? (i := 1284) (by decide +kernel), List.mem_of_getElem? (i := 1285) (by decide +kernel)⟩
theorem lw_p68 : lw_okq (⟨"SpunModulesModel", "beginsTerm", "()V"⟩, 38) := ⟨⟨by decide +kernel, by decide +kernel⟩, List.mem_of_getElem? (i := 857) (by decide +kernel), List.mem_of_getElem? (i := 1288) (by decide +kernel), List.mem_of_getElem? (i := 1289) (by decide +kernel)⟩
theorem lw_p69 : lw_okq (⟨"SpunModulesModel", "endsTerm", "(I)V"⟩, 38) := ⟨⟨by decide +kernel, by decide +kernel⟩, List.mem_of_getElem? (i := 857) (by decide +kernel), List.mem_of_getElem? (i := 1292) (by decide +kernel), List.mem_of_getElem? (i := 1293) (by decide +kernel)⟩
theorem lw_p70 : lw_okq (⟨"SpunModulesModel", "goesOn", "(II)V"⟩, 38) := ⟨⟨by decide +kernel, by decide +kernel⟩, List.mem_of_getElem? (i := 857) (by decide +kernel), List.mem_of_getElem? (i := 1296) (by decide +kernel), List.mem_of_getElem? (i := 1297) (by decide +kernel)⟩
theorem lw_p71 : lw_okq (⟨"SpunModulesModel", "isNull", "(II)Z"⟩, 38) := ⟨⟨by decide +kernel, by decide +kernel⟩, List.mem_of_getElem? (i := 857) (by decide +kernel), List.mem_of_getElem? (i := 1304) (by decide +kernel), List.mem_of_getElem? (i := 1305) (by decide +kernel)⟩
theorem lw_p72 : lw_okq (⟨"SpunModulesModel", "minor", "(I)I"⟩, 38) := ⟨⟨by decide +kernel, by decide +kernel⟩, List.mem_of_getElem? (i := 857) (by decide +kernel), List.mem_of_getElem? (i := 1315) (by decide +kernel), List.mem_of_getElem? (i := 1316) (by decide +kernel)⟩
theorem lw_p73 : lw_okq (⟨"SpunModulesModel", "toldBy", "(I)I"⟩, 38) := ⟨⟨by decide +kernel, by decide +kernel⟩, List.mem_of_getElem? (i := 857) (by decide +kernel), List.mem_of_getElem? (i := 1326) (by decide +kernel), List.mem_of_getElem? (i := 1327) (by decide +kernel)⟩
def lw_privs_5 : List (MethodName × Nat) := [(⟨"SpunModulesModel", "full", "()I"⟩, 38), (⟨"SpunModulesModel", "isFigureAt", "(I)Z"⟩, 38), (⟨"SpunModulesModel", "isLetterAt", "(I)Z"⟩, 38), (⟨"SpunModulesModel", "tellsWord", "(I)V"⟩, 38), (⟨"SpunModulesModel", "beginsTerm", "()V"⟩, 38), (⟨"SpunModulesModel", "endsTerm", "(I)V"⟩, 38), (⟨"SpunModulesModel", "goesOn", "(II)V"⟩, 38), (⟨"SpunModulesModel", "isNull", "(II)Z"⟩, 38), (⟨"SpunModulesModel", "minor", "(I)I"⟩, 38), (⟨"SpunModulesModel", "toldBy", "(I)I"⟩, 38)]
theorem lw_r5 : ∀ q ∈ lw_privs_5, lw_okq q := List.forall_mem_cons.mpr ⟨lw_p64, List.forall_mem_cons.mpr ⟨lw_p65, List.forall_mem_cons.mpr ⟨lw_p66, List.forall_mem_cons.mpr ⟨lw_p67, List.forall_mem_cons.mpr ⟨lw_p68, List.forall_mem_cons.mpr ⟨lw_p69, List.forall_mem_cons.mpr ⟨lw_p70, List.forall_mem_cons.mpr ⟨lw_p71, List.forall_mem_cons.mpr ⟨lw_p72, List.forall_mem_cons.mpr ⟨lw_p73, fun _ h => absurd h List.not_mem_nil⟩⟩⟩⟩⟩⟩⟩⟩⟩⟩
def lw_privs : List (MethodName × Nat) := lw_privs_1 ++ (lw_privs_2 ++ (lw_privs_3 ++ (lw_privs_4 ++ (lw_privs_5))))
def lw_tbl : List Cond := k2_sels lw_privs ++ tables_1
theorem lw_privs_ok : ∀ q ∈ lw_privs, lw_okq q := by
  show ∀ q ∈ lw_privs_1 ++ (lw_privs_2 ++ (lw_privs_3 ++ (lw_privs_4 ++ (lw_privs_5)))), lw_okq q
  exact List.forall_mem_append.mpr ⟨lw_r1, List.forall_mem_append.mpr ⟨lw_r2, List.forall_mem_append.mpr ⟨lw_r3, List.forall_mem_append.mpr ⟨lw_r4, lw_r5⟩⟩⟩⟩
def RX0 : String := "SpunModules$Action"
def TX0 : u_T := fun k => match k with
  | 0 => ("SpunModules$Action", "field", "LSpunModules$Field;", true)
  | 1 => ("SpunModules$Action", "size", "I", false)
  | _ => ("SpunModules$Action", "rows", "[J", true)
def tyX0 : Nat → FieldType := fun k => match k with
  | 0 => .object "SpunModules$Field"
  | 1 => .int
  | _ => .array .long
theorem nmX0 : ∀ a, a < 3 → ∀ b, b < 3 → a ≠ b → (TX0 a).2.1 ≠ (TX0 b).2.1 := by decide +kernel
theorem tyX0_ok : ∀ k, k < 3 → parseFieldDescriptor (TX0 k).2.2.1 = some (tyX0 k) := by decide +kernel
def RX1 : String := "SpunModules$Factors"
def TX1 : u_T := fun k => match k with
  | 0 => ("SpunModules$Factors", "field", "LSpunModules$Field;", true)
  | 1 => ("SpunModules$Factors", "forms", "[LSpunModules$Action;", true)
  | 2 => ("SpunModules$Factors", "count", "I", false)
  | 3 => ("SpunModules$Factors", "whole", "LSpunModules$Action;", true)
  | 4 => ("SpunModules$Factors", "rest", "LSpunModules$Action;", true)
  | 5 => ("SpunModules$Factors", "part", "LSpunModules$Action;", true)
  | 6 => ("SpunModules$Factors", "tried", "LSpunModules$Action;", true)
  | _ => ("SpunModules$Factors", "space", "LSpunModules$Space;", true)
def tyX1 : Nat → FieldType := fun k => match k with
  | 0 => .object "SpunModules$Field"
  | 1 => .array (.object "SpunModules$Action")
  | 2 => .int
  | 3 => .object "SpunModules$Action"
  | 4 => .object "SpunModules$Action"
  | 5 => .object "SpunModules$Action"
  | 6 => .object "SpunModules$Action"
  | _ => .object "SpunModules$Space"
theorem nmX1 : ∀ a, a < 8 → ∀ b, b < 8 → a ≠ b → (TX1 a).2.1 ≠ (TX1 b).2.1 := by decide +kernel
theorem tyX1_ok : ∀ k, k < 8 → parseFieldDescriptor (TX1 k).2.2.1 = some (tyX1 k) := by decide +kernel
def RX2 : String := "SpunModules$Field"
def TX2 : u_T := fun k => match k with
  | _ => ("SpunModules$Field", "p", "I", false)
def tyX2 : Nat → FieldType := fun k => match k with
  | _ => .int
theorem nmX2 : ∀ a, a < 1 → ∀ b, b < 1 → a ≠ b → (TX2 a).2.1 ≠ (TX2 b).2.1 := by decide +kernel
theorem tyX2_ok : ∀ k, k < 1 → parseFieldDescriptor (TX2 k).2.2.1 = some (tyX2 k) := by decide +kernel
def RX3 : String := "SpunModules$Homs"
def TX3 : u_T := fun k => match k with
  | 0 => ("SpunModules$Homs", "field", "LSpunModules$Field;", true)
  | 1 => ("SpunModules$Homs", "values", "[[J", true)
  | 2 => ("SpunModules$Homs", "pivotRows", "[I", true)
  | 3 => ("SpunModules$Homs", "pivotPlaces", "[I", true)
  | _ => ("SpunModules$Homs", "rank", "I", false)
def tyX3 : Nat → FieldType := fun k => match k with
  | 0 => .object "SpunModules$Field"
  | 1 => .array (.array .long)
  | 2 => .array .int
  | 3 => .array .int
  | _ => .int
theorem nmX3 : ∀ a, a < 5 → ∀ b, b < 5 → a ≠ b → (TX3 a).2.1 ≠ (TX3 b).2.1 := by decide +kernel
theorem tyX3_ok : ∀ k, k < 5 → parseFieldDescriptor (TX3 k).2.2.1 = some (tyX3 k) := by decide +kernel
def RX4 : String := "SpunModules$Past"
def TX4 : u_T := fun k => match k with
  | 0 => ("SpunModules$Past", "field", "LSpunModules$Field;", true)
  | 1 => ("SpunModules$Past", "count", "I", false)
  | 2 => ("SpunModules$Past", "next", "I", false)
  | 3 => ("SpunModules$Past", "fields", "[I", true)
  | _ => ("SpunModules$Past", "kept", "[LSpunModules$Action;", true)
def tyX4 : Nat → FieldType := fun k => match k with
  | 0 => .object "SpunModules$Field"
  | 1 => .int
  | 2 => .int
  | 3 => .array .int
  | _ => .array (.object "SpunModules$Action")
theorem nmX4 : ∀ a, a < 5 → ∀ b, b < 5 → a ≠ b → (TX4 a).2.1 ≠ (TX4 b).2.1 := by decide +kernel
theorem tyX4_ok : ∀ k, k < 5 → parseFieldDescriptor (TX4 k).2.2.1 = some (tyX4 k) := by decide +kernel
def RX5 : String := "SpunModules$Polynomial"
def TX5 : u_T := fun k => match k with
  | 0 => ("SpunModules$Polynomial", "coefficients", "[I", true)
  | 1 => ("SpunModules$Polynomial", "matrix", "[[I", true)
  | 2 => ("SpunModules$Polynomial", "power", "[[I", true)
  | _ => ("SpunModules$Polynomial", "product", "[[I", true)
def tyX5 : Nat → FieldType := fun k => match k with
  | 0 => .array .int
  | 1 => .array (.array .int)
  | 2 => .array (.array .int)
  | _ => .array (.array .int)
theorem nmX5 : ∀ a, a < 4 → ∀ b, b < 4 → a ≠ b → (TX5 a).2.1 ≠ (TX5 b).2.1 := by decide +kernel
theorem tyX5_ok : ∀ k, k < 4 → parseFieldDescriptor (TX5 k).2.2.1 = some (tyX5 k) := by decide +kernel
def RX6 : String := "SpunModules$Socles"
def TX6 : u_T := fun k => match k with
  | 0 => ("SpunModules$Socles", "field", "LSpunModules$Field;", true)
  | 1 => ("SpunModules$Socles", "whole", "LSpunModules$Action;", true)
  | 2 => ("SpunModules$Socles", "rest", "LSpunModules$Action;", true)
  | 3 => ("SpunModules$Socles", "socle", "LSpunModules$Space;", true)
  | 4 => ("SpunModules$Socles", "part", "LSpunModules$Space;", true)
  | 5 => ("SpunModules$Socles", "sum", "LSpunModules$Space;", true)
  | _ => ("SpunModules$Socles", "dims", "[I", true)
def tyX6 : Nat → FieldType := fun k => match k with
  | 0 => .object "SpunModules$Field"
  | 1 => .object "SpunModules$Action"
  | 2 => .object "SpunModules$Action"
  | 3 => .object "SpunModules$Space"
  | 4 => .object "SpunModules$Space"
  | 5 => .object "SpunModules$Space"
  | _ => .array .int
theorem nmX6 : ∀ a, a < 7 → ∀ b, b < 7 → a ≠ b → (TX6 a).2.1 ≠ (TX6 b).2.1 := by decide +kernel
theorem tyX6_ok : ∀ k, k < 7 → parseFieldDescriptor (TX6 k).2.2.1 = some (tyX6 k) := by decide +kernel
def RX7 : String := "SpunModules$Space"
def TX7 : u_T := fun k => match k with
  | 0 => ("SpunModules$Space", "field", "LSpunModules$Field;", true)
  | 1 => ("SpunModules$Space", "places", "I", false)
  | 2 => ("SpunModules$Space", "dim", "I", false)
  | 3 => ("SpunModules$Space", "rows", "[J", true)
  | _ => ("SpunModules$Space", "taken", "[J", true)
def tyX7 : Nat → FieldType := fun k => match k with
  | 0 => .object "SpunModules$Field"
  | 1 => .int
  | 2 => .int
  | 3 => .array .long
  | _ => .array .long
theorem nmX7 : ∀ a, a < 5 → ∀ b, b < 5 → a ≠ b → (TX7 a).2.1 ≠ (TX7 b).2.1 := by decide +kernel
theorem tyX7_ok : ∀ k, k < 5 → parseFieldDescriptor (TX7 k).2.2.1 = some (tyX7 k) := by decide +kernel
def RX8 : String := "SpunModules$Words"
def TX8 : u_T := fun k => match k with
  | 0 => ("SpunModules$Words", "field", "LSpunModules$Field;", true)
  | 1 => ("SpunModules$Words", "textLength", "I", false)
  | 2 => ("SpunModules$Words", "text", "[I", true)
  | 3 => ("SpunModules$Words", "length", "I", false)
  | 4 => ("SpunModules$Words", "bytes", "[I", true)
  | _ => ("SpunModules$Words", "images", "LSpunModules$Space;", true)
def tyX8 : Nat → FieldType := fun k => match k with
  | 0 => .object "SpunModules$Field"
  | 1 => .int
  | 2 => .array .int
  | 3 => .int
  | 4 => .array .int
  | _ => .object "SpunModules$Space"
theorem nmX8 : ∀ a, a < 6 → ∀ b, b < 6 → a ≠ b → (TX8 a).2.1 ≠ (TX8 b).2.1 := by decide +kernel
theorem tyX8_ok : ∀ k, k < 6 → parseFieldDescriptor (TX8 k).2.2.1 = some (tyX8 k) := by decide +kernel
def RX9 : String := "SpunModules"
def TX9 : u_T := fun k => match k with
  | 0 => ("SpunModules", "field", "LSpunModules$Field;", true)
  | 1 => ("SpunModules", "modules", "[LSpunModules$Action;", true)
  | 2 => ("SpunModules", "made", "LSpunModules$Action;", true)
  | 3 => ("SpunModules", "space", "LSpunModules$Space;", true)
  | 4 => ("SpunModules", "past", "LSpunModules$Past;", true)
  | 5 => ("SpunModules", "words", "LSpunModules$Words;", true)
  | 6 => ("SpunModules", "factorsOfFirst", "LSpunModules$Factors;", true)
  | 7 => ("SpunModules", "factorsOfSecond", "LSpunModules$Factors;", true)
  | 8 => ("SpunModules", "homs", "LSpunModules$Homs;", true)
  | 9 => ("SpunModules", "socles", "LSpunModules$Socles;", true)
  | 10 => ("SpunModules", "polynomial", "LSpunModules$Polynomial;", true)
  | 11 => ("SpunModules", "badCalls", "I", false)
  | 12 => ("SpunModules", "noCalls", "I", false)
  | _ => ("SpunModules", "fullCalls", "I", false)
def tyX9 : Nat → FieldType := fun k => match k with
  | 0 => .object "SpunModules$Field"
  | 1 => .array (.object "SpunModules$Action")
  | 2 => .object "SpunModules$Action"
  | 3 => .object "SpunModules$Space"
  | 4 => .object "SpunModules$Past"
  | 5 => .object "SpunModules$Words"
  | 6 => .object "SpunModules$Factors"
  | 7 => .object "SpunModules$Factors"
  | 8 => .object "SpunModules$Homs"
  | 9 => .object "SpunModules$Socles"
  | 10 => .object "SpunModules$Polynomial"
  | 11 => .int
  | 12 => .int
  | _ => .int
theorem nmX9 : ∀ a, a < 14 → ∀ b, b < 14 → a ≠ b → (TX9 a).2.1 ≠ (TX9 b).2.1 := by decide +kernel
theorem tyX9_ok : ∀ k, k < 14 → parseFieldDescriptor (TX9 k).2.2.1 = some (tyX9 k) := by decide +kernel
def RX10 : String := "SpunModulesModel"
def TX10 : u_T := fun k => match k with
  | 0 => ("SpunModulesModel", "refused", "[I", true)
  | 1 => ("SpunModulesModel", "p", "I", false)
  | 2 => ("SpunModulesModel", "size", "[I", true)
  | 3 => ("SpunModulesModel", "figures", "[I", true)
  | 4 => ("SpunModulesModel", "fresh", "[I", true)
  | 5 => ("SpunModulesModel", "cut", "I", false)
  | 6 => ("SpunModulesModel", "has", "[I", true)
  | 7 => ("SpunModulesModel", "dimension", "I", false)
  | 8 => ("SpunModulesModel", "taken", "[I", true)
  | 9 => ("SpunModulesModel", "waiting", "[I", true)
  | 10 => ("SpunModulesModel", "isFirst", "[I", true)
  | 11 => ("SpunModulesModel", "rows", "[I", true)
  | 12 => ("SpunModulesModel", "firsts", "[I", true)
  | 13 => ("SpunModulesModel", "states", "I", false)
  | 14 => ("SpunModulesModel", "kept", "[I", true)
  | 15 => ("SpunModulesModel", "by", "[I", true)
  | 16 => ("SpunModulesModel", "pieces", "I", false)
  | 17 => ("SpunModulesModel", "tellings", "[I", true)
  | 18 => ("SpunModulesModel", "order", "[I", true)
  | 19 => ("SpunModulesModel", "tried", "[I", true)
  | 20 => ("SpunModulesModel", "codes", "[I", true)
  | 21 => ("SpunModulesModel", "elderMany", "I", false)
  | 22 => ("SpunModulesModel", "elderSizes", "[I", true)
  | 23 => ("SpunModulesModel", "elders", "[I", true)
  | 24 => ("SpunModulesModel", "isMet", "[I", true)
  | 25 => ("SpunModulesModel", "equation", "[I", true)
  | 26 => ("SpunModulesModel", "leading", "[I", true)
  | 27 => ("SpunModulesModel", "isLed", "[I", true)
  | 28 => ("SpunModulesModel", "depths", "[I", true)
  | 29 => ("SpunModulesModel", "isSimple", "[I", true)
  | 30 => ("SpunModulesModel", "text", "[I", true)
  | 31 => ("SpunModulesModel", "length", "I", false)
  | 32 => ("SpunModulesModel", "word", "[I", true)
  | 33 => ("SpunModulesModel", "wordLength", "I", false)
  | 34 => ("SpunModulesModel", "whole", "[I", true)
  | 35 => ("SpunModulesModel", "term", "[I", true)
  | 36 => ("SpunModulesModel", "product", "[I", true)
  | _ => ("SpunModulesModel", "minors", "[I", true)
def tyX10 : Nat → FieldType := fun k => match k with
  | 0 => .array .int
  | 1 => .int
  | 2 => .array .int
  | 3 => .array .int
  | 4 => .array .int
  | 5 => .int
  | 6 => .array .int
  | 7 => .int
  | 8 => .array .int
  | 9 => .array .int
  | 10 => .array .int
  | 11 => .array .int
  | 12 => .array .int
  | 13 => .int
  | 14 => .array .int
  | 15 => .array .int
  | 16 => .int
  | 17 => .array .int
  | 18 => .array .int
  | 19 => .array .int
  | 20 => .array .int
  | 21 => .int
  | 22 => .array .int
  | 23 => .array .int
  | 24 => .array .int
  | 25 => .array .int
  | 26 => .array .int
  | 27 => .array .int
  | 28 => .array .int
  | 29 => .array .int
  | 30 => .array .int
  | 31 => .int
  | 32 => .array .int
  | 33 => .int
  | 34 => .array .int
  | 35 => .array .int
  | 36 => .array .int
  | _ => .array .int
theorem nmX10 : ∀ a, a < 38 → ∀ b, b < 38 → a ≠ b → (TX10 a).2.1 ≠ (TX10 b).2.1 := by decide +kernel
theorem tyX10_ok : ∀ k, k < 38 → parseFieldDescriptor (TX10 k).2.2.1 = some (tyX10 k) := by decide +kernel
def RJ6 : String := "java/lang/Integer"
def RJ13 : String := "java/lang/Long"
def RJ9 : String := "java/lang/Math"
def RJ10 : String := "java/lang/System"
abbrev vwCl : List vw_C := [(RX0, TX0, 3), (RX1, TX1, 8), (RX2, TX2, 1), (RX3, TX3, 5), (RX4, TX4, 5), (RX5, TX5, 4), (RX6, TX6, 7), (RX7, TX7, 5), (RX8, TX8, 6), (RX9, TX9, 14), (RX10, TX10, 38)]
def cnL : List String := ["SpunModules$Action", "SpunModules$Factors", "SpunModules$Field", "SpunModules$Homs", "SpunModules$Past", "SpunModules$Polynomial", "SpunModules$Socles", "SpunModules$Space", "SpunModules$Words", "SpunModules", "SpunModulesModel", "SpunModulesLaw", "java/lang/Integer", "java/lang/Long", "java/lang/Math"]
def cn (k : Nat) : String := cnL.getD k ""
def mtL : List (ByteArray × MethodName × Nat × Option FieldType × Nat × Nat × Nat × Bool × Nat) := [
  (prog_2_method_1_code, ⟨"SpunModules$Action", "<init>", "(LSpunModules$Field;)V"⟩, 2, none, 0, 1, 1, false, 1041),
  (prog_2_method_2_code, ⟨"SpunModules$Action", "empties", "(I)V"⟩, 3, none, 0, 0, 1, false, 2088),
  (prog_2_method_3_code, ⟨"SpunModules$Action", "copies", "(LSpunModules$Action;)V"⟩, 2, none, 0, 1, 1, false, 2078),
  (prog_2_method_4_code, ⟨"SpunModules$Action", "entry", "(III)I"⟩, 4, (some .int), 0, 1, 3, false, 2124),
  (prog_2_method_5_code, ⟨"SpunModules$Action", "puts", "(IIII)V"⟩, 6, none, 0, 1, 4, false, 2131),
  (prog_2_method_6_code, ⟨"SpunModules$Action", "image", "(IJ)J"⟩, 8, (some .long), 0, 1, 2, false, 3020),
  (prog_2_method_7_code, ⟨"SpunModules$Action", "fillsAtRandom", "(I)I"⟩, 9, (some .int), 0, 2, 1, false, 2143),
  (prog_2_method_8_code, ⟨"SpunModules$Action", "changesBasis", "(III)V"⟩, 8, none, 0, 2, 3, false, 2163),
  (prog_2_method_9_code, ⟨"SpunModules$Action", "differences", "(LSpunModules$Action;)I"⟩, 5, (some .int), 0, 1, 1, false, 2173),
  (prog_2_method_10_code, ⟨"SpunModules$Action", "joins", "(LSpunModules$Action;LSpunModules$Action;)V"⟩, 5, none, 0, 2, 2, false, 2181),
  (prog_2_method_11_code, ⟨"SpunModules$Action", "multiplies", "(LSpunModules$Action;LSpunModules$Action;)V"⟩, 6, none, 0, 2, 2, false, 2194),
  (prog_2_method_12_code, ⟨"SpunModules$Action", "addsBlock", "(LSpunModules$Action;IIII)V"⟩, 8, none, 0, 1, 5, false, 2200),
  (prog_2_method_13_code, ⟨"SpunModules$Action", "transposes", "(LSpunModules$Action;)V"⟩, 5, none, 0, 2, 1, false, 2208),
  (prog_2_method_14_code, ⟨"SpunModules$Action", "restricts", "(LSpunModules$Action;LSpunModules$Space;)V"⟩, 6, none, 0, 2, 2, false, 3025),
  (prog_2_method_15_code, ⟨"SpunModules$Action", "divides", "(LSpunModules$Action;LSpunModules$Space;)V"⟩, 6, none, 0, 2, 2, false, 3044),
  (prog_2_method_16_code, ⟨"SpunModules$Action", "entryInSequence", "(I)I"⟩, 5, (some .int), 0, 2, 1, false, 3177),
  (prog_2_method_17_code, ⟨"SpunModules$Action", "compares", "(LSpunModules$Action;)I"⟩, 4, (some .int), 0, 1, 1, false, 3131),
  (prog_2_method_18_code, ⟨"SpunModules$Action", "digestOnto", "(J)J"⟩, 7, (some .long), 0, 2, 1, false, 4130),
  (prog_3_method_1_code, ⟨"SpunModules$Factors", "<init>", "(LSpunModules$Field;)V"⟩, 3, none, 1, 2, 1, false, 1149),
  (prog_3_method_2_code, ⟨"SpunModules$Factors", "finds", "(LSpunModules$Action;)V"⟩, 3, none, 1, 5, 1, false, 3099),
  (prog_3_method_3_code, ⟨"SpunModules$Factors", "sinksLast", "()V"⟩, 3, none, 1, 2, 0, false, 3139),
  (prog_3_method_4_code, ⟨"SpunModules$Factors", "formsPart", "(LSpunModules$Action;)V"⟩, 6, none, 1, 4, 1, false, 3107),
  (prog_3_method_5_code, ⟨"SpunModules$Factors", "writesFrom", "(JLSpunModules$Action;)V"⟩, 12, none, 1, 3, 2, false, 3114),
  (prog_3_method_6_code, ⟨"SpunModules$Factors", "countOf", "(LSpunModules$Action;)I"⟩, 4, (some .int), 1, 2, 1, false, 3147),
  (prog_3_method_7_code, ⟨"SpunModules$Factors", "sharedWith", "(LSpunModules$Factors;)I"⟩, 4, (some .int), 1, 3, 1, false, 3185),
  (prog_4_method_1_code, ⟨"SpunModules$Field", "<init>", "()V"⟩, 1, none, 2, 1, 0, false, 1028),
  (prog_4_method_2_code, ⟨"SpunModules$Field", "largest", "()I"⟩, 1, (some .int), 2, 0, 0, false, 2100),
  (prog_4_method_3_code, ⟨"SpunModules$Field", "modulo", "(I)I"⟩, 2, (some .int), 2, 1, 1, false, 2150),
  (prog_4_method_4_code, ⟨"SpunModules$Field", "negative", "(I)I"⟩, 2, (some .int), 2, 0, 1, false, 3007),
  (prog_4_method_5_code, ⟨"SpunModules$Field", "power", "(I)I"⟩, 4, (some .int), 2, 0, 1, false, 2220),
  (prog_4_method_6_code, ⟨"SpunModules$Field", "plusTimes", "(JIJ)J"⟩, 9, (some .long), 2, 0, 3, false, 2167),
  (prog_4_method_7_code, ⟨"SpunModules$Field", "vector", "(II)J"⟩, 8, (some .long), 2, 2, 2, false, 2232),
  (prog_4_method_8_code, ⟨"SpunModules$Field", "number", "(JI)I"⟩, 6, (some .int), 2, 1, 2, false, 3062),
  (prog_5_method_1_code, ⟨"SpunModules$Homs", "<init>", "(LSpunModules$Field;)V"⟩, 2, none, 3, 1, 1, false, 1186),
  (prog_5_method_2_code, ⟨"SpunModules$Homs", "dimension", "(LSpunModules$Action;LSpunModules$Action;)I"⟩, 5, (some .int), 3, 3, 2, false, 3151),
  (prog_5_method_3_code, ⟨"SpunModules$Homs", "evaluates", "(LSpunModules$Action;LSpunModules$Action;II)V"⟩, 8, none, 3, 2, 4, false, 3155),
  (prog_5_method_4_code, ⟨"SpunModules$Homs", "reduces", "(I)V"⟩, 6, none, 3, 1, 1, false, 3163),
  (prog_5_method_5_code, ⟨"SpunModules$Homs", "keepsIfNew", "(I)V"⟩, 7, none, 3, 2, 1, false, 3168),
  (prog_6_method_1_code, ⟨"SpunModules$Past", "<init>", "(LSpunModules$Field;)V"⟩, 3, none, 4, 2, 1, false, 1095),
  (prog_6_method_2_code, ⟨"SpunModules$Past", "keeps", "([LSpunModules$Action;)V"⟩, 3, none, 4, 2, 1, false, 2074),
  (prog_6_method_3_code, ⟨"SpunModules$Past", "restores", "([LSpunModules$Action;)V"⟩, 3, none, 4, 2, 1, false, 4112),
  (prog_7_method_1_code, ⟨"SpunModules$Polynomial", "<init>", "()V"⟩, 1, none, 5, 1, 0, false, 2002),
  (prog_7_method_2_code, ⟨"SpunModules$Polynomial", "takesRow", "(IJ)V"⟩, 5, none, 5, 1, 2, false, 4090),
  (prog_7_method_3_code, ⟨"SpunModules$Polynomial", "computes", "(I)V"⟩, 4, none, 5, 1, 1, false, 4095),
  (prog_7_method_4_code, ⟨"SpunModules$Polynomial", "addsUnit", "(II)V"⟩, 5, none, 5, 0, 2, false, 4099),
  (prog_7_method_5_code, ⟨"SpunModules$Polynomial", "multiplied", "(I)I"⟩, 7, (some .int), 5, 0, 1, false, 4103),
  (prog_8_method_1_code, ⟨"SpunModules$Socles", "<init>", "(LSpunModules$Field;)V"⟩, 2, none, 6, 2, 1, false, 1210),
  (prog_8_method_2_code, ⟨"SpunModules$Socles", "layerOf", "(LSpunModules$Action;I)I"⟩, 4, (some .int), 6, 6, 2, false, 3199),
  (prog_8_method_3_code, ⟨"SpunModules$Socles", "findsDimensions", "()V"⟩, 5, none, 6, 4, 0, false, 3204),
  (prog_8_method_4_code, ⟨"SpunModules$Socles", "findsSocle", "()V"⟩, 6, none, 6, 5, 0, false, 3213),
  (prog_8_method_5_code, ⟨"SpunModules$Socles", "addsIfSimple", "(J)V"⟩, 4, none, 6, 4, 1, false, 3217),
  (prog_9_method_1_code, ⟨"SpunModules$Space", "<init>", "(LSpunModules$Field;)V"⟩, 2, none, 7, 1, 1, false, 1066),
  (prog_9_method_2_code, ⟨"SpunModules$Space", "empties", "(I)V"⟩, 3, none, 7, 0, 1, false, 2228),
  (prog_9_method_3_code, ⟨"SpunModules$Space", "copies", "(LSpunModules$Space;)V"⟩, 2, none, 7, 1, 1, false, 3223),
  (prog_9_method_4_code, ⟨"SpunModules$Space", "hasPivot", "(I)Z"⟩, 2, (some .boolean), 7, 0, 1, false, 3029),
  (prog_9_method_5_code, ⟨"SpunModules$Space", "reduced", "(J)J"⟩, 7, (some .long), 7, 1, 1, false, 3002),
  (prog_9_method_6_code, ⟨"SpunModules$Space", "takes", "(J)V"⟩, 10, none, 7, 2, 1, false, 2238),
  (prog_9_method_7_code, ⟨"SpunModules$Space", "spins", "(LSpunModules$Action;)V"⟩, 3, none, 7, 3, 1, false, 3016),
  (prog_9_method_8_code, ⟨"SpunModules$Space", "spinsLeast", "(LSpunModules$Action;)V"⟩, 7, none, 7, 4, 1, false, 3083),
  (prog_9_method_9_code, ⟨"SpunModules$Space", "basisVector", "(I)J"⟩, 4, (some .long), 7, 1, 1, false, 3075),
  (prog_9_method_10_code, ⟨"SpunModules$Space", "picks", "(JZ)J"⟩, 8, (some .long), 7, 1, 2, false, 3034),
  (prog_9_method_11_code, ⟨"SpunModules$Space", "smallestNumber", "()I"⟩, 3, (some .int), 7, 3, 0, false, 4082),
  (prog_9_method_12_code, ⟨"SpunModules$Space", "fills", "(III)V"⟩, 9, none, 7, 3, 3, false, 4009),
  (prog_9_method_13_code, ⟨"SpunModules$Space", "isInvariant", "(LSpunModules$Action;)Z"⟩, 4, (some .boolean), 7, 2, 1, false, 4014),
  (prog_10_method_1_code, ⟨"SpunModules$Words", "<init>", "(LSpunModules$Field;)V"⟩, 2, none, 8, 2, 1, false, 1121),
  (prog_10_method_2_code, ⟨"SpunModules$Words", "appends", "(I)V"⟩, 2, none, 8, 0, 1, false, 4023),
  (prog_10_method_3_code, ⟨"SpunModules$Words", "fault", "()I"⟩, 4, (some .int), 8, 1, 0, false, 4035),
  (prog_10_method_4_code, ⟨"SpunModules$Words", "takesText", "()V"⟩, 1, none, 8, 1, 0, false, 4048),
  (prog_10_method_5_code, ⟨"SpunModules$Words", "terms", "()I"⟩, 3, (some .int), 8, 0, 0, false, 4053),
  (prog_10_method_6_code, ⟨"SpunModules$Words", "valueRow", "(LSpunModules$Action;I)J"⟩, 9, (some .long), 8, 2, 2, false, 4061),
  (prog_10_method_7_code, ⟨"SpunModules$Words", "findsNulls", "(LSpunModules$Action;LSpunModules$Space;)V"⟩, 8, none, 8, 3, 2, false, 4073),
  (prog_10_method_8_code, ⟨"SpunModules$Words", "isDigit", "(I)Z"⟩, 1, (some .boolean), 8, 0, 1, true, 4044),
  (prog_10_method_9_code, ⟨"SpunModules$Words", "isLetter", "(I)Z"⟩, 1, (some .boolean), 8, 0, 1, true, 4038),
  (prog_1_method_1_code, ⟨"SpunModules", "<init>", "()V"⟩, 2, none, 9, 3, 0, false, 1020),
  (prog_1_method_2_code, ⟨"SpunModules", "begins", "(I)I"⟩, 3, (some .int), 9, 3, 1, false, 2066),
  (prog_1_method_3_code, ⟨"SpunModules", "sizes", "(II)I"⟩, 3, (some .int), 9, 3, 2, false, 2092),
  (prog_1_method_4_code, ⟨"SpunModules", "sets", "(IIIII)I"⟩, 7, (some .int), 9, 3, 5, false, 2104),
  (prog_1_method_5_code, ⟨"SpunModules", "draws", "(II)I"⟩, 3, (some .int), 9, 3, 2, false, 2138),
  (prog_1_method_6_code, ⟨"SpunModules", "turns", "(IIII)I"⟩, 6, (some .int), 9, 3, 4, false, 2158),
  (prog_1_method_7_code, ⟨"SpunModules", "adds", "(III)I"⟩, 4, (some .int), 9, 4, 3, false, 2177),
  (prog_1_method_8_code, ⟨"SpunModules", "times", "(III)I"⟩, 4, (some .int), 9, 4, 3, false, 2190),
  (prog_1_method_9_code, ⟨"SpunModules", "over", "(II)I"⟩, 3, (some .int), 9, 4, 2, false, 2204),
  (prog_1_method_10_code, ⟨"SpunModules", "parts", "(III)I"⟩, 4, (some .int), 9, 5, 3, false, 2212),
  (prog_1_method_11_code, ⟨"SpunModules", "rests", "(III)I"⟩, 4, (some .int), 9, 5, 3, false, 3040),
  (prog_1_method_12_code, ⟨"SpunModules", "size", "(I)I"⟩, 2, (some .int), 9, 1, 1, false, 3049),
  (prog_1_method_13_code, ⟨"SpunModules", "at", "(IIII)I"⟩, 5, (some .int), 9, 3, 4, false, 3053),
  (prog_1_method_14_code, ⟨"SpunModules", "moved", "(III)I"⟩, 5, (some .int), 9, 3, 3, false, 3057),
  (prog_1_method_15_code, ⟨"SpunModules", "spun", "(II)I"⟩, 3, (some .int), 9, 5, 2, false, 3067),
  (prog_1_method_16_code, ⟨"SpunModules", "row", "(III)I"⟩, 4, (some .int), 9, 5, 3, false, 3071),
  (prog_1_method_17_code, ⟨"SpunModules", "simple", "(I)I"⟩, 2, (some .int), 9, 5, 1, false, 3079),
  (prog_1_method_18_code, ⟨"SpunModules", "least", "(I)I"⟩, 2, (some .int), 9, 5, 1, false, 3091),
  (prog_1_method_19_code, ⟨"SpunModules", "factors", "(I)I"⟩, 2, (some .int), 9, 6, 1, false, 3095),
  (prog_1_method_20_code, ⟨"SpunModules", "factor", "(III)I"⟩, 5, (some .int), 9, 6, 3, false, 3143),
  (prog_1_method_21_code, ⟨"SpunModules", "telling", "(III)I"⟩, 4, (some .int), 9, 6, 3, false, 3173),
  (prog_1_method_22_code, ⟨"SpunModules", "common", "(II)I"⟩, 3, (some .int), 9, 6, 2, false, 3181),
  (prog_1_method_23_code, ⟨"SpunModules", "ways", "(II)I"⟩, 3, (some .int), 9, 4, 2, false, 3191),
  (prog_1_method_24_code, ⟨"SpunModules", "layer", "(II)I"⟩, 3, (some .int), 9, 7, 2, false, 3195),
  (prog_1_method_25_code, ⟨"SpunModules", "spaces", "(II)I"⟩, 6, (some .int), 9, 5, 2, false, 3229),
  (prog_1_method_26_code, ⟨"SpunModules", "type", "(I)I"⟩, 2, (some .int), 9, 1, 1, false, 4019),
  (prog_1_method_27_code, ⟨"SpunModules", "clear", "()I"⟩, 2, (some .int), 9, 0, 0, false, 4027),
  (prog_1_method_28_code, ⟨"SpunModules", "tells", "()I"⟩, 2, (some .int), 9, 2, 0, false, 4031),
  (prog_1_method_29_code, ⟨"SpunModules", "word", "(III)I"⟩, 4, (some .int), 9, 3, 3, false, 4057),
  (prog_1_method_30_code, ⟨"SpunModules", "nulls", "(II)I"⟩, 3, (some .int), 9, 4, 2, false, 4069),
  (prog_1_method_31_code, ⟨"SpunModules", "poly", "(II)I"⟩, 5, (some .int), 9, 3, 2, false, 4086),
  (prog_1_method_32_code, ⟨"SpunModules", "back", "()I"⟩, 1, (some .int), 9, 3, 0, false, 4108),
  (prog_1_method_33_code, ⟨"SpunModules", "told", "(I)I"⟩, 2, (some .int), 9, 1, 1, false, 4116),
  (prog_1_method_34_code, ⟨"SpunModules", "digest", "()J"⟩, 5, (some .long), 9, 3, 0, false, 4124),
  (prog_1_method_35_code, ⟨"SpunModules", "fails", "(I)I"⟩, 2, (some .int), 9, 0, 1, false, 2070),
  (prog_1_method_36_code, ⟨"SpunModules", "toldNumber", "(I)I"⟩, 2, (some .int), 9, 0, 1, false, 4120),
  (prog_1_method_37_code, ⟨"SpunModules", "isModule", "(I)Z"⟩, 2, (some .boolean), 9, 0, 1, false, 2096),
  (prog_1_method_38_code, ⟨"SpunModules", "isMatrix", "(I)Z"⟩, 2, (some .boolean), 9, 0, 1, false, 2112),
  (prog_1_method_39_code, ⟨"SpunModules", "isElement", "(I)Z"⟩, 2, (some .boolean), 9, 0, 1, false, 2120),
  (prog_1_method_40_code, ⟨"SpunModules", "isPlace", "(II)Z"⟩, 3, (some .boolean), 9, 1, 2, false, 2116),
  (prog_1_method_41_code, ⟨"SpunModules", "isEntry", "(IIII)Z"⟩, 5, (some .boolean), 9, 2, 4, false, 2108),
  (prog_1_method_42_code, ⟨"SpunModules", "isVector", "(II)Z"⟩, 3, (some .boolean), 9, 1, 2, false, 2216),
  (prog_1_method_43_code, ⟨"SpunModules", "changesTo", "(I)I"⟩, 2, (some .int), 9, 3, 1, false, 2186),
  (prog_1_method_44_code, ⟨"SpunModules", "spins", "(II)V"⟩, 4, none, 9, 4, 2, false, 2224),
  (prog_1_method_45_code, ⟨"SpunModules", "invariantSpaces", "(LSpunModules$Action;I)I"⟩, 6, (some .int), 9, 4, 2, false, 3239),
  (prog_1_method_46_code, ⟨"SpunModules", "freePlaces", "(II)I"⟩, 5, (some .int), 9, 1, 2, true, 4002),
  (prog_1_method_47_code, ⟨"SpunModules", "isPivot", "(II)Z"⟩, 2, (some .boolean), 9, 0, 2, true, 4005),
  (prog_1_method_48_code, ⟨"SpunModules", "element", "(JI)I"⟩, 3, (some .int), 9, 0, 2, true, 2127),
  (prog_1_method_49_code, ⟨"SpunModules", "unit", "(I)J"⟩, 1, (some .long), 9, 0, 1, true, 2134),
  (prog_1_method_50_code, ⟨"SpunModules", "isZero", "(J)Z"⟩, 2, (some .boolean), 9, 0, 1, true, 3122),
  (prog_1_method_51_code, ⟨"SpunModules", "firstPlace", "(J)I"⟩, 3, (some .int), 9, 1, 1, true, 3011),
  (prog_1_method_52_code, ⟨"SpunModules", "rowOnto", "(JJI)J"⟩, 8, (some .long), 9, 1, 3, true, 4134),
  (prog_12_method_1_code, ⟨"SpunModulesModel", "<init>", "()V"⟩, 1, none, 10, 1, 0, false, 4140),
  (prog_12_method_2_code, ⟨"SpunModulesModel", "bad", "()I"⟩, 1, (some .int), 10, 0, 0, false, 5035),
  (prog_12_method_3_code, ⟨"SpunModulesModel", "no", "()I"⟩, 1, (some .int), 10, 0, 0, false, 5024),
  (prog_12_method_4_code, ⟨"SpunModulesModel", "full", "()I"⟩, 1, (some .int), 10, 0, 0, false, 6062),
  (prog_12_method_5_code, ⟨"SpunModulesModel", "in", "(III)Z"⟩, 3, (some .boolean), 10, 0, 3, true, 5031),
  (prog_12_method_6_code, ⟨"SpunModulesModel", "limit", "()I"⟩, 1, (some .int), 10, 0, 0, false, 5058),
  (prog_12_method_7_code, ⟨"SpunModulesModel", "power", "(I)I"⟩, 4, (some .int), 10, 0, 1, false, 5110),
  (prog_12_method_8_code, ⟨"SpunModulesModel", "figure", "(II)I"⟩, 3, (some .int), 10, 1, 2, false, 5150),
  (prog_12_method_9_code, ⟨"SpunModulesModel", "cell", "(IIII)I"⟩, 4, (some .int), 10, 0, 4, true, 5069),
  (prog_12_method_10_code, ⟨"SpunModulesModel", "plus", "(III)I"⟩, 8, (some .int), 10, 0, 3, false, 5130),
  (prog_12_method_11_code, ⟨"SpunModulesModel", "moves", "(III)I"⟩, 11, (some .int), 10, 1, 3, false, 5134),
  (prog_12_method_12_code, ⟨"SpunModulesModel", "takesFresh", "(II)V"⟩, 4, none, 10, 0, 2, false, 5047),
  (prog_12_method_13_code, ⟨"SpunModulesModel", "clearsFresh", "()V"⟩, 2, none, 10, 0, 0, false, 5043),
  (prog_12_method_14_code, ⟨"SpunModulesModel", "isModule", "(I)Z"⟩, 1, (some .boolean), 10, 1, 1, true, 5054),
  (prog_12_method_15_code, ⟨"SpunModulesModel", "isPlace", "(II)Z"⟩, 3, (some .boolean), 10, 1, 2, false, 5066),
  (prog_12_method_16_code, ⟨"SpunModulesModel", "isVector", "(II)Z"⟩, 3, (some .boolean), 10, 1, 2, false, 5106),
  (prog_12_method_17_code, ⟨"SpunModulesModel", "nothing", "()V"⟩, 2, none, 10, 0, 0, false, 5118),
  (prog_12_method_18_code, ⟨"SpunModulesModel", "joins", "(II)V"⟩, 6, none, 10, 1, 2, false, 5126),
  (prog_12_method_19_code, ⟨"SpunModulesModel", "spinsOn", "(II)V"⟩, 6, none, 10, 2, 2, false, 5122),
  (prog_12_method_20_code, ⟨"SpunModulesModel", "spins", "(II)V"⟩, 3, none, 10, 3, 2, false, 5114),
  (prog_12_method_21_code, ⟨"SpunModulesModel", "firstOf", "(II)I"⟩, 4, (some .int), 10, 2, 2, false, 5146),
  (prog_12_method_22_code, ⟨"SpunModulesModel", "isRow", "(III)Z"⟩, 6, (some .boolean), 10, 3, 3, false, 5154),
  (prog_12_method_23_code, ⟨"SpunModulesModel", "findsRows", "(I)V"⟩, 6, none, 10, 4, 1, false, 5142),
  (prog_12_method_24_code, ⟨"SpunModulesModel", "tellsPart", "(II)V"⟩, 7, none, 10, 5, 2, false, 5138),
  (prog_12_method_25_code, ⟨"SpunModulesModel", "without", "(I)I"⟩, 5, (some .int), 10, 2, 1, false, 5166),
  (prog_12_method_26_code, ⟨"SpunModulesModel", "tellsRest", "(II)V"⟩, 10, none, 10, 5, 2, false, 5162),
  (prog_12_method_27_code, ⟨"SpunModulesModel", "leavesState", "()V"⟩, 3, none, 10, 0, 0, false, 5039),
  (prog_12_method_28_code, ⟨"SpunModulesModel", "back", "()I"⟩, 3, (some .int), 10, 1, 0, false, 5020),
  (prog_12_method_29_code, ⟨"SpunModulesModel", "begins", "(I)I"⟩, 3, (some .int), 10, 1, 1, false, 5028),
  (prog_12_method_30_code, ⟨"SpunModulesModel", "sizes", "(II)I"⟩, 3, (some .int), 10, 2, 2, false, 5051),
  (prog_12_method_31_code, ⟨"SpunModulesModel", "sets", "(IIIII)I"⟩, 7, (some .int), 10, 2, 5, false, 5062),
  (prog_12_method_32_code, ⟨"SpunModulesModel", "draws", "(II)I"⟩, 10, (some .int), 10, 2, 2, false, 5073),
  (prog_12_method_33_code, ⟨"SpunModulesModel", "turned", "(IIII[I)I"⟩, 8, (some .int), 10, 1, 5, false, 5086),
  (prog_12_method_34_code, ⟨"SpunModulesModel", "turns", "(IIII)I"⟩, 10, (some .int), 10, 2, 4, false, 5082),
  (prog_12_method_35_code, ⟨"SpunModulesModel", "adds", "(III)I"⟩, 11, (some .int), 10, 2, 3, false, 5090),
  (prog_12_method_36_code, ⟨"SpunModulesModel", "times", "(III)I"⟩, 10, (some .int), 10, 2, 3, false, 5094),
  (prog_12_method_37_code, ⟨"SpunModulesModel", "over", "(II)I"⟩, 7, (some .int), 10, 2, 2, false, 5098),
  (prog_12_method_38_code, ⟨"SpunModulesModel", "parts", "(III)I"⟩, 4, (some .int), 10, 6, 3, false, 5102),
  (prog_12_method_39_code, ⟨"SpunModulesModel", "rests", "(III)I"⟩, 4, (some .int), 10, 6, 3, false, 5158),
  (prog_12_method_40_code, ⟨"SpunModulesModel", "size", "(I)I"⟩, 2, (some .int), 10, 2, 1, false, 5170),
  (prog_12_method_41_code, ⟨"SpunModulesModel", "at", "(IIII)I"⟩, 5, (some .int), 10, 2, 4, false, 5174),
  (prog_12_method_42_code, ⟨"SpunModulesModel", "moved", "(III)I"⟩, 4, (some .int), 10, 2, 3, false, 5178),
  (prog_12_method_43_code, ⟨"SpunModulesModel", "spun", "(II)I"⟩, 3, (some .int), 10, 4, 2, false, 5182),
  (prog_12_method_44_code, ⟨"SpunModulesModel", "row", "(III)I"⟩, 4, (some .int), 10, 5, 3, false, 5186),
  (prog_12_method_45_code, ⟨"SpunModulesModel", "splitter", "(I)I"⟩, 4, (some .int), 10, 4, 1, false, 5194),
  (prog_12_method_46_code, ⟨"SpunModulesModel", "simple", "(I)I"⟩, 2, (some .int), 10, 5, 1, false, 5190),
  (prog_12_method_47_code, ⟨"SpunModulesModel", "least", "(I)I"⟩, 5, (some .int), 10, 4, 1, false, 5198),
  (prog_12_method_48_code, ⟨"SpunModulesModel", "findsCodes", "(I)V"⟩, 6, none, 10, 2, 1, false, 5218),
  (prog_12_method_49_code, ⟨"SpunModulesModel", "tries", "(II)V"⟩, 7, none, 10, 4, 2, false, 5214),
  (prog_12_method_50_code, ⟨"SpunModulesModel", "isLess", "(II)Z"⟩, 4, (some .boolean), 10, 0, 2, false, 5222),
  (prog_12_method_51_code, ⟨"SpunModulesModel", "tellsPiece", "(I)V"⟩, 8, none, 10, 5, 1, false, 5210),
  (prog_12_method_52_code, ⟨"SpunModulesModel", "compare", "(II)I"⟩, 7, (some .int), 10, 0, 2, false, 5230),
  (prog_12_method_53_code, ⟨"SpunModulesModel", "sorts", "()V"⟩, 3, none, 10, 1, 0, false, 5226),
  (prog_12_method_54_code, ⟨"SpunModulesModel", "cuts", "(I)V"⟩, 4, none, 10, 6, 1, false, 5206),
  (prog_12_method_55_code, ⟨"SpunModulesModel", "factors", "(I)I"⟩, 2, (some .int), 10, 7, 1, false, 5202),
  (prog_12_method_56_code, ⟨"SpunModulesModel", "alikeTo", "(I)I"⟩, 4, (some .int), 10, 1, 1, false, 5238),
  (prog_12_method_57_code, ⟨"SpunModulesModel", "factor", "(III)I"⟩, 5, (some .int), 10, 7, 3, false, 5234),
  (prog_12_method_58_code, ⟨"SpunModulesModel", "telling", "(III)I"⟩, 5, (some .int), 10, 7, 3, false, 6014),
  (prog_12_method_59_code, ⟨"SpunModulesModel", "areAlike", "(II)Z"⟩, 6, (some .boolean), 10, 0, 2, false, 6022),
  (prog_12_method_60_code, ⟨"SpunModulesModel", "common", "(II)I"⟩, 7, (some .int), 10, 7, 2, false, 6018),
  (prog_12_method_61_code, ⟨"SpunModulesModel", "isNew", "(I)Z"⟩, 5, (some .boolean), 10, 0, 1, false, 6010),
  (prog_12_method_62_code, ⟨"SpunModulesModel", "tellsEquation", "(IIIII)V"⟩, 9, none, 10, 1, 5, false, 6006),
  (prog_12_method_63_code, ⟨"SpunModulesModel", "waysOf", "(II)I"⟩, 7, (some .int), 10, 2, 2, false, 6002),
  (prog_12_method_64_code, ⟨"SpunModulesModel", "ways", "(II)I"⟩, 3, (some .int), 10, 3, 2, false, 6026),
  (prog_12_method_65_code, ⟨"SpunModulesModel", "isByEach", "(I)Z"⟩, 4, (some .boolean), 10, 0, 1, false, 6038),
  (prog_12_method_66_code, ⟨"SpunModulesModel", "findsSocle", "()V"⟩, 4, none, 10, 4, 0, false, 6034),
  (prog_12_method_67_code, ⟨"SpunModulesModel", "layer", "(II)I"⟩, 4, (some .int), 10, 6, 2, false, 6030),
  (prog_12_method_68_code, ⟨"SpunModulesModel", "tellsRows", "(III)V"⟩, 8, none, 10, 1, 3, false, 6050),
  (prog_12_method_69_code, ⟨"SpunModulesModel", "freeOf", "(II)I"⟩, 6, (some .int), 10, 0, 2, false, 6046),
  (prog_12_method_70_code, ⟨"SpunModulesModel", "areKept", "(I)Z"⟩, 4, (some .boolean), 10, 3, 1, false, 6054),
  (prog_12_method_71_code, ⟨"SpunModulesModel", "spaces", "(II)I"⟩, 8, (some .int), 10, 4, 2, false, 6042),
  (prog_12_method_72_code, ⟨"SpunModulesModel", "type", "(I)I"⟩, 2, (some .int), 10, 1, 1, false, 6058),
  (prog_12_method_73_code, ⟨"SpunModulesModel", "clear", "()I"⟩, 2, (some .int), 10, 0, 0, false, 6066),
  (prog_12_method_74_code, ⟨"SpunModulesModel", "isFigureAt", "(I)Z"⟩, 2, (some .boolean), 10, 1, 1, false, 6074),
  (prog_12_method_75_code, ⟨"SpunModulesModel", "isLetterAt", "(I)Z"⟩, 2, (some .boolean), 10, 0, 1, false, 6078),
  (prog_12_method_76_code, ⟨"SpunModulesModel", "tells", "()I"⟩, 6, (some .int), 10, 2, 0, false, 6070),
  (prog_12_method_77_code, ⟨"SpunModulesModel", "beginsTerm", "()V"⟩, 2, none, 10, 0, 0, false, 6090),
  (prog_12_method_78_code, ⟨"SpunModulesModel", "goesOn", "(II)V"⟩, 8, none, 10, 1, 2, false, 6098),
  (prog_12_method_79_code, ⟨"SpunModulesModel", "endsTerm", "(I)V"⟩, 3, none, 10, 0, 1, false, 6094),
  (prog_12_method_80_code, ⟨"SpunModulesModel", "tellsWord", "(I)V"⟩, 5, none, 10, 2, 1, false, 6086),
  (prog_12_method_81_code, ⟨"SpunModulesModel", "word", "(III)I"⟩, 4, (some .int), 10, 3, 3, false, 6082),
  (prog_12_method_82_code, ⟨"SpunModulesModel", "isNull", "(II)Z"⟩, 7, (some .boolean), 10, 2, 2, false, 6106),
  (prog_12_method_83_code, ⟨"SpunModulesModel", "nulls", "(II)I"⟩, 8, (some .int), 10, 3, 2, false, 6102),
  (prog_12_method_84_code, ⟨"SpunModulesModel", "ones", "(I)I"⟩, 3, (some .int), 10, 0, 1, true, 6113),
  (prog_12_method_85_code, ⟨"SpunModulesModel", "rowOf", "(II)I"⟩, 3, (some .int), 10, 1, 2, true, 6120),
  (prog_12_method_86_code, ⟨"SpunModulesModel", "minor", "(I)I"⟩, 7, (some .int), 10, 2, 1, false, 6117),
  (prog_12_method_87_code, ⟨"SpunModulesModel", "poly", "(II)I"⟩, 6, (some .int), 10, 3, 2, false, 6110),
  (prog_12_method_88_code, ⟨"SpunModulesModel", "toldBy", "(I)I"⟩, 2, (some .int), 10, 0, 1, false, 6128),
  (prog_12_method_89_code, ⟨"SpunModulesModel", "told", "(I)I"⟩, 2, (some .int), 10, 1, 1, false, 6124),
  (prog_12_method_90_code, ⟨"SpunModulesModel", "digest", "()J"⟩, 7, (some .long), 10, 3, 0, false, 6132),
  (prog_13_method_40_code, ⟨"java/lang/Integer", "compare", "(II)I"⟩, 2, (some .int), 12, 0, 2, true, 3134),
  (prog_13_method_49_code, ⟨"java/lang/Integer", "bitCount", "(I)I"⟩, 1, (some .int), 12, 0, 1, true, 3232),
  (prog_14_method_42_code, ⟨"java/lang/Long", "compare", "(JJ)I"⟩, 4, (some .int), 13, 0, 2, true, 3127),
  (prog_15_method_50_code, ⟨"java/lang/Math", "floorMod", "(II)I"⟩, 3, (some .int), 14, 0, 2, true, 2153),
  (prog_15_method_65_code, ⟨"java/lang/Math", "max", "(II)I"⟩, 2, (some .int), 14, 0, 2, true, 4041),
  (prog_15_method_69_code, ⟨"java/lang/Math", "min", "(II)I"⟩, 2, (some .int), 14, 0, 2, true, 2084),
  (code, ⟨"SpunModulesLaw", "law", "([I)Z"⟩, 4, (some .boolean), 11, 8, 1, true, 0)]
/-- fields: own class, pool number, class, field, place of its word -/
def fT : List (Nat × Nat × Nat × Nat × Nat) := [(0, 9, 0, 1, 1044), (0, 15, 0, 2, 1051), (0, 19, 0, 0, 1043), (0, 73, 7, 2, 1074), (0, 82, 7, 3, 1076), (1, 11, 1, 1, 1156), (1, 17, 1, 2, 1158), (1, 21, 1, 0, 1155), (1, 28, 1, 3, 1160), (1, 32, 1, 4, 1161), (1, 35, 1, 5, 1162), (1, 38, 1, 6, 1163), (1, 44, 1, 7, 1164), (1, 52, 0, 1, 1047), (1, 102, 7, 2, 1072), (1, 105, 7, 4, 1079), (1, 121, 0, 2, 1053), (2, 9, 2, 0, 1030), (3, 11, 3, 1, 1191), (3, 16, 3, 2, 1192), (3, 20, 3, 3, 1193), (3, 23, 3, 4, 1194), (3, 27, 3, 0, 1190), (3, 31, 0, 1, 1045), (3, 55, 0, 2, 1052), (4, 9, 4, 1, 1100), (4, 15, 4, 2, 1102), (4, 18, 4, 3, 1103), (4, 24, 4, 4, 1104), (4, 28, 4, 0, 1099), (4, 35, 2, 0, 1031), (5, 9, 5, 0, 2006), (5, 17, 5, 1, 2008), (5, 20, 5, 2, 2009), (5, 23, 5, 3, 2010), (6, 9, 6, 6, 1222), (6, 15, 6, 0, 1216), (6, 24, 6, 1, 1217), (6, 28, 6, 2, 1218), (6, 34, 6, 3, 1219), (6, 38, 6, 4, 1220), (6, 41, 6, 5, 1221), (6, 48, 0, 1, 1046), (6, 58, 7, 2, 1071), (6, 100, 7, 4, 1078), (7, 9, 7, 1, 1069), (7, 15, 7, 2, 1070), (7, 18, 7, 3, 1075), (7, 22, 7, 4, 1077), (7, 25, 7, 0, 1068), (7, 67, 0, 1, 1050), (8, 9, 8, 1, 1126), (8, 15, 8, 2, 1128), (8, 19, 8, 3, 1129), (8, 22, 8, 4, 1130), (8, 25, 8, 0, 1125), (8, 34, 8, 5, 1131), (8, 77, 0, 1, 1048), (9, 10, 9, 0, 2020), (9, 18, 9, 1, 2021), (9, 25, 9, 2, 2022), (9, 32, 9, 3, 2023), (9, 39, 9, 4, 2024), (9, 46, 9, 5, 2025), (9, 53, 9, 6, 2026), (9, 57, 9, 7, 2027), (9, 63, 9, 8, 2028), (9, 70, 9, 9, 2029), (9, 77, 9, 10, 2030), (9, 81, 9, 11, 2031), (9, 85, 9, 12, 2032), (9, 88, 9, 13, 2033), (9, 99, 2, 0, 1032), (9, 149, 0, 1, 1049), (9, 176, 7, 2, 1073), (9, 207, 1, 2, 1159), (9, 210, 1, 1, 1157), (9, 239, 8, 1, 1127), (9, 276, 5, 0, 2007), (9, 283, 4, 1, 1101), (10, 7, 10, 0, 4142), (10, 13, 10, 1, 4143), (10, 17, 10, 2, 4144), (10, 20, 10, 3, 4145), (10, 23, 10, 4, 4146), (10, 26, 10, 5, 4147), (10, 29, 10, 6, 4148), (10, 32, 10, 8, 4150), (10, 35, 10, 9, 4151), (10, 38, 10, 10, 4152), (10, 41, 10, 11, 4153), (10, 44, 10, 12, 4154), (10, 47, 10, 14, 4156), (10, 50, 10, 15, 4157), (10, 53, 10, 17, 4159), (10, 56, 10, 18, 4160), (10, 59, 10, 19, 4161), (10, 62, 10, 20, 4162), (10, 65, 10, 22, 4164), (10, 68, 10, 23, 4165), (10, 71, 10, 24, 4166), (10, 74, 10, 25, 4167), (10, 77, 10, 26, 4168), (10, 80, 10, 27, 4169), (10, 83, 10, 28, 4170), (10, 86, 10, 29, 4171), (10, 89, 10, 30, 4172), (10, 92, 10, 32, 4174), (10, 95, 10, 33, 4175), (10, 98, 10, 34, 4176), (10, 101, 10, 35, 4177), (10, 104, 10, 36, 4178), (10, 107, 10, 37, 4179), (10, 122, 10, 7, 4149), (10, 165, 10, 13, 4155), (10, 226, 10, 16, 4158), (10, 247, 10, 21, 4163), (10, 276, 10, 31, 4173)]
/-- methods: own class, pool number, method, kind (0 virtual, 1 static, 2 init; 3, 4, 5 the same of a nest mate; 6 Object.init, 7 arraycopy), places of its words -/
def mT : List (Nat × Nat × Nat × Nat × Nat × Nat × Nat × Nat) := [(0, 3, 900, 6, 1042, 0, 0, 0), (0, 23, 901, 7, 2079, 0, 0, 0), (0, 29, 120, 4, 2125, 1001, 2126, 0), (0, 33, 121, 4, 2132, 1001, 2133, 0), (0, 37, 30, 0, 2164, 1002, 2165, 2166), (0, 49, 27, 0, 2147, 1002, 2148, 2149), (0, 53, 4, 0, 2154, 1003, 2129, 2130), (0, 57, 2, 0, 2182, 1003, 2076, 2077), (0, 61, 1, 0, 2195, 1003, 2086, 2087), (0, 65, 3, 0, 2196, 1003, 2122, 2123), (0, 69, 11, 0, 2197, 1003, 2199, 7), (0, 78, 54, 0, 3026, 1004, 3027, 3028), (0, 83, 5, 0, 3030, 1003, 3018, 3019), (0, 87, 60, 0, 3031, 1004, 3032, 3033), (0, 91, 55, 0, 3045, 1004, 3000, 3001), (0, 95, 215, 1, 3132, 1015, 3133, 0), (0, 101, 217, 1, 3135, 1014, 3126, 0), (0, 108, 124, 4, 4132, 1001, 4133, 0), (1, 3, 900, 6, 1150, 0, 0, 0), (1, 25, 0, 2, 1152, 1003, 1040, 0), (1, 43, 51, 2, 1154, 1004, 1065, 0), (1, 48, 2, 0, 3100, 1003, 2076, 2077), (1, 55, 58, 0, 3101, 1004, 3081, 3082), (1, 58, 13, 0, 3102, 1003, 3023, 3024), (1, 62, 14, 0, 3103, 1003, 3042, 3043), (1, 65, 21, 0, 3104, 1007, 3106, 10), (1, 68, 20, 0, 3136, 1007, 3138, 12), (1, 71, 16, 0, 3128, 1003, 3129, 3130), (1, 75, 1, 0, 3108, 1003, 2086, 2087), (1, 79, 29, 0, 3109, 1002, 2218, 2219), (1, 85, 31, 0, 3110, 1002, 2230, 2231), (1, 89, 22, 0, 3111, 1007, 3113, 11), (1, 93, 52, 0, 3115, 1004, 2226, 2227), (1, 94, 121, 4, 3116, 1001, 2133, 0), (1, 98, 56, 0, 3117, 1004, 2236, 2237), (1, 109, 5, 0, 3118, 1003, 3018, 3019), (1, 113, 55, 0, 3119, 1004, 3000, 3001), (1, 117, 122, 4, 3120, 1001, 3121, 0), (1, 124, 28, 0, 3123, 1002, 3005, 3006), (1, 127, 30, 0, 3124, 1002, 2165, 2166), (1, 131, 217, 1, 3125, 1014, 3126, 0), (1, 137, 23, 0, 3186, 1007, 3145, 3146), (1, 140, 220, 1, 3187, 1013, 2083, 0), (2, 3, 900, 6, 1029, 0, 0, 0), (2, 15, 218, 1, 2151, 1013, 2152, 0), (2, 25, 27, 0, 2233, 1002, 2148, 2149), (2, 29, 121, 4, 2234, 1001, 2133, 0), (2, 33, 120, 4, 3063, 1001, 2126, 0), (3, 3, 900, 6, 1187, 0, 0, 0), (3, 36, 35, 0, 3152, 1008, 3154, 13), (3, 40, 36, 0, 3160, 1008, 3162, 14), (3, 44, 37, 0, 3165, 1008, 3167, 15), (3, 47, 3, 0, 3156, 1003, 2122, 2123), (3, 51, 121, 4, 3157, 1001, 2133, 0), (3, 59, 28, 0, 3158, 1002, 3005, 3006), (3, 65, 30, 0, 3159, 1002, 2165, 2166), (3, 69, 120, 4, 3164, 1001, 2126, 0), (3, 73, 123, 4, 3169, 1001, 3010, 0), (4, 3, 900, 6, 1096, 0, 0, 0), (4, 32, 0, 2, 1098, 1003, 1040, 0), (4, 40, 2, 0, 2075, 1003, 2076, 2077), (4, 44, 220, 1, 2082, 1013, 2083, 0), (5, 3, 900, 6, 2003, 0, 0, 0), (5, 26, 120, 4, 4091, 1001, 2126, 0), (5, 30, 44, 0, 4096, 1010, 4098, 20), (5, 34, 45, 0, 4100, 1010, 4102, 21), (6, 3, 900, 6, 1211, 0, 0, 0), (6, 21, 0, 2, 1213, 1003, 1040, 0), (6, 33, 51, 2, 1215, 1004, 1065, 0), (6, 44, 2, 0, 3200, 1003, 2076, 2077), (6, 52, 48, 0, 3201, 1009, 3203, 16), (6, 55, 49, 0, 3210, 1009, 3212, 17), (6, 61, 14, 0, 3225, 1003, 3042, 3043), (6, 65, 29, 0, 3205, 1002, 2218, 2219), (6, 71, 52, 0, 3206, 1004, 2226, 2227), (6, 75, 31, 0, 3207, 1002, 2230, 2231), (6, 79, 56, 0, 3208, 1004, 2236, 2237), (6, 83, 57, 0, 3209, 1004, 3014, 3015), (6, 86, 50, 0, 3214, 1009, 3216, 18), (6, 89, 55, 0, 3218, 1004, 3000, 3001), (6, 93, 122, 4, 3219, 1001, 3121, 0), (6, 97, 53, 0, 3220, 1004, 3221, 3222), (7, 3, 900, 6, 1067, 0, 0, 0), (7, 29, 901, 7, 3224, 0, 0, 0), (7, 35, 120, 4, 3003, 1001, 2126, 0), (7, 39, 28, 0, 3004, 1002, 3005, 3006), (7, 45, 30, 0, 3008, 1002, 2165, 2166), (7, 49, 55, 0, 2239, 1004, 3000, 3001), (7, 53, 123, 4, 3009, 1001, 3010, 0), (7, 57, 5, 0, 3017, 1003, 3018, 3019), (7, 63, 56, 0, 3021, 1004, 2236, 2237), (7, 70, 29, 0, 3084, 1002, 2218, 2219), (7, 73, 52, 0, 3085, 1004, 2226, 2227), (7, 77, 31, 0, 3086, 1002, 2230, 2231), (7, 81, 57, 0, 3087, 1004, 3014, 3015), (7, 85, 54, 0, 3035, 1004, 3027, 3028), (7, 89, 121, 4, 3036, 1001, 2133, 0), (7, 93, 122, 4, 4015, 1001, 3121, 0), (7, 97, 119, 4, 4010, 1001, 4004, 0), (8, 3, 900, 6, 1122, 0, 0, 0), (8, 31, 51, 2, 1124, 1004, 1065, 0), (8, 38, 72, 1, 4036, 1006, 4037, 0), (8, 42, 219, 1, 4039, 1013, 4040, 0), (8, 48, 71, 1, 4042, 1006, 4043, 0), (8, 51, 901, 7, 4049, 0, 0, 0), (8, 57, 121, 4, 4062, 1001, 2133, 0), (8, 61, 27, 0, 4063, 1002, 2148, 2149), (8, 67, 5, 0, 4064, 1003, 3018, 3019), (8, 73, 30, 0, 4065, 1002, 2165, 2166), (8, 80, 52, 0, 4074, 1004, 2226, 2227), (8, 84, 69, 0, 4075, 1006, 4059, 4060), (8, 88, 55, 0, 4076, 1004, 3000, 3001), (8, 92, 122, 4, 4077, 1001, 3121, 0), (8, 96, 56, 0, 4078, 1004, 2236, 2237), (9, 1, 900, 6, 1021, 0, 0, 0), (9, 9, 25, 5, 1026, 1002, 1027, 0), (9, 22, 0, 2, 1039, 1003, 1040, 0), (9, 31, 51, 2, 1064, 1004, 1065, 0), (9, 38, 38, 2, 1093, 1005, 1094, 0), (9, 45, 64, 2, 1119, 1006, 1120, 0), (9, 52, 18, 2, 1147, 1007, 1148, 0), (9, 62, 33, 2, 1184, 1008, 1185, 0), (9, 69, 46, 2, 1208, 1009, 1209, 0), (9, 76, 41, 5, 2000, 1010, 2001, 0), (9, 91, 107, 0, 2067, 1001, 2069, 0), (9, 95, 39, 0, 2071, 1005, 2072, 2073), (9, 102, 1, 0, 2085, 1003, 2086, 2087), (9, 106, 109, 0, 2093, 1001, 2095, 1), (9, 110, 26, 0, 2097, 1002, 2098, 2099), (9, 114, 113, 0, 2105, 1001, 2107, 2), (9, 118, 111, 0, 2117, 1001, 2119, 5), (9, 121, 3, 0, 2121, 1003, 2122, 2123), (9, 125, 4, 0, 2128, 1003, 2129, 2130), (9, 130, 6, 0, 2140, 1003, 2141, 2142), (9, 133, 112, 0, 2113, 1001, 2115, 4), (9, 137, 2, 0, 2159, 1003, 2076, 2077), (9, 141, 7, 0, 2160, 1003, 2161, 2162), (9, 145, 8, 0, 2170, 1003, 2171, 2172), (9, 152, 9, 0, 2178, 1003, 2179, 2180), (9, 156, 115, 0, 2183, 1001, 2185, 6), (9, 159, 10, 0, 2191, 1003, 2192, 2193), (9, 162, 12, 0, 2205, 1003, 2206, 2207), (9, 165, 114, 0, 2213, 1001, 2215, 8), (9, 168, 116, 0, 2221, 1001, 2223, 9), (9, 172, 13, 0, 3022, 1003, 3023, 3024), (9, 179, 14, 0, 3041, 1003, 3042, 3043), (9, 182, 110, 0, 2109, 1001, 2111, 3), (9, 185, 31, 0, 2229, 1002, 2230, 2231), (9, 189, 5, 0, 3058, 1003, 3018, 3019), (9, 193, 32, 0, 3059, 1002, 3060, 3061), (9, 197, 59, 0, 3072, 1004, 3073, 3074), (9, 201, 58, 0, 3080, 1004, 3081, 3082), (9, 204, 19, 0, 3096, 1007, 3097, 3098), (9, 213, 23, 0, 3144, 1007, 3145, 3146), (9, 216, 34, 0, 3148, 1008, 3149, 3150), (9, 220, 15, 0, 3174, 1003, 3175, 3176), (9, 223, 24, 0, 3182, 1007, 3183, 3184), (9, 227, 47, 0, 3196, 1009, 3197, 3198), (9, 231, 216, 1, 3230, 1015, 3231, 0), (9, 236, 117, 0, 3236, 1001, 3238, 19), (9, 242, 65, 0, 4020, 1006, 4021, 4022), (9, 245, 66, 0, 4032, 1006, 4033, 4034), (9, 248, 67, 0, 4045, 1006, 4046, 4047), (9, 251, 68, 0, 4050, 1006, 4051, 4052), (9, 254, 69, 0, 4058, 1006, 4059, 4060), (9, 258, 120, 1, 3012, 1001, 2126, 0), (9, 261, 70, 0, 4070, 1006, 4071, 4072), (9, 264, 61, 0, 4079, 1004, 4080, 4081), (9, 267, 57, 0, 3013, 1004, 3014, 3015), (9, 269, 42, 0, 4087, 1010, 4088, 4089), (9, 273, 43, 0, 4092, 1010, 4093, 4094), (9, 280, 27, 0, 4104, 1002, 2148, 2149), (9, 284, 40, 0, 4109, 1005, 4110, 4111), (9, 287, 108, 0, 4117, 1001, 4119, 22), (9, 294, 17, 0, 4127, 1003, 4128, 4129), (9, 298, 124, 1, 4135, 1001, 4133, 0), (9, 302, 29, 0, 2217, 1002, 2218, 2219), (9, 305, 52, 0, 2225, 1004, 2226, 2227), (9, 306, 56, 0, 2235, 1004, 2236, 2237), (9, 310, 118, 1, 4000, 1001, 4001, 0), (9, 314, 62, 0, 4006, 1004, 4007, 4008), (9, 317, 63, 0, 4011, 1004, 4012, 4013), (9, 321, 119, 1, 4003, 1001, 4004, 0), (10, 1, 900, 6, 4141, 0, 0, 0), (10, 110, 131, 0, 5107, 1011, 5109, 32), (10, 114, 133, 1, 5067, 1011, 5068, 0), (10, 118, 129, 1, 5029, 1011, 5030, 0), (10, 125, 134, 0, 5127, 1011, 5129, 37), (10, 129, 142, 0, 5123, 1011, 5125, 36), (10, 133, 135, 0, 5131, 1011, 5133, 38), (10, 136, 141, 0, 5115, 1011, 5117, 34), (10, 139, 143, 0, 5119, 1011, 5121, 35), (10, 142, 132, 0, 5147, 1011, 5149, 42), (10, 146, 145, 0, 5143, 1011, 5145, 41), (10, 149, 146, 0, 5151, 1011, 5153, 43), (10, 152, 147, 0, 5139, 1011, 5141, 40), (10, 156, 137, 0, 5040, 1011, 5042, 26), (10, 159, 136, 0, 5044, 1011, 5046, 27), (10, 162, 149, 0, 5163, 1011, 5165, 45), (10, 168, 127, 0, 5021, 1011, 5023, 23), (10, 172, 126, 0, 5032, 1011, 5034, 24), (10, 175, 151, 0, 5036, 1011, 5038, 25), (10, 178, 138, 1, 5052, 1011, 5053, 0), (10, 182, 130, 0, 5055, 1011, 5057, 28), (10, 185, 139, 0, 5063, 1011, 5065, 29), (10, 198, 157, 0, 5083, 1011, 5085, 30), (10, 202, 140, 0, 5103, 1011, 5105, 31), (10, 205, 144, 0, 5111, 1011, 5113, 33), (10, 208, 148, 0, 5135, 1011, 5137, 39), (10, 211, 150, 0, 5159, 1011, 5161, 44), (10, 214, 169, 0, 5191, 1011, 5193, 46), (10, 217, 172, 0, 5215, 1011, 5217, 50), (10, 220, 173, 0, 5211, 1011, 5213, 49), (10, 223, 174, 0, 5219, 1011, 5221, 51), (10, 229, 176, 0, 5227, 1011, 5229, 53), (10, 232, 175, 0, 5207, 1011, 5209, 48), (10, 235, 177, 0, 5223, 1011, 5225, 52), (10, 238, 178, 0, 5203, 1011, 5205, 47), (10, 241, 180, 0, 5235, 1011, 5237, 54), (10, 244, 187, 0, 5239, 1011, 6001, 55), (10, 250, 183, 0, 6019, 1011, 6021, 58), (10, 253, 186, 0, 6003, 1011, 6005, 56), (10, 257, 185, 0, 6007, 1011, 6009, 57), (10, 260, 189, 0, 6035, 1011, 6037, 60), (10, 263, 190, 0, 6031, 1011, 6033, 59), (10, 266, 193, 0, 6043, 1011, 6045, 61), (10, 269, 192, 0, 6047, 1011, 6049, 62), (10, 273, 194, 0, 6051, 1011, 6053, 63), (10, 279, 128, 0, 6059, 1011, 6061, 64), (10, 282, 198, 0, 6071, 1011, 6073, 65), (10, 285, 199, 0, 6075, 1011, 6077, 66), (10, 288, 201, 0, 6087, 1011, 6089, 68), (10, 291, 203, 0, 6091, 1011, 6093, 69), (10, 294, 202, 0, 6095, 1011, 6097, 70), (10, 297, 204, 0, 6083, 1011, 6085, 67), (10, 300, 206, 0, 6103, 1011, 6105, 71), (10, 303, 208, 1, 6111, 1011, 6112, 0), (10, 306, 209, 1, 6118, 1011, 6119, 0), (10, 309, 210, 0, 6114, 1011, 6116, 72), (10, 312, 212, 0, 6125, 1011, 6127, 73), (11, 9, 73, 2, 1018, 1001, 1019, 0), (11, 12, 125, 2, 4138, 1011, 4139, 0), (11, 13, 74, 0, 2063, 1001, 2064, 2065), (11, 17, 153, 0, 5025, 1011, 5026, 5027), (11, 18, 75, 0, 2089, 1001, 2090, 2091), (11, 22, 154, 0, 5048, 1011, 5049, 5050), (11, 23, 76, 0, 2101, 1001, 2102, 2103), (11, 27, 155, 0, 5059, 1011, 5060, 5061), (11, 28, 77, 0, 2135, 1001, 2136, 2137), (11, 31, 156, 0, 5070, 1011, 5071, 5072), (11, 32, 78, 0, 2155, 1001, 2156, 2157), (11, 36, 158, 0, 5079, 1011, 5080, 5081), (11, 37, 79, 0, 2174, 1001, 2175, 2176), (11, 41, 159, 0, 5087, 1011, 5088, 5089), (11, 42, 80, 0, 2187, 1001, 2188, 2189), (11, 45, 160, 0, 5091, 1011, 5092, 5093), (11, 46, 81, 0, 2201, 1001, 2202, 2203), (11, 49, 161, 0, 5095, 1011, 5096, 5097), (11, 50, 82, 0, 2209, 1001, 2210, 2211), (11, 53, 162, 0, 5099, 1011, 5100, 5101), (11, 54, 83, 0, 3037, 1001, 3038, 3039), (11, 57, 163, 0, 5155, 1011, 5156, 5157), (11, 58, 84, 0, 3046, 1001, 3047, 3048), (11, 61, 164, 0, 5167, 1011, 5168, 5169), (11, 62, 85, 0, 3050, 1001, 3051, 3052), (11, 65, 165, 0, 5171, 1011, 5172, 5173), (11, 66, 86, 0, 3054, 1001, 3055, 3056), (11, 69, 166, 0, 5175, 1011, 5176, 5177), (11, 70, 87, 0, 3064, 1001, 3065, 3066), (11, 73, 167, 0, 5179, 1011, 5180, 5181), (11, 74, 88, 0, 3068, 1001, 3069, 3070), (11, 77, 168, 0, 5183, 1011, 5184, 5185), (11, 78, 89, 0, 3076, 1001, 3077, 3078), (11, 81, 170, 0, 5187, 1011, 5188, 5189), (11, 82, 90, 0, 3088, 1001, 3089, 3090), (11, 85, 171, 0, 5195, 1011, 5196, 5197), (11, 86, 91, 0, 3092, 1001, 3093, 3094), (11, 89, 179, 0, 5199, 1011, 5200, 5201), (11, 90, 92, 0, 3140, 1001, 3141, 3142), (11, 93, 181, 0, 5231, 1011, 5232, 5233), (11, 94, 93, 0, 3170, 1001, 3171, 3172), (11, 97, 182, 0, 6011, 1011, 6012, 6013), (11, 98, 94, 0, 3178, 1001, 3179, 3180), (11, 101, 184, 0, 6015, 1011, 6016, 6017), (11, 102, 95, 0, 3188, 1001, 3189, 3190), (11, 105, 188, 0, 6023, 1011, 6024, 6025), (11, 106, 96, 0, 3192, 1001, 3193, 3194), (11, 109, 191, 0, 6027, 1011, 6028, 6029), (11, 110, 97, 0, 3226, 1001, 3227, 3228), (11, 113, 195, 0, 6039, 1011, 6040, 6041), (11, 114, 98, 0, 4016, 1001, 4017, 4018), (11, 117, 196, 0, 6055, 1011, 6056, 6057), (11, 118, 99, 0, 4024, 1001, 4025, 4026), (11, 122, 197, 0, 6063, 1011, 6064, 6065), (11, 123, 100, 0, 4028, 1001, 4029, 4030), (11, 126, 200, 0, 6067, 1011, 6068, 6069), (11, 127, 101, 0, 4054, 1001, 4055, 4056), (11, 130, 205, 0, 6079, 1011, 6080, 6081), (11, 131, 102, 0, 4066, 1001, 4067, 4068), (11, 134, 207, 0, 6099, 1011, 6100, 6101), (11, 135, 103, 0, 4083, 1001, 4084, 4085), (11, 138, 211, 0, 6107, 1011, 6108, 6109), (11, 139, 104, 0, 4105, 1001, 4106, 4107), (11, 142, 152, 0, 5017, 1011, 5018, 5019), (11, 143, 105, 0, 4113, 1001, 4114, 4115), (11, 146, 213, 0, 6121, 1011, 6122, 6123), (11, 147, 106, 0, 4121, 1001, 4122, 4123), (11, 151, 214, 0, 6129, 1011, 6130, 6131)]
/-- constants: own class, pool number, value, 1 for a long, place -/
def kT : List (Nat × Nat × Int × Nat × Nat) := [(0, 43, 1103515245, 1, 2144), (0, 45, 12345, 1, 2145), (0, 47, 2147483647, 1, 2146), (0, 106, 31, 1, 4131), (2, 21, 18764998447377, 1, 2168), (2, 23, 150119987579016, 1, 2169), (9, 129, 999999, 0, 2139), (9, 290, 1562, 1, 4125), (9, 292, 31, 1, 4126), (10, 189, 999999, 0, 5074), (10, 190, 1103515245, 1, 5075), (10, 192, 12345, 1, 5076), (10, 194, 2147483648, 1, 5077), (10, 196, 65536, 1, 5078), (10, 315, 1562, 1, 6133), (10, 317, 31, 1, 6134), (12, 265, 1431655765, 0, 3233), (12, 266, 858993459, 0, 3234), (12, 267, 252645135, 0, 3235)]
def nT : List (Nat × Nat × Nat × Nat × Nat × Nat) := [(1, 9, 0, 1151, 1038, 1003), (1, 41, 7, 1153, 1063, 1004), (4, 22, 0, 1097, 1038, 1003), (6, 19, 0, 1212, 1038, 1003), (6, 31, 7, 1214, 1063, 1004), (8, 29, 7, 1123, 1063, 1004), (9, 7, 2, 1024, 1025, 1002), (9, 16, 0, 1036, 1038, 1003), (9, 29, 7, 1062, 1063, 1004), (9, 36, 4, 1091, 1092, 1005), (9, 43, 8, 1117, 1118, 1006), (9, 50, 1, 1145, 1146, 1007), (9, 60, 3, 1182, 1183, 1008), (9, 67, 6, 1206, 1207, 1009), (9, 74, 5, 1238, 1239, 1010), (11, 7, 9, 1016, 1017, 1001), (11, 10, 10, 4136, 4137, 1011)]
def aT : List (Nat × Nat × Nat) := [(1, 9, 1151), (4, 22, 1097), (9, 16, 1036)]
def gT : List (Nat × Nat × Nat × Nat) := [(3, 9, 24, 1188), (5, 15, 23, 2004)]
/-- the kind of each field: 0 int, 1 long, 2 a reference -/
def tgL : List (List Nat) := [[2, 0, 2], [2, 2, 0, 2, 2, 2, 2, 2], [0], [2, 2, 2, 2, 0], [2, 0, 0, 2, 2], [2, 2, 2, 2], [2, 2, 2, 2, 2, 2, 2], [2, 0, 0, 2, 2], [2, 0, 2, 0, 2, 2], [2, 2, 2, 2, 2, 2, 2, 2, 2, 2, 2, 0, 0, 0], [2, 0, 2, 2, 2, 0, 2, 0, 2, 2, 2, 2, 2, 0, 2, 2, 0, 2, 2, 2, 2, 0, 2, 2, 2, 2, 2, 2, 2, 2, 2, 0, 2, 0, 2, 2, 2, 2]]
/-- the places of the words of the fields -/
def lyL : List (List Nat) := [[1054, 1056, 1058], [1165, 1167, 1169, 1171, 1173, 1175, 1177, 1179], [1033], [1195, 1197, 1199, 1201, 1203], [1105, 1107, 1109, 1111, 1113], [2011, 2013, 2015, 2017], [1223, 1225, 1227, 1229, 1231, 1233, 1235], [1080, 1082, 1084, 1086, 1088], [1132, 1134, 1136, 1138, 1140, 1142], [2034, 2036, 2038, 2040, 2042, 2044, 2046, 2048, 2050, 2052, 2054, 2056, 2058, 2060], [4180, 4182, 4184, 4186, 4188, 4190, 4192, 4194, 4196, 4198, 4200, 4202, 4204, 4206, 4208, 4210, 4212, 4214, 4216, 4218, 4220, 4222, 4224, 4226, 4228, 4230, 4232, 4234, 4236, 4238, 5000, 5002, 5004, 5006, 5008, 5010, 5012, 5014]]
end
section
/-! The abstract machine: ints, longs and references are Int; the memory is a function of a cell's number and a place. -/
abbrev AV : Type := Nat × Int
abbrev Mo : Type := Int → Int → Int
abbrev Sh : Type := List (Nat × Nat)
abbrev AR : Type := (Nat × List AV × List AV × Sh × Mo) ⊕ ((Option AV) ⊕ (Nat × List AV × List AV))
def mt (g : Nat) : ByteArray × MethodName × Nat × Option FieldType × Nat × Nat × Nat × Bool × Nat := mtL.getD g (⟨#[]⟩, ⟨"", "", ""⟩, 0, none, 0, 0, 0, false, 0)
def bc (g : Nat) : ByteArray := (mt g).1
def nmm (g : Nat) : MethodName := (mt g).2.1
def mxl (g : Nat) : Nat := (mt g).2.2.1
def rty (g : Nat) : Option FieldType := (mt g).2.2.2.1
def own (g : Nat) : Nat := (mt g).2.2.2.2.1
def hgt (g : Nat) : Nat := (mt g).2.2.2.2.2.1
def npr (g : Nat) : Nat := (mt g).2.2.2.2.2.2.1
def sta (g : Nat) : Bool := (mt g).2.2.2.2.2.2.2.1
def cpl (g : Nat) : Nat := (mt g).2.2.2.2.2.2.2.2
def fdt (ci k : Nat) : String × String × String × Bool := ((vwCl.getD ci ("", TX0, 0)).2.1) k
def nfl (ci : Nat) : Nat := (vwCl.getD ci ("", TX0, 0)).2.2
def tgf (ci k : Nat) : Nat := (tgL.getD ci []).getD k 0
def fl (oc idx : Nat) : Option (Nat × Nat × Nat × Nat × Nat) := fT.find? (fun e => e.1 == oc && e.2.1 == idx)
def mlk (oc idx : Nat) : Option (Nat × Nat × Nat × Nat × Nat × Nat × Nat × Nat) := mT.find? (fun e => e.1 == oc && e.2.1 == idx)
def klk (oc idx : Nat) : Option (Nat × Nat × Int × Nat × Nat) := kT.find? (fun e => e.1 == oc && e.2.1 == idx)
def nlk (oc idx : Nat) : Option (Nat × Nat × Nat × Nat × Nat × Nat) := nT.find? (fun e => e.1 == oc && e.2.1 == idx)
def alk (oc idx : Nat) : Option (Nat × Nat × Nat) := aT.find? (fun e => e.1 == oc && e.2.1 == idx)
def glk (oc idx : Nat) : Option (Nat × Nat × Nat × Nat) := gT.find? (fun e => e.1 == oc && e.2.1 == idx)
def up2 (M : Mo) (a i v : Int) : Mo := fun x y => if x = a ∧ y = i then v else M x y
def cp2 (M : Mo) (b sp a dp n : Int) : Mo := fun x y => if x = a ∧ dp ≤ y ∧ y < dp + n then M b (sp + (y - dp)) else M x y
def shp (σ : Sh) (a : Int) : Nat × Nat := if a < 0 then (99, 0) else σ.getD a.toNat (99, 0)
def catv (v : AV) : Nat := if v.1 = 1 then 2 else 1
def cats (st : List AV) : Nat := (st.map catv).sum
def nx (pc : Nat) (ls st : List AV) (σ : Sh) (M : Mo) : Option AR := some (.inl (pc, ls, st, σ, M))
def jm (pc : Nat) (off : Int) (ls st : List AV) (σ : Sh) (M : Mo) : Option AR := if 0 ≤ (pc : Int) + off then nx ((pc : Int) + off).toNat ls st σ M else none
def stl (ls : List AV) (i : Nat) (v : AV) : List AV :=
  let l1 := if v.1 = 1 then (ls.set i v).set (i + 1) (9, 0) else ls.set i v
  match i with
  | 0 => l1
  | j + 1 => match ls[j]? with
    | some (1, _) => l1.set j (9, 0)
    | _ => l1
/-- a load of kind t -/
def ald (t len k pc i : Nat) (ls st : List AV) (σ : Sh) (M : Mo) : Option AR :=
  if len = k then match ls[i]? with
    | some v => if v.1 = t then nx (pc + k) ls (v :: st) σ M else none
    | none => none
  else none
/-- a load of a reference (or of the script) -/
def alda (len k pc i : Nat) (ls st : List AV) (σ : Sh) (M : Mo) : Option AR :=
  if len = k then match ls[i]? with
    | some v => if v.1 = 2 ∧ 0 ≤ v.2 ∨ v.1 = 4 then nx (pc + k) ls (v :: st) σ M else none
    | none => none
  else none
def ast (t len k pc i : Nat) (ls st : List AV) (σ : Sh) (M : Mo) : Option AR :=
  if len = k then match st with
    | v :: st => if v.1 = t ∧ i + (if t = 1 then 1 else 0) < ls.length ∧ (t = 2 → 0 ≤ v.2) then nx (pc + k) (stl ls i v) st σ M else none
    | [] => none
  else none
def cst (z : Int) (len k pc : Nat) (ls st : List AV) (σ : Sh) (M : Mo) : Option AR :=
  if len = k ∧ -128 ≤ z ∧ z < 128 then nx (pc + k) ls ((0, z) :: st) σ M else none
def bi (g : Int32 → Int32 → Int32) (len pc : Nat) (ls st : List AV) (σ : Sh) (M : Mo) : Option AR :=
  if len = 1 then match st with
    | (0, y) :: (0, x) :: st => nx (pc + 1) ls ((0, (g (Int32.ofInt x) (Int32.ofInt y)).toInt) :: st) σ M
    | _ => none
  else none
def bz (g : Int32 → Int32 → Int32) (len pc : Nat) (ls st : List AV) (σ : Sh) (M : Mo) : Option AR :=
  if len = 1 then match st with
    | (0, y) :: (0, x) :: st => if Int32.ofInt y = 0 then none else nx (pc + 1) ls ((0, (g (Int32.ofInt x) (Int32.ofInt y)).toInt) :: st) σ M
    | _ => none
  else none
def bl (g : Int64 → Int64 → Int64) (len pc : Nat) (ls st : List AV) (σ : Sh) (M : Mo) : Option AR :=
  if len = 1 then match st with
    | (1, y) :: (1, x) :: st => nx (pc + 1) ls ((1, (g (Int64.ofInt x) (Int64.ofInt y)).toInt) :: st) σ M
    | _ => none
  else none
def blz (g : Int64 → Int64 → Int64) (len pc : Nat) (ls st : List AV) (σ : Sh) (M : Mo) : Option AR :=
  if len = 1 then match st with
    | (1, y) :: (1, x) :: st => if Int64.ofInt y = 0 then none else nx (pc + 1) ls ((1, (g (Int64.ofInt x) (Int64.ofInt y)).toInt) :: st) σ M
    | _ => none
  else none
def bs (g : Int64 → Int32 → Int64) (len pc : Nat) (ls st : List AV) (σ : Sh) (M : Mo) : Option AR :=
  if len = 1 then match st with
    | (0, y) :: (1, x) :: st => nx (pc + 1) ls ((1, (g (Int64.ofInt x) (Int32.ofInt y)).toInt) :: st) σ M
    | _ => none
  else none
def cmpb (c : Jvm.ClassFile.Cond) (x y : Int) : Bool := match c with
  | .eq => decide (x = y)
  | .ne => decide (x ≠ y)
  | .lt => decide (x < y)
  | .ge => decide (y ≤ x)
  | .gt => decide (y < x)
  | .le => decide (x ≤ y)
/-- pop n arguments: (arguments in order, rest) -/
def pops : Nat → List AV → Option (List AV × List AV)
  | 0, st => some ([], st)
  | n + 1, v :: st => match pops n st with
    | some (as, r) => some (as ++ [v], r)
    | none => none
  | _ + 1, [] => none
/-- a cell of kind kd and its contents -/
def dfv (kd j : Nat) : Int := if kd < 11 then (if tgf kd j = 2 then -1 else 0) else if kd < 22 then 0 else -1
def nwc (σ : Sh) (M : Mo) (kd : Nat) : Mo := fun x y => if x = σ.length then dfv kd y.toNat else M x y
/-- the outer array at N, its rows behind it -/
def nwg (σ : Sh) (M : Mo) (n : Nat) : Mo := fun x y => if x = σ.length then (if 0 ≤ y ∧ y < n then (σ.length : Int) + 1 + y else -1) else if (σ.length : Int) < x ∧ x ≤ (σ.length : Int) + n then 0 else M x y
/-- the locals at a method's entry -/
def ent : List AV → List AV
  | [] => []
  | v :: as => if v.1 = 1 then v :: (9, 0) :: ent as else v :: ent as
def rcv (σ : Sh) (g : Nat) (as : List AV) : Bool := sta g || (match as with
  | (2, a) :: _ => decide (shp σ a = (own g, nfl (own g)))
  | _ => false)
def ava (f len : Nat) (st : List AV) (σ : Sh) (idx : Nat) (kds : List Nat) : Option AR :=
  if len = 3 then match mlk (own f) idx with
    | some e => if kds.contains e.2.2.2.1 then
        (match pops (npr e.2.2.1 + (if sta e.2.2.1 then 0 else 1)) st with
        | some (as, r) => if cats r ≤ 8 ∧ hgt e.2.2.1 < hgt f ∧ rcv σ e.2.2.1 as = true ∧ (ent as).length ≤ mxl e.2.2.1 ∧ (as.all fun v => v.1 == 0 || v.1 == 1 || v.1 == 2) = true then some (.inr (.inr (e.2.2.1, as, r))) else none
        | none => none)
      else none
    | none => none
  else none
def astep (o : Option (List Int)) (f pc : Nat) (i : Instr) (len : Nat) (ls st : List AV) (σ : Sh) (M : Mo) : Option AR :=
  match i with
  | .aload n => alda len 2 pc n ls st σ M
  | .aload_n n => alda len 1 pc n.val ls st σ M
  | .iload n => ald 0 len 2 pc n ls st σ M
  | .iload_n n => ald 0 len 1 pc n.val ls st σ M
  | .lload n => ald 1 len 2 pc n ls st σ M
  | .lload_n n => ald 1 len 1 pc n.val ls st σ M
  | .istore n => ast 0 len 2 pc n ls st σ M
  | .istore_n n => ast 0 len 1 pc n.val ls st σ M
  | .lstore n => ast 1 len 2 pc n ls st σ M
  | .lstore_n n => ast 1 len 1 pc n.val ls st σ M
  | .astore n => ast 2 len 2 pc n ls st σ M
  | .astore_n n => ast 2 len 1 pc n.val ls st σ M
  | .iconst z => cst z len 1 pc ls st σ M
  | .bipush z => cst z len 2 pc ls st σ M
  | .sipush z => if len = 3 ∧ -32768 ≤ z ∧ z < 32768 then nx (pc + 3) ls ((0, z) :: st) σ M else none
  | .lconst z => if len = 1 then nx (pc + 1) ls ((1, (z.val : Int)) :: st) σ M else none
  | .ldc n => if len = 2 then match klk (own f) n with
      | some e => if e.2.2.2.1 = 0 then nx (pc + 2) ls ((0, e.2.2.1) :: st) σ M else none
      | none => none
    else none
  | .ldc_w n => if len = 3 then match klk (own f) n with
      | some e => if e.2.2.2.1 = 0 then nx (pc + 3) ls ((0, e.2.2.1) :: st) σ M else none
      | none => none
    else none
  | .ldc2_w n => if len = 3 then match klk (own f) n with
      | some e => if e.2.2.2.1 = 1 then nx (pc + 3) ls ((1, e.2.2.1) :: st) σ M else none
      | none => none
    else none
  | .iadd => bi (· + ·) len pc ls st σ M
  | .isub => bi (· - ·) len pc ls st σ M
  | .imul => bi (· * ·) len pc ls st σ M
  | .iand => bi (· &&& ·) len pc ls st σ M
  | .ixor => bi (· ^^^ ·) len pc ls st σ M
  | .ishl => bi (fun x y => x <<< (y &&& 31)) len pc ls st σ M
  | .ishr => bi (fun x y => x >>> (y &&& 31)) len pc ls st σ M
  | .iushr => bi (fun x y => (x.toUInt32 >>> (y.toUInt32 &&& Int32.toUInt32 31)).toInt32) len pc ls st σ M
  | .idiv => bz (· / ·) len pc ls st σ M
  | .irem => bz (fun x y => x - x / y * y) len pc ls st σ M
  | .ineg => if len = 1 then match st with
      | (0, x) :: st => nx (pc + 1) ls ((0, (-(Int32.ofInt x)).toInt) :: st) σ M
      | _ => none
    else none
  | .ladd => bl (· + ·) len pc ls st σ M
  | .lsub => bl (· - ·) len pc ls st σ M
  | .lmul => bl (· * ·) len pc ls st σ M
  | .land => bl (· &&& ·) len pc ls st σ M
  | .lor => bl (· ||| ·) len pc ls st σ M
  | .ldiv => blz (· / ·) len pc ls st σ M
  | .lrem => blz (fun x y => x - x / y * y) len pc ls st σ M
  | .lshl => bs (fun x y => x <<< (y.toInt64 &&& 63)) len pc ls st σ M
  | .lushr => bs (fun x y => (x.toUInt64 >>> (y.toInt64.toUInt64 &&& Int64.toUInt64 63)).toInt64) len pc ls st σ M
  | .lcmp => if len = 1 then match st with
      | (1, y) :: (1, x) :: st => nx (pc + 1) ls ((0, if y < x then 1 else if x = y then 0 else -1) :: st) σ M
      | _ => none
    else none
  | .i2l => if len = 1 then match st with
      | (0, x) :: st => nx (pc + 1) ls ((1, x) :: st) σ M
      | _ => none
    else none
  | .l2i => if len = 1 then match st with
      | (1, x) :: st => nx (pc + 1) ls ((0, (Int64.ofInt x).toInt32.toInt) :: st) σ M
      | _ => none
    else none
  | .iinc n z => if len = 3 then match ls[n]? with
      | some (0, x) => nx (pc + 3) (stl ls n (0, (Int32.ofInt x + Int32.ofInt z).toInt)) st σ M
      | _ => none
    else none
  | .dup => if len = 1 then match st with
      | v :: st => if v.1 = 0 ∨ v.1 = 2 then nx (pc + 1) ls (v :: v :: st) σ M else none
      | _ => none
    else none
  | .dup2 => if len = 1 then match st with
      | v :: w :: st => if (v.1 = 0 ∨ v.1 = 2) ∧ (w.1 = 0 ∨ w.1 = 2) then nx (pc + 1) ls (v :: w :: v :: w :: st) σ M else none
      | _ => none
    else none
  | .goto z => if len = 3 then jm pc z ls st σ M else none
  | .ifCond c z => if len = 3 ∧ 0 ≤ (pc : Int) + z then match st with
      | (0, x) :: st => if cmpb c x 0 then jm pc z ls st σ M else nx (pc + 3) ls st σ M
      | _ => none
    else none
  | .if_icmp c z => if len = 3 ∧ 0 ≤ (pc : Int) + z then match st with
      | (0, y) :: (0, x) :: st => if cmpb c x y then jm pc z ls st σ M else nx (pc + 3) ls st σ M
      | _ => none
    else none
  | .tableswitch d lo hi offs => match st with
      | (0, x) :: st => if x < lo ∨ hi < x then jm pc d ls st σ M else (match offs[(x - lo).toNat]? with
        | some z => jm pc z ls st σ M
        | none => none)
      | _ => none
  | .lookupswitch d ps => match st with
      | (0, x) :: st => if (ps.toList.zip (ps.toList.drop 1)).all (fun (a, next) => a.1 < next.1) = true then jm pc (Op.lookupswitch.offset ps.toList d x) ls st σ M else none
      | _ => none
  | .getfield n => if len = 3 then match fl (own f) n, st with
      | some e, (2, a) :: st => if shp σ a = (e.2.2.1, nfl e.2.2.1) ∧ (tgf e.2.2.1 e.2.2.2.1 = 2 → 0 ≤ M a e.2.2.2.1) then nx (pc + 3) ls ((tgf e.2.2.1 e.2.2.2.1, M a e.2.2.2.1) :: st) σ M else none
      | _, _ => none
    else none
  | .putfield n => if len = 3 then match fl (own f) n, st with
      | some e, v :: (2, a) :: st => if shp σ a = (e.2.2.1, nfl e.2.2.1) ∧ v.1 = tgf e.2.2.1 e.2.2.2.1 ∧ ((fdt e.2.2.1 e.2.2.2.1).2.2.2 = false ∨ ((nmm f).name = "<init>" ∧ own f = e.2.2.1)) then nx (pc + 3) ls st σ (up2 M a e.2.2.2.1 v.2) else none
      | _, _ => none
    else none
  | .new n => if len = 3 then match nlk (own f) n with
      | some e => nx (pc + 3) ls ((2, (σ.length : Int)) :: st) (σ ++ [(e.2.2.1, nfl e.2.2.1)]) (nwc σ M e.2.2.1)
      | none => none
    else none
  | .newarray t => if len = 2 then match st with
      | (0, n) :: st => if 0 ≤ n ∧ n < 65536 then (match t with
        | .int => nx (pc + 2) ls ((2, (σ.length : Int)) :: st) (σ ++ [(20, n.toNat)]) (nwc σ M 20)
        | .long => nx (pc + 2) ls ((2, (σ.length : Int)) :: st) (σ ++ [(21, n.toNat)]) (nwc σ M 21)
        | _ => none) else none
      | _ => none
    else none
  | .anewarray k => if len = 3 then match alk (own f) k, st with
      | some _, (0, n) :: st => if 0 ≤ n ∧ n < 65536 then nx (pc + 3) ls ((2, (σ.length : Int)) :: st) (σ ++ [(22, n.toNat)]) (nwc σ M 22) else none
      | _, _ => none
    else none
  | .multianewarray k d => if len = 4 ∧ d = 2 then match glk (own f) k, st with
      | some e, (0, b) :: (0, n) :: st => if 0 ≤ n ∧ n < 65536 ∧ 0 ≤ b ∧ b < 65536 then nx (pc + 4) ls ((2, (σ.length : Int)) :: st) ((σ ++ [(e.2.2.1, n.toNat)]) ++ List.replicate n.toNat (e.2.2.1 - 3, b.toNat)) (nwg σ M n.toNat) else none
      | _, _ => none
    else none
  | .arraylength => if len = 1 then match o, st with
      | some xs, (4, _) :: st => nx (pc + 1) ls ((0, (xs.length : Int)) :: st) σ M
      | _, _ => none
    else none
  | .iaload => if len = 1 then match o, st with
      | some xs, (0, i) :: (4, _) :: st => if 0 ≤ i ∧ i < xs.length then nx (pc + 1) ls ((0, xs.getD i.toNat 0) :: st) σ M else none
      | _, (0, i) :: (2, a) :: st => if (shp σ a).1 = 20 ∧ 0 ≤ i ∧ i < (shp σ a).2 then nx (pc + 1) ls ((0, M a i) :: st) σ M else none
      | _, _ => none
    else none
  | .laload => if len = 1 then match st with
      | (0, i) :: (2, a) :: st => if (shp σ a).1 = 21 ∧ 0 ≤ i ∧ i < (shp σ a).2 then nx (pc + 1) ls ((1, M a i) :: st) σ M else none
      | _ => none
    else none
  | .aaload => if len = 1 then match st with
      | (0, i) :: (2, a) :: st => if 22 ≤ (shp σ a).1 ∧ (shp σ a).1 ≤ 24 ∧ 0 ≤ i ∧ i < (shp σ a).2 ∧ 0 ≤ M a i then nx (pc + 1) ls ((2, M a i) :: st) σ M else none
      | _ => none
    else none
  | .iastore => if len = 1 then match st with
      | (0, x) :: (0, i) :: (2, a) :: st => if (shp σ a).1 = 20 ∧ 0 ≤ i ∧ i < (shp σ a).2 then nx (pc + 1) ls st σ (up2 M a i x) else none
      | _ => none
    else none
  | .lastore => if len = 1 then match st with
      | (1, x) :: (0, i) :: (2, a) :: st => if (shp σ a).1 = 21 ∧ 0 ≤ i ∧ i < (shp σ a).2 then nx (pc + 1) ls st σ (up2 M a i x) else none
      | _ => none
    else none
  | .aastore => if len = 1 then match st with
      | (2, x) :: (0, i) :: (2, a) :: st => if (shp σ a).1 = 22 ∧ 0 ≤ i ∧ i < (shp σ a).2 ∧ shp σ x = (0, nfl 0) then nx (pc + 1) ls st σ (up2 M a i x) else none
      | _ => none
    else none
  | .invokevirtual n => ava f len st σ n [0, 3]
  | .invokestatic n => if (mlk (own f) n).map (fun e => e.2.2.2.1) = some 7 then
      (if len = 3 then match st with
      | (0, n) :: (0, dp) :: (2, a) :: (0, sp) :: (2, b) :: st => if ((shp σ a).1 = 20 ∧ (shp σ b).1 = 20 ∨ (shp σ a).1 = 21 ∧ (shp σ b).1 = 21) ∧ 0 ≤ n ∧ 0 ≤ sp ∧ 0 ≤ dp ∧ sp + n ≤ (shp σ b).2 ∧ dp + n ≤ (shp σ a).2 ∧ cats st ≤ 8 ∧ 1 ≤ hgt f then nx (pc + 3) ls st σ (cp2 M b sp a dp n) else none
      | _ => none
      else none)
    else ava f len st σ n [1, 4]
  | .invokespecial n => if (mlk (own f) n).map (fun e => e.2.2.2.1) = some 6 then
      (if len = 3 then match st with
      | (2, _) :: st => if cats st ≤ 8 ∧ 1 ≤ hgt f then nx (pc + 3) ls st σ M else none
      | _ => none
      else none)
    else ava f len st σ n [2, 5]
  | .ireturn => if len = 1 then match st with
      | [(0, x)] => if rty f = some .int ∨ rty f = some .boolean ∧ (x = 0 ∨ x = 1) then some (.inr (.inl (some (0, x)))) else none
      | _ => none
    else none
  | .lreturn => if len = 1 then match st with
      | [(1, x)] => if rty f = some .long then some (.inr (.inl (some (1, x)))) else none
      | _ => none
    else none
  | .return_ => if len = 1 then match st with
      | [] => if rty f = none then some (.inr (.inl none)) else none
      | _ => none
    else none
  | _ => none
def entl (g : Nat) (as : List AV) : List AV := ent as ++ List.replicate (mxl g - (ent as).length) (9, 0)
def arun (o : Option (List Int)) : Nat → Nat → Nat → List AV → List AV → Sh → Mo → Option (Option AV × Sh × Mo)
  | 0, _, _, _, _, _, _ => none
  | n + 1, f, pc, ls, st, σ, M => match decode (bc f) pc with
    | .ok (i, len) => (match astep o f pc i len ls st σ M with
      | some (.inl (pc', ls', st', σ', M')) => arun o n f pc' ls' st' σ' M'
      | some (.inr (.inl v)) => some (v, σ, M)
      | some (.inr (.inr (g, as, r))) => (match arun none n g 0 (entl g as) [] σ M with
        | some (v, σ', M') => arun o n f (pc + 3) ls (v.toList ++ r) σ' M'
        | none => none)
      | none => none)
    | .error _ => none
end
section
/-! The tables, checked by the kernel against the statement's words. -/
def tbk (c : Nat) : List Cond := match c with
  | 0 => k2_sels lw_privs
  | 1 => tables_1_1
  | 2 => tables_1_2
  | 3 => tables_1_3
  | 4 => tables_1_4
  | 5 => tables_1_5
  | 6 => tables_1_6
  | _ => []
def atp (p : Nat) : Option Cond := (tbk (p / 1000))[p % 1000]?
theorem atp_in {p : Nat} {w : Cond} (h : atp p = some w) : w ∈ lw_tbl := by
  have h1 := List.mem_of_getElem? h
  show w ∈ k2_sels lw_privs ++ (tables_1_1 ++ (tables_1_2 ++ (tables_1_3 ++ (tables_1_4 ++ (tables_1_5 ++ tables_1_6)))))
  simp only [List.mem_append]
  generalize p / 1000 = c at h1
  match c, h1 with
  | 0, h1 => exact Or.inl h1
  | 1, h1 => exact Or.inr (Or.inl h1)
  | 2, h1 => exact Or.inr (Or.inr (Or.inl h1))
  | 3, h1 => exact Or.inr (Or.inr (Or.inr (Or.inl h1)))
  | 4, h1 => exact Or.inr (Or.inr (Or.inr (Or.inr (Or.inl h1))))
  | 5, h1 => exact Or.inr (Or.inr (Or.inr (Or.inr (Or.inr (Or.inl h1)))))
  | 6, h1 => exact Or.inr (Or.inr (Or.inr (Or.inr (Or.inr (Or.inr h1)))))
  | c + 7, h1 => exact absurd h1 (by simp [tbk])
theorem fT_ok : ∀ e ∈ fT, e.2.2.1 < 11 ∧ e.2.2.2.1 < nfl e.2.2.1 ∧ atp e.2.2.2.2 = some (.fieldLink (cn e.1) e.2.1 (cn e.2.2.1) (fdt e.2.2.1 e.2.2.2.1).2.1 (fdt e.2.2.1 e.2.2.2.1).2.2.1) := by decide +kernel
theorem kT_ok : ∀ e ∈ kT, (e.2.2.2.1 = 0 ∧ atp e.2.2.2.2 = some (.constant (cn e.1) e.2.1 (Int32.ofInt e.2.2.1)) ∧ (Int32.ofInt e.2.2.1).toInt = e.2.2.1) ∨ (e.2.2.2.1 = 1 ∧ atp e.2.2.2.2 = some (.constantLong (cn e.1) e.2.1 (Int64.ofInt e.2.2.1)) ∧ (Int64.ofInt e.2.2.1).toInt = e.2.2.1) := by decide +kernel
theorem nT_ok : ∀ e ∈ nT, e.2.2.1 < 11 ∧ atp e.2.2.2.1 = some (.classLink (cn e.1) e.2.1 (cn e.2.2.1)) ∧ atp e.2.2.2.2.1 = some (.instantiable (cn e.2.2.1) (nfl e.2.2.1)) ∧ atp e.2.2.2.2.2 = some (.initialized (cn e.2.2.1)) := by decide +kernel
theorem aT_ok : ∀ e ∈ aT, atp e.2.2 = some (.classLink (cn e.1) e.2.1 (cn 0)) := by decide +kernel
theorem gT_ok : ∀ e ∈ gT, (e.2.2.1 = 23 ∧ atp e.2.2.2 = some (.classLink (cn e.1) e.2.1 ("[" ++ (FieldType.array .int).toString))) ∨ (e.2.2.1 = 24 ∧ atp e.2.2.2 = some (.classLink (cn e.1) e.2.1 ("[" ++ (FieldType.array .long).toString))) := by decide +kernel
/-- a method's words -/
def mOk (e : Nat × Nat × Nat × Nat × Nat × Nat × Nat × Nat) : Bool :=
  if e.2.2.2.1 = 6 then decide (atp e.2.2.2.2.1 = some (.methodLink (cn e.1) e.2.1 Lib.objectInit))
  else if e.2.2.2.1 = 7 then decide (atp e.2.2.2.2.1 = some (.methodLink (cn e.1) e.2.1 arraycopyName))
  else decide (e.2.2.2.1 < 6 ∧ e.2.2.1 < 222 ∧ atp e.2.2.2.2.2.1 = some (.initialized (nmm e.2.2.1).cls) ∧
    (if e.2.2.2.1 < 3 then atp e.2.2.2.2.1 = some (.methodLink (cn e.1) e.2.1 (nmm e.2.2.1)) else atp e.2.2.2.2.1 = some (.methodLinkNest (cn e.1) e.2.1 (nmm e.2.2.1) "SpunModules")) ∧
    (if e.2.2.2.1 % 3 = 1 then atp e.2.2.2.2.2.2.1 = some (.static (nmm e.2.2.1)) ∧ sta e.2.2.1 = true else atp e.2.2.2.2.2.2.1 = some (.instanceMethod (nmm e.2.2.1)) ∧ sta e.2.2.1 = false) ∧
    (if e.2.2.2.1 % 3 = 0 then atp e.2.2.2.2.2.2.2 = some (.selects (nmm e.2.2.1).cls (nmm e.2.2.1) (nmm e.2.2.1)) else True) ∧
    (if e.2.2.2.1 % 3 = 2 then (nmm e.2.2.1).name = "<init>" ∧ rty e.2.2.1 = none else True))
theorem mT_ok : ∀ e ∈ mT, mOk e = true := by decide +kernel
theorem g_cls : ∀ g ∈ List.range 222, (nmm g).cls = cn (own g) ∧ mxl g ≤ 21 := by decide +kernel
theorem g_nam : ∀ g ∈ List.range 222, (nmm g).cls ≠ "java/lang/invoke/MethodHandle" ∧ (nmm g).cls ≠ "java/lang/invoke/VarHandle" := by decide +kernel
theorem g_npr : ∀ g ∈ List.range 222, (parseMethodDescriptor (nmm g).desc).map (fun d => d.parameters.length) = some (npr g) := by decide +kernel
theorem g_pln : ∀ g ∈ List.range 222, plainFor (nmm g) = true := by decide +kernel
theorem cl_len : vwCl.length = 11 := rfl
theorem cl_ok : ∀ ci ∈ List.range 11, (vwCl.getD ci ("", TX0, 0)).1 = cn ci ∧ (tgL.getD ci []).length = nfl ci := by decide +kernel
set_option maxRecDepth 1000000 in
theorem cw_map : (List.range 221).map (fun g => atp (cpl g)) = (List.range 221).map (fun g => some (Cond.code (nmm g) (bc g) (mxl g) (rty g))) := by rfl
theorem cw_all {g : Nat} (h : g < 221) : atp (cpl g) = some (.code (nmm g) (bc g) (mxl g) (rty g)) := by
  have h1 := congrArg (fun l => l[g]?) cw_map
  simpa [h] using h1
end
section
/-! What a state of the abstract machine is in the JVM. -/
def va_AOA (t : FieldType) (U : State) : Prop := (Cond.arrayOver (.array t)).before #[] U = true
def rfo (ad : Nat → Nat) (z : Int) : Option Nat := if z < 0 then none else some (ad z.toNat)
def cv (ad : Nat → Nat) (bb : Nat) (v : AV) : Value :=
  if v.1 = 0 then .int (Int32.ofInt v.2) else if v.1 = 1 then .long (Int64.ofInt v.2) else if v.1 = 2 then va_rf (rfo ad v.2) else .ref bb
theorem cv0 (ad : Nat → Nat) (bb : Nat) (z : Int) : cv ad bb (0, z) = .int (Int32.ofInt z) := rfl
theorem cv1 (ad : Nat → Nat) (bb : Nat) (z : Int) : cv ad bb (1, z) = .long (Int64.ofInt z) := rfl
theorem cv2 (ad : Nat → Nat) (bb : Nat) {z : Int} (h : 0 ≤ z) : cv ad bb (2, z) = .ref (ad z.toNat) := by
  show va_rf (rfo ad z) = _
  rw [rfo, if_neg (by omega)]
  rfl
theorem cv4 (ad : Nat → Nat) (bb : Nat) (z : Int) : cv ad bb (4, z) = .ref bb := rfl
theorem cv_cat (ad : Nat → Nat) (bb : Nat) (v : AV) : (cv ad bb v).category = catv v := by
  obtain ⟨t, z⟩ := v
  unfold cv catv
  by_cases h0 : t = 0
  · subst h0; rfl
  · by_cases h1 : t = 1
    · subst h1; rfl
    · by_cases h2 : t = 2
      · subst h2
        simp only [rfo]
        by_cases hz : z < 0 <;> simp [hz, va_rf, Value.category]
      · simp [h0, h1, h2, Value.category]
def aty (kd : Nat) : Option FieldType := if kd = 20 then some .int else if kd = 21 then some .long else if kd = 22 then some (.object (cn 0)) else if kd = 23 then some (.array .int) else if kd = 24 then some (.array .long) else none
def tgk (kd j : Nat) : Nat := if kd < 20 then tgf kd j else if kd = 20 then 0 else if kd = 21 then 1 else 2
def arc (ad : Nat → Nat) (ac : Nat → ClassId) (k kd ln : Nat) (row : Int → Int) : va_E :=
  if kd < 20 then .inr (kd, (List.range ln).map (fun j => cv ad 0 (tgf kd j, row j)))
  else if kd = 20 then .inl (ac k, ln, .inl (fun j => Int32.ofInt (row j)))
  else if kd = 21 then .inl (ac k, ln, .inr (.inl (fun j => Int64.ofInt (row j))))
  else .inl (ac k, ln, .inr (.inr (.inr (.inr (fun j => if j < ln then rfo ad (row j) else none)))))
def sg (σ : Sh) (k : Nat) : Nat × Nat := σ.getD k (99, 0)
def wso (ad : Nat → Nat) (ac : Nat → ClassId) (σ : Sh) (M : Mo) : va_W := (List.range σ.length).map (fun k => (ad k, arc ad ac k (sg σ k).1 (sg σ k).2 (M k)))
def wfz (n t : Nat) (z : Int) : Prop := (t = 0 → -2147483648 ≤ z ∧ z < 2147483648) ∧ (t = 1 → -9223372036854775808 ≤ z ∧ z < 9223372036854775808) ∧ (t = 2 → -1 ≤ z ∧ z < n)
def wfm (σ : Sh) (M : Mo) : Prop := ∀ k : Nat, k < σ.length → ∀ j : Nat, j < (sg σ k).2 → wfz σ.length (tgk (sg σ k).1 j) (M k j)
def wsh (σ : Sh) : Prop := ∀ k : Nat, k < σ.length → (sg σ k).1 < 11 ∧ (sg σ k).2 = nfl (sg σ k).1 ∨ 20 ≤ (sg σ k).1 ∧ (sg σ k).1 ≤ 24
def okv (o : Option (List Int)) (n : Nat) (v : AV) : Prop := wfz n v.1 v.2 ∧ (v.1 = 2 → 0 ≤ v.2) ∧ (v.1 = 4 → o ≠ none) ∧ (v.1 ≤ 2 ∨ v.1 = 4 ∨ v.1 = 9)
def tot (σ : Sh) : Nat := (σ.map (fun q => q.2)).sum
def TG : List Cond := lw_tbl.filter goodWord
def Tb (D : va_G) (U : State) : Prop := va_K D vwCl [] U ∧ (∀ e ∈ mT, 3 ≤ e.2.2.2.1 → e.2.2.2.1 ≤ 5 → va_Nw (.methodLinkNest (cn e.1) e.2.1 (nmm e.2.2.1) "SpunModules") U) ∧ va_AO (cn 0) U ∧ va_AOA .int U ∧ va_AOA .long U
def Cx (f : Nat) (o : Option (List Int)) (p : Program) (R : Room) (s : State) (m : MethodId) (args : Array Value) (meth : Method) (c : Code) (base bb : Nat) (D : va_G) : Prop :=
  p.tables.exec = Jvm.exec ∧ c.code = bc f ∧ c.maxLocals = mxl f ∧ s.vm.findClass (cn (own f)) = some m.cls ∧ (∀ w ∈ TG, w.before args s = true) ∧ meth.sig.returnType = rty f ∧ meth.locks = false ∧ ((nmm f).name = "<init>" → meth.name = "<init>") ∧ hgt f ≤ R.frames ∧ 40 * hgt f ≤ R.locals ∧ Tb D s ∧ base ≤ s.heap.size ∧
  (∀ xs, o = some xs → va_X bb xs.length (fun j => Int32.ofInt (xs.getD j 0)) s s.heap ∧ bb < base ∧ xs.length < 2147483648 ∧ ∀ j, -2147483648 ≤ xs.getD j 0 ∧ xs.getD j 0 < 2147483648)
def Lc (ad : Nat → Nat) (bb f : Nat) (lsm : Array Slot) (ls : List AV) : Prop := lsm.size = mxl f ∧ lv_wf lsm ∧ ls.length = mxl f ∧ ∀ (i : Nat) (v : AV), ls[i]? = some v → v.1 ≠ 9 → lsm[i]? = some (.val (cv ad bb v))
def Wo (D : va_G) (ad : Nat → Nat) (ac : Nat → ClassId) (base : Nat) (s : State) (σ : Sh) (M : Mo) (H : Heap) : Prop :=
  va_P D vwCl (wso ad ac σ M) H ∧ va_D (fun q => base ≤ q) (wso ad ac σ M) ∧ (∀ k : Nat, k < σ.length → ∀ ty, aty (sg σ k).1 = some ty → ArrOfT s (ac k) ty ∧ va_RA s (ac k) ty) ∧ wfm σ M ∧ wsh σ
def Ok (D : va_G) (base bb : Nat) (o : Option (List Int)) (f n0 s0 : Nat) (ad0 : Nat → Nat) (ac0 : Nat → ClassId) (s : State) (H : Heap) (locs : List Loc) (cells slots : Nat) (lsm : Array Slot) (ls st : List AV) (σ : Sh) (M : Mo) (ad : Nat → Nat) (ac : Nat → ClassId) : Prop :=
  Wo D ad ac base s σ M H ∧ va_S (fun q => base ≤ q) s.heap H locs ∧ Lc ad bb f lsm ls ∧ (∀ v ∈ ls, okv o σ.length v) ∧ (∀ v ∈ st, okv o σ.length v ∧ v.1 ≠ 9) ∧ cells + n0 = σ.length ∧ slots + s0 = tot σ ∧ ∀ k, k < n0 → ad k = ad0 k ∧ ac k = ac0 k
def G (p : Program) (l : Launch) (e : Env) (R : Room) (s : State) (m : MethodId) (args : Array Value) (below : List Frame) (meth : Method) (c : Code) (Q : State → Prop) (D : va_G) (base bb : Nat) (o : Option (List Int)) (f n0 s0 : Nat) (ad0 : Nat → Nat) (ac0 : Nat → ClassId) (pc : Nat) (ls st : List AV) (σ : Sh) (M : Mo) : Prop :=
  ∀ (H : Heap) (locs : List Loc) (cells slots : Nat) (lsm : Array Slot) (ad : Nat → Nat) (ac : Nat → ClassId), Ok D base bb o f n0 s0 ad0 ac0 s H locs cells slots lsm ls st σ M ad ac → W p l e R s m args below meth c H locs cells slots Q (F0 m pc lsm (st.map (cv ad bb)))
/-! numbers -/
theorem i32_rng (x : Int32) : -2147483648 ≤ x.toInt ∧ x.toInt < 2147483648 := ⟨Int32.le_toInt x, Int32.toInt_lt x⟩
theorem i64_rng (x : Int64) : -9223372036854775808 ≤ x.toInt ∧ x.toInt < 9223372036854775808 := ⟨Int64.le_toInt x, Int64.toInt_lt x⟩
theorem i32_of {z : Int} (h : -2147483648 ≤ z ∧ z < 2147483648) : (Int32.ofInt z).toInt = z := by
  rw [Int32.toInt_ofInt, show Int32.size = 4294967296 from rfl, Int.bmod_eq_of_le (by omega) (by omega)]
theorem i64_of {z : Int} (h : -9223372036854775808 ≤ z ∧ z < 9223372036854775808) : (Int64.ofInt z).toInt = z := by
  rw [Int64.toInt_ofInt, show Int64.size = 18446744073709551616 from rfl, Int.bmod_eq_of_le (by omega) (by omega)]
theorem i32_lt {x y : Int} (hx : -2147483648 ≤ x ∧ x < 2147483648) (hy : -2147483648 ≤ y ∧ y < 2147483648) : Int32.ofInt x < Int32.ofInt y ↔ x < y := by
  rw [Int32.lt_iff_toInt_lt, i32_of hx, i32_of hy]
theorem i32_le {x y : Int} (hx : -2147483648 ≤ x ∧ x < 2147483648) (hy : -2147483648 ≤ y ∧ y < 2147483648) : Int32.ofInt x ≤ Int32.ofInt y ↔ x ≤ y := by
  rw [Int32.le_iff_toInt_le, i32_of hx, i32_of hy]
theorem i32_eq {x y : Int} (hx : -2147483648 ≤ x ∧ x < 2147483648) (hy : -2147483648 ≤ y ∧ y < 2147483648) : Int32.ofInt x = Int32.ofInt y ↔ x = y := by
  rw [← Int32.toInt_inj, i32_of hx, i32_of hy]
theorem i64_lt {x y : Int} (hx : -9223372036854775808 ≤ x ∧ x < 9223372036854775808) (hy : -9223372036854775808 ≤ y ∧ y < 9223372036854775808) : Int64.ofInt x < Int64.ofInt y ↔ x < y := by
  rw [Int64.lt_iff_toInt_lt, i64_of hx, i64_of hy]
theorem i64_eq {x y : Int} (hx : -9223372036854775808 ≤ x ∧ x < 9223372036854775808) (hy : -9223372036854775808 ≤ y ∧ y < 9223372036854775808) : Int64.ofInt x = Int64.ofInt y ↔ x = y := by
  rw [← Int64.toInt_inj, i64_of hx, i64_of hy]
theorem okv_i (o : Option (List Int)) (n : Nat) (x : Int32) : okv o n (0, x.toInt) := ⟨⟨fun _ => i32_rng x, fun h => absurd h (by simp), fun h => absurd h (by simp)⟩, fun h => absurd h (by simp), fun h => absurd h (by simp), Or.inl (by simp)⟩
theorem okv_l (o : Option (List Int)) (n : Nat) (x : Int64) : okv o n (1, x.toInt) := ⟨⟨fun h => absurd h (by simp), fun _ => i64_rng x, fun h => absurd h (by simp)⟩, fun h => absurd h (by simp), fun h => absurd h (by simp), Or.inl (by simp)⟩
theorem okv_z {o : Option (List Int)} {n : Nat} {z : Int} (h : -2147483648 ≤ z ∧ z < 2147483648) : okv o n (0, z) := by
  have := okv_i o n (Int32.ofInt z)
  rwa [i32_of h] at this
theorem okv_w {o : Option (List Int)} {n : Nat} {z : Int} (h : -9223372036854775808 ≤ z ∧ z < 9223372036854775808) : okv o n (1, z) := by
  have := okv_l o n (Int64.ofInt z)
  rwa [i64_of h] at this
theorem okv_r {o : Option (List Int)} {n : Nat} {z : Int} (h : 0 ≤ z ∧ z < n) : okv o n (2, z) := ⟨⟨fun h => absurd h (by simp), fun h => absurd h (by simp), fun _ => ⟨by omega, h.2⟩⟩, fun _ => h.1, fun h => absurd h (by simp), Or.inl (by simp)⟩
theorem vp_in_i {i : Int} {n : Nat} (h0 : 0 ≤ i) (h1 : i < n) (hr : -2147483648 ≤ i ∧ i < 2147483648) : vp_in (Int32.ofInt i) n ∧ (Int32.ofInt i).toNatClampNeg = i.toNat := by
  have h := i32_of hr
  constructor
  · rw [vp_in_iff, h]; exact ⟨h0, h1⟩
  · unfold Int32.toNatClampNeg
    rw [h]
/-! cells -/
theorem shp_spec {σ : Sh} {a : Int} {kd ln : Nat} (h : shp σ a = (kd, ln)) (hk : kd ≠ 99) : ∃ k : Nat, a = k ∧ k < σ.length ∧ sg σ k = (kd, ln) := by
  unfold shp at h
  by_cases ha : a < 0
  · rw [if_pos ha] at h
    cases h
    exact absurd rfl hk
  · rw [if_neg ha] at h
    refine ⟨a.toNat, by omega, ?_, h⟩
    rcases Nat.lt_or_ge a.toNat σ.length with q | q
    · exact q
    · rw [List.getD_eq_getElem?_getD, List.getElem?_eq_none q] at h
      cases h
      exact absurd rfl hk
theorem wso_len (ad : Nat → Nat) (ac : Nat → ClassId) (σ : Sh) (M : Mo) : (wso ad ac σ M).length = σ.length := by simp [wso]
theorem wso_get (ad : Nat → Nat) (ac : Nat → ClassId) (σ : Sh) (M : Mo) {k : Nat} (h : k < σ.length) : (wso ad ac σ M)[k]? = some (ad k, arc ad ac k (sg σ k).1 (sg σ k).2 (M k)) := by
  simp [wso, h]
theorem wso_set (ad : Nat → Nat) (ac : Nat → ClassId) (σ : Sh) (M M' : Mo) {k : Nat} {e' : va_E} (h : k < σ.length) (he : arc ad ac k (sg σ k).1 (sg σ k).2 (M' k) = e') (ho : ∀ j : Nat, j ≠ k → M' j = M j) : (wso ad ac σ M).set k (ad k, e') = wso ad ac σ M' := by
  apply List.ext_getElem?
  intro j
  by_cases hj : j = k
  · subst hj
    rw [List.getElem?_set_self (by rw [wso_len]; exact h), wso_get _ _ _ _ h, he]
  · rw [List.getElem?_set_ne (Ne.symm hj)]
    by_cases hl : j < σ.length
    · rw [wso_get _ _ _ _ hl, wso_get _ _ _ _ hl, ho j hj]
    · rw [List.getElem?_eq_none (by rw [wso_len]; omega), List.getElem?_eq_none (by rw [wso_len]; omega)]
theorem up2_ne (M : Mo) (k : Nat) (i v : Int) {j : Nat} (h : j ≠ k) : up2 M k i v j = M j := by
  funext y
  unfold up2
  rw [if_neg (by rintro ⟨q, -⟩; exact h (by exact_mod_cast q))]
theorem up2_eq (M : Mo) (k : Nat) (i v : Int) : up2 M k i v k = fun y => if y = i then v else M k y := by
  funext y
  unfold up2
  simp
theorem wfm_up {σ : Sh} {M : Mo} (h : wfm σ M) {k : Nat} {i : Int} {v : Int} (hv : ∀ j : Nat, (j : Int) = i → wfz σ.length (tgk (sg σ k).1 j) v) : wfm σ (up2 M k i v) := by
  intro q hq j hj
  by_cases e : q = k
  · subst e
    rw [up2_eq]
    dsimp only
    split
    · rename_i hi
      exact hv j hi
    · exact h q hq j hj
  · rw [up2_ne _ _ _ _ e]
    exact h q hq j hj
theorem sg_app_lt {σ τ : Sh} {k : Nat} (h : k < σ.length) : sg (σ ++ τ) k = sg σ k := by
  unfold sg
  rw [List.getD_eq_getElem?_getD, List.getD_eq_getElem?_getD, List.getElem?_append_left h]
theorem sg_app_eq {σ : Sh} {x : Nat × Nat} : sg (σ ++ [x]) σ.length = x := by
  unfold sg
  rw [List.getD_eq_getElem?_getD, List.getElem?_append_right (Nat.le_refl _)]
  simp
theorem wfz_mono {n n' t : Nat} {z : Int} (h : wfz n t z) (hn : n ≤ n') : wfz n' t z := ⟨h.1, h.2.1, fun q => ⟨(h.2.2 q).1, by have := (h.2.2 q).2; omega⟩⟩
theorem okv_mono {o : Option (List Int)} {n n' : Nat} {v : AV} (h : okv o n v) (hn : n ≤ n') : okv o n' v := ⟨wfz_mono h.1 hn, h.2⟩
theorem cv_ad {o : Option (List Int)} {n : Nat} {ad ad' : Nat → Nat} {bb : Nat} {v : AV} (h : okv o n v) (ha : ∀ k, k < n → ad' k = ad k) : cv ad' bb v = cv ad bb v := by
  obtain ⟨t, z⟩ := v
  by_cases h2 : t = 2
  · subst h2
    have h0 : 0 ≤ z := h.2.1 rfl
    have h1 : z < n := (h.1.2.2 rfl).2
    rw [cv2 _ _ h0, cv2 _ _ h0, ha _ (by omega)]
  · unfold cv
    simp only [h2, if_false]
theorem rfo_ad {n : Nat} {ad ad' : Nat → Nat} {z : Int} (h : z < n) (ha : ∀ k, k < n → ad' k = ad k) : rfo ad' z = rfo ad z := by
  unfold rfo
  by_cases hz : z < 0
  · rw [if_pos hz, if_pos hz]
  · rw [if_neg hz, if_neg hz, ha _ (by omega)]
/-! locals -/
def asl (ad : Nat → Nat) (bb : Nat) (ls : List AV) : List (Nat × Value) := (List.range ls.length).filterMap (fun i => (ls[i]?).bind (fun v => if v.1 = 9 then none else some (i, cv ad bb v)))
theorem asl_mem {ad : Nat → Nat} {bb : Nat} {ls : List AV} {q : Nat × Value} : q ∈ asl ad bb ls ↔ ∃ v : AV, ls[q.1]? = some v ∧ v.1 ≠ 9 ∧ q.2 = cv ad bb v := by
  unfold asl
  rw [List.mem_filterMap]
  constructor
  · rintro ⟨i, hi, h⟩
    cases hv : ls[i]? with
    | none => rw [hv] at h; cases h
    | some v =>
      rw [hv] at h
      simp only [Option.bind_some] at h
      by_cases h9 : v.1 = 9
      · rw [if_pos h9] at h; cases h
      · rw [if_neg h9] at h
        cases h
        exact ⟨v, hv, h9, rfl⟩
  · rintro ⟨v, hv, h9, he⟩
    refine ⟨q.1, List.mem_range.mpr (List.getElem?_eq_some_iff.mp hv).1, ?_⟩
    rw [hv]
    simp only [Option.bind_some, if_neg h9]
    rw [← he]
theorem Lc.has {ad : Nat → Nat} {bb f : Nat} {lsm : Array Slot} {ls : List AV} (h : Lc ad bb f lsm ls) : lv_has lsm (mxl f) (asl ad bb ls) := by
  refine ⟨h.1, h.2.1, fun q hq => ?_⟩
  obtain ⟨v, h1, h2, h3⟩ := asl_mem.mp hq
  rw [h3]
  exact h.2.2.2 q.1 v h1 h2
theorem stl_len (ls : List AV) (i : Nat) (v : AV) : (stl ls i v).length = ls.length := by
  unfold stl
  cases i with
  | zero => dsimp only; split <;> simp
  | succ j =>
    dsimp only
    split <;> split <;> simp
theorem stl_get {ls : List AV} {i j : Nat} {v w : AV} (hi : i < ls.length) (hw : (stl ls i v)[j]? = some w) (h9 : w.1 ≠ 9) : (j = i ∧ w = v) ∨ (j ≠ i ∧ (v.1 = 1 → j ≠ i + 1) ∧ ls[j]? = some w ∧ ¬ (j + 1 = i ∧ w.1 = 1)) := by
  have key : ∀ (l1 : List AV), l1 = (if v.1 = 1 then (ls.set i v).set (i + 1) (9, 0) else ls.set i v) → l1[j]? = some w → (j = i ∧ w = v) ∨ (j ≠ i ∧ (v.1 = 1 → j ≠ i + 1) ∧ ls[j]? = some w) := by
    intro l1 hl hw
    subst hl
    by_cases h1 : v.1 = 1
    · rw [if_pos h1] at hw
      by_cases e1 : j = i + 1
      · subst e1
        by_cases hlt : i + 1 < ls.length
        · rw [List.getElem?_set_self (by simpa using hlt)] at hw
          cases hw
          exact absurd rfl h9
        · rw [List.getElem?_eq_none (by simp; omega)] at hw
          cases hw
      · rw [List.getElem?_set_ne (Ne.symm e1)] at hw
        by_cases e2 : j = i
        · subst e2
          rw [List.getElem?_set_self hi] at hw
          cases hw
          exact Or.inl ⟨rfl, rfl⟩
        · rw [List.getElem?_set_ne (Ne.symm e2)] at hw
          exact Or.inr ⟨e2, fun _ => e1, hw⟩
    · rw [if_neg h1] at hw
      by_cases e2 : j = i
      · subst e2
        rw [List.getElem?_set_self hi] at hw
        cases hw
        exact Or.inl ⟨rfl, rfl⟩
      · rw [List.getElem?_set_ne (Ne.symm e2)] at hw
        exact Or.inr ⟨e2, fun h => absurd h h1, hw⟩
  unfold stl at hw
  cases i with
  | zero =>
    rcases key _ rfl hw with h | ⟨a, b, d⟩
    · exact Or.inl h
    · exact Or.inr ⟨a, b, d, fun q => absurd q.1 (by omega)⟩
  | succ i =>
    dsimp only at hw
    split at hw
    · rename_i z hz
      by_cases e : j = i
      · subst e
        rw [List.getElem?_set_self (by split <;> simp <;> omega)] at hw
        cases hw
        exact absurd rfl h9
      · rw [List.getElem?_set_ne (Ne.symm e)] at hw
        rcases key _ rfl hw with h | ⟨a, b, d⟩
        · exact Or.inl h
        · exact Or.inr ⟨a, b, d, fun q => e (by omega)⟩
    · rename_i hz
      rcases key _ rfl hw with h | ⟨a, b, d⟩
      · exact Or.inl h
      · refine Or.inr ⟨a, b, d, fun q => ?_⟩
        have e : j = i := by omega
        subst e
        obtain ⟨t, z⟩ := w
        have : t = 1 := q.2
        subst this
        exact hz z d
theorem stl_ok {o : Option (List Int)} {n : Nat} {ls : List AV} {i : Nat} {v : AV} (h : ∀ w ∈ ls, okv o n w) (hv : okv o n v) (hi : i < ls.length) : ∀ w ∈ stl ls i v, okv o n w := by
  intro w hw
  obtain ⟨j, hj⟩ := List.getElem?_of_mem hw
  by_cases h9 : w.1 = 9
  · exact ⟨⟨fun q => by omega, fun q => by omega, fun q => by omega⟩, fun q => by omega, fun q => by omega, Or.inr (Or.inr h9)⟩
  · rcases stl_get hi hj h9 with ⟨-, rfl⟩ | ⟨-, -, h1, -⟩
    · exact hv
    · exact h w (List.mem_of_getElem? h1)
theorem Lc.st1 {ad : Nat → Nat} {bb f : Nat} {lsm ls' : Array Slot} {ls : List AV} {i : Nat} {v : AV} (h : Lc ad bb f lsm ls) (hi : i < ls.length) (hn : lv_has ls' (mxl f) ((i, cv ad bb v) :: (asl ad bb ls).filter (fun q => !(q.1 == i) && !(q.1 + 1 == i && q.2.category == 2)))) : Lc ad bb f ls' (stl ls i v) := by
  refine ⟨hn.1, hn.2.1, by rw [stl_len]; exact h.2.2.1, fun j w hw h9 => ?_⟩
  rcases stl_get hi hw h9 with ⟨rfl, rfl⟩ | ⟨h1, h2, h3, h4⟩
  · exact hn.2.2 _ List.mem_cons_self
  · refine hn.2.2 (j, cv ad bb w) (List.mem_cons_of_mem _ (List.mem_filter.mpr ⟨asl_mem.mpr ⟨w, h3, h9, rfl⟩, ?_⟩))
    simp only [cv_cat]
    have hc : ¬ (j + 1 = i ∧ catv w = 2) := fun q => h4 ⟨q.1, by
      have := q.2
      unfold catv at this
      by_cases e : w.1 = 1
      · exact e
      · rw [if_neg e] at this; omega⟩
    simp only [Bool.and_eq_true, Bool.not_eq_true', beq_eq_false_iff_ne, ne_eq, Bool.and_eq_false_iff]
    refine ⟨h1, ?_⟩
    by_cases e : j + 1 = i
    · exact Or.inr (fun q => hc ⟨e, q⟩)
    · exact Or.inl e
theorem Lc.st2 {ad : Nat → Nat} {bb f : Nat} {lsm ls' : Array Slot} {ls : List AV} {i : Nat} {v : AV} (h : Lc ad bb f lsm ls) (hv : v.1 = 1) (hi : i < ls.length) (hn : lv_has ls' (mxl f) ((i, cv ad bb v) :: (asl ad bb ls).filter (fun q => !(q.1 == i) && (!(q.1 == i + 1) && !(q.1 + 1 == i && q.2.category == 2))))) : Lc ad bb f ls' (stl ls i v) := by
  refine ⟨hn.1, hn.2.1, by rw [stl_len]; exact h.2.2.1, fun j w hw h9 => ?_⟩
  rcases stl_get hi hw h9 with ⟨rfl, rfl⟩ | ⟨h1, h2, h3, h4⟩
  · exact hn.2.2 _ List.mem_cons_self
  · refine hn.2.2 (j, cv ad bb w) (List.mem_cons_of_mem _ (List.mem_filter.mpr ⟨asl_mem.mpr ⟨w, h3, h9, rfl⟩, ?_⟩))
    simp only [cv_cat]
    have hc : ¬ (j + 1 = i ∧ catv w = 2) := fun q => h4 ⟨q.1, by
      have := q.2
      unfold catv at this
      by_cases e : w.1 = 1
      · exact e
      · rw [if_neg e] at this; omega⟩
    simp only [Bool.and_eq_true, Bool.not_eq_true', beq_eq_false_iff_ne, ne_eq, Bool.and_eq_false_iff]
    refine ⟨h1, h2 hv, ?_⟩
    by_cases e : j + 1 = i
    · exact Or.inr (fun q => hc ⟨e, q⟩)
    · exact Or.inl e
end
section
/-! Each simple instruction of the abstract machine is one of the JVM. -/
section
variable {p : Program} {l : Launch} {e : Env} {R : Room} {s : State} {m : MethodId} {args : Array Value} {below : List Frame} {meth : Method} {c : Code} {Q : State → Prop} {D : va_G} {base bb : Nat} {o : Option (List Int)} {f n0 s0 : Nat} {ad0 : Nat → Nat} {ac0 : Nat → ClassId}
variable {pc pc' len : Nat} {ls st ls' st' : List AV} {σ σ' : Sh} {M M' : Mo}
theorem nx_inj {pc pc' : Nat} {ls st ls' st' : List AV} {σ σ' : Sh} {M M' : Mo} (h : nx pc ls st σ M = some (.inl (pc', ls', st', σ', M'))) : pc' = pc ∧ ls' = ls ∧ st' = st ∧ σ' = σ ∧ M' = M := by
  unfold nx at h
  cases h
  exact ⟨rfl, rfl, rfl, rfl, rfl⟩
theorem Ok.stk {H : Heap} {locs : List Loc} {cells slots : Nat} {lsm : Array Slot} {ad : Nat → Nat} {ac : Nat → ClassId} (h : Ok D base bb o f n0 s0 ad0 ac0 s H locs cells slots lsm ls st σ M ad ac) (hs : ∀ v ∈ st', okv o σ.length v ∧ v.1 ≠ 9) : Ok D base bb o f n0 s0 ad0 ac0 s H locs cells slots lsm ls st' σ M ad ac :=
  ⟨h.1, h.2.1, h.2.2.1, h.2.2.2.1, hs, h.2.2.2.2.2⟩
theorem Ok.sto {H : Heap} {locs : List Loc} {cells slots : Nat} {lsm : Array Slot} {ad : Nat → Nat} {ac : Nat → ClassId} (h : Ok D base bb o f n0 s0 ad0 ac0 s H locs cells slots lsm ls st σ M ad ac) : ∀ v ∈ st, okv o σ.length v ∧ v.1 ≠ 9 := h.2.2.2.2.1
theorem ok_c1 {n : Nat} {v : AV} {st : List AV} (hv : okv o n v) (h9 : v.1 ≠ 9) (h : ∀ w ∈ st, okv o n w ∧ w.1 ≠ 9) : ∀ w ∈ v :: st, okv o n w ∧ w.1 ≠ 9 := by
  intro w hw
  rcases List.mem_cons.mp hw with rfl | hw
  · exact ⟨hv, h9⟩
  · exact h w hw
theorem ok_t1 {n : Nat} {v : AV} {st : List AV} (h : ∀ w ∈ v :: st, okv o n w ∧ w.1 ≠ 9) : ∀ w ∈ st, okv o n w ∧ w.1 ≠ 9 := fun w hw => h w (List.mem_cons_of_mem _ hw)
theorem ok_rng {n : Nat} {x : Int} {st : List AV} (h : ∀ w ∈ (0, x) :: st, okv o n w ∧ w.1 ≠ 9) : -2147483648 ≤ x ∧ x < 2147483648 := (h _ List.mem_cons_self).1.1.1 rfl
theorem ok_rngl {n : Nat} {x : Int} {st : List AV} (h : ∀ w ∈ (1, x) :: st, okv o n w ∧ w.1 ≠ 9) : -9223372036854775808 ≤ x ∧ x < 9223372036854775808 := (h _ List.mem_cons_self).1.1.2.1 rfl
theorem ok_rngr {n : Nat} {x : Int} {st : List AV} (h : ∀ w ∈ (2, x) :: st, okv o n w ∧ w.1 ≠ 9) : 0 ≤ x ∧ x < n := ⟨(h _ List.mem_cons_self).1.2.1 rfl, ((h _ List.mem_cons_self).1.1.2.2 rfl).2⟩
theorem g_bi {g : Int32 → Int32 → Int32} (row : len = 1 → ∀ (H : Heap) (locs : List Loc) (cells slots : Nat) (lsm : Array Slot) (x y : Int32) (rest : List Value), W p l e R s m args below meth c H locs cells slots Q (F0 m (pc + 1) lsm (.int (g x y) :: rest)) → W p l e R s m args below meth c H locs cells slots Q (F0 m pc lsm (.int y :: .int x :: rest)))
    (h : bi g len pc ls st σ M = some (.inl (pc', ls', st', σ', M'))) (hG : G p l e R s m args below meth c Q D base bb o f n0 s0 ad0 ac0 pc' ls' st' σ' M') : G p l e R s m args below meth c Q D base bb o f n0 s0 ad0 ac0 pc ls st σ M := by
  unfold bi at h
  split at h
  · rename_i hl
    split at h
    · rename_i y x st0
      obtain ⟨rfl, rfl, rfl, rfl, rfl⟩ := nx_inj h
      intro H locs cells slots lsm ad ac hk
      have k := hG H locs cells slots lsm ad ac (hk.stk (ok_c1 (okv_i _ _ _) (by simp) (ok_t1 (ok_t1 hk.sto))))
      rw [List.map_cons, cv0, Int32.ofInt_toInt] at k
      exact row hl H locs cells slots lsm _ _ _ k
    · cases h
  · cases h
theorem g_bz {g : Int32 → Int32 → Int32} (row : len = 1 → ∀ (H : Heap) (locs : List Loc) (cells slots : Nat) (lsm : Array Slot) (x y : Int32) (rest : List Value), ¬ y = 0 → W p l e R s m args below meth c H locs cells slots Q (F0 m (pc + 1) lsm (.int (g x y) :: rest)) → W p l e R s m args below meth c H locs cells slots Q (F0 m pc lsm (.int y :: .int x :: rest)))
    (h : bz g len pc ls st σ M = some (.inl (pc', ls', st', σ', M'))) (hG : G p l e R s m args below meth c Q D base bb o f n0 s0 ad0 ac0 pc' ls' st' σ' M') : G p l e R s m args below meth c Q D base bb o f n0 s0 ad0 ac0 pc ls st σ M := by
  unfold bz at h
  split at h
  · rename_i hl
    split at h
    · rename_i y x st0
      split at h
      · cases h
      · rename_i hne
        obtain ⟨rfl, rfl, rfl, rfl, rfl⟩ := nx_inj h
        intro H locs cells slots lsm ad ac hk
        have k := hG H locs cells slots lsm ad ac (hk.stk (ok_c1 (okv_i _ _ _) (by simp) (ok_t1 (ok_t1 hk.sto))))
        rw [List.map_cons, cv0, Int32.ofInt_toInt] at k
        exact row hl H locs cells slots lsm _ _ _ hne k
    · cases h
  · cases h
theorem g_bl {g : Int64 → Int64 → Int64} (row : len = 1 → ∀ (H : Heap) (locs : List Loc) (cells slots : Nat) (lsm : Array Slot) (x y : Int64) (rest : List Value), W p l e R s m args below meth c H locs cells slots Q (F0 m (pc + 1) lsm (.long (g x y) :: rest)) → W p l e R s m args below meth c H locs cells slots Q (F0 m pc lsm (.long y :: .long x :: rest)))
    (h : bl g len pc ls st σ M = some (.inl (pc', ls', st', σ', M'))) (hG : G p l e R s m args below meth c Q D base bb o f n0 s0 ad0 ac0 pc' ls' st' σ' M') : G p l e R s m args below meth c Q D base bb o f n0 s0 ad0 ac0 pc ls st σ M := by
  unfold bl at h
  split at h
  · rename_i hl
    split at h
    · rename_i y x st0
      obtain ⟨rfl, rfl, rfl, rfl, rfl⟩ := nx_inj h
      intro H locs cells slots lsm ad ac hk
      have k := hG H locs cells slots lsm ad ac (hk.stk (ok_c1 (okv_l _ _ _) (by simp) (ok_t1 (ok_t1 hk.sto))))
      rw [List.map_cons, cv1, Int64.ofInt_toInt] at k
      exact row hl H locs cells slots lsm _ _ _ k
    · cases h
  · cases h
theorem g_blz {g : Int64 → Int64 → Int64} (row : len = 1 → ∀ (H : Heap) (locs : List Loc) (cells slots : Nat) (lsm : Array Slot) (x y : Int64) (rest : List Value), ¬ y = 0 → W p l e R s m args below meth c H locs cells slots Q (F0 m (pc + 1) lsm (.long (g x y) :: rest)) → W p l e R s m args below meth c H locs cells slots Q (F0 m pc lsm (.long y :: .long x :: rest)))
    (h : blz g len pc ls st σ M = some (.inl (pc', ls', st', σ', M'))) (hG : G p l e R s m args below meth c Q D base bb o f n0 s0 ad0 ac0 pc' ls' st' σ' M') : G p l e R s m args below meth c Q D base bb o f n0 s0 ad0 ac0 pc ls st σ M := by
  unfold blz at h
  split at h
  · rename_i hl
    split at h
    · rename_i y x st0
      split at h
      · cases h
      · rename_i hne
        obtain ⟨rfl, rfl, rfl, rfl, rfl⟩ := nx_inj h
        intro H locs cells slots lsm ad ac hk
        have k := hG H locs cells slots lsm ad ac (hk.stk (ok_c1 (okv_l _ _ _) (by simp) (ok_t1 (ok_t1 hk.sto))))
        rw [List.map_cons, cv1, Int64.ofInt_toInt] at k
        exact row hl H locs cells slots lsm _ _ _ hne k
    · cases h
  · cases h
theorem g_bs {g : Int64 → Int32 → Int64} (row : len = 1 → ∀ (H : Heap) (locs : List Loc) (cells slots : Nat) (lsm : Array Slot) (x : Int64) (y : Int32) (rest : List Value), W p l e R s m args below meth c H locs cells slots Q (F0 m (pc + 1) lsm (.long (g x y) :: rest)) → W p l e R s m args below meth c H locs cells slots Q (F0 m pc lsm (.int y :: .long x :: rest)))
    (h : bs g len pc ls st σ M = some (.inl (pc', ls', st', σ', M'))) (hG : G p l e R s m args below meth c Q D base bb o f n0 s0 ad0 ac0 pc' ls' st' σ' M') : G p l e R s m args below meth c Q D base bb o f n0 s0 ad0 ac0 pc ls st σ M := by
  unfold bs at h
  split at h
  · rename_i hl
    split at h
    · rename_i y x st0
      obtain ⟨rfl, rfl, rfl, rfl, rfl⟩ := nx_inj h
      intro H locs cells slots lsm ad ac hk
      have k := hG H locs cells slots lsm ad ac (hk.stk (ok_c1 (okv_l _ _ _) (by simp) (ok_t1 (ok_t1 hk.sto))))
      rw [List.map_cons, cv1, Int64.ofInt_toInt] at k
      exact row hl H locs cells slots lsm _ _ _ k
    · cases h
  · cases h
theorem g_push {v : AV} (hv : okv o σ.length v) (h9 : v.1 ≠ 9) (row : ∀ (H : Heap) (locs : List Loc) (cells slots : Nat) (lsm : Array Slot) (ad : Nat → Nat) (rest : List Value), W p l e R s m args below meth c H locs cells slots Q (F0 m pc' lsm (cv ad bb v :: rest)) → W p l e R s m args below meth c H locs cells slots Q (F0 m pc lsm rest))
    (hG : G p l e R s m args below meth c Q D base bb o f n0 s0 ad0 ac0 pc' ls (v :: st) σ M) : G p l e R s m args below meth c Q D base bb o f n0 s0 ad0 ac0 pc ls st σ M := by
  intro H locs cells slots lsm ad ac hk
  exact row H locs cells slots lsm ad _ (hG H locs cells slots lsm ad ac (hk.stk (ok_c1 hv h9 hk.sto)))
theorem g_cst {z : Int} {k : Nat} (row : len = k → -128 ≤ z → z < 128 → ∀ (H : Heap) (locs : List Loc) (cells slots : Nat) (lsm : Array Slot) (rest : List Value), W p l e R s m args below meth c H locs cells slots Q (F0 m (pc + k) lsm (.int (Int32.ofInt z) :: rest)) → W p l e R s m args below meth c H locs cells slots Q (F0 m pc lsm rest))
    (h : cst z len k pc ls st σ M = some (.inl (pc', ls', st', σ', M'))) (hG : G p l e R s m args below meth c Q D base bb o f n0 s0 ad0 ac0 pc' ls' st' σ' M') : G p l e R s m args below meth c Q D base bb o f n0 s0 ad0 ac0 pc ls st σ M := by
  unfold cst at h
  split at h
  · rename_i hl
    obtain ⟨rfl, rfl, rfl, rfl, rfl⟩ := nx_inj h
    exact g_push (okv_z (by omega)) (by simp) (fun H locs cells slots lsm ad rest kk => row hl.1 hl.2.1 hl.2.2 H locs cells slots lsm rest kk) hG
  · cases h
theorem g_ald {t k i : Nat} (row : len = k → ∀ (H : Heap) (locs : List Loc) (cells slots : Nat) (lsm : Array Slot) (ad : Nat → Nat) (z : Int) (rest : List Value), lsm[i]? = some (.val (cv ad bb (t, z))) → W p l e R s m args below meth c H locs cells slots Q (F0 m (pc + k) lsm (cv ad bb (t, z) :: rest)) → W p l e R s m args below meth c H locs cells slots Q (F0 m pc lsm rest)) (ht : t ≠ 9)
    (h : ald t len k pc i ls st σ M = some (.inl (pc', ls', st', σ', M'))) (hG : G p l e R s m args below meth c Q D base bb o f n0 s0 ad0 ac0 pc' ls' st' σ' M') : G p l e R s m args below meth c Q D base bb o f n0 s0 ad0 ac0 pc ls st σ M := by
  unfold ald at h
  split at h
  · rename_i hl
    split at h
    · rename_i v hv
      split at h
      · rename_i ht2
        obtain ⟨rfl, rfl, rfl, rfl, rfl⟩ := nx_inj h
        intro H locs cells slots lsm ad ac hk
        have hm := List.mem_of_getElem? hv
        have k2 := hG H locs cells slots lsm ad ac (hk.stk (ok_c1 (hk.2.2.2.1 v hm) (by rw [ht2]; exact ht) hk.sto))
        have k3 := hk.2.2.1.2.2.2 i v hv (by rw [ht2]; exact ht)
        obtain ⟨t', z⟩ := v
        have ht2 : t' = t := ht2
        subst ht2
        exact row hl H locs cells slots lsm ad z _ k3 k2
      · cases h
    · cases h
  · cases h
theorem g_alda {k i : Nat} (row : len = k → ∀ (H : Heap) (locs : List Loc) (cells slots : Nat) (lsm : Array Slot) (a : Nat) (rest : List Value), lsm[i]? = some (.val (.ref a)) → W p l e R s m args below meth c H locs cells slots Q (F0 m (pc + k) lsm (.ref a :: rest)) → W p l e R s m args below meth c H locs cells slots Q (F0 m pc lsm rest))
    (h : alda len k pc i ls st σ M = some (.inl (pc', ls', st', σ', M'))) (hG : G p l e R s m args below meth c Q D base bb o f n0 s0 ad0 ac0 pc' ls' st' σ' M') : G p l e R s m args below meth c Q D base bb o f n0 s0 ad0 ac0 pc ls st σ M := by
  unfold alda at h
  split at h
  · rename_i hl
    split at h
    · rename_i v hv
      split at h
      · rename_i ht2
        obtain ⟨rfl, rfl, rfl, rfl, rfl⟩ := nx_inj h
        intro H locs cells slots lsm ad ac hk
        have hm := List.mem_of_getElem? hv
        have h9 : v.1 ≠ 9 := by omega
        have k2 := hG H locs cells slots lsm ad ac (hk.stk (ok_c1 (hk.2.2.2.1 v hm) h9 hk.sto))
        have k3 := hk.2.2.1.2.2.2 i v hv h9
        obtain ⟨t', z⟩ := v
        have ht2 : t' = 2 ∧ 0 ≤ z ∨ t' = 4 := ht2
        rcases ht2 with ⟨rfl, h0⟩ | rfl
        · rw [List.map_cons, cv2 _ _ h0] at k2
          rw [cv2 _ _ h0] at k3
          exact row hl H locs cells slots lsm _ _ k3 k2
        · rw [List.map_cons, cv4] at k2
          rw [cv4] at k3
          exact row hl H locs cells slots lsm _ _ k3 k2
      · cases h
    · cases h
  · cases h
theorem g_ast {t k i : Nat} (ht : t ≤ 2) (row : len = k → ∀ (H : Heap) (locs : List Loc) (cells slots : Nat) (lsm : Array Slot) (ad : Nat → Nat) (z : Int) (rest : List Value), i + (if t = 1 then 1 else 0) < mxl f → (t = 2 → 0 ≤ z) → lv_has lsm (mxl f) (asl ad bb ls) → (∀ ls' : Array Slot, lv_has ls' (mxl f) ((i, cv ad bb (t, z)) :: (asl ad bb ls).filter (fun q => !(q.1 == i) && (if t = 1 then (!(q.1 == i + 1) && !(q.1 + 1 == i && q.2.category == 2)) else !(q.1 + 1 == i && q.2.category == 2)))) → W p l e R s m args below meth c H locs cells slots Q (F0 m (pc + k) ls' rest)) → W p l e R s m args below meth c H locs cells slots Q (F0 m pc lsm (cv ad bb (t, z) :: rest)))
    (h : ast t len k pc i ls st σ M = some (.inl (pc', ls', st', σ', M'))) (hG : G p l e R s m args below meth c Q D base bb o f n0 s0 ad0 ac0 pc' ls' st' σ' M') : G p l e R s m args below meth c Q D base bb o f n0 s0 ad0 ac0 pc ls st σ M := by
  unfold ast at h
  split at h
  · rename_i hl
    split at h
    · rename_i v st0
      by_cases hc : v.1 = t ∧ i + (if t = 1 then 1 else 0) < ls.length ∧ (t = 2 → 0 ≤ v.2)
      · rw [if_pos hc] at h
        obtain ⟨rfl, rfl, rfl, rfl, rfl⟩ := nx_inj h
        intro H locs cells slots lsm ad ac hk
        obtain ⟨t', z⟩ := v
        obtain ⟨hc1, hc2, hc3⟩ := hc
        have hc1 : t' = t := hc1
        subst hc1
        have hi : i < ls.length := by split at hc2 <;> omega
        have hlen : ls.length = mxl f := hk.2.2.1.2.2.1
        refine row hl H locs cells slots lsm ad z _ (by rw [← hlen]; exact hc2) hc3 hk.2.2.1.has (fun ls' hn => ?_)
        have hvk := (hk.sto _ List.mem_cons_self).1
        refine hG H locs cells slots ls' ad ac ⟨hk.1, hk.2.1, ?_, stl_ok hk.2.2.2.1 hvk hi, ok_t1 hk.sto, hk.2.2.2.2.2⟩
        by_cases h1 : t' = 1
        · subst h1
          simp only [if_true] at hn
          exact hk.2.2.1.st2 rfl hi hn
        · simp only [if_neg h1] at hn
          exact hk.2.2.1.st1 hi hn
      · rw [if_neg hc] at h
        cases h
    · cases h
  · cases h
theorem jm_spec {off : Int} (h : jm pc off ls st σ M = some (.inl (pc', ls', st', σ', M'))) : (pc : Int) + off = (pc' : Int) ∧ ls' = ls ∧ st' = st ∧ σ' = σ ∧ M' = M := by
  unfold jm at h
  split at h
  · obtain ⟨rfl, h2⟩ := nx_inj h
    exact ⟨by omega, h2⟩
  · cases h
end
end
section
/-! The heap's instructions. -/
theorem TG_in {p : Nat} {w : Cond} (h : atp p = some w) (hg : goodWord w = true) : w ∈ TG := List.mem_filter.mpr ⟨atp_in h, hg⟩
theorem vw_get {ci : Nat} (h : ci < 11) : vwCl[ci]? = some (vwCl.getD ci ("", TX0, 0)) := by
  rw [List.getD_eq_getElem?_getD, List.getElem?_eq_getElem (by rw [cl_len]; exact h)]
  rfl
theorem vw_get2 {ci : Nat} (h : ci < 11) : vwCl[ci]? = some (cn ci, fdt ci, nfl ci) := by
  rw [vw_get h]
  have h1 := (cl_ok ci (List.mem_range.mpr h)).1
  show some ((vwCl.getD ci ("", TX0, 0)).1, (vwCl.getD ci ("", TX0, 0)).2.1, (vwCl.getD ci ("", TX0, 0)).2.2) = _
  rw [h1]
  rfl
/-- the words of a class's fields -/
theorem lay_in : ∀ ci ∈ List.range 11, ∀ k ∈ List.range (nfl ci), atp ((lyL.getD ci []).getD k 0) = some (u_lay (cn ci) (fdt ci) k) := by decide +kernel
theorem u_in {ci : Nat} (h : ci < 11) : ∀ w ∈ u_ws (cn ci) (fdt ci) (nfl ci), w ∈ TG := by
  intro w hw
  obtain ⟨k, hk, rfl⟩ := List.mem_map.mp hw
  have hp := lay_in ci (List.mem_range.mpr h) k hk
  refine TG_in hp ?_
  unfold u_lay
  split <;> rfl
def fty (ci k : Nat) : FieldType := (parseFieldDescriptor (fdt ci k).2.2.1).getD .int
theorem fty_ok : ∀ ci ∈ List.range 11, ∀ k ∈ List.range (nfl ci), parseFieldDescriptor (fdt ci k).2.2.1 = some (fty ci k) ∧ (fdt ci k).1 = cn ci ∧ (tgf ci k = 0 ∧ fty ci k = .int ∨ tgf ci k = 2 ∧ (defaultValue (fty ci k) = .null)) := by decide +kernel
theorem fnm_ok : ∀ ci ∈ List.range 11, ∀ a ∈ List.range (nfl ci), ∀ b ∈ List.range (nfl ci), a ≠ b → (fdt ci a).2.1 ≠ (fdt ci b).2.1 := by decide +kernel
theorem okv_wfz {o : Option (List Int)} {n t : Nat} {z : Int} (h : wfz n t z) (ht : t ≤ 2) (h2 : t = 2 → 0 ≤ z) : okv o n (t, z) := ⟨h, h2, fun q => by have q : t = 4 := q; omega, Or.inl ht⟩
theorem cv_bb {ad : Nat → Nat} {b b' : Nat} {v : AV} (h : v.1 ≤ 2) : cv ad b v = cv ad b' v := by
  obtain ⟨t, z⟩ := v
  have h : t ≤ 2 := h
  rcases (show t = 0 ∨ t = 1 ∨ t = 2 by omega) with rfl | rfl | rfl <;> rfl
theorem arc_o {ad : Nat → Nat} {ac : Nat → ClassId} {k kd ln : Nat} {row : Int → Int} (h : kd < 11) : arc ad ac k kd ln row = .inr (kd, (List.range ln).map (fun j => cv ad 0 (tgf kd j, row j))) := by
  unfold arc
  rw [if_pos (by omega)]
theorem arc_i {ad : Nat → Nat} {ac : Nat → ClassId} {k ln : Nat} {row : Int → Int} : arc ad ac k 20 ln row = .inl (ac k, ln, .inl (fun j => Int32.ofInt (row j))) := rfl
theorem arc_l {ad : Nat → Nat} {ac : Nat → ClassId} {k ln : Nat} {row : Int → Int} : arc ad ac k 21 ln row = .inl (ac k, ln, .inr (.inl (fun j => Int64.ofInt (row j)))) := rfl
theorem arc_r {ad : Nat → Nat} {ac : Nat → ClassId} {k kd ln : Nat} {row : Int → Int} (h : 22 ≤ kd) : arc ad ac k kd ln row = .inl (ac k, ln, .inr (.inr (.inr (.inr (fun j => if j < ln then rfo ad (row j) else none))))) := by
  unfold arc
  rw [if_neg (by omega), if_neg (by omega), if_neg (by omega)]
theorem tgf_le : ∀ ci ∈ List.range 11, ∀ k ∈ List.range (nfl ci), tgf ci k = 0 ∨ tgf ci k = 2 := by decide +kernel
theorem fl_spec {oc idx : Nat} {x : Nat × Nat × Nat × Nat × Nat} (h : fl oc idx = some x) : x.1 = oc ∧ x.2.1 = idx ∧ x.2.2.1 < 11 ∧ x.2.2.2.1 < nfl x.2.2.1 ∧ (Cond.fieldLink (cn oc) idx (cn x.2.2.1) (fdt x.2.2.1 x.2.2.2.1).2.1 (fdt x.2.2.1 x.2.2.2.1).2.2.1) ∈ TG := by
  have h1 := List.find?_some h
  have h2 := List.mem_of_find?_eq_some h
  simp only [Bool.and_eq_true, beq_iff_eq] at h1
  obtain ⟨g1, g2, g3⟩ := fT_ok x h2
  rw [h1.1, h1.2] at g3
  exact ⟨h1.1, h1.2, g1, g2, TG_in g3 rfl⟩
section
variable {p : Program} {l : Launch} {e : Env} {R : Room} {s : State} {m : MethodId} {args : Array Value} {below : List Frame} {meth : Method} {c : Code} {Q : State → Prop} {D : va_G} {base bb : Nat} {o : Option (List Int)} {f n0 s0 : Nat} {ad0 : Nat → Nat} {ac0 : Nat → ClassId}
variable {pc pc' len : Nat} {ls st ls' st' : List AV} {σ σ' : Sh} {M M' : Mo}
theorem Wo.up {ad : Nat → Nat} {ac : Nat → ClassId} {H H1 : Heap} {k : Nat} {i v : Int} {e' : va_E} (h : Wo D ad ac base s σ M H) (hk : k < σ.length) (he : arc ad ac k (sg σ k).1 (sg σ k).2 (up2 M k i v k) = e')
    (hP : va_P D vwCl ((wso ad ac σ M).set k (ad k, e')) H1) (hD : va_D (fun q => base ≤ q) ((wso ad ac σ M).set k (ad k, e'))) (hv : ∀ j : Nat, (j : Int) = i → wfz σ.length (tgk (sg σ k).1 j) v) : Wo D ad ac base s σ (up2 M k i v) H1 := by
  rw [wso_set ad ac σ M (up2 M k i v) hk he (fun j hj => up2_ne M k i v hj)] at hP hD
  exact ⟨hP, hD, h.2.2.1, wfm_up h.2.2.2.1 hv, h.2.2.2.2⟩
theorem g_get (C : Cx f o p R s m args meth c base bb D) {n : Nat} (hd : decode (bc f) pc = .ok (.getfield n, len))
    (h : astep o f pc (.getfield n) len ls st σ M = some (.inl (pc', ls', st', σ', M'))) (hG : G p l e R s m args below meth c Q D base bb o f n0 s0 ad0 ac0 pc' ls' st' σ' M') : G p l e R s m args below meth c Q D base bb o f n0 s0 ad0 ac0 pc ls st σ M := by
  obtain ⟨hx, hb, hml, hown, hts, -, -, -, -, -, hT, -, -⟩ := C
  unfold astep at h
  dsimp only at h
  split at h
  · rename_i hl
    subst hl
    split at h
    · rename_i x a st0 hfl
      split at h
      · rename_i hc
        obtain ⟨rfl, rfl, rfl, rfl, rfl⟩ := nx_inj h
        obtain ⟨h1, h2, h3, h4, h5⟩ := fl_spec hfl
        obtain ⟨k, rfl, hk, hsg⟩ := shp_spec hc.1 (by omega)
        intro H locs cells slots lsm ad ac hk2
        have hwf := hk2.1.2.2.2.1 k hk x.2.2.2.1 (by rw [hsg]; exact h4)
        rw [hsg] at hwf
        have htg := tgf_le _ (List.mem_range.mpr h3) _ (List.mem_range.mpr h4)
        have htk : tgk x.2.2.1 x.2.2.2.1 = tgf x.2.2.1 x.2.2.2.1 := by unfold tgk; rw [if_pos (by omega)]
        dsimp only at hwf
        rw [htk] at hwf
        have kk := hG H locs cells slots lsm ad ac (hk2.stk (ok_c1 (okv_wfz hwf (by omega) hc.2) (by show tgf _ _ ≠ 9; omega) (ok_t1 hk2.sto)))
        rw [List.map_cons] at kk
        have h0 : (0 : Int) ≤ k := by omega
        rw [List.map_cons, cv2 _ _ h0, Int.toNat_natCast]
        have hg := wso_get ad ac σ' M' hk
        rw [hsg] at hg
        dsimp only at hg
        rw [arc_o h3] at hg
        refine va_get hx hb hts (u_in h3) hown hT.1 hk2.1.1 k hg (vw_get2 h3) x.2.2.2.1 h4 (hts _ h5) (fun y hy => ?_) (v := cv ad bb (tgf x.2.2.1 x.2.2.2.1, M' k x.2.2.2.1)) ?_ hd kk
        · rw [(fty_ok _ (List.mem_range.mpr h3) _ (List.mem_range.mpr h4)).2.1] at hy
          exact hy
        · rw [List.getElem?_map, List.getElem?_range h4, Option.map_some]
          rw [cv_bb (b := 0) (b' := bb) (by show tgf _ _ ≤ 2; omega)]
      · cases h
    · cases h
  · cases h
theorem g_put (C : Cx f o p R s m args meth c base bb D) {n : Nat} (hd : decode (bc f) pc = .ok (.putfield n, len))
    (h : astep o f pc (.putfield n) len ls st σ M = some (.inl (pc', ls', st', σ', M'))) (hG : G p l e R s m args below meth c Q D base bb o f n0 s0 ad0 ac0 pc' ls' st' σ' M') : G p l e R s m args below meth c Q D base bb o f n0 s0 ad0 ac0 pc ls st σ M := by
  obtain ⟨hx, hb, hml, hown, hts, -, -, hnm, -, -, hT, -, -⟩ := C
  unfold astep at h
  dsimp only at h
  split at h
  · rename_i hl
    subst hl
    split at h
    · rename_i x v a st0 hfl
      split at h
      · rename_i hc
        obtain ⟨rfl, rfl, rfl, rfl, rfl⟩ := nx_inj h
        obtain ⟨h1, h2, h3, h4, h5⟩ := fl_spec hfl
        obtain ⟨hc1, hc2, hc3⟩ := hc
        obtain ⟨k, rfl, hk, hsg⟩ := shp_spec hc1 (by omega)
        intro H locs cells slots lsm ad ac hk2
        have htg := tgf_le _ (List.mem_range.mpr h3) _ (List.mem_range.mpr h4)
        obtain ⟨q1, q2, q3⟩ := fty_ok _ (List.mem_range.mpr h3) _ (List.mem_range.mpr h4)
        have h0 : (0 : Int) ≤ k := by omega
        rw [List.map_cons, List.map_cons, cv2 _ _ h0, Int.toNat_natCast]
        have hg := wso_get ad ac σ' M hk
        rw [hsg] at hg
        dsimp only at hg
        rw [arc_o h3] at hg
        have hvo := (hk2.sto v List.mem_cons_self).1
        obtain ⟨t, z⟩ := v
        have hc2 : t = tgf x.2.2.1 x.2.2.2.1 := hc2
        have hfit : narrow (fty x.2.2.1 x.2.2.2.1) (cv ad bb (t, z)) = cv ad bb (t, z) ∧ fits (fty x.2.2.1 x.2.2.2.1) (cv ad bb (t, z)) = true := by
          rcases q3 with ⟨g1, g2⟩ | ⟨g1, g2⟩
          · rw [g1] at hc2
            subst hc2
            rw [g2]
            exact ⟨rfl, rfl⟩
          · rw [g1] at hc2
            subst hc2
            rw [cv2 _ _ (hvo.2.1 rfl)]
            generalize fty x.2.2.1 x.2.2.2.1 = ty at g2
            cases ty <;> first | exact ⟨rfl, rfl⟩ | cases g2
        have hset : ∀ H1 : Heap, ∀ locs1 : List Loc, va_P D vwCl ((wso ad ac σ' M).set k (ad k, .inr (x.2.2.1, ((List.range (nfl x.2.2.1)).map (fun j => cv ad 0 (tgf x.2.2.1 j, M k j))).set x.2.2.2.1 (cv ad bb (t, z))))) H1 → va_D (fun q => base ≤ q) ((wso ad ac σ' M).set k (ad k, .inr (x.2.2.1, ((List.range (nfl x.2.2.1)).map (fun j => cv ad 0 (tgf x.2.2.1 j, M k j))).set x.2.2.2.1 (cv ad bb (t, z))))) → va_S (fun q => base ≤ q) s.heap H1 locs1 → W p l e R s m args below meth c H1 locs1 cells slots Q (F0 m (pc + 3) lsm (List.map (cv ad bb) st')) := by
          intro H1 locs1 hP hD hS
          refine hG H1 locs1 cells slots lsm ad ac ⟨hk2.1.up hk ?_ hP hD ?_, hS, hk2.2.2.1, hk2.2.2.2.1, ok_t1 (ok_t1 hk2.sto), hk2.2.2.2.2.2⟩
          · rw [hsg]
            dsimp only
            rw [arc_o h3]
            congr 2
            apply List.ext_getElem?
            intro j
            by_cases hj : j = x.2.2.2.1
            · subst hj
              rw [List.getElem?_set_self (by simpa using h4), List.getElem?_map, List.getElem?_range h4, Option.map_some, up2_eq]
              simp only [if_true]
              rw [cv_bb (b := 0) (b' := bb) (by show tgf _ _ ≤ 2; omega), hc2]
            · rw [List.getElem?_set_ne (Ne.symm hj), List.getElem?_map, List.getElem?_map, up2_eq]
              by_cases hl : j < nfl x.2.2.1
              · rw [List.getElem?_range hl, Option.map_some, Option.map_some]
                dsimp only
                rw [if_neg (by intro q; exact hj (by exact_mod_cast q))]
              · rw [List.getElem?_eq_none (by simpa using hl)]
                rfl
          · intro j hj
            rw [hsg]
            dsimp only
            have : j = x.2.2.2.1 := by exact_mod_cast hj
            subst this
            unfold tgk
            rw [if_pos (by omega), ← hc2]
            exact hvo.1
        rcases Bool.eq_false_or_eq_true (fdt x.2.2.1 x.2.2.2.1).2.2.2 with hf | hf
        · rcases hc3 with hc3 | hc3
          · rw [hf] at hc3; cases hc3
          · refine va_putF hx hb hts (u_in h3) (fty x.2.2.1) (fun j hj => (fty_ok _ (List.mem_range.mpr h3) _ (List.mem_range.mpr hj)).1) (fun a ha b hb => fnm_ok _ (List.mem_range.mpr h3) a (List.mem_range.mpr ha) b (List.mem_range.mpr hb)) hown hT.1 hk2.1.1 hk2.1.2.1 hk2.2.1 k hg (vw_get2 h3) x.2.2.2.1 h4 (hts _ h5) (fun y hy => by rw [q2] at hy; exact hy) hf (hnm hc3.1) (by rw [q2, hc3.2]) q1 hfit.1 hfit.2 (by simpa using h4) hd (fun H1 locs1 hP hD hS => hset H1 locs1 hP hD hS)
        · refine va_put hx hb hts (u_in h3) (fty x.2.2.1) (fun j hj => (fty_ok _ (List.mem_range.mpr h3) _ (List.mem_range.mpr hj)).1) (fun a ha b hb => fnm_ok _ (List.mem_range.mpr h3) a (List.mem_range.mpr ha) b (List.mem_range.mpr hb)) hown hT.1 hk2.1.1 hk2.1.2.1 hk2.2.1 k hg (vw_get2 h3) x.2.2.2.1 h4 (hts _ h5) (fun y hy => by rw [q2] at hy; exact hy) hf q1 hfit.1 hfit.2 (by simpa using h4) hd (fun H1 locs1 hP hD hS => hset H1 locs1 hP hD hS)
      · cases h
    · cases h
  · cases h
end
end
section
/-! Arrays. -/
section
variable {p : Program} {l : Launch} {e : Env} {R : Room} {s : State} {m : MethodId} {args : Array Value} {below : List Frame} {meth : Method} {c : Code} {Q : State → Prop} {D : va_G} {base bb : Nat} {o : Option (List Int)} {f n0 s0 : Nat} {ad0 : Nat → Nat} {ac0 : Nat → ClassId}
variable {pc pc' len : Nat} {ls st ls' st' : List AV} {σ σ' : Sh} {M M' : Mo}

theorem Wo.tys {ad : Nat → Nat} {ac : Nat → ClassId} {H : Heap} {k : Nat} {ty : FieldType} (h : Wo D ad ac base s σ M H) (hT : Tb D s) (hk : k < σ.length) (ht : aty (sg σ k).1 = some ty) : va_K D vwCl [(ac k, ty)] s :=
  ⟨hT.1.1, fun j q hj => by
    have h0 : j < 1 := (List.getElem?_eq_some_iff.mp hj).1
    rw [show j = 0 by omega] at hj
    cases hj
    exact h.2.2.1 k hk ty ht⟩
theorem shp_arr {a : Int} {kd : Nat} (h : (shp σ a).1 = kd) (hk : kd ≠ 99) : ∃ k : Nat, a = k ∧ k < σ.length ∧ sg σ k = (kd, (shp σ a).2) := shp_spec (Prod.ext h rfl) hk

theorem g_iald (C : Cx f o p R s m args meth c base bb D) (hd : decode (bc f) pc = .ok (.iaload, len))
    (h : astep o f pc (.iaload) len ls st σ M = some (.inl (pc', ls', st', σ', M'))) (hG : G p l e R s m args below meth c Q D base bb o f n0 s0 ad0 ac0 pc' ls' st' σ' M') : G p l e R s m args below meth c Q D base bb o f n0 s0 ad0 ac0 pc ls st σ M := by
  obtain ⟨hx, hb, hml, hown, hts, -, -, -, -, -, hT, hbs, hscr⟩ := C
  unfold astep at h
  dsimp only at h
  split at h
  · rename_i hl
    subst hl
    split at h
    · rename_i xs i z st0
      split at h
      · rename_i hc
        obtain ⟨rfl, rfl, rfl, rfl, rfl⟩ := nx_inj h
        obtain ⟨hX, hbb, hlen, hrng⟩ := hscr xs rfl
        intro H locs cells slots lsm ad ac hk2
        have hi := ok_rng hk2.sto
        obtain ⟨v1, v2⟩ := vp_in_i hc.1 hc.2 hi
        have kk := hG H locs cells slots lsm ad ac (hk2.stk (ok_c1 (okv_z (hrng _)) (by simp) (ok_t1 (ok_t1 hk2.sto))))
        rw [List.map_cons, cv0] at kk
        rw [List.map_cons, List.map_cons, cv0, cv4]
        refine va_sld hx hb hX (by omega) (by show ¬ base ≤ bb; omega) hk2.2.1 v1 hd ?_
        rw [v2]
        exact kk
      · cases h
    · rename_i i a st0
      split at h
      · rename_i hc
        obtain ⟨rfl, rfl, rfl, rfl, rfl⟩ := nx_inj h
        obtain ⟨k, rfl, hk, hsg⟩ := shp_arr hc.1 (by decide)
        intro H locs cells slots lsm ad ac hk2
        have hi := ok_rng hk2.sto
        obtain ⟨v1, v2⟩ := vp_in_i hc.2.1 hc.2.2 hi
        have hwf := hk2.1.2.2.2.1 k hk i.toNat (by rw [hsg]; show i.toNat < (shp σ' ↑k).2; omega)
        rw [hsg, show ((i.toNat : Nat) : Int) = i by omega] at hwf
        have kk := hG H locs cells slots lsm ad ac (hk2.stk (ok_c1 (okv_wfz hwf (by decide) (fun q => absurd q (by decide))) (by simp) (ok_t1 (ok_t1 hk2.sto))))
        rw [List.map_cons, cv0] at kk
        rw [List.map_cons, List.map_cons, cv0, cv2 _ _ (show (0 : Int) ≤ k by omega), Int.toNat_natCast]
        have hg := wso_get ad ac σ' M' hk
        rw [hsg] at hg
        dsimp only at hg
        rw [arc_i] at hg
        refine va_iald hx hb (hk2.1.tys hT hk (by rw [hsg]; rfl)) hk2.1.1 k 0 hg rfl v1 hd ?_
        rw [v2, show ((i.toNat : Nat) : Int) = i by omega]
        exact kk
      · cases h
    · cases h
  · cases h

theorem g_lald (C : Cx f o p R s m args meth c base bb D) (hd : decode (bc f) pc = .ok (.laload, len))
    (h : astep o f pc (.laload) len ls st σ M = some (.inl (pc', ls', st', σ', M'))) (hG : G p l e R s m args below meth c Q D base bb o f n0 s0 ad0 ac0 pc' ls' st' σ' M') : G p l e R s m args below meth c Q D base bb o f n0 s0 ad0 ac0 pc ls st σ M := by
  obtain ⟨hx, hb, hml, hown, hts, -, -, -, -, -, hT, hbs, hscr⟩ := C
  unfold astep at h
  dsimp only at h
  split at h
  · rename_i hl
    subst hl
    split at h
    · rename_i i a st0
      split at h
      · rename_i hc
        obtain ⟨rfl, rfl, rfl, rfl, rfl⟩ := nx_inj h
        obtain ⟨k, rfl, hk, hsg⟩ := shp_arr hc.1 (by decide)
        intro H locs cells slots lsm ad ac hk2
        have hi := ok_rng hk2.sto
        obtain ⟨v1, v2⟩ := vp_in_i hc.2.1 hc.2.2 hi
        have hwf := hk2.1.2.2.2.1 k hk i.toNat (by rw [hsg]; show i.toNat < (shp σ' ↑k).2; omega)
        rw [hsg, show ((i.toNat : Nat) : Int) = i by omega] at hwf
        have kk := hG H locs cells slots lsm ad ac (hk2.stk (ok_c1 (okv_wfz hwf (by decide) (fun q => absurd q (by decide))) (by simp) (ok_t1 (ok_t1 hk2.sto))))
        rw [List.map_cons, cv1] at kk
        rw [List.map_cons, List.map_cons, cv0, cv2 _ _ (show (0 : Int) ≤ k by omega), Int.toNat_natCast]
        have hg := wso_get ad ac σ' M' hk
        rw [hsg] at hg
        dsimp only at hg
        rw [arc_l] at hg
        refine va_lald hx hb (hk2.1.tys hT hk (by rw [hsg]; rfl)) hk2.1.1 k 0 hg rfl v1 hd ?_
        rw [v2, show ((i.toNat : Nat) : Int) = i by omega]
        exact kk
      · cases h
    · cases h
  · cases h

theorem g_aald (C : Cx f o p R s m args meth c base bb D) (hd : decode (bc f) pc = .ok (.aaload, len))
    (h : astep o f pc (.aaload) len ls st σ M = some (.inl (pc', ls', st', σ', M'))) (hG : G p l e R s m args below meth c Q D base bb o f n0 s0 ad0 ac0 pc' ls' st' σ' M') : G p l e R s m args below meth c Q D base bb o f n0 s0 ad0 ac0 pc ls st σ M := by
  obtain ⟨hx, hb, hml, hown, hts, -, -, -, -, -, hT, hbs, hscr⟩ := C
  unfold astep at h
  dsimp only at h
  split at h
  · rename_i hl
    subst hl
    split at h
    · rename_i i a st0
      split at h
      · rename_i hc
        obtain ⟨rfl, rfl, rfl, rfl, rfl⟩ := nx_inj h
        obtain ⟨k, rfl, hk, hsg⟩ := shp_arr (rfl : (shp σ' a).1 = (shp σ' a).1) (by omega)
        intro H locs cells slots lsm ad ac hk2
        have hi := ok_rng hk2.sto
        obtain ⟨v1, v2⟩ := vp_in_i hc.2.2.1 hc.2.2.2.1 hi
        have hwf := hk2.1.2.2.2.1 k hk i.toNat (by rw [hsg]; show i.toNat < (shp σ' ↑k).2; omega)
        rw [hsg, show ((i.toNat : Nat) : Int) = i by omega] at hwf
        have ht2 : tgk (shp σ' ↑k).1 i.toNat = 2 := by unfold tgk; rw [if_neg (by omega), if_neg (by omega), if_neg (by omega)]
        dsimp only at hwf
        rw [ht2] at hwf
        have kk := hG H locs cells slots lsm ad ac (hk2.stk (ok_c1 (okv_wfz hwf (by decide) (fun _ => hc.2.2.2.2)) (by simp) (ok_t1 (ok_t1 hk2.sto))))
        rw [List.map_cons] at kk
        rw [List.map_cons, List.map_cons, cv0, cv2 _ _ (show (0 : Int) ≤ k by omega), Int.toNat_natCast]
        have hg := wso_get ad ac σ' M' hk
        rw [hsg] at hg
        dsimp only at hg
        rw [arc_r hc.1] at hg
        have hP := hk2.1.1 k _ hg
        have hlt : (Int32.ofInt i).toNatClampNeg < (shp σ' ↑k).2 := by rw [v2]; omega
        obtain ⟨ty, hty, hrf⟩ : ∃ ty, aty (sg σ' k).1 = some ty ∧ ty.isReference = true := by
          rw [hsg]
          rcases (show (shp σ' ↑k).1 = 22 ∨ (shp σ' ↑k).1 = 23 ∨ (shp σ' ↑k).1 = 24 by omega) with q | q | q <;> (dsimp only; rw [q]; exact ⟨_, rfl, rfl⟩)
        refine W.aald (v := va_rf (rfo ad (M' k i))) (ty := ty) hx hb hP ((hk2.1.2.2.1 k hk ty hty).1 _ (fun j => va_rf (if j < (shp σ' ↑k).2 then rfo ad (M' k j) else none))) hrf (fun q => by cases q) (by show ¬ (Int32.ofInt i < 0 ∨ (arrV _ _ _).slots.size ≤ _); rw [arrV_size]; exact v1) (by show (arrV _ _ _).slots[_]? = _; rw [arrV_read _ _ hlt, v2]; dsimp only; rw [if_pos (by omega), show ((i.toNat : Nat) : Int) = i by omega]) rfl rfl hd kk
      · cases h
    · cases h
  · cases h

theorem g_iast (C : Cx f o p R s m args meth c base bb D) (hd : decode (bc f) pc = .ok (.iastore, len))
    (h : astep o f pc (.iastore) len ls st σ M = some (.inl (pc', ls', st', σ', M'))) (hG : G p l e R s m args below meth c Q D base bb o f n0 s0 ad0 ac0 pc' ls' st' σ' M') : G p l e R s m args below meth c Q D base bb o f n0 s0 ad0 ac0 pc ls st σ M := by
  obtain ⟨hx, hb, hml, hown, hts, -, -, -, -, -, hT, hbs, hscr⟩ := C
  unfold astep at h
  dsimp only at h
  split at h
  · rename_i hl
    subst hl
    split at h
    · rename_i x i a st0
      split at h
      · rename_i hc
        obtain ⟨rfl, rfl, rfl, rfl, rfl⟩ := nx_inj h
        obtain ⟨k, rfl, hk, hsg⟩ := shp_arr hc.1 (by decide)
        intro H locs cells slots lsm ad ac hk2
        have hi := ok_rng (ok_t1 hk2.sto)
        have hxo := (hk2.sto _ List.mem_cons_self).1
        obtain ⟨v1, v2⟩ := vp_in_i hc.2.1 hc.2.2 hi
        rw [List.map_cons, List.map_cons, List.map_cons, cv0, cv0, cv2 _ _ (show (0 : Int) ≤ k by omega), Int.toNat_natCast]
        have hg := wso_get ad ac σ' M hk
        rw [hsg] at hg
        dsimp only at hg
        rw [arc_i] at hg
        refine va_iast hx hb (hk2.1.tys hT hk (by rw [hsg]; rfl)) hk2.1.1 hk2.1.2.1 hk2.2.1 k 0 hg rfl v1 hd (fun H1 locs1 hP hD hS => ?_)
        refine hG H1 locs1 cells slots lsm ad ac ⟨hk2.1.up hk ?_ hP hD ?_, hS, hk2.2.2.1, hk2.2.2.2.1, ok_t1 (ok_t1 (ok_t1 hk2.sto)), hk2.2.2.2.2.2⟩
        · rw [hsg]
          dsimp only
          rw [arc_i, up2_eq, v2]
          congr 4
          funext j
          unfold upd
          dsimp only
          by_cases hj : j = i.toNat
          · rw [if_pos hj, if_pos (by omega)]
          · rw [if_neg hj, if_neg (by omega)]
        · intro j hj
          rw [hsg]
          exact hxo.1
      · cases h
    · cases h
  · cases h

theorem g_last (C : Cx f o p R s m args meth c base bb D) (hd : decode (bc f) pc = .ok (.lastore, len))
    (h : astep o f pc (.lastore) len ls st σ M = some (.inl (pc', ls', st', σ', M'))) (hG : G p l e R s m args below meth c Q D base bb o f n0 s0 ad0 ac0 pc' ls' st' σ' M') : G p l e R s m args below meth c Q D base bb o f n0 s0 ad0 ac0 pc ls st σ M := by
  obtain ⟨hx, hb, hml, hown, hts, -, -, -, -, -, hT, hbs, hscr⟩ := C
  unfold astep at h
  dsimp only at h
  split at h
  · rename_i hl
    subst hl
    split at h
    · rename_i x i a st0
      split at h
      · rename_i hc
        obtain ⟨rfl, rfl, rfl, rfl, rfl⟩ := nx_inj h
        obtain ⟨k, rfl, hk, hsg⟩ := shp_arr hc.1 (by decide)
        intro H locs cells slots lsm ad ac hk2
        have hi := ok_rng (ok_t1 hk2.sto)
        have hxo := (hk2.sto _ List.mem_cons_self).1
        obtain ⟨v1, v2⟩ := vp_in_i hc.2.1 hc.2.2 hi
        rw [List.map_cons, List.map_cons, List.map_cons, cv0, cv1, cv2 _ _ (show (0 : Int) ≤ k by omega), Int.toNat_natCast]
        have hg := wso_get ad ac σ' M hk
        rw [hsg] at hg
        dsimp only at hg
        rw [arc_l] at hg
        refine va_last hx hb (hk2.1.tys hT hk (by rw [hsg]; rfl)) hk2.1.1 hk2.1.2.1 hk2.2.1 k 0 hg rfl v1 hd (fun H1 locs1 hP hD hS => ?_)
        refine hG H1 locs1 cells slots lsm ad ac ⟨hk2.1.up hk ?_ hP hD ?_, hS, hk2.2.2.1, hk2.2.2.2.1, ok_t1 (ok_t1 (ok_t1 hk2.sto)), hk2.2.2.2.2.2⟩
        · rw [hsg]
          dsimp only
          rw [arc_l, up2_eq, v2]
          congr 5
          funext j
          unfold vp_updL
          dsimp only
          by_cases hj : j = i.toNat
          · rw [if_pos hj, if_pos (by omega)]
          · rw [if_neg hj, if_neg (by omega)]
        · intro j hj
          rw [hsg]
          exact hxo.1
      · cases h
    · cases h
  · cases h

theorem g_aast (C : Cx f o p R s m args meth c base bb D) (hd : decode (bc f) pc = .ok (.aastore, len))
    (h : astep o f pc (.aastore) len ls st σ M = some (.inl (pc', ls', st', σ', M'))) (hG : G p l e R s m args below meth c Q D base bb o f n0 s0 ad0 ac0 pc' ls' st' σ' M') : G p l e R s m args below meth c Q D base bb o f n0 s0 ad0 ac0 pc ls st σ M := by
  obtain ⟨hx, hb, hml, hown, hts, -, -, -, -, -, hT, hbs, hscr⟩ := C
  unfold astep at h
  dsimp only at h
  split at h
  · rename_i hl
    subst hl
    split at h
    · rename_i x i a st0
      split at h
      · rename_i hc
        obtain ⟨rfl, rfl, rfl, rfl, rfl⟩ := nx_inj h
        obtain ⟨k, rfl, hk, hsg⟩ := shp_arr hc.1 (by decide)
        obtain ⟨kx, rfl, hkx, hsx⟩ := shp_spec hc.2.2.2 (by decide)
        intro H locs cells slots lsm ad ac hk2
        have hi := ok_rng (ok_t1 hk2.sto)
        have hxo := (hk2.sto _ List.mem_cons_self).1
        obtain ⟨v1, v2⟩ := vp_in_i hc.2.1 hc.2.2.1 hi
        rw [List.map_cons, List.map_cons, List.map_cons, cv0, cv2 _ _ (show (0 : Int) ≤ k by omega), cv2 _ _ (show (0 : Int) ≤ kx by omega), Int.toNat_natCast, Int.toNat_natCast]
        have hg := wso_get ad ac σ' M hk
        rw [hsg] at hg
        dsimp only at hg
        rw [arc_r (by decide)] at hg
        have hgx := wso_get ad ac σ' M hkx
        rw [hsx] at hgx
        dsimp only at hgx
        rw [arc_o (by decide)] at hgx
        refine va_astq hx hb (hk2.1.tys hT hk (by rw [hsg]; rfl)) hk2.1.1 hk2.1.2.1 hk2.2.1 k 0 kx 0 hg rfl hgx (vw_get2 (by decide)) v1 hd (fun H1 locs1 hP hD hS => ?_)
        refine hG H1 locs1 cells slots lsm ad ac ⟨hk2.1.up hk ?_ hP hD ?_, hS, hk2.2.2.1, hk2.2.2.2.1, ok_t1 (ok_t1 (ok_t1 hk2.sto)), hk2.2.2.2.2.2⟩
        · rw [hsg]
          dsimp only
          rw [arc_r (by decide), up2_eq, v2]
          congr 7
          funext j
          unfold va_up
          dsimp only
          by_cases hj : j = i.toNat
          · rw [if_pos hj, if_pos (by omega), if_pos (by omega), rfo, if_neg (by omega), Int.toNat_natCast]
          · rw [if_neg hj]
            by_cases hl : j < (shp σ' ↑k).2
            · rw [if_pos hl, if_pos hl, if_neg (by omega)]
            · rw [if_neg hl, if_neg hl]
        · intro j hj
          rw [hsg]
          exact hxo.1
      · cases h
    · cases h
  · cases h

theorem g_alen (C : Cx f o p R s m args meth c base bb D) (hd : decode (bc f) pc = .ok (.arraylength, len))
    (h : astep o f pc (.arraylength) len ls st σ M = some (.inl (pc', ls', st', σ', M'))) (hG : G p l e R s m args below meth c Q D base bb o f n0 s0 ad0 ac0 pc' ls' st' σ' M') : G p l e R s m args below meth c Q D base bb o f n0 s0 ad0 ac0 pc ls st σ M := by
  obtain ⟨hx, hb, hml, hown, hts, -, -, -, -, -, hT, hbs, hscr⟩ := C
  unfold astep at h
  dsimp only at h
  split at h
  · rename_i hl
    subst hl
    split at h
    · rename_i xs z st0
      obtain ⟨rfl, rfl, rfl, rfl, rfl⟩ := nx_inj h
      obtain ⟨hX, hbb, hlen, hrng⟩ := hscr xs rfl
      intro H locs cells slots lsm ad ac hk2
      have kk := hG H locs cells slots lsm ad ac (hk2.stk (ok_c1 (okv_z (by omega)) (by simp) (ok_t1 hk2.sto)))
      rw [List.map_cons, cv0] at kk
      rw [List.map_cons, cv4]
      exact va_slen hx hb hX (by omega) (by show ¬ base ≤ bb; omega) hk2.2.1 hd kk
    · cases h
  · cases h

end
end
section
/-! Instructions that make cells. -/
theorem tot_app (σ τ : Sh) : tot (σ ++ τ) = tot σ + tot τ := by
  unfold tot
  rw [List.map_append, List.sum_append]
def adn {α : Type} (ad : Nat → α) (n : Nat) (q : α) : Nat → α := fun k => if k = n then q else ad k
theorem adn_lt {α : Type} {ad : Nat → α} {n k : Nat} {q : α} (h : k < n) : adn ad n q k = ad k := if_neg (by omega)
theorem adn_eq {α : Type} {ad : Nat → α} {n : Nat} {q : α} : adn ad n q n = q := if_pos rfl
theorem arc_ad {ad ad' : Nat → Nat} {ac ac' : Nat → ClassId} {k kd ln n : Nat} {row : Int → Int} (ha : ∀ j, j < n → ad' j = ad j) (hc : ac' k = ac k) (hr : ∀ j : Nat, j < ln → wfz n (tgk kd j) (row j)) : arc ad' ac' k kd ln row = arc ad ac k kd ln row := by
  unfold arc
  by_cases h0 : kd < 20
  · rw [if_pos h0, if_pos h0]
    congr 2
    apply List.map_congr_left
    intro j hj
    have h1 := hr j (List.mem_range.mp hj)
    unfold tgk at h1
    rw [if_pos h0] at h1
    by_cases h2 : tgf kd j = 2
    · show cv ad' 0 (tgf kd j, row j) = cv ad 0 (tgf kd j, row j)
      rw [h2]
      show va_rf (rfo ad' (row j)) = va_rf (rfo ad (row j))
      rw [rfo_ad (h1.2.2 h2).2 ha]
    · show cv ad' 0 (tgf kd j, row j) = cv ad 0 (tgf kd j, row j)
      unfold cv
      dsimp only
      rw [if_neg h2, if_neg h2]
  · rw [if_neg h0, if_neg h0]
    by_cases h1 : kd = 20
    · rw [if_pos h1, if_pos h1, hc]
    · rw [if_neg h1, if_neg h1]
      by_cases h2 : kd = 21
      · rw [if_pos h2, if_pos h2, hc]
      · rw [if_neg h2, if_neg h2, hc]
        congr 7
        funext j
        by_cases hj : j < ln
        · rw [if_pos hj, if_pos hj]
          have h3 := hr j hj
          unfold tgk at h3
          rw [if_neg h0, if_neg h1, if_neg h2] at h3
          exact rfo_ad (h3.2.2 rfl).2 ha
        · rw [if_neg hj, if_neg hj]
theorem nwc_lt {σ : Sh} {M : Mo} {kd k : Nat} (h : k < σ.length) : nwc σ M kd k = M k := by
  funext y
  unfold nwc
  rw [if_neg (by omega)]
theorem nwc_eq {σ : Sh} {M : Mo} {kd : Nat} : nwc σ M kd (σ.length : Int) = fun y => dfv kd y.toNat := by
  funext y
  unfold nwc
  rw [if_pos rfl]
section
variable {p : Program} {l : Launch} {e : Env} {R : Room} {s : State} {m : MethodId} {args : Array Value} {below : List Frame} {meth : Method} {c : Code} {Q : State → Prop} {D : va_G} {base bb : Nat} {o : Option (List Int)} {f n0 s0 : Nat} {ad0 : Nat → Nat} {ac0 : Nat → ClassId}
variable {pc pc' len : Nat} {ls st ls' st' : List AV} {σ σ' : Sh} {M M' : Mo}
theorem wso_new {ad : Nat → Nat} {ac : Nat → ClassId} {kd ln q : Nat} {cA : ClassId} (hw : wfm σ M) : wso (adn ad σ.length q) (adn ac σ.length cA) (σ ++ [(kd, ln)]) (nwc σ M kd) = wso ad ac σ M ++ [(q, arc (adn ad σ.length q) (adn ac σ.length cA) σ.length kd ln (fun y => dfv kd y.toNat))] := by
  unfold wso
  rw [List.length_append, List.length_singleton, List.range_succ, List.map_append]
  congr 1
  · apply List.map_congr_left
    intro k hk
    have hk := List.mem_range.mp hk
    rw [adn_lt hk, sg_app_lt hk, nwc_lt hk]
    congr 1
    exact arc_ad (n := σ.length) (fun j hj => adn_lt hj) (adn_lt hk) (hw k hk)
  · rw [List.map_singleton, sg_app_eq, adn_eq, nwc_eq]
theorem dfv_wf {n kd ln j : Nat} (h : kd < 11 ∧ ln = nfl kd ∨ 20 ≤ kd ∧ kd ≤ 24) (hj : j < ln) : wfz n (tgk kd j) (dfv kd j) := by
  unfold tgk dfv
  rcases h with ⟨h, h2⟩ | h
  · rw [if_pos (by omega), if_pos h]
    by_cases h3 : tgf kd j = 2
    · rw [if_pos h3, h3]
      exact ⟨fun q => absurd q (by decide), fun q => absurd q (by decide), fun _ => ⟨by omega, by omega⟩⟩
    · rw [if_neg h3]
      exact ⟨fun q => by omega, fun q => by omega, fun q => absurd q h3⟩
  · rw [if_neg (show ¬ kd < 20 by omega), if_neg (show ¬ kd < 11 by omega)]
    by_cases h1 : kd = 20
    · rw [if_pos h1, if_pos (by omega)]
      exact ⟨fun q => by omega, fun q => by omega, fun q => by omega⟩
    · rw [if_neg h1]
      by_cases h2 : kd = 21
      · rw [if_pos h2, if_pos (by omega)]
        exact ⟨fun q => by omega, fun q => by omega, fun q => by omega⟩
      · rw [if_neg h2, if_neg (by omega)]
        exact ⟨fun q => by omega, fun q => by omega, fun q => ⟨by omega, by omega⟩⟩
/-- a new cell -/
theorem Ok.mk1 {H H1 : Heap} {locs : List Loc} {cells slots : Nat} {lsm : Array Slot} {ad : Nat → Nat} {ac : Nat → ClassId} {kd ln q : Nat} {cA : ClassId} (h : Ok D base bb o f n0 s0 ad0 ac0 s H locs cells slots lsm ls st σ M ad ac) (hkd : kd < 11 ∧ ln = nfl kd ∨ 20 ≤ kd ∧ kd ≤ 24)
    (hP : va_P D vwCl (wso ad ac σ M ++ [(q, arc (adn ad σ.length q) (adn ac σ.length cA) σ.length kd ln (fun y => dfv kd y.toNat))]) H1) (hD : va_D (fun q => base ≤ q) (wso ad ac σ M ++ [(q, arc (adn ad σ.length q) (adn ac σ.length cA) σ.length kd ln (fun y => dfv kd y.toNat))])) (hS : va_S (fun q => base ≤ q) s.heap H1 locs)
    (hty : ∀ ty, aty kd = some ty → ArrOfT s cA ty ∧ va_RA s cA ty) (hst : ∀ v ∈ st', okv o (σ.length + 1) v ∧ v.1 ≠ 9) : Ok D base bb o f n0 s0 ad0 ac0 s H1 locs (cells + 1) (slots + ln) lsm ls st' (σ ++ [(kd, ln)]) (nwc σ M kd) (adn ad σ.length q) (adn ac σ.length cA) := by
  obtain ⟨⟨w1, w2, w3, w4, w5⟩, h2, h3, h4, h5, h6, h7, h8⟩ := h
  have hlen : (σ ++ [(kd, ln)]).length = σ.length + 1 := by simp
  rw [← wso_new w4] at hP hD
  refine ⟨⟨hP, hD, ?_, ?_, ?_⟩, hS, ?_, ?_, ?_, ?_, ?_, ?_⟩
  · intro k hk ty ht
    rw [hlen] at hk
    by_cases e : k = σ.length
    · subst e
      rw [sg_app_eq] at ht
      rw [adn_eq]
      exact hty ty ht
    · have hk : k < σ.length := by omega
      rw [sg_app_lt hk] at ht
      rw [adn_lt hk]
      exact w3 k hk ty ht
  · intro k hk j hj
    rw [hlen] at hk ⊢
    by_cases e : k = σ.length
    · subst e
      rw [sg_app_eq] at hj ⊢
      rw [nwc_eq]
      dsimp only
      rw [Int.toNat_natCast]
      exact dfv_wf hkd hj
    · have hk : k < σ.length := by omega
      rw [sg_app_lt hk] at hj ⊢
      rw [nwc_lt hk]
      exact wfz_mono (w4 k hk j hj) (by omega)
  · intro k hk
    rw [hlen] at hk
    by_cases e : k = σ.length
    · subst e
      rw [sg_app_eq]
      exact hkd
    · have hk : k < σ.length := by omega
      rw [sg_app_lt hk]
      exact w5 k hk
  · refine ⟨h3.1, h3.2.1, h3.2.2.1, fun i v hv h9 => ?_⟩
    rw [cv_ad (h4 v (List.mem_of_getElem? hv)) (fun k hk => adn_lt hk)]
    exact h3.2.2.2 i v hv h9
  · intro v hv
    rw [hlen]
    exact okv_mono (h4 v hv) (by omega)
  · rw [hlen]
    exact hst
  · rw [hlen]
    omega
  · rw [tot_app]
    show slots + ln + s0 = tot σ + (ln + 0)
    omega
  · intro k hk
    have : k < σ.length := by omega
    rw [adn_lt this, adn_lt this]
    exact h8 k hk
theorem map_cv {n : Nat} {ad ad' : Nat → Nat} {st : List AV} (h : ∀ v ∈ st, okv o n v ∧ v.1 ≠ 9) (ha : ∀ k, k < n → ad' k = ad k) : st.map (cv ad' bb) = st.map (cv ad bb) := List.map_congr_left (fun v hv => cv_ad (h v hv).1 ha)
theorem ok_mono {n n' : Nat} {st : List AV} (h : ∀ v ∈ st, okv o n v ∧ v.1 ≠ 9) (hn : n ≤ n') : ∀ v ∈ st, okv o n' v ∧ v.1 ≠ 9 := fun v hv => ⟨okv_mono (h v hv).1 hn, (h v hv).2⟩
/-- the room that is left -/
def Rm (R : Room) (n0 s0 : Nat) (σ' : Sh) : Prop := σ'.length ≤ n0 + R.cells ∧ tot σ' ≤ s0 + R.slots
theorem g_new (C : Cx f o p R s m args meth c base bb D) {n : Nat} (hd : decode (bc f) pc = .ok (.new n, len)) (hR : Rm R n0 s0 σ')
    (h : astep o f pc (.new n) len ls st σ M = some (.inl (pc', ls', st', σ', M'))) (hG : G p l e R s m args below meth c Q D base bb o f n0 s0 ad0 ac0 pc' ls' st' σ' M') : G p l e R s m args below meth c Q D base bb o f n0 s0 ad0 ac0 pc ls st σ M := by
  obtain ⟨hx, hb, hml, hown, hts, -, -, -, -, -, hT, hbs, -⟩ := C
  unfold astep at h
  dsimp only at h
  split at h
  · rename_i hl
    subst hl
    split at h
    · rename_i x hnl
      obtain ⟨rfl, rfl, rfl, rfl, rfl⟩ := nx_inj h
      have f1 := List.find?_some hnl
      have f2 := List.mem_of_find?_eq_some hnl
      simp only [Bool.and_eq_true, beq_iff_eq] at f1
      obtain ⟨g1, g2, g3, g4⟩ := nT_ok x f2
      rw [f1.1, f1.2] at g2
      intro H locs cells slots lsm ad ac hk2
      obtain ⟨r1, r2⟩ := hR
      rw [List.length_append] at r1
      rw [tot_app] at r2
      have r2 : tot σ + (nfl x.2.2.1 + 0) ≤ s0 + R.slots := r2
      have r1 : σ.length + 1 ≤ n0 + R.cells := r1
      have e1 := hk2.2.2.2.2.2.1
      have e2 := hk2.2.2.2.2.2.2.1
      refine va_new hx hb hts (u_in g1) (fty x.2.2.1) (fun j hj => (fty_ok _ (List.mem_range.mpr g1) _ (List.mem_range.mpr hj)).1) hown (hts _ (TG_in g2 rfl)) (hts _ (TG_in g3 rfl)) (hts _ (TG_in g4 rfl)) hT.1 hk2.1.1 hk2.1.2.1 hk2.2.1 (fun q hq => by show base ≤ q; omega) (vw_get2 g1) (fs := (List.range (nfl x.2.2.1)).map (fun j => cv ad 0 (tgf x.2.2.1 j, dfv x.2.2.1 j))) ?_ (by omega) (by omega) hd ?_
      · intro j hj
        unfold vp_V
        rw [List.getD_eq_getElem?_getD, List.getElem?_map, List.getElem?_range hj]
        show _ = cv ad 0 (tgf x.2.2.1 j, dfv x.2.2.1 j)
        unfold dfv
        rw [if_pos g1]
        rcases (fty_ok _ (List.mem_range.mpr g1) _ (List.mem_range.mpr hj)).2.2 with ⟨q1, q2⟩ | ⟨q1, q2⟩
        · rw [q1, q2]
          rfl
        · rw [q1, q2]
          rfl
      · intro q H1 hP hD hS
        have ha : arc (adn ad σ.length q) (adn ac σ.length 0) σ.length x.2.2.1 (nfl x.2.2.1) (fun y => dfv x.2.2.1 y.toNat) = .inr (x.2.2.1, (List.range (nfl x.2.2.1)).map (fun j => cv ad 0 (tgf x.2.2.1 j, dfv x.2.2.1 j))) := by
          rw [arc_o g1]
          congr 2
          apply List.map_congr_left
          intro j hj
          rw [Int.toNat_natCast]
          have h1 := dfv_wf (n := 0) (Or.inl ⟨g1, rfl⟩) (List.mem_range.mp hj)
          unfold tgk at h1
          rw [if_pos (by omega)] at h1
          by_cases h2 : tgf x.2.2.1 j = 2
          · rw [h2]
            show va_rf (rfo _ _) = va_rf (rfo _ _)
            rw [rfo_ad (h1.2.2 h2).2 (fun k hk => absurd hk (by omega))]
          · unfold cv
            dsimp only
            rw [if_neg h2, if_neg h2]
        rw [← ha] at hP hD
        have kk := hG H1 locs (cells + 1) (slots + nfl x.2.2.1) lsm _ _ (hk2.mk1 (Or.inl ⟨g1, rfl⟩) hP hD hS (fun ty ht => by
          unfold aty at ht
          rw [if_neg (by omega), if_neg (by omega), if_neg (by omega), if_neg (by omega), if_neg (by omega)] at ht
          cases ht) (ok_c1 (okv_r ⟨by omega, by omega⟩) (by simp) (ok_mono hk2.sto (by omega))))
        rw [List.map_cons, cv2 _ _ (by omega), Int.toNat_natCast, adn_eq, map_cv hk2.sto (fun k hk => adn_lt hk)] at kk
        exact kk
    · cases h
  · cases h
end
end
section
/-! New arrays, Object's constructor, arraycopy. -/
theorem tg_acI : Cond.arrayClass .int ∈ TG := TG_in (p := 1116) (by decide +kernel) rfl
theorem tg_acJ : Cond.arrayClass .long ∈ TG := TG_in (p := 1061) (by decide +kernel) rfl
theorem tg_oin : Cond.instanceMethod Lib.objectInit ∈ TG := TG_in (p := 1022) (by decide +kernel) rfl
theorem tg_oco : Cond.code Lib.objectInit ⟨#[0xb1]⟩ 1 none ∈ TG := TG_in (p := 1023) (by decide +kernel) rfl
theorem tg_nat : Cond.native arraycopyName ∈ TG := TG_in (p := 2081) (by decide +kernel) rfl
theorem tg_sta : Cond.static arraycopyName ∈ TG := TG_in (p := 2080) (by decide +kernel) rfl
theorem tg_sys : Cond.initialized "java/lang/System" ∈ TG := TG_in (p := 1012) (by decide +kernel) rfl

section
variable {p : Program} {l : Launch} {e : Env} {R : Room} {s : State} {m : MethodId} {args : Array Value} {below : List Frame} {meth : Method} {c : Code} {Q : State → Prop} {D : va_G} {base bb : Nat} {o : Option (List Int)} {f n0 s0 : Nat} {ad0 : Nat → Nat} {ac0 : Nat → ClassId}
variable {pc pc' len : Nat} {ls st ls' st' : List AV} {σ σ' : Sh} {M M' : Mo}

theorem n32 {n : Int} (h : 0 ≤ n ∧ n < 65536) : ¬ Int32.ofInt n < 0 ∧ (Int32.ofInt n).toNatClampNeg = n.toNat := by
  have hr : -2147483648 ≤ n ∧ n < 2147483648 := by omega
  have h0 := i32_of hr
  refine ⟨fun q => ?_, ?_⟩
  · rw [show (0 : Int32) = Int32.ofInt 0 from rfl, i32_lt hr (by omega)] at q
    omega
  · unfold Int32.toNatClampNeg
    rw [h0]

theorem g_newa (C : Cx f o p R s m args meth c base bb D) {t : ArrayType} (hd : decode (bc f) pc = .ok (.newarray t, len)) (hR : Rm R n0 s0 σ')
    (h : astep o f pc (.newarray t) len ls st σ M = some (.inl (pc', ls', st', σ', M'))) (hG : G p l e R s m args below meth c Q D base bb o f n0 s0 ad0 ac0 pc' ls' st' σ' M') : G p l e R s m args below meth c Q D base bb o f n0 s0 ad0 ac0 pc ls st σ M := by
  obtain ⟨hx, hb, hml, hown, hts, -, -, -, -, -, hT, hbs, -⟩ := C
  unfold astep at h
  dsimp only at h
  split at h
  · rename_i hl
    subst hl
    split at h
    · rename_i n st0
      split at h
      · rename_i hn
        obtain ⟨n1, n2⟩ := n32 hn
        split at h

        · obtain ⟨rfl, rfl, rfl, rfl, rfl⟩ := nx_inj h
          intro H locs cells slots lsm ad ac hk2
          obtain ⟨r1, r2⟩ := hR
          rw [List.length_append] at r1
          rw [tot_app] at r2
          have r2 : tot σ + (n.toNat + 0) ≤ s0 + R.slots := r2
          have r1 : σ.length + 1 ≤ n0 + R.cells := r1
          have e1 := hk2.2.2.2.2.2.1
          have e2 := hk2.2.2.2.2.2.2.1
          rw [List.map_cons, cv0]
          refine va_newa (atype := .int) (ty := .int) hx hb (hts _ tg_acI) rfl hT.1 hk2.1.1 hk2.1.2.1 hk2.2.1 (fun q hq => by show base ≤ q; omega) (N' := n.toNat) (a0 := (n.toNat, .inl (fun _ => (0 : Int32)))) (fun cA => rfl) n1 n2 (by show n.toNat * 4 ≤ 536870912; omega) (by omega) (by omega) hd ?_
          intro q cA H1 hK hP hD hS
          have ha : arc (adn ad σ.length q) (adn ac σ.length cA) σ.length 20 n.toNat (fun y => dfv 20 y.toNat) = .inl (cA, n.toNat, .inl (fun _ => 0)) := by
            rw [arc_i, adn_eq]
            rfl
          rw [← ha] at hP hD
          have hst := ok_t1 hk2.sto
          have kk := hG H1 locs (cells + 1) (slots + n.toNat) lsm _ _ (hk2.mk1 (cA := cA) (Or.inr ⟨by decide, by decide⟩) hP hD hS (fun ty ht => by
            cases ht
            exact hK.2 0 _ rfl) (ok_c1 (okv_r ⟨by omega, by omega⟩) (by simp) (ok_mono hst (by omega))))
          rw [List.map_cons, cv2 _ _ (by omega), Int.toNat_natCast, adn_eq, map_cv hst (fun k hk => adn_lt hk)] at kk
          exact kk
        · obtain ⟨rfl, rfl, rfl, rfl, rfl⟩ := nx_inj h
          intro H locs cells slots lsm ad ac hk2
          obtain ⟨r1, r2⟩ := hR
          rw [List.length_append] at r1
          rw [tot_app] at r2
          have r2 : tot σ + (n.toNat + 0) ≤ s0 + R.slots := r2
          have r1 : σ.length + 1 ≤ n0 + R.cells := r1
          have e1 := hk2.2.2.2.2.2.1
          have e2 := hk2.2.2.2.2.2.2.1
          rw [List.map_cons, cv0]
          refine va_newa (atype := .long) (ty := .long) hx hb (hts _ tg_acJ) rfl hT.1 hk2.1.1 hk2.1.2.1 hk2.2.1 (fun q hq => by show base ≤ q; omega) (N' := n.toNat) (a0 := (n.toNat, .inr (.inl (fun _ => (0 : Int64))))) (fun cA => rfl) n1 n2 (by show n.toNat * 8 ≤ 536870912; omega) (by omega) (by omega) hd ?_
          intro q cA H1 hK hP hD hS
          have ha : arc (adn ad σ.length q) (adn ac σ.length cA) σ.length 21 n.toNat (fun y => dfv 21 y.toNat) = .inl (cA, n.toNat, .inr (.inl (fun _ => 0))) := by
            rw [arc_l, adn_eq]
            rfl
          rw [← ha] at hP hD
          have hst := ok_t1 hk2.sto
          have kk := hG H1 locs (cells + 1) (slots + n.toNat) lsm _ _ (hk2.mk1 (cA := cA) (Or.inr ⟨by decide, by decide⟩) hP hD hS (fun ty ht => by
            cases ht
            exact hK.2 0 _ rfl) (ok_c1 (okv_r ⟨by omega, by omega⟩) (by simp) (ok_mono hst (by omega))))
          rw [List.map_cons, cv2 _ _ (by omega), Int.toNat_natCast, adn_eq, map_cv hst (fun k hk => adn_lt hk)] at kk
          exact kk
        · cases h
      · cases h
    · cases h
  · cases h

theorem g_newq (C : Cx f o p R s m args meth c base bb D) {k : Nat} (hd : decode (bc f) pc = .ok (.anewarray k, len)) (hR : Rm R n0 s0 σ')
    (h : astep o f pc (.anewarray k) len ls st σ M = some (.inl (pc', ls', st', σ', M'))) (hG : G p l e R s m args below meth c Q D base bb o f n0 s0 ad0 ac0 pc' ls' st' σ' M') : G p l e R s m args below meth c Q D base bb o f n0 s0 ad0 ac0 pc ls st σ M := by
  obtain ⟨hx, hb, hml, hown, hts, -, -, -, -, -, hT, hbs, -⟩ := C
  unfold astep at h
  dsimp only at h
  split at h
  · rename_i hl
    subst hl
    split at h
    · rename_i x n st0 hal
      split at h
      · rename_i hn
        obtain ⟨n1, n2⟩ := n32 hn
        obtain ⟨rfl, rfl, rfl, rfl, rfl⟩ := nx_inj h
        have f1 := List.find?_some hal
        have f2 := List.mem_of_find?_eq_some hal
        simp only [Bool.and_eq_true, beq_iff_eq] at f1
        have g2 := aT_ok x f2
        rw [f1.1, f1.2] at g2
        intro H locs cells slots lsm ad ac hk2
        obtain ⟨r1, r2⟩ := hR
        rw [List.length_append] at r1
        rw [tot_app] at r2
        have r2 : tot σ + (n.toNat + 0) ≤ s0 + R.slots := r2
        have r1 : σ.length + 1 ≤ n0 + R.cells := r1
        have e1 := hk2.2.2.2.2.2.1
        have e2 := hk2.2.2.2.2.2.2.1
        rw [List.map_cons, cv0]
        refine va_newq hx hb hown (hts _ (TG_in g2 rfl)) hT.2.2.1 hT.1 hk2.1.1 hk2.1.2.1 hk2.2.1 (fun q hq => by show base ≤ q; omega) (N' := n.toNat) n1 n2 (by omega) (by omega) (by omega) hd ?_
        intro q cA H1 hK hP hD hS
        have hst := ok_t1 hk2.sto
        have ha : arc (adn ad σ.length q) (adn ac σ.length cA) σ.length 22 n.toNat (fun y => dfv 22 y.toNat) = .inl (cA, n.toNat, .inr (.inr (.inr (.inr (fun _ => none))))) := by
          rw [arc_r (by decide), adn_eq]
          congr 7
          funext j
          split
          · rfl
          · rfl
        rw [← ha] at hP hD
        have kk := hG H1 locs (cells + 1) (slots + n.toNat) lsm _ _ (hk2.mk1 (cA := cA) (Or.inr ⟨by decide, by decide⟩) hP hD hS (fun ty ht => by
          cases ht
          exact hK.2 0 _ rfl) (ok_c1 (okv_r ⟨by omega, by omega⟩) (by simp) (ok_mono hst (by omega))))
        rw [List.map_cons, cv2 _ _ (by omega), Int.toNat_natCast, adn_eq, map_cv hst (fun k hk => adn_lt hk)] at kk
        exact kk
      · cases h
    · cases h
  · cases h

theorem cats_cv (ad : Nat → Nat) (st : List AV) : ((st.map (cv ad bb)).map fun v => v.category).sum = cats st := by
  unfold cats
  rw [List.map_map]
  congr 1
  apply List.map_congr_left
  intro v _
  exact cv_cat ad bb v
theorem mlk_spec {oc idx : Nat} {x : Nat × Nat × Nat × Nat × Nat × Nat × Nat × Nat} (h : mlk oc idx = some x) : x.1 = oc ∧ x.2.1 = idx ∧ x ∈ mT ∧ mOk x = true := by
  have h1 := List.find?_some h
  have h2 := List.mem_of_find?_eq_some h
  simp only [Bool.and_eq_true, beq_iff_eq] at h1
  exact ⟨h1.1, h1.2, h2, mT_ok x h2⟩

theorem g_oini (C : Cx f o p R s m args meth c base bb D) {n : Nat} (hd : decode (bc f) pc = .ok (.invokespecial n, len)) (hm : (mlk (own f) n).map (fun e => e.2.2.2.1) = some 6)
    (h : (if len = 3 then match st with
      | (2, _) :: st => if cats st ≤ 8 ∧ 1 ≤ hgt f then nx (pc + 3) ls st σ M else none
      | _ => none
      else none) = some (.inl (pc', ls', st', σ', M'))) (hG : G p l e R s m args below meth c Q D base bb o f n0 s0 ad0 ac0 pc' ls' st' σ' M') : G p l e R s m args below meth c Q D base bb o f n0 s0 ad0 ac0 pc ls st σ M := by
  obtain ⟨hx, hb, hml, hown, hts, -, -, -, hfr, hlo, hT, hbs, -⟩ := C
  split at h
  · rename_i hl
    subst hl
    split at h
    · rename_i a st0
      split at h
      · rename_i hc
        obtain ⟨rfl, rfl, rfl, rfl, rfl⟩ := nx_inj h
        obtain ⟨x, hx1, hx2⟩ := Option.map_eq_some_iff.mp hm
        obtain ⟨g1, g2, g3, g4⟩ := mlk_spec hx1
        unfold mOk at g4
        rw [if_pos hx2, decide_eq_true_eq, g1, g2] at g4
        intro H locs cells slots lsm ad ac hk2
        have hr := ok_rngr hk2.sto
        rw [List.map_cons, cv2 _ _ hr.1]
        refine W.objInit hx hb hown (hts _ (TG_in g4 rfl)) (hts _ tg_oin) (hts _ tg_oco) rfl (by rw [hml]; exact hk2.2.2.1.1) rfl hd (by omega) (by show 2 * 0 + _ + 12 ≤ _; rw [cats_cv]; omega) ?_
        exact hG H locs cells slots lsm ad ac (hk2.stk (ok_t1 hk2.sto))
      · cases h
    · cases h
  · cases h
theorem cp2_ne (M : Mo) (b sp dp n : Int) (k : Nat) {j : Nat} (h : j ≠ k) : cp2 M b sp k dp n j = M j := by
  funext y
  unfold cp2
  rw [if_neg (by rintro ⟨q, -⟩; exact h (by exact_mod_cast q))]
theorem cp2_eq (M : Mo) (b sp dp n : Int) (k : Nat) : cp2 M b sp k dp n k = fun y => if dp ≤ y ∧ y < dp + n then M b (sp + (y - dp)) else M k y := by
  funext y
  unfold cp2
  simp
theorem tys2 {ad : Nat → Nat} {ac : Nat → ClassId} {H : Heap} {k j : Nat} {ty : FieldType} (h : Wo D ad ac base s σ M H) (hT : Tb D s) (hk : k < σ.length) (hj : j < σ.length) (ht : aty (sg σ k).1 = some ty) (ht2 : aty (sg σ j).1 = some ty) : va_K D vwCl [(ac k, ty), (ac j, ty)] s :=
  ⟨hT.1.1, fun i q hi => by
    match i, hi with
    | 0, hi => cases hi; exact h.2.2.1 k hk ty ht
    | 1, hi => cases hi; exact h.2.2.1 j hj ty ht2
    | i + 2, hi => simp at hi⟩
theorem g_acp (C : Cx f o p R s m args meth c base bb D) {n : Nat} (hd : decode (bc f) pc = .ok (.invokestatic n, len)) (hm : (mlk (own f) n).map (fun e => e.2.2.2.1) = some 7)
    (h : (if len = 3 then match st with
      | (0, n) :: (0, dp) :: (2, a) :: (0, sp) :: (2, b) :: st => if ((shp σ a).1 = 20 ∧ (shp σ b).1 = 20 ∨ (shp σ a).1 = 21 ∧ (shp σ b).1 = 21) ∧ 0 ≤ n ∧ 0 ≤ sp ∧ 0 ≤ dp ∧ sp + n ≤ (shp σ b).2 ∧ dp + n ≤ (shp σ a).2 ∧ cats st ≤ 8 ∧ 1 ≤ hgt f then nx (pc + 3) ls st σ (cp2 M b sp a dp n) else none
      | _ => none
      else none) = some (.inl (pc', ls', st', σ', M'))) (hG : G p l e R s m args below meth c Q D base bb o f n0 s0 ad0 ac0 pc' ls' st' σ' M') : G p l e R s m args below meth c Q D base bb o f n0 s0 ad0 ac0 pc ls st σ M := by
  obtain ⟨hx, hb, hml, hown, hts, -, -, -, hfr, hlo, hT, hbs, -⟩ := C
  split at h
  · rename_i hl
    subst hl
    split at h
    · rename_i n dp a sp b st0
      split at h
      · rename_i hc
        obtain ⟨rfl, rfl, rfl, rfl, rfl⟩ := nx_inj h
        obtain ⟨x, hx1, hx2⟩ := Option.map_eq_some_iff.mp hm
        obtain ⟨g1, g2, g3, g4⟩ := mlk_spec hx1
        unfold mOk at g4
        rw [if_neg (by omega), if_pos hx2, decide_eq_true_eq, g1, g2] at g4
        obtain ⟨hc0, hn0, hs0, hd0, hc4, hc5, hc6, hc7⟩ := hc
        obtain ⟨k, rfl, hk, hsg⟩ := shp_arr (rfl : (shp σ' a).1 = (shp σ' a).1) (by omega)
        obtain ⟨j, rfl, hj, hsj⟩ := shp_arr (rfl : (shp σ' b).1 = (shp σ' b).1) (by omega)
        intro H locs cells slots lsm ad ac hk2
        have rn := ok_rng hk2.sto
        have rd := ok_rng (ok_t1 hk2.sto)
        have rs := ok_rng (ok_t1 (ok_t1 (ok_t1 hk2.sto)))
        have hst := ok_t1 (ok_t1 (ok_t1 (ok_t1 (ok_t1 hk2.sto))))
        have z3 : ∀ z : Int, 0 ≤ z → (-2147483648 ≤ z ∧ z < 2147483648) → ¬ Int32.ofInt z < 0 ∧ (Int32.ofInt z).toNatClampNeg = z.toNat := by
          intro z h0 hr
          refine ⟨fun q => ?_, ?_⟩
          · rw [show (0 : Int32) = Int32.ofInt 0 from rfl, i32_lt hr (by omega)] at q
            omega
          · unfold Int32.toNatClampNeg
            rw [i32_of hr]
        obtain ⟨n1, n2⟩ := z3 n hn0 rn
        obtain ⟨d1, d2⟩ := z3 dp hd0 rd
        obtain ⟨s1, s2⟩ := z3 sp hs0 rs
        rw [List.map_cons, List.map_cons, List.map_cons, List.map_cons, List.map_cons, cv0, cv0, cv0, cv2 _ _ (show (0 : Int) ≤ k by omega), cv2 _ _ (show (0 : Int) ≤ j by omega), Int.toNat_natCast, Int.toNat_natCast]
        have hg := wso_get ad ac σ' M hk
        have hgj := wso_get ad ac σ' M hj
        rw [hsg] at hg
        rw [hsj] at hgj
        dsimp only at hg hgj
        have hfin : ∀ (H1 : Heap) (locs1 : List Loc) (e' : va_E), arc ad ac k (sg σ' k).1 (sg σ' k).2 (cp2 M j sp k dp n k) = e' → va_P D vwCl ((wso ad ac σ' M).set k (ad k, e')) H1 → va_D (fun q => base ≤ q) ((wso ad ac σ' M).set k (ad k, e')) → va_S (fun q => base ≤ q) s.heap H1 locs1 → W p l e R s m args below meth c H1 locs1 cells slots Q (F0 m (pc + 3) lsm (List.map (cv ad bb) st')) := by
          intro H1 locs1 e' he hP hD hS
          rw [wso_set ad ac σ' M (cp2 M j sp k dp n) hk he (fun i hi => cp2_ne M j sp dp n k hi)] at hP hD
          refine hG H1 locs1 cells slots lsm ad ac ⟨⟨hP, hD, hk2.1.2.2.1, ?_, hk2.1.2.2.2.2⟩, hS, hk2.2.2.1, hk2.2.2.2.1, hst, hk2.2.2.2.2.2⟩
          intro q hq i hi
          by_cases hqk : q = k
          · subst hqk
            rw [cp2_eq]
            dsimp only
            split
            · rename_i hin
              have h1 := hk2.1.2.2.2.1 j hj (sp + (i - dp)).toNat (by rw [hsj]; show (sp + (i - dp)).toNat < (shp σ' ↑j).2; omega)
              rw [show (((sp + (i - dp)).toNat : Nat) : Int) = sp + (i - dp) by omega] at h1
              have ht : tgk (sg σ' j).1 (sp + (i - dp)).toNat = tgk (sg σ' q).1 i := by
                rw [hsj, hsg]
                unfold tgk
                dsimp only
                rcases hc0 with ⟨u1, u2⟩ | ⟨u1, u2⟩ <;> rw [u1, u2] <;> rfl
              rw [ht] at h1
              exact h1
            · exact hk2.1.2.2.2.1 q hq i hi
          · rw [cp2_ne _ _ _ _ _ _ hqk]
            exact hk2.1.2.2.2.1 q hq i hi
        rcases hc0 with ⟨u1, u2⟩ | ⟨u1, u2⟩
        · rw [u1, arc_i] at hg
          rw [u2, arc_i] at hgj
          refine va_copyi hx hb (by rw [hml]; exact hk2.2.2.1.1.symm) hown (hts _ (TG_in g4 rfl)) (hts _ tg_nat) (hts _ tg_sta) (hts _ tg_sys) (tys2 (ty := .int) hk2.1 hT hj hk (by rw [hsj]; dsimp only; rw [u2]; rfl) (by rw [hsg]; dsimp only; rw [u1]; rfl)) hk2.1.1 hk2.1.2.1 hk2.2.1 j k 0 1 hgj hg rfl rfl rfl s1 d1 n1 (by rw [s2, n2]; omega) (by rw [d2, n2]; omega) (fun _ _ => rfl) (by omega) (by rw [cats_cv, show nativeFrameWords "java/lang/System" "arraycopy" 5 = 7 by decide]; omega) hd (fun H1 locs1 hP hD hS => hfin H1 locs1 _ ?_ hP hD hS)
          rw [hsg]
          dsimp only
          rw [u1, arc_i, cp2_eq, s2, d2, n2]
          congr 4
          funext i
          unfold va_cpy
          dsimp only
          by_cases hi : dp ≤ i ∧ i < dp + n
          · rw [if_pos hi, if_pos (by omega)]
            congr 2
            omega
          · rw [if_neg hi, if_neg (by omega)]
        · rw [u1, arc_l] at hg
          rw [u2, arc_l] at hgj
          refine va_copyl hx hb (by rw [hml]; exact hk2.2.2.1.1.symm) hown (hts _ (TG_in g4 rfl)) (hts _ tg_nat) (hts _ tg_sta) (hts _ tg_sys) (tys2 (ty := .long) hk2.1 hT hj hk (by rw [hsj]; dsimp only; rw [u2]; rfl) (by rw [hsg]; dsimp only; rw [u1]; rfl)) hk2.1.1 hk2.1.2.1 hk2.2.1 j k 0 1 hgj hg rfl rfl rfl s1 d1 n1 (by rw [s2, n2]; omega) (by rw [d2, n2]; omega) (fun _ _ => rfl) (by omega) (by rw [cats_cv, show nativeFrameWords "java/lang/System" "arraycopy" 5 = 7 by decide]; omega) hd (fun H1 locs1 hP hD hS => hfin H1 locs1 _ ?_ hP hD hS)
          rw [hsg]
          dsimp only
          rw [u1, arc_l, cp2_eq, s2, d2, n2]
          congr 5
          funext i
          unfold va_cpy
          dsimp only
          by_cases hi : dp ≤ i ∧ i < dp + n
          · rw [if_pos hi, if_pos (by omega)]
            congr 2
            omega
          · rw [if_neg hi, if_neg (by omega)]
      · cases h
    · cases h
  · cases h

end
end
section
/-! Arrays of arrays. -/
/-- f, but v at every address of l -/
def vr_up {α : Type} (f : Nat → α) (l : List Nat) (v : α) : Nat → α := fun a => if a ∈ l then v else f a
theorem vr_up_in {α : Type} {f : Nat → α} {l : List Nat} {v : α} {a : Nat} (h : a ∈ l) : vr_up f l v a = v := if_pos h
theorem vr_up_ne {α : Type} {f : Nat → α} {l : List Nat} {v : α} {a : Nat} (h : a ∉ l) : vr_up f l v a = f a := if_neg h
theorem vr_rows {L l : List Nat} {f : Nat → va_E} {e : va_E} (h : ∀ a, a ∈ l → a ∉ L) : va_pl L f ++ l.map (fun a => (a, e)) = va_pl (L ++ l) (vr_up f l e) := by
  unfold va_pl
  rw [List.map_append]
  congr 1
  · apply List.map_congr_left
    intro a ha
    rw [vr_up_ne (fun q => h a q ha)]
  · apply List.map_congr_left
    intro a ha
    rw [vr_up_in ha]
theorem vr_lay {X rows : va_W} {x : Nat × va_E} {pl : va_W} {D : va_G} {cl : List vw_C} {H : Heap} (hP : va_P D cl (((X ++ pl) ++ [x]) ++ rows) H) : va_P D cl ((X ++ [x]) ++ (pl ++ rows)) H := by
  rw [List.append_assoc (X ++ pl)] at hP
  have h := va_P.swap hP
  rw [← List.append_assoc X] at h
  have h2 := va_P.swap h
  rw [List.append_assoc (X ++ [x])] at h2
  exact h2
theorem vr_layD {X rows : va_W} {x : Nat × va_E} {pl : va_W} {A : Nat → Prop} (hD : va_D A (((X ++ pl) ++ [x]) ++ rows)) : va_D A ((X ++ [x]) ++ (pl ++ rows)) := by
  rw [List.append_assoc (X ++ pl)] at hD
  have h := va_D.swap hD
  rw [← List.append_assoc X] at h
  have h2 := va_D.swap h
  rw [List.append_assoc (X ++ [x])] at h2
  exact h2
theorem vr_outer (c : ClassId) (N h0 : Nat) : ∀ i : Nat, Jvm.Free.Multi.outerC c N h0 i = arrV c N (fun j => va_rf (if j < i then some (h0 + 1 + j) else none))
  | 0 => by
    show ({ cls := c, slots := Array.replicate N .null, vm := .none } : Cell) = _
    rw [arrV_new]
    refine congrArg (arrV c N) (funext fun j => ?_)
    simp [va_rf]
  | i + 1 => by
    show (Jvm.Free.Multi.outerC c N h0 i).setSlot i (.ref (h0 + 1 + i)) = _
    rw [vr_outer c N h0 i, arrV_store]
    refine congrArg (arrV c N) (funext fun j => ?_)
    by_cases e : j = i
    · subst e
      simp [updV, va_rf]
    · by_cases h : j < i
      · simp [updV, e, h, Nat.lt_succ_of_lt h]
      · simp [updV, e, h, show ¬ j < i + 1 by omega]
section VGM
variable {p : Program} {l : Launch} {e : Env} {R : Room} {s : State} {m : MethodId} {args : Array Value} {below : List Frame} {meth : Method} {c : Code} {H : Heap} {locs : List Loc} {cells slots : Nat} {Q : State → Prop}
variable {cc : ByteArray} {pc : Nat} {ls : Array Slot} {rest : List Value} {D : va_G} {cl : List vw_C} {A : Nat → Prop} {a : Nat} {tys : List (ClassId × FieldType)} {ws : va_W} {H0 : Heap}
theorem va_mna {X : va_W} {L : List Nat} {f : Nat → va_E} {cc : ByteArray} (hexec : p.tables.exec = Jvm.exec) (hb : c.code = cc) {own : String} {index : Nat} {ty : FieldType} {cy : ClassId} (hown : s.vm.findClass own = some m.cls) (hclink : (Cond.classLink own index ("[" ++ (FieldType.array ty).toString)).before args s = true) (hover : va_AOA ty s) (harr : (Cond.arrayClass ty).before args s = true) (hcy : s.vm.findClass (FieldType.array ty).toString = some cy)
    (hK : va_K D cl tys s) (hP : va_P D cl (X ++ va_pl L f) H) (hD : va_D A (X ++ va_pl L f)) (hS : va_S A H0 H locs) (hA : ∀ q, H0.size ≤ q → A q) {n k : Int32} {N' K' : Nat} {z : vp_A} (hn : ¬ n < 0) (hk : ¬ k < 0) (hN : n.toNatClampNeg = N') (hM : k.toNatClampNeg = K')
    (hb1 : N' * 4 ≤ 536870912) (hb2 : K' * componentBytes ty ≤ 536870912) (hb3 : K' ≤ 536870912) (hdf : fits ty (defaultValue ty) = true) (hdd : (defaultValue ty).isDefault = true) (hcells : cells + (1 + N') ≤ R.cells) (hslots : slots + (N' + N' * K') ≤ R.slots) (hz : ∀ c : ClassId, Jvm.Free.Multi.innerC c K' (defaultValue ty) = vp_cell c z) (hdg : decode cc pc = .ok (.multianewarray index 2, 4))
    (kk : ∀ (q : Nat) (r : Nat → Nat) (cA : ClassId) (H1 : Heap), (∀ i j : Nat, i < N' → j < N' → r i = r j → i = j) → (∀ i : Nat, i < N' → r i ∉ L) → va_K D cl (tys ++ [(cA, .array ty)]) s →
      va_P D cl ((X ++ [(q, .inl (cA, N', .inr (.inr (.inr (.inr (fun i => if i < N' then some (r i) else none))))))]) ++ va_pl (L ++ (List.range N').map r) (vr_up f ((List.range N').map r) (.inl (cy, z)))) H1 → va_D A ((X ++ [(q, .inl (cA, N', .inr (.inr (.inr (.inr (fun i => if i < N' then some (r i) else none))))))]) ++ va_pl (L ++ (List.range N').map r) (vr_up f ((List.range N').map r) (.inl (cy, z)))) → va_S A H0 H1 locs →
      W p l e R s m args below meth c H1 locs (cells + 1 + N') (slots + N' + N' * K') Q (F0 m (pc + 4) ls (.ref q :: rest))) : W p l e R s m args below meth c H locs cells slots Q (F0 m pc ls (.int k :: .int n :: rest)) := by
  subst hN
  subst hM
  intro T hT Xs
  obtain ⟨vm₁, cA, comp, -, fA, fC, hO, -, X', step⟩ := Xs.multianewarray2F hexec hown hclink hover harr (g := F0 m pc ls (.int k :: .int n :: rest)) rfl (by rw [hb]; exact hdg) rfl hn hk hb1 hb2 hb3 hdf hdd hcells hslots
  have ec : some cy = some comp := hcy.symm.trans fC
  cases ec
  generalize hF : Jvm.Free.Multi.fill (T.setVm vm₁) cA cy n.toNatClampNeg k.toNatClampNeg (defaultValue ty) n.toNatClampNeg = F at X' step
  have hTh : (T.setVm vm₁).heap = H := hT
  obtain ⟨f1, f2, -, -⟩ := Jvm.Free.Multi.fill_facts (T.setVm vm₁) cA cy n.toNatClampNeg k.toNatClampNeg (defaultValue ty) n.toNatClampNeg
  rw [hF, hTh] at f1 f2
  have hold : ∀ x : Nat, x < H.size → F.heap[x]? = H[x]? := fun x hx => by
    have := Jvm.Free.Multi.fill_old (T.setVm vm₁) cA cy n.toNatClampNeg k.toNatClampNeg (defaultValue ty) (a := x) (by rw [hTh]; exact hx) n.toNatClampNeg
    rw [hF, hTh] at this
    exact this
  have hrow : ∀ j : Nat, j < n.toNatClampNeg → F.heap[H.size + 1 + j]? = some (vp_cell cy z) := fun j hj => by
    have := Jvm.Free.Multi.fill_inner (T.setVm vm₁) cA cy n.toNatClampNeg k.toNatClampNeg (defaultValue ty) n.toNatClampNeg j hj
    rw [hF, hTh, hz] at this
    exact this
  have hout : Jvm.Free.Multi.outerC cA n.toNatClampNeg H.size n.toNatClampNeg = vp_cell cA (n.toNatClampNeg, .inr (.inr (.inr (.inr (fun i => if i < n.toNatClampNeg then some (H.size + 1 + i) else none))))) := by
    rw [vp_cell_q]
    exact vr_outer cA n.toNatClampNeg H.size n.toNatClampNeg
  rw [hout] at f2
  have hlt : ∀ a, a ∈ L → a < H.size := fun a ha => by
    obtain ⟨k9, hk9⟩ := va_pl_get (X := X) (f := f) ha
    exact (hP k9 _ hk9).lt
  have hnl : ∀ i : Nat, i < n.toNatClampNeg → H.size + 1 + i ∉ L := fun i _ h => by
    have := hlt _ h
    omega
  have hnm : ∀ a, a ∈ (List.range n.toNatClampNeg).map (fun i => H.size + 1 + i) → a ∉ L := fun a ha h => by
    obtain ⟨i, -, rfl⟩ := List.mem_map.mp ha
    have := hlt _ h
    omega
  have hP0 : va_P D cl (X ++ va_pl L f) F.heap := hP.kept (fun k9 x hx => hold x.1 ((hP k9 x hx).lt))
  have hP1 : va_P D cl ((X ++ va_pl L f) ++ [(H.size, .inl (cA, n.toNatClampNeg, .inr (.inr (.inr (.inr (fun i => if i < n.toNatClampNeg then some (H.size + 1 + i) else none))))))]) F.heap := hP0.app (fun k9 x hx => by
    have h0 : k9 < 1 := (List.getElem?_eq_some_iff.mp hx).1
    rw [show k9 = 0 by omega] at hx
    cases hx
    exact f2)
  have hP2 : va_P D cl (((X ++ va_pl L f) ++ [(H.size, .inl (cA, n.toNatClampNeg, .inr (.inr (.inr (.inr (fun i => if i < n.toNatClampNeg then some (H.size + 1 + i) else none))))))]) ++ ((List.range n.toNatClampNeg).map (fun i => H.size + 1 + i)).map (fun a => (a, .inl (cy, z)))) F.heap := hP1.app (fun k9 x hx => by
    obtain ⟨a, ha, rfl⟩ := List.mem_map.mp (List.mem_of_getElem? hx)
    obtain ⟨i, hi, rfl⟩ := List.mem_map.mp ha
    exact hrow i (List.mem_range.mp hi))
  have hD2 : va_D A (((X ++ va_pl L f) ++ [(H.size, .inl (cA, n.toNatClampNeg, .inr (.inr (.inr (.inr (fun i => if i < n.toNatClampNeg then some (H.size + 1 + i) else none))))))]) ++ ((List.range n.toNatClampNeg).map (fun i => H.size + 1 + i)).map (fun a => (a, .inl (cy, z)))) := by
    have hD1 := hD.push (e := .inl (cA, n.toNatClampNeg, .inr (.inr (.inr (.inr (fun i => if i < n.toNatClampNeg then some (H.size + 1 + i) else none)))))) hP rfl (hA _ hS.1)
    generalize hW1 : (X ++ va_pl L f) ++ [(H.size, .inl (cA, n.toNatClampNeg, .inr (.inr (.inr (.inr (fun i => if i < n.toNatClampNeg then some (H.size + 1 + i) else none))))))] = W1 at hD1 hP1 ⊢
    have hle : ∀ (k9 : Nat) (x : Nat × va_E), W1[k9]? = some x → x.1 ≤ H.size := fun k9 x hx => by
      rw [← hW1] at hx
      by_cases hl : k9 < (X ++ va_pl L f).length
      · rw [List.getElem?_append_left hl] at hx
        exact Nat.le_of_lt ((hP k9 x hx).lt)
      · rw [List.getElem?_append_right (by omega)] at hx
        have h0 : k9 - (X ++ va_pl L f).length < 1 := (List.getElem?_eq_some_iff.mp hx).1
        rw [show k9 - (X ++ va_pl L f).length = 0 by omega] at hx
        cases hx
        exact Nat.le_refl _
    have hr : ∀ (k9 : Nat) (x : Nat × va_E), (((List.range n.toNatClampNeg).map (fun i => H.size + 1 + i)).map (fun a => ((a, .inl (cy, z)) : Nat × va_E)))[k9]? = some x → x.1 = H.size + 1 + k9 := fun k9 x hx => by
      rw [List.getElem?_map, List.getElem?_map] at hx
      by_cases h9 : k9 < n.toNatClampNeg
      · rw [List.getElem?_range h9] at hx
        cases hx
        rfl
      · have hn0 : (List.range n.toNatClampNeg)[k9]? = none := List.getElem?_eq_none (by rw [List.length_range]; omega)
        rw [hn0] at hx
        cases hx
    refine ⟨fun i j x y hi hj hxy => ?_, fun k9 x hx => ?_⟩
    · by_cases h1 : i < W1.length <;> by_cases h2 : j < W1.length
      · rw [List.getElem?_append_left h1] at hi
        rw [List.getElem?_append_left h2] at hj
        exact hD1.1 i j x y hi hj hxy
      · rw [List.getElem?_append_left h1] at hi
        rw [List.getElem?_append_right (by omega)] at hj
        have := hle _ _ hi
        have := hr _ _ hj
        omega
      · rw [List.getElem?_append_right (by omega)] at hi
        rw [List.getElem?_append_left h2] at hj
        have := hle _ _ hj
        have := hr _ _ hi
        omega
      · rw [List.getElem?_append_right (by omega)] at hi hj
        have := hr _ _ hi
        have := hr _ _ hj
        omega
    · by_cases h1 : k9 < W1.length
      · rw [List.getElem?_append_left h1] at hx
        exact hD1.2 k9 x hx
      · rw [List.getElem?_append_right (by omega)] at hx
        have := hr _ _ hx
        exact hA _ (by have := hS.1; omega)
  have hAr : ArrOfT s cA (.array ty) := fun N9 z9 => by
    obtain ⟨-, k9, hk9, cm9, hkk9⟩ := (hO 0 0 0).1
    exact ⟨(fun q hq => by cases hq), k9, hk9, cm9, hkk9⟩
  have hK2 : va_K D cl (tys ++ [(cA, .array ty)]) s := ⟨hK.1, fun k9 x hx => by
    by_cases hl : k9 < tys.length
    · rw [List.getElem?_append_left hl] at hx
      exact hK.2 k9 x hx
    · rw [List.getElem?_append_right (by omega)] at hx
      have h0 : k9 - tys.length < 1 := (List.getElem?_eq_some_iff.mp hx).1
      rw [show k9 - tys.length = 0 by omega] at hx
      cases hx
      exact ⟨hAr, fA⟩⟩
  obtain ⟨t, a1, b1⟩ := kk H.size (fun i => H.size + 1 + i) cA F.heap (fun i j _ _ h => by have h9 : H.size + 1 + i = H.size + 1 + j := h; omega) hnl hK2 (by rw [← vr_rows hnm]; exact vr_lay hP2) (by rw [← vr_rows hnm]; exact vr_layD hD2) ⟨by rw [f1]; have := hS.1; omega, fun x h1 h2 => (hold x (Nat.lt_of_lt_of_le h1 hS.1)).trans (hS.2.1 x h1 h2), hS.2.2⟩ F rfl X'
  refine ⟨t, step t ?_, b1⟩
  have e : T.heap.size = H.size := by rw [hT]
  rw [e]
  exact a1
end VGM

theorem rng_get {α : Type} {n k : Nat} {g : Nat → α} (h : k < n) : ((List.range n).map g)[k]? = some (g k) := by
  rw [List.getElem?_map, List.getElem?_range h]
  rfl
section
variable {p : Program} {l : Launch} {e : Env} {R : Room} {s : State} {m : MethodId} {args : Array Value} {below : List Frame} {meth : Method} {c : Code} {Q : State → Prop} {D : va_G} {base bb : Nat} {o : Option (List Int)} {f n0 s0 : Nat} {ad0 : Nat → Nat} {ac0 : Nat → ClassId}
variable {pc pc' len : Nat} {ls st ls' st' : List AV} {σ σ' : Sh} {M M' : Mo}
def adg {α : Type} (ad : Nat → α) (n : Nat) (q : α) (r : Nat → α) : Nat → α := fun k => if k < n then ad k else if k = n then q else r (k - n - 1)
theorem adg_lt {α : Type} {ad : Nat → α} {n k : Nat} {q : α} {r : Nat → α} (h : k < n) : adg ad n q r k = ad k := if_pos h
theorem adg_eq {α : Type} {ad : Nat → α} {n : Nat} {q : α} {r : Nat → α} : adg ad n q r n = q := by
  unfold adg
  rw [if_neg (by omega), if_pos rfl]
theorem adg_gt {α : Type} {ad : Nat → α} {n i : Nat} {q : α} {r : Nat → α} : adg ad n q r (n + 1 + i) = r i := by
  unfold adg
  rw [if_neg (by omega), if_neg (by omega)]
  congr 1
  omega
theorem sg_gt {τ : Sh} {x y : Nat × Nat} {N i : Nat} (h : i < N) : sg ((τ ++ [x]) ++ List.replicate N y) (τ.length + 1 + i) = y := by
  unfold sg
  rw [List.getD_eq_getElem?_getD, List.getElem?_append_right (by rw [List.length_append, List.length_singleton]; omega)]
  simp only [List.length_append, List.length_singleton]
  rw [show τ.length + 1 + i - (τ.length + 1) = i by omega, List.getElem?_replicate, if_pos h]
  rfl
theorem sg_eqg {τ : Sh} {x y : Nat × Nat} {N : Nat} : sg ((τ ++ [x]) ++ List.replicate N y) τ.length = x := by
  rw [sg_app_lt (by simp)]
  exact sg_app_eq
theorem sg_ltg {τ : Sh} {x y : Nat × Nat} {N k : Nat} (h : k < τ.length) : sg ((τ ++ [x]) ++ List.replicate N y) k = sg τ k := by
  rw [sg_app_lt (by simp; omega)]
  exact sg_app_lt h
theorem nwg_lt {N k : Nat} (h : k < σ.length) : nwg σ M N k = M k := by
  funext y
  unfold nwg
  rw [if_neg (by omega), if_neg (by omega)]
theorem nwg_eq {N : Nat} : nwg σ M N (σ.length : Int) = fun y : Int => if 0 ≤ y ∧ y < N then (σ.length : Int) + 1 + y else -1 := by
  funext y
  unfold nwg
  rw [if_pos rfl]
theorem nwg_gt {N i : Nat} (h : i < N) : nwg σ M N ((σ.length + 1 + i : Nat) : Int) = fun _ => 0 := by
  funext y
  unfold nwg
  rw [if_neg (by omega), if_pos (by omega)]
theorem len_g {x y : Nat × Nat} {N : Nat} : ((σ ++ [x]) ++ List.replicate N y).length = σ.length + 1 + N := by
  rw [List.length_append, List.length_append, List.length_singleton, List.length_replicate]
/-- the world behind new T[n][m] -/
theorem wso_grid {ad : Nat → Nat} {ac : Nat → ClassId} {kd N K q : Nat} {cA cy : ClassId} {r : Nat → Nat} (hw : wfm σ M) (hkd : kd = 23 ∨ kd = 24) :
    wso (adg ad σ.length q r) (adg ac σ.length cA (fun _ => cy)) ((σ ++ [(kd, N)]) ++ List.replicate N (kd - 3, K)) (nwg σ M N) = (wso ad ac σ M ++ [(q, .inl (cA, N, .inr (.inr (.inr (.inr (fun i => if i < N then some (r i) else none))))))]) ++ (List.range N).map (fun i => (r i, arc ad (fun _ => cy) 0 (kd - 3) K (fun _ => 0))) := by
  apply List.ext_getElem?
  intro k
  have hl1 : (wso ad ac σ M ++ [(q, (.inl (cA, N, .inr (.inr (.inr (.inr (fun i => if i < N then some (r i) else none))))) : va_E))]).length = σ.length + 1 := by rw [List.length_append, wso_len]; rfl
  by_cases h1 : k < σ.length
  · rw [wso_get _ _ _ _ (by rw [len_g]; omega), sg_ltg h1, adg_lt h1, nwg_lt h1, List.getElem?_append_left (by rw [hl1]; omega), List.getElem?_append_left (by rw [wso_len]; exact h1), wso_get _ _ _ _ h1]
    congr 2
    exact arc_ad (n := σ.length) (fun j hj => adg_lt hj) (adg_lt h1) (hw k h1)
  · by_cases h2 : k = σ.length
    · subst h2
      rw [wso_get _ _ _ _ (by rw [len_g]; omega), sg_eqg, adg_eq, nwg_eq, List.getElem?_append_left (by rw [hl1]; omega), List.getElem?_append_right (by rw [wso_len]; omega), wso_len, Nat.sub_self]
      dsimp only
      rw [arc_r (by omega), adg_eq]
      show some _ = some _
      congr 9
      funext j
      by_cases hj : j < N
      · rw [if_pos hj, if_pos hj, if_pos (by omega), rfo, if_neg (by omega)]
        rw [show ((σ.length : Int) + 1 + (j : Int)).toNat = σ.length + 1 + j by omega, adg_gt]
      · rw [if_neg hj, if_neg hj]
    · by_cases h3 : k < σ.length + 1 + N
      · obtain ⟨i, rfl⟩ : ∃ i, k = σ.length + 1 + i := ⟨k - σ.length - 1, by omega⟩
        have hi : i < N := by omega
        rw [wso_get _ _ _ _ (by rw [len_g]; omega), sg_gt hi, adg_gt, nwg_gt hi, List.getElem?_append_right (by rw [hl1]; omega), hl1, show σ.length + 1 + i - (σ.length + 1) = i by omega, rng_get hi]
        congr 2
        rcases hkd with rfl | rfl
        · show Sum.inl _ = Sum.inl _
          rw [adg_gt]
        · show Sum.inl _ = Sum.inl _
          rw [adg_gt]
      · rw [List.getElem?_eq_none (by rw [wso_len, len_g]; omega), List.getElem?_eq_none (by rw [List.length_append, hl1]; simp; omega)]
theorem Ok.mkg {H H1 : Heap} {locs : List Loc} {cells slots : Nat} {lsm : Array Slot} {ad : Nat → Nat} {ac : Nat → ClassId} {kd N K q : Nat} {cA cy : ClassId} {r : Nat → Nat} (h : Ok D base bb o f n0 s0 ad0 ac0 s H locs cells slots lsm ls st σ M ad ac) (hkd : kd = 23 ∨ kd = 24)
    (hP : va_P D vwCl ((wso ad ac σ M ++ [(q, .inl (cA, N, .inr (.inr (.inr (.inr (fun i => if i < N then some (r i) else none))))))]) ++ (List.range N).map (fun i => (r i, arc ad (fun _ => cy) 0 (kd - 3) K (fun _ => 0)))) H1) (hD : va_D (fun q => base ≤ q) ((wso ad ac σ M ++ [(q, .inl (cA, N, .inr (.inr (.inr (.inr (fun i => if i < N then some (r i) else none))))))]) ++ (List.range N).map (fun i => (r i, arc ad (fun _ => cy) 0 (kd - 3) K (fun _ => 0))))) (hS : va_S (fun q => base ≤ q) s.heap H1 locs)
    (hty : ∀ ty, aty kd = some ty → ArrOfT s cA ty ∧ va_RA s cA ty) (hty2 : ∀ ty, aty (kd - 3) = some ty → ArrOfT s cy ty ∧ va_RA s cy ty) (hst : ∀ v ∈ st', okv o (σ.length + 1 + N) v ∧ v.1 ≠ 9) : Ok D base bb o f n0 s0 ad0 ac0 s H1 locs (cells + 1 + N) (slots + N + N * K) lsm ls st' ((σ ++ [(kd, N)]) ++ List.replicate N (kd - 3, K)) (nwg σ M N) (adg ad σ.length q r) (adg ac σ.length cA (fun _ => cy)) := by
  obtain ⟨⟨w1, w2, w3, w4, w5⟩, h2, h3, h4, h5, h6, h7, h8⟩ := h
  have hlen : ((σ ++ [(kd, N)]) ++ List.replicate N (kd - 3, K)).length = σ.length + 1 + N := len_g
  rw [← wso_grid w4 hkd] at hP hD
  have three : ∀ k, k < σ.length + 1 + N → k < σ.length ∨ k = σ.length ∨ ∃ i, i < N ∧ k = σ.length + 1 + i := by
    intro k hk
    rcases Nat.lt_or_ge k σ.length with q | q
    · exact Or.inl q
    · rcases Nat.eq_or_lt_of_le q with q2 | q2
      · exact Or.inr (Or.inl q2.symm)
      · exact Or.inr (Or.inr ⟨k - σ.length - 1, by omega, by omega⟩)
  refine ⟨⟨hP, hD, ?_, ?_, ?_⟩, hS, ?_, ?_, ?_, ?_, ?_, ?_⟩
  · intro k hk ty ht
    rw [hlen] at hk
    rcases three k hk with hk | rfl | ⟨i, hi, rfl⟩
    · rw [sg_ltg hk] at ht
      rw [adg_lt hk]
      exact w3 k hk ty ht
    · rw [sg_eqg] at ht
      rw [adg_eq]
      exact hty ty ht
    · rw [sg_gt hi] at ht
      rw [adg_gt]
      exact hty2 ty ht
  · intro k hk j hj
    rw [hlen] at hk ⊢
    rcases three k hk with hk | rfl | ⟨i, hi, rfl⟩
    · rw [sg_ltg hk] at hj ⊢
      rw [nwg_lt hk]
      exact wfz_mono (w4 k hk j hj) (by omega)
    · rw [sg_eqg] at hj ⊢
      rw [nwg_eq]
      have hj : j < N := hj
      dsimp only
      have ht : tgk kd j = 2 := by unfold tgk; rw [if_neg (by omega), if_neg (by omega), if_neg (by omega)]
      rw [ht, if_pos (by omega)]
      exact ⟨fun q => absurd q (by decide), fun q => absurd q (by decide), fun _ => ⟨by omega, by omega⟩⟩
    · rw [sg_gt hi] at hj ⊢
      rw [nwg_gt hi]
      dsimp only
      exact ⟨fun q => by omega, fun q => by omega, fun q => by omega⟩
  · intro k hk
    rw [hlen] at hk
    rcases three k hk with hk | rfl | ⟨i, hi, rfl⟩
    · rw [sg_ltg hk]
      exact w5 k hk
    · rw [sg_eqg]
      dsimp only
      omega
    · rw [sg_gt hi]
      dsimp only
      omega
  · refine ⟨h3.1, h3.2.1, h3.2.2.1, fun i v hv h9 => ?_⟩
    rw [cv_ad (h4 v (List.mem_of_getElem? hv)) (fun k hk => adg_lt hk)]
    exact h3.2.2.2 i v hv h9
  · intro v hv
    rw [hlen]
    exact okv_mono (h4 v hv) (by omega)
  · rw [hlen]
    exact hst
  · rw [hlen]
    omega
  · rw [tot_app, tot_app]
    have hrep : tot (List.replicate N (kd - 3, K)) = N * K := by
      unfold tot
      rw [List.map_replicate, List.sum_replicate_nat]
    rw [hrep]
    show slots + N + N * K + s0 = tot σ + (N + 0) + N * K
    omega
  · intro k hk
    have : k < σ.length := by omega
    rw [adg_lt this, adg_lt this]
    exact h8 k hk
end
end
section
/-! One step of the abstract machine is one of the JVM. -/
section
variable {p : Program} {l : Launch} {e : Env} {R : Room} {s : State} {m : MethodId} {args : Array Value} {below : List Frame} {meth : Method} {c : Code} {Q : State → Prop} {D : va_G} {base bb : Nat} {o : Option (List Int)} {f n0 s0 : Nat} {ad0 : Nat → Nat} {ac0 : Nat → ClassId}
variable {pc pc' len : Nat} {ls st ls' st' : List AV} {σ σ' : Sh} {M M' : Mo}

theorem g_mna1 (C : Cx f o p R s m args meth c base bb D) {k kd : Nat} {ty : FieldType} {z : Nat → vp_A} (hd : decode (bc f) pc = .ok (.multianewarray k 2, 4)) {n b : Int} {st0 : List AV} (hkd : kd = 23 ∨ kd = 24) (hn : 0 ≤ n ∧ n < 65536) (hb0 : 0 ≤ b ∧ b < 65536) (hR : Rm R n0 s0 ((σ ++ [(kd, n.toNat)]) ++ List.replicate n.toNat (kd - 3, b.toNat)))
    (hw : Cond.classLink (cn (own f)) k ("[" ++ (FieldType.array ty).toString) ∈ TG) (hov : va_AOA ty s) (hac : Cond.arrayClass ty ∈ TG) (hfit : fits ty (defaultValue ty) = true) (hdd : (defaultValue ty).isDefault = true) (hcb : componentBytes ty ≤ 8) (ht1 : aty kd = some (.array ty)) (ht2 : aty (kd - 3) = some ty)
    (hz : ∀ (K : Nat) (c : ClassId), Jvm.Free.Multi.innerC c K (defaultValue ty) = vp_cell c (z K)) (harc : ∀ (K : Nat) (ad : Nat → Nat) (cy : ClassId), arc ad (fun _ => cy) 0 (kd - 3) K (fun _ => 0) = .inl (cy, z K)) (hra : ∀ cy : ClassId, s.vm.findClass ("[" ++ ty.toString) = some cy → va_RA s cy ty)
    (hG : G p l e R s m args below meth c Q D base bb o f n0 s0 ad0 ac0 (pc + 4) ls ((2, (σ.length : Int)) :: st0) ((σ ++ [(kd, n.toNat)]) ++ List.replicate n.toNat (kd - 3, b.toNat)) (nwg σ M n.toNat)) : G p l e R s m args below meth c Q D base bb o f n0 s0 ad0 ac0 pc ls ((0, b) :: (0, n) :: st0) σ M := by
  obtain ⟨hx, hb, hml, hown, hts, -, -, -, -, -, hT, hbs, -⟩ := C
  obtain ⟨n1, n2⟩ := n32 hn
  obtain ⟨b1, b2⟩ := n32 hb0
  obtain ⟨cy, ky, comp, y1, y2, y3⟩ := Cond.arrayClass_spec (args := args) (first := s) (o := none) (idx := []) (hts _ hac)
  have hAy : ArrOfT s cy ty := fun n z => ⟨fun k h => (by cases h), ky, y2, comp, y3⟩
  intro H locs cells slots lsm ad ac hk2
  obtain ⟨r1, r2⟩ := hR
  rw [len_g] at r1
  rw [tot_app, tot_app] at r2
  have hrep : tot (List.replicate n.toNat (kd - 3, b.toNat)) = n.toNat * b.toNat := by
    unfold tot
    rw [List.map_replicate, List.sum_replicate_nat]
  rw [hrep] at r2
  have r2 : tot σ + (n.toNat + 0) + n.toNat * b.toNat ≤ s0 + R.slots := r2
  have e1 := hk2.2.2.2.2.2.1
  have e2 := hk2.2.2.2.2.2.2.1
  rw [List.map_cons, List.map_cons, cv0, cv0]
  have hnil : wso ad ac σ M ++ va_pl [] (fun _ => (.inr (0, []) : va_E)) = wso ad ac σ M := by
    show wso ad ac σ M ++ [] = _
    rw [List.append_nil]
  refine va_mna (X := wso ad ac σ M) (L := []) (f := fun _ => (.inr (0, []) : va_E)) (z := z b.toNat) (cy := cy) hx hb hown (hts _ hw) hov (hts _ hac) y1 hT.1 (by rw [hnil]; exact hk2.1.1) (by rw [hnil]; exact hk2.1.2.1) hk2.2.1 (fun q hq => by show base ≤ q; omega) n1 b1 n2 b2 (by omega) (by have : b.toNat * componentBytes ty ≤ b.toNat * 8 := Nat.mul_le_mul_left _ hcb; omega) (by omega) hfit hdd (by omega) (by omega) (hz b.toNat) hd ?_
  intro q r cA H1 hinj _ hK hP hD hS
  have hst := ok_t1 (ok_t1 hk2.sto)
  have hpl : va_pl ([] ++ (List.range n.toNat).map r) (vr_up (fun _ => (.inr (0, []) : va_E)) ((List.range n.toNat).map r) (.inl (cy, z b.toNat))) = (List.range n.toNat).map (fun i => (r i, arc ad (fun _ => cy) 0 (kd - 3) b.toNat (fun _ => 0))) := by
    unfold va_pl
    rw [List.nil_append, List.map_map]
    apply List.map_congr_left
    intro i hi
    show (r i, vr_up _ _ _ (r i)) = _
    rw [vr_up_in (List.mem_map.mpr ⟨i, hi, rfl⟩), harc]
  rw [hpl] at hP hD
  have kk := hG H1 locs (cells + 1 + n.toNat) (slots + n.toNat + n.toNat * b.toNat) lsm _ _ (hk2.mkg hkd hP hD hS (fun t h => by
    rw [ht1] at h
    cases h
    exact hK.2 0 _ rfl) (fun t h => by
    rw [ht2] at h
    cases h
    exact ⟨hAy, hra cy y1⟩) (ok_c1 (okv_r ⟨by omega, by omega⟩) (by simp) (ok_mono hst (by omega))))
  rw [List.map_cons, cv2 _ _ (by omega), Int.toNat_natCast, adg_eq, map_cv hst (fun k hk => adg_lt hk)] at kk
  exact kk
theorem g_mna (C : Cx f o p R s m args meth c base bb D) {k d : Nat} (hd : decode (bc f) pc = .ok (.multianewarray k d, len)) (hR : Rm R n0 s0 σ')
    (h : astep o f pc (.multianewarray k d) len ls st σ M = some (.inl (pc', ls', st', σ', M'))) (hG : G p l e R s m args below meth c Q D base bb o f n0 s0 ad0 ac0 pc' ls' st' σ' M') : G p l e R s m args below meth c Q D base bb o f n0 s0 ad0 ac0 pc ls st σ M := by
  have C0 := C
  obtain ⟨hx, hb, hml, hown, hts, -, -, -, -, -, hT, hbs, -⟩ := C
  unfold astep at h
  dsimp only at h
  split at h
  · rename_i hl
    obtain ⟨rfl, rfl⟩ := hl
    split at h
    · rename_i x b n st0 hgl
      split at h
      · rename_i hn
        obtain ⟨rfl, rfl, rfl, rfl, rfl⟩ := nx_inj h
        have f1 := List.find?_some hgl
        have f2 := List.mem_of_find?_eq_some hgl
        simp only [Bool.and_eq_true, beq_iff_eq] at f1
        have g2 := gT_ok x f2
        rw [f1.1, f1.2] at g2
        rcases g2 with ⟨q1, q2⟩ | ⟨q1, q2⟩
        · rw [q1] at hG hR
          exact g_mna1 (z := fun K => (K, .inl (fun _ => (0 : Int32)))) C0 hd (Or.inl rfl) ⟨hn.1, hn.2.1⟩ hn.2.2 hR (TG_in q2 rfl) hT.2.2.2.1 tg_acI rfl rfl (by decide) rfl rfl (fun K c => arrV_new c K _) (fun K ad cy => rfl) (fun cy h => h) hG
        · rw [q1] at hG hR
          exact g_mna1 (z := fun K => (K, .inr (.inl (fun _ => (0 : Int64))))) C0 hd (Or.inr rfl) ⟨hn.1, hn.2.1⟩ hn.2.2 hR (TG_in q2 rfl) hT.2.2.2.2 tg_acJ rfl rfl (by decide) rfl rfl (fun K c => arrV_new c K _) (fun K ad cy => rfl) (fun cy h => h) hG
      · cases h
    · cases h
  · cases h

end
end
section
/-! One step of the abstract machine is one of the JVM. -/
theorem i8_of {z : Int} (h : -128 ≤ z) (h2 : z < 128) : (Int8.ofInt z).toInt32 = Int32.ofInt z := by
  rw [← Int32.toInt_inj, Int8.toInt_toInt32, Int8.toInt_ofInt, i32_of (by omega), show Int8.size = 256 from rfl, Int.bmod_eq_of_le (by omega) (by omega)]
theorem i16_of {z : Int} (h : -32768 ≤ z) (h2 : z < 32768) : (Int16.ofInt z).toInt32 = Int32.ofInt z := by
  rw [← Int32.toInt_inj, Int16.toInt_toInt32, Int16.toInt_ofInt, i32_of (by omega), show Int16.size = 65536 from rfl, Int.bmod_eq_of_le (by omega) (by omega)]
theorem i2l_of {z : Int} (h : -2147483648 ≤ z ∧ z < 2147483648) : (Int32.ofInt z).toInt64 = Int64.ofInt z := by
  rw [← Int64.toInt_inj, Int32.toInt_toInt64, i32_of h, i64_of (by omega)]
theorem lc_of : ∀ z : Fin 2, Int64.ofNat z.val = Int64.ofInt z.val := by decide
theorem z32 : (0 : Int32) = Int32.ofInt 0 := rfl

section
variable {p : Program} {l : Launch} {e : Env} {R : Room} {s : State} {m : MethodId} {args : Array Value} {below : List Frame} {meth : Method} {c : Code} {Q : State → Prop} {D : va_G} {base bb : Nat} {o : Option (List Int)} {f n0 s0 : Nat} {ad0 : Nat → Nat} {ac0 : Nat → ClassId}
variable {pc pc' len : Nat} {ls st ls' st' : List AV} {σ σ' : Sh} {M M' : Mo}

theorem g_if (C : Cx f o p R s m args meth c base bb D) {cc : Jvm.ClassFile.Cond} {z : Int} (hd : decode (bc f) pc = .ok (.ifCond cc z, len))
    (h : astep o f pc (.ifCond cc z) len ls st σ M = some (.inl (pc', ls', st', σ', M'))) (hG : G p l e R s m args below meth c Q D base bb o f n0 s0 ad0 ac0 pc' ls' st' σ' M') : G p l e R s m args below meth c Q D base bb o f n0 s0 ad0 ac0 pc ls st σ M := by
  obtain ⟨hx, hb, -⟩ := C
  unfold astep at h
  dsimp only at h
  split at h
  · rename_i hl
    obtain ⟨rfl, hjmp⟩ := hl
    split at h
    · rename_i x st0
      split at h
      · rename_i hc
        obtain ⟨ht, rfl, rfl, rfl, rfl⟩ := jm_spec h
        intro H locs cells slots lsm ad ac hk2
        have k := hG H locs cells slots lsm ad ac (hk2.stk (ok_t1 hk2.sto))
        have rx := ok_rng hk2.sto
        have ry : (-2147483648 : Int) ≤ 0 ∧ (0 : Int) < 2147483648 := by decide
        rw [List.map_cons, cv0]
        cases cc <;> simp only [cmpb, decide_eq_true_eq] at hc
        · exact lv_if_eq hx hb hd ht (fun _ => k) (fun q => absurd (by rw [z32, i32_eq rx ry]; exact hc) q)
        · exact lv_if_ne hx hb hd ht (fun _ => k) (fun q => absurd (by rw [z32, i32_eq rx ry] at q; exact q) hc)
        · exact lv_if_lt hx hb hd ht (fun _ => k) (fun q => absurd (by rw [z32, i32_lt rx ry]; exact hc) q)
        · exact lv_if_ge hx hb hd ht (fun _ => k) (fun q => absurd (by rw [z32, i32_le ry rx]; exact hc) q)
        · exact lv_if_gt hx hb hd ht (fun _ => k) (fun q => absurd (by rw [z32, i32_lt ry rx]; exact hc) q)
        · exact lv_if_le hx hb hd ht (fun _ => k) (fun q => absurd (by rw [z32, i32_le rx ry]; exact hc) q)
      · rename_i hc
        obtain ⟨rfl, rfl, rfl, rfl, rfl⟩ := nx_inj h
        intro H locs cells slots lsm ad ac hk2
        have k := hG H locs cells slots lsm ad ac (hk2.stk (ok_t1 hk2.sto))
        have rx := ok_rng hk2.sto
        have ry : (-2147483648 : Int) ≤ 0 ∧ (0 : Int) < 2147483648 := by decide
        rw [List.map_cons, cv0]
        have hneg : ¬ cmpb cc x 0 = true := hc
        have ht : (pc : Int) + z = (((pc : Int) + z).toNat : Int) := by omega
        cases cc <;> simp only [cmpb, decide_eq_true_eq] at hneg
        · exact lv_if_eq hx hb hd ht (fun q => absurd (by rw [z32, i32_eq rx ry] at q; exact q) hneg) (fun _ => k)
        · exact lv_if_ne hx hb hd ht (fun q => absurd (fun q2 => q (by rw [z32, i32_eq rx ry]; exact q2)) hneg) (fun _ => k)
        · exact lv_if_lt hx hb hd ht (fun q => absurd (by rw [z32, i32_lt rx ry] at q; exact q) hneg) (fun _ => k)
        · exact lv_if_ge hx hb hd ht (fun q => absurd (by rw [z32, i32_le ry rx] at q; exact q) hneg) (fun _ => k)
        · exact lv_if_gt hx hb hd ht (fun q => absurd (by rw [z32, i32_lt ry rx] at q; exact q) hneg) (fun _ => k)
        · exact lv_if_le hx hb hd ht (fun q => absurd (by rw [z32, i32_le rx ry] at q; exact q) hneg) (fun _ => k)
    · cases h
  · cases h
theorem g_icmp (C : Cx f o p R s m args meth c base bb D) {cc : Jvm.ClassFile.Cond} {z : Int} (hd : decode (bc f) pc = .ok (.if_icmp cc z, len))
    (h : astep o f pc (.if_icmp cc z) len ls st σ M = some (.inl (pc', ls', st', σ', M'))) (hG : G p l e R s m args below meth c Q D base bb o f n0 s0 ad0 ac0 pc' ls' st' σ' M') : G p l e R s m args below meth c Q D base bb o f n0 s0 ad0 ac0 pc ls st σ M := by
  obtain ⟨hx, hb, -⟩ := C
  unfold astep at h
  dsimp only at h
  split at h
  · rename_i hl
    obtain ⟨rfl, hjmp⟩ := hl
    split at h
    · rename_i y x st0
      split at h
      · rename_i hc
        obtain ⟨ht, rfl, rfl, rfl, rfl⟩ := jm_spec h
        intro H locs cells slots lsm ad ac hk2
        have k := hG H locs cells slots lsm ad ac (hk2.stk (ok_t1 (ok_t1 hk2.sto)))
        have rx := ok_rng (ok_t1 hk2.sto)
        have ry := ok_rng hk2.sto
        rw [List.map_cons, List.map_cons, cv0, cv0]
        cases cc <;> simp only [cmpb, decide_eq_true_eq] at hc
        · exact lv_icmp_eq hx hb hd ht (fun _ => k) (fun q => absurd (by rw [i32_eq rx ry]; exact hc) q)
        · exact lv_icmp_ne hx hb hd ht (fun _ => k) (fun q => absurd (by rw [i32_eq rx ry] at q; exact q) hc)
        · exact lv_icmp_lt hx hb hd ht (fun _ => k) (fun q => absurd (by rw [i32_lt rx ry]; exact hc) q)
        · exact lv_icmp_ge hx hb hd ht (fun _ => k) (fun q => absurd (by rw [i32_le ry rx]; exact hc) q)
        · exact lv_icmp_gt hx hb hd ht (fun _ => k) (fun q => absurd (by rw [i32_lt ry rx]; exact hc) q)
        · exact lv_icmp_le hx hb hd ht (fun _ => k) (fun q => absurd (by rw [i32_le rx ry]; exact hc) q)
      · rename_i hc
        obtain ⟨rfl, rfl, rfl, rfl, rfl⟩ := nx_inj h
        intro H locs cells slots lsm ad ac hk2
        have k := hG H locs cells slots lsm ad ac (hk2.stk (ok_t1 (ok_t1 hk2.sto)))
        have rx := ok_rng (ok_t1 hk2.sto)
        have ry := ok_rng hk2.sto
        rw [List.map_cons, List.map_cons, cv0, cv0]
        have hneg : ¬ cmpb cc x y = true := hc
        have ht : (pc : Int) + z = (((pc : Int) + z).toNat : Int) := by omega
        cases cc <;> simp only [cmpb, decide_eq_true_eq] at hneg
        · exact lv_icmp_eq hx hb hd ht (fun q => absurd (by rw [i32_eq rx ry] at q; exact q) hneg) (fun _ => k)
        · exact lv_icmp_ne hx hb hd ht (fun q => absurd (fun q2 => q (by rw [i32_eq rx ry]; exact q2)) hneg) (fun _ => k)
        · exact lv_icmp_lt hx hb hd ht (fun q => absurd (by rw [i32_lt rx ry] at q; exact q) hneg) (fun _ => k)
        · exact lv_icmp_ge hx hb hd ht (fun q => absurd (by rw [i32_le ry rx] at q; exact q) hneg) (fun _ => k)
        · exact lv_icmp_gt hx hb hd ht (fun q => absurd (by rw [i32_lt ry rx] at q; exact q) hneg) (fun _ => k)
        · exact lv_icmp_le hx hb hd ht (fun q => absurd (by rw [i32_le rx ry] at q; exact q) hneg) (fun _ => k)
    · cases h
  · cases h
theorem g_inc (C : Cx f o p R s m args meth c base bb D) {n : Nat} {z : Int} (hd : decode (bc f) pc = .ok (.iinc n z, len))
    (h : astep o f pc (.iinc n z) len ls st σ M = some (.inl (pc', ls', st', σ', M'))) (hG : G p l e R s m args below meth c Q D base bb o f n0 s0 ad0 ac0 pc' ls' st' σ' M') : G p l e R s m args below meth c Q D base bb o f n0 s0 ad0 ac0 pc ls st σ M := by
  obtain ⟨hx, hb, -⟩ := C
  unfold astep at h
  dsimp only at h
  split at h
  · rename_i hl
    subst hl
    split at h
    · rename_i x hv
      obtain ⟨rfl, rfl, rfl, rfl, rfl⟩ := nx_inj h
      intro H locs cells slots lsm ad ac hk2
      have hi : n < ls.length := (List.getElem?_eq_some_iff.mp hv).1
      obtain ⟨k, hk⟩ := List.getElem?_of_mem (asl_mem (q := (n, .int (Int32.ofInt x))).mpr ⟨(0, x), hv, by simp, rfl⟩ : (n, Value.int (Int32.ofInt x)) ∈ asl ad bb ls)
      refine lv_iinc (v := Int32.ofInt x + Int32.ofInt z) hx hb hd hk2.2.2.1.has hk rfl (by rw [← hk2.2.2.1.2.2.1]; exact hi) rfl (fun ls' hn => ?_)
      have hn2 : lv_has ls' (mxl f) ((n, cv ad bb (0, (Int32.ofInt x + Int32.ofInt z).toInt)) :: (asl ad bb ls).filter (fun q => !(q.1 == n) && !(q.1 + 1 == n && q.2.category == 2))) := by
        rw [cv0, Int32.ofInt_toInt]
        exact hn
      exact hG H locs cells slots ls' ad ac ⟨hk2.1, hk2.2.1, hk2.2.2.1.st1 hi hn2, stl_ok hk2.2.2.2.1 (okv_i _ _ _) hi, hk2.sto, hk2.2.2.2.2.2⟩
    · cases h
  · cases h
theorem ava_inl {n : Nat} {kds : List Nat} {r : Nat × List AV × List AV × Sh × Mo} (h : ava f len st σ n kds = some (.inl r)) : False := by
  unfold ava at h
  split at h
  · split at h
    · split at h
      · split at h
        · split at h <;> cases h
        · cases h
      · cases h
    · cases h
  · cases h
theorem klk_spec {oc idx : Nat} {x : Nat × Nat × Int × Nat × Nat} (h : klk oc idx = some x) : (x.2.2.2.1 = 0 → Cond.constant (cn oc) idx (Int32.ofInt x.2.2.1) ∈ TG ∧ (Int32.ofInt x.2.2.1).toInt = x.2.2.1) ∧ (x.2.2.2.1 = 1 → Cond.constantLong (cn oc) idx (Int64.ofInt x.2.2.1) ∈ TG ∧ (Int64.ofInt x.2.2.1).toInt = x.2.2.1) := by
  have h1 := List.find?_some h
  have h2 := List.mem_of_find?_eq_some h
  simp only [Bool.and_eq_true, beq_iff_eq] at h1
  have h3 := kT_ok x h2
  rw [h1.1, h1.2] at h3
  rcases h3 with ⟨q1, q2, q3⟩ | ⟨q1, q2, q3⟩
  · exact ⟨fun _ => ⟨TG_in q2 rfl, q3⟩, fun q => by omega⟩
  · exact ⟨fun q => by omega, fun _ => ⟨TG_in q2 rfl, q3⟩⟩
set_option maxHeartbeats 4000000 in
theorem g_step (C : Cx f o p R s m args meth c base bb D) {i : Instr} (hd : decode (bc f) pc = .ok (i, len)) (hR : Rm R n0 s0 σ')
    (h : astep o f pc i len ls st σ M = some (.inl (pc', ls', st', σ', M'))) (hG : G p l e R s m args below meth c Q D base bb o f n0 s0 ad0 ac0 pc' ls' st' σ' M') : G p l e R s m args below meth c Q D base bb o f n0 s0 ad0 ac0 pc ls st σ M := by
  have C0 := C
  obtain ⟨hx, hb, hml, hown, hts, -⟩ := C
  cases i with
  | aload n => exact g_alda (fun hl H locs cells slots lsm a rest k kk => by subst hl; exact lv_aload hx hb hd k kk) h hG
  | aload_n n => exact g_alda (fun hl H locs cells slots lsm a rest k kk => by subst hl; exact lv_aload_n hx hb hd rfl k kk) h hG
  | iload n => exact g_ald (t := 0) (fun hl H locs cells slots lsm ad z rest k kk => by subst hl; exact lv_iload hx hb hd k kk) (by decide) h hG
  | iload_n n => exact g_ald (t := 0) (fun hl H locs cells slots lsm ad z rest k kk => by subst hl; exact lv_iload_n hx hb hd rfl k kk) (by decide) h hG
  | lload n => exact g_ald (t := 1) (fun hl H locs cells slots lsm ad z rest k kk => by subst hl; exact lv_lload hx hb hd k kk) (by decide) h hG
  | lload_n n => exact g_ald (t := 1) (fun hl H locs cells slots lsm ad z rest k kk => by subst hl; exact lv_lload_n hx hb hd rfl k kk) (by decide) h hG
  | istore n => exact g_ast (t := 0) (by decide) (fun hl H locs cells slots lsm ad z rest hi h0 hh kk => by subst hl; exact lv_istore hx hb hd hh hi rfl kk) h hG
  | istore_n n => exact g_ast (t := 0) (by decide) (fun hl H locs cells slots lsm ad z rest hi h0 hh kk => by subst hl; exact lv_istore_n hx hb hd rfl hh hi rfl kk) h hG
  | lstore n => exact g_ast (t := 1) (by decide) (fun hl H locs cells slots lsm ad z rest hi h0 hh kk => by subst hl; exact lv_lstore hx hb hd hh hi rfl kk) h hG
  | lstore_n n => exact g_ast (t := 1) (by decide) (fun hl H locs cells slots lsm ad z rest hi h0 hh kk => by subst hl; exact lv_lstore_n hx hb hd rfl hh hi rfl kk) h hG
  | astore n => exact g_ast (t := 2) (by decide) (fun hl H locs cells slots lsm ad z rest hi h0 hh kk => by subst hl; rw [cv2 _ _ (h0 rfl)] at kk ⊢; exact lv_astore hx hb hd hh hi rfl kk) h hG
  | astore_n n => exact g_ast (t := 2) (by decide) (fun hl H locs cells slots lsm ad z rest hi h0 hh kk => by subst hl; rw [cv2 _ _ (h0 rfl)] at kk ⊢; exact lv_astore_n hx hb hd rfl hh hi rfl kk) h hG
  | iconst z => exact g_cst (fun hl h1 h2 H locs cells slots lsm rest kk => by subst hl; exact lv_iconst hx hb hd rfl kk) h hG
  | bipush z => exact g_cst (fun hl h1 h2 H locs cells slots lsm rest kk => by subst hl; exact lv_bipush hx hb hd (i8_of h1 h2) kk) h hG
  | sipush z =>
    unfold astep at h
    dsimp only at h
    split at h
    · rename_i hl
      obtain ⟨rfl, h1, h2⟩ := hl
      obtain ⟨rfl, rfl, rfl, rfl, rfl⟩ := nx_inj h
      exact g_push (okv_z (by omega)) (by simp) (fun H locs cells slots lsm ad rest kk => lv_sipush hx hb hd (i16_of h1 h2) kk) hG
    · cases h
  | lconst z =>
    unfold astep at h
    dsimp only at h
    split at h
    · rename_i hl
      subst hl
      obtain ⟨rfl, rfl, rfl, rfl, rfl⟩ := nx_inj h
      have hr : (-9223372036854775808 : Int) ≤ ((z.val : Nat) : Int) ∧ ((z.val : Nat) : Int) < 9223372036854775808 := by have := z.isLt; omega
      exact g_push (v := (1, ((z.val : Nat) : Int))) (okv_w hr) (by simp) (fun H locs cells slots lsm ad rest kk => lv_lconst hx hb hd (lc_of z) kk) hG
    · cases h
  | ldc n =>
    unfold astep at h
    dsimp only at h
    split at h
    · rename_i hl
      subst hl
      split at h
      · rename_i x hkl
        split at h
        · rename_i h0
          obtain ⟨rfl, rfl, rfl, rfl, rfl⟩ := nx_inj h
          obtain ⟨q1, q2⟩ := (klk_spec hkl).1 h0
          have hr : -2147483648 ≤ x.2.2.1 ∧ x.2.2.1 < 2147483648 := by rw [← q2]; exact i32_rng _
          exact g_push (v := (0, x.2.2.1)) (okv_z hr) (by simp) (fun H locs cells slots lsm ad rest kk => lv_ldc hx hb hown (hts _ q1) hd kk) hG
        · cases h
      · cases h
    · cases h
  | ldc_w n =>
    unfold astep at h
    dsimp only at h
    split at h
    · rename_i hl
      subst hl
      split at h
      · rename_i x hkl
        split at h
        · rename_i h0
          obtain ⟨rfl, rfl, rfl, rfl, rfl⟩ := nx_inj h
          obtain ⟨q1, q2⟩ := (klk_spec hkl).1 h0
          have hr : -2147483648 ≤ x.2.2.1 ∧ x.2.2.1 < 2147483648 := by rw [← q2]; exact i32_rng _
          exact g_push (v := (0, x.2.2.1)) (okv_z hr) (by simp) (fun H locs cells slots lsm ad rest kk => lv_ldcw hx hb hown (hts _ q1) hd kk) hG
        · cases h
      · cases h
    · cases h
  | ldc2_w n =>
    unfold astep at h
    dsimp only at h
    split at h
    · rename_i hl
      subst hl
      split at h
      · rename_i x hkl
        split at h
        · rename_i h0
          obtain ⟨rfl, rfl, rfl, rfl, rfl⟩ := nx_inj h
          obtain ⟨q1, q2⟩ := (klk_spec hkl).2 h0
          have hr : -9223372036854775808 ≤ x.2.2.1 ∧ x.2.2.1 < 9223372036854775808 := by rw [← q2]; exact i64_rng _
          exact g_push (v := (1, x.2.2.1)) (okv_w hr) (by simp) (fun H locs cells slots lsm ad rest kk => lv_ldc2 hx hb hown (hts _ q1) hd kk) hG
        · cases h
      · cases h
    · cases h
  | iadd => exact g_bi (fun hl H locs cells slots lsm x y rest k => by subst hl; exact lv_iadd hx hb hd k) h hG
  | isub => exact g_bi (fun hl H locs cells slots lsm x y rest k => by subst hl; exact lv_isub hx hb hd k) h hG
  | imul => exact g_bi (fun hl H locs cells slots lsm x y rest k => by subst hl; exact lv_imul hx hb hd k) h hG
  | iand => exact g_bi (fun hl H locs cells slots lsm x y rest k => by subst hl; exact lv_iand hx hb hd k) h hG
  | ixor => exact g_bi (fun hl H locs cells slots lsm x y rest k => by subst hl; exact lv_ixor hx hb hd k) h hG
  | ishl => exact g_bi (len := len) (g := fun x y => x <<< (y &&& 31)) (fun hl H locs cells slots lsm x y rest k => by subst hl; exact lv_ishl hx hb hd k) h hG
  | ishr => exact g_bi (len := len) (g := fun x y => x >>> (y &&& 31)) (fun hl H locs cells slots lsm x y rest k => by subst hl; exact lv_ishr hx hb hd k) h hG
  | iushr => exact g_bi (len := len) (g := fun x y => (x.toUInt32 >>> (y.toUInt32 &&& Int32.toUInt32 31)).toInt32) (fun hl H locs cells slots lsm x y rest k => by subst hl; exact lv_iushr hx hb hd rfl k) h hG
  | idiv => exact g_bz (fun hl H locs cells slots lsm x y rest hy k => by subst hl; exact lv_idiv hx hb hd hy k) h hG
  | irem => exact g_bz (len := len) (g := fun x y => x - x / y * y) (fun hl H locs cells slots lsm x y rest hy k => by subst hl; exact lv_irem hx hb hd hy k) h hG
  | ladd => exact g_bl (fun hl H locs cells slots lsm x y rest k => by subst hl; exact lv_ladd hx hb hd k) h hG
  | lsub => exact g_bl (fun hl H locs cells slots lsm x y rest k => by subst hl; exact lv_lsub hx hb hd k) h hG
  | lmul => exact g_bl (fun hl H locs cells slots lsm x y rest k => by subst hl; exact lv_lmul hx hb hd k) h hG
  | land => exact g_bl (fun hl H locs cells slots lsm x y rest k => by subst hl; exact lv_land hx hb hd k) h hG
  | lor => exact g_bl (fun hl H locs cells slots lsm x y rest k => by subst hl; exact lv_lor hx hb hd k) h hG
  | ldiv => exact g_blz (fun hl H locs cells slots lsm x y rest hy k => by subst hl; exact lv_ldiv hx hb hd hy k) h hG
  | lrem => exact g_blz (len := len) (g := fun x y => x - x / y * y) (fun hl H locs cells slots lsm x y rest hy k => by subst hl; exact lv_lrem hx hb hd hy k) h hG
  | lshl => exact g_bs (len := len) (g := fun x y => x <<< (y.toInt64 &&& 63)) (fun hl H locs cells slots lsm x y rest k => by subst hl; exact lv_lshl hx hb hd rfl k) h hG
  | lushr => exact g_bs (len := len) (g := fun x y => (x.toUInt64 >>> (y.toInt64.toUInt64 &&& Int64.toUInt64 63)).toInt64) (fun hl H locs cells slots lsm x y rest k => by subst hl; exact lv_lushr hx hb hd rfl k) h hG
  | ineg =>
    unfold astep at h
    dsimp only at h
    split at h
    · rename_i hl
      subst hl
      split at h
      · rename_i x st0
        obtain ⟨rfl, rfl, rfl, rfl, rfl⟩ := nx_inj h
        intro H locs cells slots lsm ad ac hk2
        
        have k := hG H locs cells slots lsm ad ac (hk2.stk (ok_c1 (okv_i _ _ _) (by simp) (ok_t1 hk2.sto)))
        rw [List.map_cons, cv0] at k
        rw [List.map_cons, cv0]
        rw [Int32.ofInt_toInt] at k
        exact lv_ineg hx hb hd k
      · cases h
    · cases h
  | i2l =>
    unfold astep at h
    dsimp only at h
    split at h
    · rename_i hl
      subst hl
      split at h
      · rename_i x st0
        obtain ⟨rfl, rfl, rfl, rfl, rfl⟩ := nx_inj h
        intro H locs cells slots lsm ad ac hk2
        have rx := ok_rng hk2.sto
        have k := hG H locs cells slots lsm ad ac (hk2.stk (ok_c1 (okv_w (by omega)) (by simp) (ok_t1 hk2.sto)))
        rw [List.map_cons, cv1] at k
        rw [List.map_cons, cv0]
        exact lv_i2l hx hb hd (i2l_of rx) k
      · cases h
    · cases h
  | l2i =>
    unfold astep at h
    dsimp only at h
    split at h
    · rename_i hl
      subst hl
      split at h
      · rename_i x st0
        obtain ⟨rfl, rfl, rfl, rfl, rfl⟩ := nx_inj h
        intro H locs cells slots lsm ad ac hk2
        
        have k := hG H locs cells slots lsm ad ac (hk2.stk (ok_c1 (okv_i _ _ _) (by simp) (ok_t1 hk2.sto)))
        rw [List.map_cons, cv0] at k
        rw [List.map_cons, cv1]
        rw [Int32.ofInt_toInt] at k
        exact lv_l2i hx hb hd rfl k
      · cases h
    · cases h
  | lcmp =>
    unfold astep at h
    dsimp only at h
    split at h
    · rename_i hl
      subst hl
      split at h
      · rename_i y x st0
        obtain ⟨rfl, rfl, rfl, rfl, rfl⟩ := nx_inj h
        intro H locs cells slots lsm ad ac hk2
        have ry := ok_rngl hk2.sto
        have rx := ok_rngl (ok_t1 hk2.sto)
        have k := hG H locs cells slots lsm ad ac (hk2.stk (ok_c1 (okv_z (by split <;> (try split) <;> omega)) (by simp) (ok_t1 (ok_t1 hk2.sto))))
        rw [List.map_cons, cv0] at k
        rw [List.map_cons, List.map_cons, cv1, cv1]
        refine W.lcmp hx hb hd ?_
        have e : lg_cmp (Int64.ofInt x) (Int64.ofInt y) = Int32.ofInt (if y < x then 1 else if x = y then 0 else -1) := by
          unfold lg_cmp
          by_cases h1 : y < x
          · rw [if_pos h1, if_pos ((i64_lt ry rx).mpr h1)]
            rfl
          · rw [if_neg h1, if_neg (fun q => h1 ((i64_lt ry rx).mp q))]
            by_cases h2 : x = y
            · rw [if_pos h2, if_pos ((i64_eq rx ry).mpr h2)]
              rfl
            · rw [if_neg h2, if_neg (fun q => h2 ((i64_eq rx ry).mp q))]
              rfl
        rw [e]
        exact k
      · cases h
    · cases h
  | iinc n z => exact g_inc C0 hd h hG
  | dup =>
    unfold astep at h
    dsimp only at h
    split at h
    · rename_i hl
      subst hl
      split at h
      · rename_i v st0
        split at h
        · rename_i hv
          obtain ⟨rfl, rfl, rfl, rfl, rfl⟩ := nx_inj h
          intro H locs cells slots lsm ad ac hk2
          have q := hk2.sto _ List.mem_cons_self
          have k := hG H locs cells slots lsm ad ac (hk2.stk (ok_c1 q.1 q.2 hk2.sto))
          exact lv_dup hx hb hd (by rw [cv_cat]; unfold catv; rw [if_neg (by omega)]) k
        · cases h
      · cases h
    · cases h
  | dup2 =>
    unfold astep at h
    dsimp only at h
    split at h
    · rename_i hl
      subst hl
      split at h
      · rename_i v v2 st0
        split at h
        · rename_i hv
          obtain ⟨rfl, rfl, rfl, rfl, rfl⟩ := nx_inj h
          intro H locs cells slots lsm ad ac hk2
          have q := hk2.sto _ List.mem_cons_self
          have q2 := ok_t1 hk2.sto _ List.mem_cons_self
          have k := hG H locs cells slots lsm ad ac (hk2.stk (ok_c1 q.1 q.2 (ok_c1 q2.1 q2.2 hk2.sto)))
          exact lv_dup2_11 hx hb hd (by rw [cv_cat]; unfold catv; rw [if_neg (by omega)]) (by rw [cv_cat]; unfold catv; rw [if_neg (by omega)]) k
        · cases h
      · cases h
    · cases h
  | goto z =>
    unfold astep at h
    dsimp only at h
    split at h
    · rename_i hl
      subst hl
      obtain ⟨ht, rfl, rfl, rfl, rfl⟩ := jm_spec h
      intro H locs cells slots lsm ad ac hk2
      exact lv_goto hx hb hd ht (hG H locs cells slots lsm ad ac hk2)
    · cases h
  | ifCond cc z => exact g_if C0 hd h hG
  | if_icmp cc z => exact g_icmp C0 hd h hG
  | tableswitch d lo hi offs =>
    unfold astep at h
    dsimp only at h
    split at h
    · rename_i x st0
      split at h
      · rename_i hc
        obtain ⟨ht, rfl, rfl, rfl, rfl⟩ := jm_spec h
        intro H locs cells slots lsm ad ac hk2
        have rx := ok_rng hk2.sto
        rw [List.map_cons, cv0]
        exact lv_tableOut hx hb hd (by rw [i32_of rx]; exact hc) ht (hG H locs cells slots lsm ad ac (hk2.stk (ok_t1 hk2.sto)))
      · rename_i hc
        split at h
        · rename_i z hz
          obtain ⟨ht, rfl, rfl, rfl, rfl⟩ := jm_spec h
          intro H locs cells slots lsm ad ac hk2
          have rx := ok_rng hk2.sto
          rw [List.map_cons, cv0]
          exact lv_tableIn hx hb hd (by rw [i32_of rx]; omega) (by rw [i32_of rx]; omega) (by rw [i32_of rx]; exact hz) ht (hG H locs cells slots lsm ad ac (hk2.stk (ok_t1 hk2.sto)))
        · cases h
    · cases h
  | lookupswitch d ps =>
    unfold astep at h
    dsimp only at h
    split at h
    · rename_i x st0
      split at h
      · rename_i hc
        obtain ⟨ht, rfl, rfl, rfl, rfl⟩ := jm_spec h
        intro H locs cells slots lsm ad ac hk2
        have rx := ok_rng hk2.sto
        rw [List.map_cons, cv0]
        exact lv_lookup hx hb hd hc (by rw [i32_of rx]) ht (hG H locs cells slots lsm ad ac (hk2.stk (ok_t1 hk2.sto)))
      · cases h
    · cases h
  | getfield n => exact g_get C0 hd h hG
  | putfield n => exact g_put C0 hd h hG
  | new n => exact g_new C0 hd hR h hG
  | newarray t => exact g_newa C0 hd hR h hG
  | anewarray k => exact g_newq C0 hd hR h hG
  | multianewarray k d => exact g_mna C0 hd hR h hG
  | arraylength => exact g_alen C0 hd h hG
  | iaload => exact g_iald C0 hd h hG
  | laload => exact g_lald C0 hd h hG
  | aaload => exact g_aald C0 hd h hG
  | iastore => exact g_iast C0 hd h hG
  | lastore => exact g_last C0 hd h hG
  | aastore => exact g_aast C0 hd h hG
  | invokevirtual n => exact (ava_inl h).elim
  | invokestatic n =>
    unfold astep at h
    dsimp only at h
    split at h
    · rename_i hm
      exact g_acp C0 hd hm h hG
    · exact (ava_inl h).elim
  | invokespecial n =>
    unfold astep at h
    dsimp only at h
    split at h
    · rename_i hm
      exact g_oini C0 hd hm h hG
    · exact (ava_inl h).elim
  | ireturn =>
    exfalso
    unfold astep at h
    dsimp only at h
    split at h
    · split at h
      · split at h <;> cases h
      · cases h
    · cases h
  | lreturn =>
    exfalso
    unfold astep at h
    dsimp only at h
    split at h
    · split at h
      · split at h <;> cases h
      · cases h
    · cases h
  | return_ =>
    exfalso
    unfold astep at h
    dsimp only at h
    split at h
    · split at h
      · split at h <;> cases h
      · cases h
    · cases h
  | _ => exact nomatch h
end
end
section
/-! Calls; the abstract machine's run is the JVM's. -/
theorem aoa_spec {t : FieldType} {s : State} (h : va_AOA t s) : ∃ comp c k, s.vm.findClass (FieldType.array t).toString = some comp ∧ (s.vm.classes.findIdx? fun (x : Class) => match x.kind with | .array component _ => component == comp | _ => false) = some c ∧ s.vm.classes[c]? = some k ∧ k.kind = .array comp (.array t) ∧ s.vm.findClass ("[" ++ (FieldType.array t).toString) = some c := by
  unfold va_AOA Cond.before at h
  simp only [Cond.holds, Cond.value, beq_iff_eq] at h
  cases hc : s.vm.findClass (FieldType.array t).toString with
  | none => simp [hc] at h
  | some comp =>
    simp only [hc, Option.bind_some, Option.bind_eq_some_iff, Option.map_eq_some_iff] at h
    obtain ⟨c, hi, k, hk, hb⟩ := h
    obtain ⟨hlt, hp, -⟩ := Array.findIdx?_eq_some_iff_getElem.mp hi
    have hkk : s.vm.classes[c] = k := (Array.getElem?_eq_some_iff.mp hk).2
    rw [hkk] at hp
    cases hkind : k.kind with
    | array component ty =>
      rw [hkind] at hb hp
      simp at hb hp
      exact ⟨comp, c, k, rfl, hi, hk, by rw [hkind, hp, hb.1], hb.2⟩
    | _ => rw [hkind] at hb; simp at hb
theorem va_AOA.moved {t : FieldType} {u U : State} (hvm : u.vm.Alike U.vm) (h : va_AOA t u) : va_AOA t U := by
  obtain ⟨comp, c, k, h1, h2, h3, h4, h5⟩ := aoa_spec h
  obtain ⟨k', hk', he⟩ := hvm.2.2 _ _ h3
  have hi : (U.vm.classes.findIdx? fun (x : Class) => match x.kind with | .array component _ => component == comp | _ => false) = some c := by
    have e := va_idx_bare U.vm comp
    first | rw [hvm.bare_eq] at e | rw [← hvm.bare_eq] at e
    exact e.symm.trans ((va_idx_bare u.vm comp).trans h2)
  have hkind : k'.kind = .array comp (.array t) := by rw [he]; exact h4
  have f1 : U.vm.findClass (FieldType.array t).toString = some comp := by rw [hvm.findClass]; exact h1
  have f2 : U.vm.findClass ("[" ++ (FieldType.array t).toString) = some c := by rw [hvm.findClass]; exact h5
  unfold va_AOA Cond.before Cond.holds
  simp only [Cond.value]
  rw [f1, Option.bind_some]
  refine (congrArg (fun o : Option Nat => (o.bind (fun c => (U.vm.classes[c]?).map fun (k : Class) => match k.kind with | .array _ ty => decide (ty = FieldType.array t) && decide (U.vm.findClass ("[" ++ (FieldType.array t).toString) = some c) | _ => false) == some true)) hi).trans ?_
  simp [hk', hkind, f2]
def wsg (g : Nat) : List Cond := Cond.code (nmm g) (bc g) (mxl g) (rty g) :: TG
theorem wsg_good {g : Nat} (h : g < 221) : GoodIn TG (wsg g) := by
  intro w hw
  have hm : w ∈ TG := by
    rcases List.mem_cons.mp hw with rfl | hw
    · exact TG_in (cw_all h) rfl
    · exact hw
  exact ⟨hm, good_of_word (List.mem_filter.mp hm).2⟩
theorem Met.ofWF {l : Launch} {y : MethodName} {ws ws' : List Cond} {rm : Room} {Pc : Array Value → State → Prop} {Qc : Array Value → State → Outcome → State → Prop} {mc ms : Nat} {free : Addr → Prop} {cc : ByteArray} {maxL : Nat} {ret : Option FieldType}
    (hy : plainFor y = true) (hw : ws = Cond.code y cc maxL ret :: ws')
    (body : ∀ p e s m args below meth c s₁, BodyLoose p l y (headSpec ws rm) cc maxL ret e s m args below meth c s₁ → c.maxLocals = maxL → Pc args s →
      W p l e (headSpec ws rm).room s m args below meth c s.heap [] 0 0 (MQ below Qc args s mc ms free) (entryFrame m args maxL)) : Met l y ws rm Pc Qc mc ms free := by
  refine MetFree.of_bodySF (code := cc) (maxLocals := maxL) (ret := ret) hy ?_ ?_
  · intro args s m h hn
    obtain ⟨meth, c, h1, h2, h3, h4, h5, h6, -, -⟩ := Cond.code_spec hn (atoms_spec (ws := ws) h _ (by rw [hw]; exact List.mem_cons_self))
    exact ⟨meth, c, h1, h2, h3, h4, h5, h6⟩
  · intro p e s m args below meth c s₁ B hml hP _
    have hh0 : s₁.heap = s.heap := by rw [B.state]; rfl
    obtain ⟨t, a1, o, b1, b2, b3⟩ := body p e s m args below meth c s₁ B hml hP s₁ hh0 (Stand.of_body B)
    exact ⟨t, o, a1, b1, b2, ⟨b3.1, b3.2⟩⟩
theorem Wo.moved {D : va_G} {ad : Nat → Nat} {ac : Nat → ClassId} {base : Nat} {s U : State} {σ : Sh} {M : Mo} {H : Heap} (hvm : s.vm.Alike U.vm) (h : Wo D ad ac base s σ M H) : Wo D ad ac base U σ M H :=
  ⟨h.1, h.2.1, fun k hk ty ht => ⟨arrOfT_moved hvm (h.2.2.1 k hk ty ht).1, (h.2.2.1 k hk ty ht).2.moved hvm⟩, h.2.2.2⟩
theorem Tb.warm {D : va_G} {s U : State} (hW : s.WarmedH U.vm) (h : Tb D s) : Tb D U :=
  ⟨h.1.moved hW.alike, fun e he h3 h5 => va_Nw.warmM hW (h.2.1 e he h3 h5), h.2.2.1.moved hW.alike, h.2.2.2.1.moved hW.alike, h.2.2.2.2.moved hW.alike⟩
theorem Tb.same {D : va_G} {s U : State} (hv : s.vm = U.vm) (h : Tb D s) : Tb D U :=
  ⟨h.1.moved (by rw [hv]; exact Vm.Alike.refl _), fun e he h3 h5 => va_Nw.same rfl hv (h.2.1 e he h3 h5), h.2.2.1.moved (by rw [hv]; exact Vm.Alike.refl _), h.2.2.2.1.moved (by rw [hv]; exact Vm.Alike.refl _), h.2.2.2.2.moved (by rw [hv]; exact Vm.Alike.refl _)⟩
/-- a call's start and its end -/
def PcG (D : va_G) (base : Nat) (as : List AV) (σ : Sh) (M : Mo) (ad : Nat → Nat) (ac : Nat → ClassId) : Array Value → State → Prop := fun v U => v = (as.map (cv ad 0)).toArray ∧ Wo D ad ac base U σ M U.heap ∧ Tb D U ∧ base ≤ U.heap.size
def QcG (D : va_G) (base n0 : Nat) (v : Option AV) (σ' : Sh) (M' : Mo) (ad : Nat → Nat) (ac : Nat → ClassId) : Array Value → State → Outcome → State → Prop := fun _ st oc t => ∃ (ad' : Nat → Nat) (ac' : Nat → ClassId), oc = .returned (v.map (cv ad' 0)) ∧ Wo D ad' ac' base t σ' M' t.heap ∧ (∀ k, k < n0 → ad' k = ad k ∧ ac' k = ac k) ∧ (∀ w, v = some w → okv none σ'.length w ∧ w.1 ≤ 1) ∧ st.heap.size ≤ t.heap.size ∧ ∀ q : Nat, q < st.heap.size → ¬ base ≤ q → t.heap[q]? = st.heap[q]?
theorem PcG.blind {D : va_G} {base : Nat} {as : List AV} {σ : Sh} {M : Mo} {ad : Nat → Nat} {ac : Nat → ClassId} : FrameBlind (PcG D base as σ M ad ac) := fun a U g mk q => ⟨q.1, Wo.moved (U := U.calling g mk a) (Vm.Alike.refl U.vm) q.2.1, q.2.2.1.same rfl, q.2.2.2⟩
def rmg (g mc ms : Nat) : Room := { frames := hgt g, cells := mc, slots := ms, locals := 40 * hgt g }
theorem pops_spec : ∀ {n : Nat} {st as r : List AV}, pops n st = some (as, r) → st = as.reverse ++ r ∧ as.length = n
  | 0, st, as, r, h => by
    unfold pops at h
    cases h
    exact ⟨rfl, rfl⟩
  | n + 1, [], as, r, h => by
    unfold pops at h
    cases h
  | n + 1, v :: st, as, r, h => by
    unfold pops at h
    split at h
    · rename_i as0 r0 h0
      cases h
      obtain ⟨h1, h2⟩ := pops_spec h0
      exact ⟨by rw [h1, List.reverse_append]; rfl, by rw [List.length_append, h2]; rfl⟩
    · cases h
theorem ava_spec {f len : Nat} {st : List AV} {σ : Sh} {idx : Nat} {kds : List Nat} {g : Nat} {as r : List AV} (h : ava f len st σ idx kds = some (.inr (.inr (g, as, r)))) : len = 3 ∧ ∃ x, mlk (own f) idx = some x ∧ kds.contains x.2.2.2.1 = true ∧ x.2.2.1 = g ∧ pops (npr g + (if sta g then 0 else 1)) st = some (as, r) ∧ cats r ≤ 8 ∧ hgt g < hgt f ∧ rcv σ g as = true ∧ (ent as).length ≤ mxl g ∧ (as.all fun v => v.1 == 0 || v.1 == 1 || v.1 == 2) = true := by
  unfold ava at h
  split at h
  · rename_i hl
    split at h
    · rename_i x hx
      split at h
      · rename_i hk
        split at h
        · rename_i as0 r0 hp
          split at h
          · rename_i hc
            cases h
            exact ⟨hl, x, hx, hk, rfl, hp, hc⟩
          · cases h
        · cases h
      · cases h
    · cases h
  · cases h
theorem cv_all {ad : Nat → Nat} {b b' : Nat} {as : List AV} (h : (as.all fun v => v.1 == 0 || v.1 == 1 || v.1 == 2) = true) : as.map (cv ad b) = as.map (cv ad b') := by
  apply List.map_congr_left
  intro v hv
  have := List.all_eq_true.mp h v hv
  simp only [Bool.or_eq_true, beq_iff_eq] at this
  exact cv_bb (by omega)
section
variable {p : Program} {l : Launch} {e : Env} {R : Room} {s : State} {m : MethodId} {args : Array Value} {below : List Frame} {meth : Method} {c : Code} {Q : State → Prop} {D : va_G} {base bb : Nat} {o : Option (List Int)} {f n0 s0 : Nat} {ad0 : Nat → Nat} {ac0 : Nat → ClassId}
variable {pc pc' len : Nat} {ls st ls' st' : List AV} {σ σ' : Sh} {M M' : Mo}
/-- behind a call -/
theorem g_ret {g mc ms : Nat} {as r : List AV} {v : Option AV} {st0 : List Value} {H : Heap} {locs : List Loc} {cells slots : Nat} {lsm : Array Slot} {ad : Nat → Nat} {ac : Nat → ClassId}
    (hk2 : Ok D base bb o f n0 s0 ad0 ac0 s H locs cells slots lsm ls st σ M ad ac) (hr : ∀ w ∈ r, okv o σ.length w ∧ w.1 ≠ 9) (hmc : σ.length + mc = σ'.length) (hms : tot σ + ms = tot σ')
    (run : va_Run p l e R s m args below meth c H locs cells slots mc ms (F0 m pc lsm st0) (r.map (cv ad bb)) (QcG D base σ.length v σ' M' ad ac (as.map (cv ad 0)).toArray) (fun q => base ≤ q))
    (hG : G p l e R s m args below meth c Q D base bb o f n0 s0 ad0 ac0 (pc + 3) ls (v.toList ++ r) σ' M') : W p l e R s m args below meth c H locs cells slots Q (F0 m pc lsm st0) := by
  intro T hT X
  obtain ⟨v', st₀, t, T', L, h0, X', hL, e1, e2, ⟨ad', ac', hv, hW, hext, hok, hz, hkp⟩, stp⟩ := run T hT X
  have hal : s.vm.Alike t.vm := by rw [← e2]; exact X'.warmed.alike
  cases hv
  rw [h0] at hz hkp
  have hS : va_S (fun q => base ≤ q) s.heap T'.heap (locs ++ L) := ⟨Nat.le_trans hk2.2.1.1 (by rw [e1]; exact hz), fun q h1 h2 => by rw [e1, hkp q (Nat.lt_of_lt_of_le h1 hk2.2.1.1) h2]; exact hk2.2.1.2.1 q h1 h2, fun q hq => by
      rcases List.mem_append.mp hq with h | h
      · exact hk2.2.1.2.2 q h
      · exact hL q h⟩
  have hle : σ.length ≤ σ'.length := by omega
  have had : ∀ k, k < σ.length → ad' k = ad k := fun k hk => (hext k hk).1
  have hOk : Ok D base bb o f n0 s0 ad0 ac0 s T'.heap (locs ++ L) (cells + mc) (slots + ms) lsm ls (v.toList ++ r) σ' M' ad' ac' := by
    refine ⟨by rw [e1]; exact hW.moved hal.symm, hS, ⟨hk2.2.2.1.1, hk2.2.2.1.2.1, hk2.2.2.1.2.2.1, fun i w hw h9 => ?_⟩, fun w hw => okv_mono (hk2.2.2.2.1 w hw) hle, ?_, by have := hk2.2.2.2.2.2.1; omega, by have := hk2.2.2.2.2.2.2.1; omega, fun k hk => ?_⟩
    · rw [cv_ad (hk2.2.2.2.1 w (List.mem_of_getElem? hw)) had]
      exact hk2.2.2.1.2.2.2 i w hw h9
    · intro w hw
      rcases List.mem_append.mp hw with h | h
      · cases v with
        | none => cases h
        | some w0 =>
          have : w = w0 := by simpa using h
          subst this
          obtain ⟨q1, q2⟩ := hok w rfl
          exact ⟨⟨q1.1, q1.2.1, fun q => by omega, q1.2.2.2⟩, by omega⟩
      · exact ⟨okv_mono (hr w h).1 hle, (hr w h).2⟩
    · have h1 := hk2.2.2.2.2.2.2.2 k hk
      have h2 : k < σ.length := by have := hk2.2.2.2.2.2.1; omega
      obtain ⟨h3, h4⟩ := hext k h2
      exact ⟨h3.trans h1.1, h4.trans h1.2⟩
  obtain ⟨t2, a1, b1⟩ := hG T'.heap (locs ++ L) (cells + mc) (slots + ms) lsm ad' ac' hOk T' rfl X'
  refine ⟨t2, stp t2 ?_, b1⟩
  have hst : (v.toList ++ r).map (cv ad' bb) = (v.map (cv ad' 0)).toList ++ r.map (cv ad bb) := by
    rw [List.map_append, map_cv hr had]
    congr 1
    cases v with
    | none => rfl
    | some w =>
      obtain ⟨q1, q2⟩ := hok w rfl
      show [cv ad' bb w] = [cv ad' 0 w]
      rw [cv_bb (b := bb) (b' := 0) (by omega)]
  rw [hst] at a1
  exact a1
set_option maxHeartbeats 2000000 in
theorem g_call (C : Cx f o p R s m args meth c base bb D) {i : Instr} (hd : decode (bc f) pc = .ok (i, len)) {g : Nat} {as r : List AV} {v : Option AV} (h : astep o f pc i len ls st σ M = some (.inr (.inr (g, as, r)))) (hR : Rm R n0 s0 σ') (hmono : σ.length ≤ σ'.length ∧ tot σ ≤ tot σ')
    (hM : g < 221 → ∀ (ad : Nat → Nat) (ac : Nat → ClassId), (∀ w ∈ as, okv none σ.length w ∧ w.1 ≤ 2) → (ent as).length ≤ mxl g → Met l (nmm g) (wsg g) (rmg g (σ'.length - σ.length) (tot σ' - tot σ)) (PcG D base as σ M ad ac) (QcG D base σ.length v σ' M' ad ac) (σ'.length - σ.length) (tot σ' - tot σ) (fun q => base ≤ q))
    (hG : G p l e R s m args below meth c Q D base bb o f n0 s0 ad0 ac0 (pc + 3) ls (v.toList ++ r) σ' M') : G p l e R s m args below meth c Q D base bb o f n0 s0 ad0 ac0 pc ls st σ M := by
  obtain ⟨hx, hb, hml, hown, hts, -, -, -, hfr, hlo, hT, hbs, -⟩ := C
  -- the three kinds
  have main : ∀ (idx : Nat) (kds : List Nat), ava f len st σ idx kds = some (.inr (.inr (g, as, r))) → (kds = [0, 3] ∧ i = .invokevirtual idx ∨ kds = [1, 4] ∧ i = .invokestatic idx ∨ kds = [2, 5] ∧ i = .invokespecial idx) → G p l e R s m args below meth c Q D base bb o f n0 s0 ad0 ac0 pc ls st σ M := by
    intro idx kds hav hkd
    obtain ⟨rfl, x, hx1, hx2, hx3, hpop, hcat, hht, hrc, hent, hall⟩ := ava_spec hav
    obtain ⟨hst, hlen⟩ := pops_spec hpop
    obtain ⟨m1, m2, m3, m4⟩ := mlk_spec hx1
    have hknd : x.2.2.2.1 = 0 ∨ x.2.2.2.1 = 3 ∨ x.2.2.2.1 = 1 ∨ x.2.2.2.1 = 4 ∨ x.2.2.2.1 = 2 ∨ x.2.2.2.1 = 5 := by
      rcases hkd with ⟨rfl, -⟩ | ⟨rfl, -⟩ | ⟨rfl, -⟩ <;> simp only [List.contains_cons, List.contains_nil, Bool.or_false, Bool.or_eq_true, beq_iff_eq] at hx2 <;> omega
    unfold mOk at m4
    rw [if_neg (by omega), if_neg (by omega), decide_eq_true_eq, m1, m2, hx3] at m4
    obtain ⟨-, hg222, w1, w2, w3, w4, w5⟩ := m4
    have hg : g < 221 := by
      rcases Nat.lt_or_ge g 221 with q | q
      · exact q
      · have : g = 221 := by omega
        subst this
        exact absurd hht (by
          have : hgt f ≤ 8 := by
            have : ∀ f, hgt f ≤ 8 := by
              intro f
              unfold hgt mt
              rw [List.getD_eq_getElem?_getD]
              cases hq : mtL[f]? with
              | none => decide
              | some y =>
                have hy := List.mem_of_getElem? hq
                have : ∀ y ∈ mtL, y.2.2.2.2.2.1 ≤ 8 := by decide +kernel
                exact this y hy
            exact this f
          have : hgt 221 = 8 := by decide +kernel
          omega)
    have hcl := g_cls g (List.mem_range.mpr hg222)
    have hnm := g_nam g (List.mem_range.mpr hg222)
    have hnp := g_npr g (List.mem_range.mpr hg222)
    intro H locs cells slots lsm ad ac hk2
    have hokst := hk2.sto
    have hokr : ∀ w ∈ r, okv o σ.length w ∧ w.1 ≠ 9 := fun w hw => hokst w (by rw [hst]; exact List.mem_append_right _ hw)
    have hoka : ∀ w ∈ as, okv none σ.length w ∧ w.1 ≤ 2 := fun w hw => by
      have h1 := hokst w (by rw [hst]; exact List.mem_append_left _ (List.mem_reverse.mpr hw))
      have h2 := List.all_eq_true.mp hall w hw
      simp only [Bool.or_eq_true, beq_iff_eq] at h2
      exact ⟨⟨h1.1.1, h1.1.2.1, fun q => by omega, Or.inl (by omega)⟩, by omega⟩
    have hMet := hM hg ad ac hoka hent
    obtain ⟨r1, r2⟩ := hR
    have e1 := hk2.2.2.2.2.2.1
    have e2 := hk2.2.2.2.2.2.2.1
    have hroom : (rmg g (σ'.length - σ.length) (tot σ' - tot σ)).frames + 1 ≤ R.frames ∧ 8 + (mxl g + 11) + (rmg g (σ'.length - σ.length) (tot σ' - tot σ)).locals ≤ R.locals := ⟨by show hgt g + 1 ≤ _; omega, by show 8 + (mxl g + 11) + 40 * hgt g ≤ _; have := hcl.2; omega⟩
    have hcr : cells + (σ'.length - σ.length) ≤ R.cells ∧ slots + (tot σ' - tot σ) ≤ R.slots := by omega
    have hini : (Cond.initialized (nmm g).cls).before args s = true := hts _ (TG_in w1 rfl)
    have hdd : (nmm g).cls ≠ "java/lang/invoke/MethodHandle" ∧ (nmm g).cls ≠ "java/lang/invoke/VarHandle" ∧ (parseMethodDescriptor (nmm g).desc).map (fun d => d.parameters.length) = some (npr g) := ⟨hnm.1, hnm.2, hnp⟩
    have hmapst : st.map (cv ad bb) = (as.map (cv ad 0)).reverse ++ r.map (cv ad bb) := by
      rw [hst, List.map_append, List.map_reverse, cv_all (b := bb) (b' := 0) hall]
    have hPc : ∀ U : State, U.heap = H → s.WarmedH U.vm → PcG D base as σ M ad ac (as.map (cv ad 0)).toArray U := fun U hU hW => ⟨rfl, by rw [hU]; exact hk2.1.moved hW.alike, hT.warm hW, by rw [hU]; have := hk2.2.1.1; omega⟩
    have fix : CallFix p m c (bc f) (mxl f) s args TG (cn (own f)) := ⟨hx, hb, hml, hown, hts⟩
    have hcw : (r.map (cv ad bb) |>.map fun v => v.category).sum ≤ 8 := by rw [cats_cv]; exact hcat
    rw [hmapst]
    refine g_ret (g := g) (mc := σ'.length - σ.length) (ms := tot σ' - tot σ) (as := as) (v := v) hk2 hokr (by omega) (by omega) ?_ hG
    have hB : x.2.2.2.1 < 3 → CallB R s args (cn (own f)) idx (nmm g) (bc g) (mxl g) (rty g) (wsg g) (rmg g (σ'.length - σ.length) (tot σ' - tot σ)) (σ'.length - σ.length) (tot σ' - tot σ) (npr g) := fun h3 => by
      rw [if_pos h3] at w2
      exact callB_of (npr g) hts (wsg_good hg) rfl rfl rfl hini (hts _ (TG_in w2 rfl)) hdd hroom
    have hN : 3 ≤ x.2.2.2.1 → va_CN R s args (cn (own f)) idx (nmm g) "SpunModules" (bc g) (mxl g) (rty g) (wsg g) (rmg g (σ'.length - σ.length) (tot σ' - tot σ)) (σ'.length - σ.length) (tot σ' - tot σ) (npr g) := fun h3 => by
      have hw := hT.2.1 x m3 h3 (by omega)
      rw [m1, m2, hx3] at hw
      exact va_cnB (npr g) hts (wsg_good hg) rfl rfl rfl hw hini hdd hroom
    rcases hkd with ⟨rfl, rfl⟩ | ⟨rfl, rfl⟩ | ⟨rfl, rfl⟩
    · -- virtual
      have hk3 : x.2.2.2.1 % 3 = 0 := by
        simp only [List.contains_cons, List.contains_nil, Bool.or_false, Bool.or_eq_true, beq_iff_eq] at hx2
        omega
      rw [if_neg (by omega)] at w3
      rw [if_pos hk3] at w4
      have hsta : sta g = false := w3.2
      rw [hsta] at hlen
      unfold rcv at hrc
      rw [hsta] at hrc
      cases as with
      | nil => simp at hrc
      | cons a0 as0 =>
        obtain ⟨t0, z0⟩ := a0
        have ht0 : t0 = 2 := by
          rcases (show t0 = 2 ∨ t0 ≠ 2 by omega) with q | q
          · exact q
          · simp only [Bool.false_or] at hrc
            split at hrc
            · rename_i heq
              cases heq
              rfl
            · cases hrc
        subst ht0
        simp only [Bool.false_or, decide_eq_true_eq] at hrc
        have hown11 : own g < 11 := by
          have h1 := (hoka _ List.mem_cons_self).1.2.1 rfl
          have h2 := ((hoka _ List.mem_cons_self).1.1.2.2 rfl).2
          have h1 : 0 ≤ z0 := h1
          have h2 : z0 < σ.length := h2
          have h3 := hk2.1.2.2.2.2 z0.toNat (by omega)
          unfold shp at hrc
          rw [if_neg (by omega)] at hrc
          have hsg : sg σ z0.toNat = (own g, nfl (own g)) := hrc
          rw [hsg] at h3
          dsimp only at h3
          rcases h3 with h3 | h3
          · exact h3.1
          · have : ∀ g ∈ List.range 222, own g < 20 := by decide +kernel
            have := this g (List.mem_range.mpr hg222)
            omega
        obtain ⟨k, rfl, hk, hsg⟩ := shp_spec hrc (by omega)
        have hgk := wso_get ad ac σ M hk
        rw [hsg] at hgk
        dsimp only at hgk
        rw [arc_o hown11] at hgk
        have hrcv := va_recv hT.1 hk2.1.1 (vw_get2 hown11) hgk
        have hmp : ((2, (k : Int)) :: as0).map (cv ad 0) = .ref (ad k) :: as0.map (cv ad 0) := by
          rw [List.map_cons, cv2 _ _ (by omega), Int.toNat_natCast]
        have hrs : (((2, (k : Int)) :: as0).map (cv ad 0)).reverse = (as0.map (cv ad 0)).reverse ++ [.ref (ad k)] := by rw [hmp, List.reverse_cons]
        have hpre : PreV s H (nmm g).cls (ad k) (PcG D base ((2, (k : Int)) :: as0) σ M ad ac) (as0.map (cv ad 0)) := ⟨PcG.blind, by rw [hcl.1]; exact hrcv, fun U hU hW => by rw [← hmp]; exact hPc U hU hW⟩
        have hin : (Cond.instanceMethod (nmm g)).before args s = true := hts _ (TG_in w3.1 rfl)
        have hse : (Cond.selects (nmm g).cls (nmm g) (nmm g)).before args s = true := hts _ (TG_in w4 rfl)
        have hl0 : (as0.map (cv ad 0)).length = npr g := by rw [List.length_map]; simpa using hlen
        have hstk : (((2, (k : Int)) :: as0).map (cv ad 0)).reverse ++ r.map (cv ad bb) = (as0.map (cv ad 0)).reverse ++ .ref (ad k) :: r.map (cv ad bb) := by rw [hrs, List.append_assoc]; rfl
        rw [hstk, hmp]
        by_cases hq3 : x.2.2.2.1 < 3
        · exact va_runV fix hMet ⟨hB hq3, hin, hse⟩ hpre rfl hl0 hk2.2.2.1.1 rfl (lv_room hcw) hd hcr
        · exact va_runVN fix hMet ⟨hN (by omega), hin, hse⟩ hpre rfl hl0 hk2.2.2.1.1 rfl (lv_room hcw) hd hcr
    · -- static
      have hk3 : x.2.2.2.1 % 3 = 1 := by
        simp only [List.contains_cons, List.contains_nil, Bool.or_false, Bool.or_eq_true, beq_iff_eq] at hx2
        omega
      rw [if_pos hk3] at w3
      rw [w3.2] at hlen
      have hstt : (Cond.static (nmm g)).before args s = true := hts _ (TG_in w3.1 rfl)
      have hpre : PreS s H (PcG D base as σ M ad ac) (as.map (cv ad 0)) := ⟨PcG.blind, hPc⟩
      have hl0 : (as.map (cv ad 0)).length = npr g := by rw [List.length_map]; simpa using hlen
      by_cases hq3 : x.2.2.2.1 < 3
      · exact va_runS fix hMet ⟨hB hq3, hstt⟩ hpre rfl hl0 hk2.2.2.1.1 rfl (lv_room hcw) hd hcr
      · exact va_runSN fix hMet ⟨hN (by omega), hstt, trivial⟩ hpre rfl hl0 hk2.2.2.1.1 rfl (lv_room hcw) hd hcr
    · -- a constructor
      have hk3 : x.2.2.2.1 % 3 = 2 := by
        simp only [List.contains_cons, List.contains_nil, Bool.or_false, Bool.or_eq_true, beq_iff_eq] at hx2
        omega
      rw [if_neg (by omega)] at w3
      rw [if_pos hk3] at w5
      have hsta : sta g = false := w3.2
      rw [hsta] at hlen
      unfold rcv at hrc
      rw [hsta] at hrc
      cases as with
      | nil => simp at hrc
      | cons a0 as0 =>
        obtain ⟨t0, z0⟩ := a0
        have ht0 : t0 = 2 := by
          rcases (show t0 = 2 ∨ t0 ≠ 2 by omega) with q | q
          · exact q
          · simp only [Bool.false_or] at hrc
            split at hrc
            · rename_i heq
              cases heq
              rfl
            · cases hrc
        subst ht0
        have h0 : 0 ≤ z0 := (hoka _ List.mem_cons_self).1.2.1 rfl
        have hmp : ((2, z0) :: as0).map (cv ad 0) = .ref (ad z0.toNat) :: as0.map (cv ad 0) := by
          rw [List.map_cons, cv2 _ _ h0]
        have hrs : (((2, z0) :: as0).map (cv ad 0)).reverse = (as0.map (cv ad 0)).reverse ++ [.ref (ad z0.toNat)] := by rw [hmp, List.reverse_cons]
        have hpre : PreS s H (PcG D base ((2, z0) :: as0) σ M ad ac) (.ref (ad z0.toNat) :: as0.map (cv ad 0)) := ⟨PcG.blind, fun U hU hW => by rw [← hmp]; exact hPc U hU hW⟩
        have hin : (Cond.instanceMethod (nmm g)).before args s = true := hts _ (TG_in w3.1 rfl)
        have hl0 : (as0.map (cv ad 0)).length = npr g := by rw [List.length_map]; simpa using hlen
        have hstk : (((2, z0) :: as0).map (cv ad 0)).reverse ++ r.map (cv ad bb) = (as0.map (cv ad 0)).reverse ++ .ref (ad z0.toNat) :: r.map (cv ad bb) := by rw [hrs, List.append_assoc]; rfl
        rw [hstk, hmp]
        rw [w5.2] at hB hN
        by_cases hq3 : x.2.2.2.1 < 3
        · exact va_runI fix hMet ⟨hB hq3, w5.1, hin⟩ hpre rfl hl0 hk2.2.2.1.1 rfl (lv_room hcw) hd hcr
        · exact va_runIN fix hMet ⟨hN (by omega), w5.1, hin⟩ hpre rfl hl0 hk2.2.2.1.1 rfl (lv_room hcw) hd hcr
  cases i with
  | invokevirtual n => exact main n [0, 3] h (Or.inl ⟨rfl, rfl⟩)
  | invokestatic n =>
    unfold astep at h
    dsimp only at h
    split at h
    · exfalso
      split at h
      · split at h
        · split at h <;> cases h
        · cases h
      · cases h
    · exact main n [1, 4] h (Or.inr (Or.inl ⟨rfl, rfl⟩))
  | invokespecial n =>
    unfold astep at h
    dsimp only at h
    split at h
    · exfalso
      split at h
      · split at h
        · split at h <;> cases h
        · cases h
      · cases h
    · exact main n [2, 5] h (Or.inr (Or.inr ⟨rfl, rfl⟩))
  | _ =>
    exfalso
    simp only [astep, ald, alda, ast, cst, bi, bz, bl, blz, bs, jm, nx] at h
    repeat' (first | (cases h; done) | split at h)
end
end
section
/-! A run of the abstract machine is a run of the JVM. -/
theorem astep_ext {o : Option (List Int)} {f pc pc' len : Nat} {i : Instr} {ls st ls' st' : List AV} {σ σ' : Sh} {M M' : Mo} (h : astep o f pc i len ls st σ M = some (.inl (pc', ls', st', σ', M'))) : ∃ τ, σ' = σ ++ τ := by
  cases i <;> simp only [astep, ald, alda, ast, cst, bi, bz, bl, blz, bs, ava, jm, nx] at h <;> repeat' (first | (cases h; done) | (cases h; exact ⟨[], (List.append_nil _).symm⟩) | (cases h; exact ⟨_, rfl⟩) | (cases h; exact ⟨_, List.append_assoc _ _ _⟩) | split at h)
theorem arun_ext : ∀ (n : Nat) {o : Option (List Int)} {f pc : Nat} {ls st : List AV} {σ σ' : Sh} {M M' : Mo} {v : Option AV}, arun o n f pc ls st σ M = some (v, σ', M') → ∃ τ, σ' = σ ++ τ
  | 0, _, _, _, _, _, _, _, _, _, _, h => by
    unfold arun at h
    cases h
  | n + 1, _, _, _, _, _, _, _, _, _, _, h => by
    unfold arun at h
    split at h
    · split at h
      · rename_i h1
        obtain ⟨τ, rfl⟩ := astep_ext h1
        obtain ⟨τ2, rfl⟩ := arun_ext n h
        exact ⟨_, List.append_assoc _ _ _⟩
      · cases h
        exact ⟨[], (List.append_nil _).symm⟩
      · split at h
        · rename_i h1
          obtain ⟨τ, rfl⟩ := arun_ext n h1
          obtain ⟨τ2, rfl⟩ := arun_ext n h
          exact ⟨_, List.append_assoc _ _ _⟩
        · cases h
      · cases h
    · cases h
theorem ext_le {σ σ' : Sh} (h : ∃ τ, σ' = σ ++ τ) : σ.length ≤ σ'.length ∧ tot σ ≤ tot σ' := by
  obtain ⟨τ, rfl⟩ := h
  rw [List.length_append, tot_app]
  omega
def RetOK (f pc : Nat) (v : Option AV) : Prop := match v with
  | none => decode (bc f) pc = .ok (.return_, 1) ∧ rty f = none
  | some (t, x) => (t = 0 ∧ decode (bc f) pc = .ok (.ireturn, 1) ∧ (rty f = some .int ∨ rty f = some .boolean ∧ (x = 0 ∨ x = 1))) ∨ (t = 1 ∧ decode (bc f) pc = .ok (.lreturn, 1) ∧ rty f = some .long)
theorem ret_spec {o : Option (List Int)} {f pc len : Nat} {i : Instr} {ls st : List AV} {σ : Sh} {M : Mo} {v : Option AV} (hd : decode (bc f) pc = .ok (i, len)) (h : astep o f pc i len ls st σ M = some (.inr (.inl v))) : RetOK f pc v ∧ st = v.toList := by
  cases i with
  | ireturn =>
    unfold astep at h
    dsimp only at h
    split at h
    · rename_i hl
      subst hl
      split at h
      · split at h
        · rename_i hr
          cases h
          exact ⟨Or.inl ⟨rfl, hd, hr⟩, rfl⟩
        · cases h
      · cases h
    · cases h
  | lreturn =>
    unfold astep at h
    dsimp only at h
    split at h
    · rename_i hl
      subst hl
      split at h
      · split at h
        · rename_i hr
          cases h
          exact ⟨Or.inr ⟨rfl, hd, hr⟩, rfl⟩
        · cases h
      · cases h
    · cases h
  | return_ =>
    unfold astep at h
    dsimp only at h
    split at h
    · rename_i hl
      subst hl
      split at h
      · split at h
        · rename_i hr
          cases h
          exact ⟨⟨hd, hr⟩, rfl⟩
        · cases h
      · cases h
    · cases h
  | _ =>
    exfalso
    simp only [astep, ald, alda, ast, cst, bi, bz, bl, blz, bs, ava, jm, nx] at h
    repeat' (first | (cases h; done) | split at h)
theorem lg_cons (v : Value) (vs : List Value) : lg_sl (v :: vs) = (if v.category = 2 then [.val v, .second] else [.val v]) ++ lg_sl vs := by
  unfold lg_sl
  rw [List.flatMap_cons]
theorem ent_len (ad : Nat → Nat) : ∀ as : List AV, (lg_sl (as.map (cv ad 0))).length = (ent as).length
  | [] => rfl
  | v :: as => by
    rw [List.map_cons, lg_cons, cv_cat]
    unfold ent catv
    by_cases h : v.1 = 1
    · rw [if_pos h, if_pos rfl, if_pos h, List.length_append, ent_len ad as]
      simp
      omega
    · rw [if_neg h, if_neg (by decide), if_neg h, List.length_append, ent_len ad as]
      simp
      omega
theorem ent_get (ad : Nat → Nat) : ∀ (as : List AV) (i : Nat) (v : AV), (ent as)[i]? = some v → v.1 ≠ 9 → (lg_sl (as.map (cv ad 0)))[i]? = some (.val (cv ad 0 v))
  | [], i, v, h, _ => by
    unfold ent at h
    simp at h
  | w :: as, i, v, h, h9 => by
    rw [List.map_cons, lg_cons, cv_cat]
    unfold ent at h
    unfold catv
    by_cases h1 : w.1 = 1
    · rw [if_pos h1] at h
      rw [if_pos h1, if_pos rfl]
      match i, h with
      | 0, h =>
        cases h
        rfl
      | 1, h =>
        cases h
        exact absurd rfl h9
      | i + 2, h => exact ent_get ad as i v h h9
    · rw [if_neg h1] at h
      rw [if_neg h1, if_neg (by decide)]
      match i, h with
      | 0, h =>
        cases h
        rfl
      | i + 1, h => exact ent_get ad as i v h h9
theorem ent_ok {o : Option (List Int)} {n : Nat} : ∀ {as : List AV}, (∀ w ∈ as, okv o n w) → ∀ w ∈ ent as, okv o n w
  | [], _, w, hw => by
    unfold ent at hw
    cases hw
  | v :: as, h, w, hw => by
    have h9 : okv o n (9, 0) := ⟨⟨fun q => absurd q (by simp), fun q => absurd q (by simp), fun q => absurd q (by simp)⟩, fun q => absurd q (by simp), fun q => absurd q (by simp), Or.inr (Or.inr rfl)⟩
    have ih := fun w hw => ent_ok (fun w hw => h w (List.mem_cons_of_mem _ hw)) w hw
    unfold ent at hw
    split at hw
    · rcases List.mem_cons.mp hw with rfl | hw
      · exact h _ List.mem_cons_self
      · rcases List.mem_cons.mp hw with rfl | hw
        · exact h9
        · exact ih w hw
    · rcases List.mem_cons.mp hw with rfl | hw
      · exact h _ List.mem_cons_self
      · exact ih w hw
theorem Lc.entry {ad : Nat → Nat} {g : Nat} {as : List AV} (hl : (ent as).length ≤ mxl g) : Lc ad 0 g ((lg_sl (as.map (cv ad 0)) ++ List.replicate (mxl g - (lg_sl (as.map (cv ad 0))).length) Slot.unset).toArray) (entl g as) := by
  have h1 := lv_entry (as.map (cv ad 0)) (n := mxl g) (by rw [ent_len]; exact hl)
  refine ⟨h1.1, h1.2.1, ?_, fun i v hv h9 => ?_⟩
  · unfold entl
    rw [List.length_append, List.length_replicate]
    omega
  · unfold entl at hv
    by_cases hi : i < (ent as).length
    · rw [List.getElem?_append_left hi] at hv
      have h2 := ent_get ad as i v hv h9
      rw [List.getElem?_toArray, List.getElem?_append_left (by rw [ent_len]; exact hi)]
      exact h2
    · rw [List.getElem?_append_right (by omega), List.getElem?_replicate] at hv
      split at hv
      · cases hv
        exact absurd rfl h9
      · cases hv
theorem hrm {g mc ms : Nat} {ws : List Cond} : (headSpec ws (rmg g mc ms)).room = rmg g mc ms := rfl
set_option maxHeartbeats 2000000 in
theorem met_of {l : Launch} {g : Nat} (hg : g < 221) {as : List AV} {σ σ' : Sh} {M M' : Mo} {v : Option AV} {D : va_G} {base : Nat} (hle : σ.length ≤ σ'.length ∧ tot σ ≤ tot σ')
    (IH : ∀ {p : Program} {e : Env} {R : Room} {s : State} {m : MethodId} {args : Array Value} {below : List Frame} {meth : Method} {c : Code} {Q : State → Prop} {n0 s0 : Nat} {ad0 : Nat → Nat} {ac0 : Nat → ClassId}, Cx g none p R s m args meth c base 0 D → Rm R n0 s0 σ' → (∀ pc' ls', RetOK g pc' v → G p l e R s m args below meth c Q D base 0 none g n0 s0 ad0 ac0 pc' ls' v.toList σ' M') → G p l e R s m args below meth c Q D base 0 none g n0 s0 ad0 ac0 0 (entl g as) [] σ M)
    (ad : Nat → Nat) (ac : Nat → ClassId) (hok : ∀ w ∈ as, okv none σ.length w ∧ w.1 ≤ 2) (hent : (ent as).length ≤ mxl g) : Met l (nmm g) (wsg g) (rmg g (σ'.length - σ.length) (tot σ' - tot σ)) (PcG D base as σ M ad ac) (QcG D base σ.length v σ' M' ad ac) (σ'.length - σ.length) (tot σ' - tot σ) (fun q => base ≤ q) := by
  have hg2 : g ∈ List.range 222 := List.mem_range.mpr (by omega)
  refine Met.ofWF (cc := bc g) (maxL := mxl g) (ret := rty g) (g_pln g hg2) rfl ?_
  intro p e s m args below meth c s₁ B hml hv
  obtain ⟨rfl, hW, hT, hbs⟩ := hv
  have hts := atoms_spec (ws := wsg g) B.pre
  have hown : s.vm.findClass (nmm g).cls = some m.cls := findClass_of_methodNamed B.named
  rw [(g_cls g hg2).1] at hown
  have C : Cx g none p (rmg g (σ'.length - σ.length) (tot σ' - tot σ)) s m (as.map (cv ad 0)).toArray meth c base 0 D := ⟨B.exec, B.bytes, hml, hown, fun w hw => hts w (List.mem_cons_of_mem _ hw), B.returns, B.notSynchronized, fun h => by rw [(name_of_methodNamed B.named B.method).1]; exact h, Nat.le_refl _, Nat.le_refl _, hT, hbs, fun xs h => by cases h⟩
  rw [lg_entry_eq, hrm]
  have hres := IH (p := p) (e := e) (below := below) (Q := MQ below (QcG D base σ.length v σ' M' ad ac) (as.map (cv ad 0)).toArray s (σ'.length - σ.length) (tot σ' - tot σ) (fun q => base ≤ q)) (n0 := σ.length) (s0 := tot σ) (ad0 := ad) (ac0 := ac) C ⟨by show _ ≤ _ + (σ'.length - σ.length); omega, by show _ ≤ _ + (tot σ' - tot σ); omega⟩ ?_
  · have hcat : ∀ w ∈ entl g as, okv none σ.length w := by
      intro w hw
      unfold entl at hw
      rcases List.mem_append.mp hw with h | h
      · exact ent_ok (fun w hw => (hok w hw).1) w h
      · rw [(List.mem_replicate.mp h).2]
        exact ⟨⟨fun q => absurd q (by simp), fun q => absurd q (by simp), fun q => absurd q (by simp)⟩, fun q => absurd q (by simp), fun q => absurd q (by simp), Or.inr (Or.inr rfl)⟩
    exact hres s.heap [] 0 0 _ ad ac ⟨hW, va_S.rf, Lc.entry hent, hcat, (fun w hw => absurd hw List.not_mem_nil), by omega, by omega, fun k _ => ⟨rfl, rfl⟩⟩
  · intro pc' ls' hro H locs cells slots lsm ad' ac' hk
    have e1 := hk.2.2.2.2.2.1
    have e2 := hk.2.2.2.2.2.2.1
    have hc1 : cells = σ'.length - σ.length := by omega
    have hc2 : slots = tot σ' - tot σ := by omega
    subst hc1
    subst hc2
    have hq : ∀ t : State, t.heap = H → s.WarmedH t.vm → (∀ w, v = some w → okv none σ'.length w ∧ w.1 ≤ 1) → QcG D base σ.length v σ' M' ad ac (as.map (cv ad 0)).toArray s (.returned (v.map (cv ad' 0))) t := fun t ht hWt hvk =>
      ⟨ad', ac', rfl, by rw [ht]; exact hk.1.moved hWt.alike, hk.2.2.2.2.2.2.2, hvk, by rw [ht]; exact hk.2.1.1, fun q h1 h2 => by rw [ht]; exact hk.2.1.2.1 q h1 h2⟩
    have hf : ∀ q ∈ locs, base ≤ q.base := hk.2.1.2.2
    have hlocks := B.notSynchronized
    cases v with
    | none =>
      obtain ⟨h1, h2⟩ := hro
      exact W.vret B.exec B.bytes (by rw [B.returns]; exact h2) (fun t ht hWt => hq t ht hWt (fun w hw => by cases hw)) hf h1
    | some w =>
      have hwk := (hk.2.2.2.2.1 w List.mem_cons_self).1
      obtain ⟨t0, x⟩ := w
      rcases hro with ⟨rfl, h1, h2⟩ | ⟨rfl, h1, h2⟩
      · rcases h2 with h2 | ⟨h2, h3⟩
        · exact W.iret B.exec B.bytes (by rw [B.returns]; exact h2) (fun t ht hWt => hq t ht hWt (fun w hw => by cases hw; exact ⟨hwk, by simp⟩)) hf h1
        · exact W.zret (ty := .boolean) B.exec B.bytes (by rw [B.returns]; exact h2) (by rcases h3 with rfl | rfl <;> rfl) (fun t ht hWt => hq t ht hWt (fun w hw => by cases hw; exact ⟨hwk, by show (0 : Nat) ≤ 1; omega⟩)) hf h1
      · exact W.lret B.exec B.bytes (by rw [B.returns]; exact h2) (fun t ht hWt => hq t ht hWt (fun w hw => by cases hw; exact ⟨hwk, by simp⟩)) hf h1
theorem sim {l : Launch} {D : va_G} {base : Nat} : ∀ (n : Nat) {o : Option (List Int)} {f pc : Nat} {ls st : List AV} {σ σ' : Sh} {M M' : Mo} {v : Option AV}, arun o n f pc ls st σ M = some (v, σ', M') →
    ∀ {p : Program} {e : Env} {R : Room} {s : State} {m : MethodId} {args : Array Value} {below : List Frame} {meth : Method} {c : Code} {Q : State → Prop} {bb n0 s0 : Nat} {ad0 : Nat → Nat} {ac0 : Nat → ClassId}, Cx f o p R s m args meth c base bb D → Rm R n0 s0 σ' → (∀ pc' ls', RetOK f pc' v → G p l e R s m args below meth c Q D base bb o f n0 s0 ad0 ac0 pc' ls' v.toList σ' M') → G p l e R s m args below meth c Q D base bb o f n0 s0 ad0 ac0 pc ls st σ M
  | 0, _, _, _, _, _, _, _, _, _, _, h => by
    unfold arun at h
    cases h
  | n + 1, _, _, _, _, _, σ, σ', _, _, _, h => by
    intro C hR hret
    unfold arun at h
    split at h
    · rename_i i len hd
      split at h
      · rename_i pc1 ls1 st1 σ1 M1 h1
        have hx := ext_le (arun_ext n h)
        exact g_step C hd ⟨by have := hR.1; omega, by have := hR.2; omega⟩ h1 (sim n h C hR hret)
      · rename_i v0 h1
        cases h
        obtain ⟨h2, rfl⟩ := ret_spec hd h1
        exact hret _ _ h2
      · rename_i g as r h1
        split at h
        · rename_i v1 σ1 M1 h2
          have hx1 := ext_le (arun_ext n h2)
          have hx2 := ext_le (arun_ext n h)
          exact g_call C hd h1 ⟨by have := hR.1; omega, by have := hR.2; omega⟩ hx1 (fun hg ad ac hok hent => met_of hg hx1 (fun C2 hR2 hret2 => sim n h2 C2 hR2 hret2) ad ac hok hent) (sim n h C hR hret)
        · cases h
      · cases h
    · cases h
end
section
/-! The law's own frame. -/
def R_law : String := "SpunModulesLaw"
def lw_P (b : Addr) (xs : List Int32) (args : Array Value) (s : State) : Prop := args = #[.ref b] ∧ s.IntsAt b xs ∧ xs.length ≤ 3072 ∧ (Jvm.Cond.and given_1 narrow_1).before args s = true
def lw_Q (_ : Array Value) (s : State) (o : Outcome) (t : State) : Prop := o = .returned (some (.int 1)) ∧ Framed s o t [] 600000 7302250
def lw_Z (below : List Frame) (a : Array Value) (s : State) : State → Prop := fun t => ∃ o, t.status = .running ∧ Ended t below o ∧ lw_Q a s o t
/-- the law's own end, with 1 on the stack, nothing written that was there before, its room as the claim has it -/
theorem lw_ret {p : Program} {l : Launch} {e : Env} {s : State} {m : MethodId} {below : List Frame} {meth : Method} {c : Code} {b : Nat} (hx : p.tables.exec = Jvm.exec) (hb : c.code = code) (hr : meth.sig.returnType = ret) (hlocks : meth.locks = false) {pc : Nat} {H : Heap} {ls : Array Slot} (hdg : decode code pc = .ok (.ireturn, 1)) : W p l e room_1 s m #[Value.ref b] below meth c H [] 600000 7302250 (lw_Z below #[Value.ref b] s) (F0 m pc ls [.int 1]) := by
  intro T hT X
  obtain ⟨fs, hret, hrun, hended, hW, hframe⟩ := X.leave (v := some (.int 1)) (hlocks := hlocks) (fun h => by rw [hr] at h; cases h)
  have hmeth' : T.vm.method? m = some meth := X.method'
  refine ⟨T.setFrames fs, ?_, .returned (some (.int 1)), hrun, hended, rfl, ⟨_, rfl⟩, hW, hframe⟩
  jvm_step X.here [X.here.top, hx, hb, hdg, hmeth', hr, ret, narrow_b1]
  (try refine ⟨rfl, ?_⟩); (try refine ⟨rfl, ?_⟩)
  first | (intro acts; rw [hret _ acts rfl rfl rfl]) | rw [hret _ _ rfl rfl rfl]
  exact Steps.refl _
/-- what holds at the law's entry: the machine, the code, the tables' words (any of lw_tbl by 'hts w (by decide +kernel)'), the script of L ints xs at the cell b, what the Statement gives of the start (any of its parts by flat_of_before) -/
def lw_At (p : Program) (s : State) (m : MethodId) (meth : Method) (c : Code) (b L : Nat) (xs : Nat → Int32) : Prop :=
  p.tables.exec = Jvm.exec ∧ c.code = code ∧ meth.sig.returnType = ret ∧ c.maxLocals = 4 ∧ s.vm.findClass R_law = some m.cls ∧ (∀ w ∈ lw_tbl, w.before #[Value.ref b] s = true) ∧ va_X b L xs s s.heap ∧ b < s.heap.size ∧ meth.locks = false ∧ (Jvm.Cond.and given_1 narrow_1).before #[Value.ref b] s = true

/-- what is left: the abstract machine's run of the law, for every script -/
def ClaimA : Prop := ∀ xs : List Int, xs.length ≤ 3072 → (∀ x ∈ xs, -2147483648 ≤ x ∧ x < 2147483648) → ∃ (n : Nat) (σ' : Sh) (M' : Mo), arun (some xs) n 221 0 [(4, 0), (9, 0), (9, 0), (9, 0)] [] [] (fun _ _ => 0) = some (some (0, 1), σ', M') ∧ σ'.length ≤ 600000 ∧ tot σ' ≤ 7302250
theorem all11 {P : Nat → Prop} (h : ∀ c ∈ List.range 11, P c) {c : Nat} (hc : c < 11) : P c := h c (List.mem_range.mpr hc)
theorem kn_all {args : Array Value} {s : State} (hts : ∀ w ∈ TG, w.before args s = true) : ∃ D : va_G, va_K D vwCl [] s := by
  have hinst : ∀ ci ∈ List.range 11, ∃ x ∈ nT, x.2.2.1 = ci := by decide +kernel
  have h : ∀ ci : Nat, ∃ (q : ClassId × (Nat → Nat)), ci < 11 → u_Kn s (cn ci) (fdt ci) (nfl ci) q.1 q.2 := by
    intro ci
    by_cases hc : ci < 11
    · obtain ⟨x, hx, hxc⟩ := hinst ci (List.mem_range.mpr hc)
      have hi := (nT_ok x hx).2.2.1
      rw [hxc] at hi
      obtain ⟨cC, iS, hK⟩ := u_known hts (u_in hc) (hts _ (TG_in hi rfl))
      exact ⟨(cC, iS), fun _ => hK⟩
    · exact ⟨(0, fun _ => 0), fun h => absurd h hc⟩
  refine ⟨(fun ci => (Classical.choose (h ci)).1, fun ci => (Classical.choose (h ci)).2), fun ci q hq => ?_, fun k q hk => by simp at hk⟩
  have hc : ci < 11 := by
    have := (List.getElem?_eq_some_iff.mp hq).1
    rwa [cl_len] at this
  rw [vw_get2 hc] at hq
  cases hq
  exact Classical.choose_spec (h ci) hc
theorem ov0 : Cond.arrayOver (.object (cn 0)) ∈ lw_tbl := atp_in (p := 1037) (by decide +kernel)
theorem ov1 : Cond.arrayOver (.array .long) ∈ lw_tbl := atp_in (p := 1189) (by decide +kernel)
theorem ov2 : Cond.arrayOver (.array .int) ∈ lw_tbl := atp_in (p := 2005) (by decide +kernel)
theorem tb_start {args : Array Value} {s : State} (hts : ∀ w ∈ lw_tbl, w.before args s = true) : ∃ D : va_G, Tb D s := by
  obtain ⟨D, hK⟩ := kn_all (args := args) (s := s) (fun w hw => hts w (List.mem_filter.mp hw).1)
  refine ⟨D, hK, fun x hx h3 h5 => ?_, va_AO.of (hts _ ov0), hts _ ov2, hts _ ov1⟩
  have m4 := mT_ok x hx
  unfold mOk at m4
  rw [if_neg (by omega), if_neg (by omega), decide_eq_true_eq] at m4
  obtain ⟨-, -, -, w2, -⟩ := m4
  rw [if_neg (by omega)] at w2
  exact va_Nw.of rfl (hts _ (atp_in w2))
theorem bc_law : bc 221 = code := rfl
theorem own_law : own 221 = 11 := by decide +kernel
theorem rty_law : rty 221 = some .boolean := by decide +kernel
theorem mxl_law : mxl 221 = 4 := by decide +kernel
theorem hgt_law : hgt 221 = 8 := by decide +kernel
theorem nam_law : (nmm 221).name = "law" := by decide +kernel
theorem cn_law : cn 11 = R_law := rfl
theorem ret_law : ret = some .boolean := rfl
set_option maxHeartbeats 2000000 in
theorem whole_of (hA : ClaimA) {p : Program} {e : Env} {s : State} {m : MethodId} {below : List Frame} {meth : Method} {c : Code} (l : Launch) {b L : Nat} {xs : Nat → Int32} (hL : L ≤ 3072) (C0 : lw_At p s m meth c b L xs) : W p l e room_1 s m #[Value.ref b] below meth c s.heap [] 0 0 (lw_Z below #[Value.ref b] s) (entryFrame m ([Value.ref b] : List Value).toArray 4) := by
  obtain ⟨hx, hb, hr, hml, hown, hts, hX, hbl, hlocks, hgv⟩ := C0
  obtain ⟨D, hT⟩ := tb_start hts
  have hlen : ((List.range L).map (fun j => (xs j).toInt)).length = L := by simp
  have hget : ∀ j, j < L → ((List.range L).map (fun j => (xs j).toInt)).getD j 0 = (xs j).toInt := fun j hj => by
    rw [List.getD_eq_getElem?_getD, rng_get hj]
    rfl
  obtain ⟨n, σ', M', hrun, hc1, hc2⟩ := hA ((List.range L).map (fun j => (xs j).toInt)) (by rw [hlen]; exact hL) (fun x hx => by
    obtain ⟨j, -, rfl⟩ := List.mem_map.mp hx
    exact i32_rng _)
  have C : Cx 221 (some ((List.range L).map (fun j => (xs j).toInt))) p room_1 s m #[Value.ref b] meth c s.heap.size b D := by
    refine ⟨hx, by rw [bc_law]; exact hb, by rw [mxl_law]; exact hml, by rw [own_law, cn_law]; exact hown, fun w hw => hts w (List.mem_filter.mp hw).1, by rw [rty_law, hr]; exact ret_law, hlocks, fun h => by rw [nam_law] at h; exact absurd h (by decide), by rw [hgt_law]; show 8 ≤ 10; decide, by rw [hgt_law]; show 40 * 8 ≤ 406; decide, hT, Nat.le_refl _, fun ys hys => ?_⟩
    cases hys
    refine ⟨?_, hbl, by rw [hlen]; omega, fun j => ?_⟩
    · rw [hlen]
      obtain ⟨scr, x1, x2, x3, x4, x5⟩ := hX
      refine ⟨scr, x1, x2, x3, x4, fun j hj => ?_⟩
      dsimp only
      rw [x5 j hj, hget j hj, Int32.ofInt_toInt]
    · by_cases hj : j < L
      · rw [hget j hj]
        exact i32_rng _
      · rw [List.getD_eq_getElem?_getD, List.getElem?_eq_none (by rw [hlen]; omega)]
        exact ⟨by decide, by decide⟩
  have hres := sim (l := l) (D := D) (base := s.heap.size) n hrun (e := e) (below := below) (Q := lw_Z below #[Value.ref b] s) (n0 := 0) (s0 := 0) (ad0 := fun _ => 0) (ac0 := fun _ => 0) C ⟨by show _ ≤ 0 + 600000; omega, by show _ ≤ 0 + 7302250; omega⟩ ?_
  · rw [lg_entry_eq]
    have hl := lv_entry ([.ref b]) (n := 4) (Nat.le_of_ble_eq_true rfl)
    refine hres s.heap [] 0 0 _ (fun _ => 0) (fun _ => 0) ⟨⟨fun k q h => by simp [wso] at h, ⟨fun i j p q h => by simp [wso] at h, fun k q h => by simp [wso] at h⟩, fun k hk => absurd hk (by simp), fun k hk => absurd hk (by simp), fun k hk => absurd hk (by simp)⟩, va_S.rf, ⟨by rw [mxl_law]; exact hl.1, hl.2.1, by rw [mxl_law]; rfl, fun i v hv h9 => ?_⟩, fun v hv => ?_, (fun w hw => absurd hw List.not_mem_nil), rfl, rfl, fun k hk => absurd hk (by omega)⟩
    · match i, hv with
      | 0, hv =>
        cases hv
        exact hl.2.2 (0, .ref b) List.mem_cons_self
      | 1, hv => cases hv; exact absurd rfl h9
      | 2, hv => cases hv; exact absurd rfl h9
      | 3, hv => cases hv; exact absurd rfl h9
      | i + 4, hv => simp at hv
    · have ok9 : okv (some ((List.range L).map (fun j => (xs j).toInt))) 0 (9, 0) := ⟨⟨fun q => absurd q (by simp), fun q => absurd q (by simp), fun q => absurd q (by simp)⟩, fun q => absurd q (by simp), fun q => absurd q (by simp), Or.inr (Or.inr rfl)⟩
      have ok4 : okv (some ((List.range L).map (fun j => (xs j).toInt))) 0 (4, 0) := ⟨⟨fun q => absurd q (by simp), fun q => absurd q (by simp), fun q => absurd q (by simp)⟩, fun q => absurd q (by simp), (fun _ => Option.some_ne_none _), Or.inr (Or.inl rfl)⟩
      simp only [List.mem_cons, List.not_mem_nil, or_false] at hv
      rcases hv with rfl | rfl | rfl | rfl
      · exact ok4
      · exact ok9
      · exact ok9
      · exact ok9
  · intro pc' ls' hro H locs cells slots lsm ad ac hk
    have e1 := hk.2.2.2.2.2.1
    have e2 := hk.2.2.2.2.2.2.1
    rcases hro with ⟨-, h1, -⟩ | ⟨h1, -⟩
    · rw [bc_law] at h1
      exact va_forget hk.2.1.2.2 (W.widen (by omega) (by omega) (lw_ret hx hb hr hlocks h1))
    · exact absurd h1 (by decide)
end
section
/-! The shape behind both constructors, and what never changes in it. -/
def S0 : Sh := [(9, 14), (2, 1), (22, 4), (0, 3), (21, 12), (7, 5), (21, 6), (21, 6), (4, 5), (20, 8), (22, 32), (0, 3), (21, 12), (0, 3), (21, 12), (0, 3), (21, 12), (0, 3), (21, 12), (0, 3), (21, 12), (0, 3), (21, 12), (0, 3), (21, 12), (0, 3), (21, 12), (0, 3), (21, 12), (0, 3), (21, 12), (0, 3), (21, 12), (0, 3), (21, 12), (0, 3), (21, 12), (0, 3), (21, 12), (0, 3), (21, 12), (0, 3), (21, 12), (0, 3), (21, 12), (0, 3), (21, 12), (0, 3), (21, 12), (0, 3), (21, 12), (0, 3), (21, 12), (0, 3), (21, 12), (0, 3), (21, 12), (0, 3), (21, 12), (0, 3), (21, 12), (0, 3), (21, 12), (0, 3), (21, 12), (0, 3), (21, 12), (0, 3), (21, 12), (0, 3), (21, 12), (0, 3), (21, 12), (0, 3), (21, 12), (8, 6), (20, 40), (20, 40), (7, 5), (21, 6), (21, 6), (1, 8), (22, 6), (0, 3), (21, 12), (0, 3), (21, 12), (0, 3), (21, 12), (0, 3), (21, 12), (0, 3), (21, 12), (0, 3), (21, 12), (0, 3), (21, 12), (0, 3), (21, 12), (0, 3), (21, 12), (0, 3), (21, 12), (7, 5), (21, 6), (21, 6), (1, 8), (22, 6), (0, 3), (21, 12), (0, 3), (21, 12), (0, 3), (21, 12), (0, 3), (21, 12), (0, 3), (21, 12), (0, 3), (21, 12), (0, 3), (21, 12), (0, 3), (21, 12), (0, 3), (21, 12), (0, 3), (21, 12), (7, 5), (21, 6), (21, 6), (3, 5), (24, 36), (21, 6), (21, 6), (21, 6), (21, 6), (21, 6), (21, 6), (21, 6), (21, 6), (21, 6), (21, 6), (21, 6), (21, 6), (21, 6), (21, 6), (21, 6), (21, 6), (21, 6), (21, 6), (21, 6), (21, 6), (21, 6), (21, 6), (21, 6), (21, 6), (21, 6), (21, 6), (21, 6), (21, 6), (21, 6), (21, 6), (21, 6), (21, 6), (21, 6), (21, 6), (21, 6), (21, 6), (20, 36), (20, 36), (6, 7), (20, 243), (0, 3), (21, 12), (0, 3), (21, 12), (7, 5), (21, 6), (21, 6), (7, 5), (21, 6), (21, 6), (7, 5), (21, 6), (21, 6), (5, 4), (20, 7), (23, 6), (20, 6), (20, 6), (20, 6), (20, 6), (20, 6), (20, 6), (23, 6), (20, 6), (20, 6), (20, 6), (20, 6), (20, 6), (20, 6), (23, 6), (20, 6), (20, 6), (20, 6), (20, 6), (20, 6), (20, 6), (0, 3), (21, 12), (0, 3), (21, 12), (0, 3), (21, 12), (0, 3), (21, 12), (10, 38), (20, 3), (20, 11), (20, 792), (20, 72), (20, 243), (20, 6), (20, 16), (20, 6), (20, 6), (20, 6), (20, 2344), (20, 3), (20, 432), (20, 6), (20, 72), (20, 243), (20, 6), (20, 432), (20, 6), (20, 36), (20, 1296), (20, 36), (20, 243), (20, 243), (20, 40), (20, 40), (20, 36), (20, 36), (20, 36), (20, 64)]
/-- the fields of the model's object -/
def fxo (kd : Nat) (a i : Int) : Option Int :=
  match kd with
  | 0 => if i = 0 then some 1 else if i = 2 then some (a + 1) else none
  | 7 => if i = 0 then some 1 else if i = 3 then some (a + 1) else if i = 4 then some (a + 2) else none
  | 1 => if i = 0 then some 1 else if i = 1 then some (a + 1) else if i = 3 then some (a + 14) else if i = 4 then some (a + 16) else if i = 5 then some (a + 18) else if i = 6 then some (a + 20) else if i = 7 then some (a + 22) else none
  | 3 => if i = 0 then some 1 else if i = 1 then some 132 else if i = 2 then some 169 else if i = 3 then some 170 else none
  | 4 => if i = 0 then some 1 else if i = 3 then some 9 else if i = 4 then some 10 else none
  | 5 => if i = 0 then some 187 else if i = 1 then some 188 else if i = 2 then some 195 else if i = 3 then some 202 else none
  | 6 => if i = 0 then some 1 else if i = 1 then some 173 else if i = 2 then some 175 else if i = 3 then some 177 else if i = 4 then some 180 else if i = 5 then some 183 else if i = 6 then some 172 else none
  | 8 => if i = 0 then some 1 else if i = 2 then some 76 else if i = 4 then some 77 else if i = 5 then some 78 else none
  | 9 => if i = 0 then some 1 else if i = 1 then some 2 else if i = 2 then some 3 else if i = 3 then some 5 else if i = 4 then some 8 else if i = 5 then some 75 else if i = 6 then some 81 else if i = 7 then some 106 else if i = 8 then some 131 else if i = 9 then some 171 else if i = 10 then some 186 else none
  | 10 => if i = 0 then some 218 else if i = 2 then some 219 else if i = 3 then some 220 else if i = 4 then some 221 else if i = 6 then some 222 else if i = 8 then some 223 else if i = 9 then some 224 else if i = 10 then some 225 else if i = 11 then some 226 else if i = 12 then some 227 else if i = 14 then some 228 else if i = 15 then some 229 else if i = 17 then some 230 else if i = 18 then some 231 else if i = 19 then some 232 else if i = 20 then some 233 else if i = 22 then some 234 else if i = 23 then some 235 else if i = 24 then some 236 else if i = 25 then some 237 else if i = 26 then some 238 else if i = 27 then some 239 else if i = 28 then some 240 else if i = 29 then some 241 else if i = 30 then some 242 else if i = 32 then some 243 else if i = 34 then some 244 else if i = 35 then some 245 else if i = 36 then some 246 else if i = 37 then some 247 else none
  | 22 => if a = 2 then some (209 + 2 * i) else if a = 10 then some (11 + 2 * i) else none
  | 23 => if a = 188 then some (189 + i) else if a = 195 then some (196 + i) else if a = 202 then some (203 + i) else none
  | 24 => if a = 132 then some (133 + i) else none
  | _ => none
/-- what a place always holds: the references that never change -/
def fx (a i : Int) : Option Int := if 0 ≤ i ∧ i < (shp S0 a).2 then fxo (shp S0 a).1 a i else none
def Lay (M : Mo) : Prop := ∀ a i z : Int, fx a i = some z → M a i = z
theorem Lay.up {M : Mo} (h : Lay M) {a i v : Int} (hf : fx a i = none) : Lay (up2 M a i v) := by
  intro b j z hz
  unfold up2
  rw [if_neg]
  · exact h b j z hz
  · rintro ⟨rfl, rfl⟩
    rw [hf] at hz
    cases hz
theorem fx_arr {a i : Int} (h : (shp S0 a).1 = 20 ∨ (shp S0 a).1 = 21) : fx a i = none := by
  unfold fx
  split
  · rcases h with h | h <;> rw [h] <;> rfl
  · rfl
theorem Lay.cp {M : Mo} (h : Lay M) {b sp a dp n : Int} (hf : (shp S0 a).1 = 20 ∨ (shp S0 a).1 = 21) : Lay (cp2 M b sp a dp n) := by
  intro c j z hz
  unfold cp2
  rw [if_neg]
  · exact h c j z hz
  · rintro ⟨rfl, -⟩
    rw [fx_arr hf] at hz
    cases hz

theorem sh_0 : shp S0 0 = (9, 14) := by decide +kernel
theorem sh_1 : shp S0 1 = (2, 1) := by decide +kernel
theorem sh_2 : shp S0 2 = (22, 4) := by decide +kernel
theorem sh_3 : shp S0 3 = (0, 3) := by decide +kernel
theorem sh_4 : shp S0 4 = (21, 12) := by decide +kernel
theorem sh_5 : shp S0 5 = (7, 5) := by decide +kernel
theorem sh_6 : shp S0 6 = (21, 6) := by decide +kernel
theorem sh_7 : shp S0 7 = (21, 6) := by decide +kernel
theorem sh_8 : shp S0 8 = (4, 5) := by decide +kernel
theorem sh_9 : shp S0 9 = (20, 8) := by decide +kernel
theorem sh_10 : shp S0 10 = (22, 32) := by decide +kernel
theorem sh_11 : shp S0 11 = (0, 3) := by decide +kernel
theorem sh_12 : shp S0 12 = (21, 12) := by decide +kernel
theorem sh_13 : shp S0 13 = (0, 3) := by decide +kernel
theorem sh_14 : shp S0 14 = (21, 12) := by decide +kernel
theorem sh_15 : shp S0 15 = (0, 3) := by decide +kernel
theorem sh_16 : shp S0 16 = (21, 12) := by decide +kernel
theorem sh_17 : shp S0 17 = (0, 3) := by decide +kernel
theorem sh_18 : shp S0 18 = (21, 12) := by decide +kernel
theorem sh_19 : shp S0 19 = (0, 3) := by decide +kernel
theorem sh_20 : shp S0 20 = (21, 12) := by decide +kernel
theorem sh_21 : shp S0 21 = (0, 3) := by decide +kernel
theorem sh_22 : shp S0 22 = (21, 12) := by decide +kernel
theorem sh_23 : shp S0 23 = (0, 3) := by decide +kernel
theorem sh_24 : shp S0 24 = (21, 12) := by decide +kernel
theorem sh_25 : shp S0 25 = (0, 3) := by decide +kernel
theorem sh_26 : shp S0 26 = (21, 12) := by decide +kernel
theorem sh_27 : shp S0 27 = (0, 3) := by decide +kernel
theorem sh_28 : shp S0 28 = (21, 12) := by decide +kernel
theorem sh_29 : shp S0 29 = (0, 3) := by decide +kernel
theorem sh_30 : shp S0 30 = (21, 12) := by decide +kernel
theorem sh_31 : shp S0 31 = (0, 3) := by decide +kernel
theorem sh_32 : shp S0 32 = (21, 12) := by decide +kernel
theorem sh_33 : shp S0 33 = (0, 3) := by decide +kernel
theorem sh_34 : shp S0 34 = (21, 12) := by decide +kernel
theorem sh_35 : shp S0 35 = (0, 3) := by decide +kernel
theorem sh_36 : shp S0 36 = (21, 12) := by decide +kernel
theorem sh_37 : shp S0 37 = (0, 3) := by decide +kernel
theorem sh_38 : shp S0 38 = (21, 12) := by decide +kernel
theorem sh_39 : shp S0 39 = (0, 3) := by decide +kernel
theorem sh_40 : shp S0 40 = (21, 12) := by decide +kernel
theorem sh_41 : shp S0 41 = (0, 3) := by decide +kernel
theorem sh_42 : shp S0 42 = (21, 12) := by decide +kernel
theorem sh_43 : shp S0 43 = (0, 3) := by decide +kernel
theorem sh_44 : shp S0 44 = (21, 12) := by decide +kernel
theorem sh_45 : shp S0 45 = (0, 3) := by decide +kernel
theorem sh_46 : shp S0 46 = (21, 12) := by decide +kernel
theorem sh_47 : shp S0 47 = (0, 3) := by decide +kernel
theorem sh_48 : shp S0 48 = (21, 12) := by decide +kernel
theorem sh_49 : shp S0 49 = (0, 3) := by decide +kernel
theorem sh_50 : shp S0 50 = (21, 12) := by decide +kernel
theorem sh_51 : shp S0 51 = (0, 3) := by decide +kernel
theorem sh_52 : shp S0 52 = (21, 12) := by decide +kernel
theorem sh_53 : shp S0 53 = (0, 3) := by decide +kernel
theorem sh_54 : shp S0 54 = (21, 12) := by decide +kernel
theorem sh_55 : shp S0 55 = (0, 3) := by decide +kernel
theorem sh_56 : shp S0 56 = (21, 12) := by decide +kernel
theorem sh_57 : shp S0 57 = (0, 3) := by decide +kernel
theorem sh_58 : shp S0 58 = (21, 12) := by decide +kernel
theorem sh_59 : shp S0 59 = (0, 3) := by decide +kernel
theorem sh_60 : shp S0 60 = (21, 12) := by decide +kernel
theorem sh_61 : shp S0 61 = (0, 3) := by decide +kernel
theorem sh_62 : shp S0 62 = (21, 12) := by decide +kernel
theorem sh_63 : shp S0 63 = (0, 3) := by decide +kernel
theorem sh_64 : shp S0 64 = (21, 12) := by decide +kernel
theorem sh_65 : shp S0 65 = (0, 3) := by decide +kernel
theorem sh_66 : shp S0 66 = (21, 12) := by decide +kernel
theorem sh_67 : shp S0 67 = (0, 3) := by decide +kernel
theorem sh_68 : shp S0 68 = (21, 12) := by decide +kernel
theorem sh_69 : shp S0 69 = (0, 3) := by decide +kernel
theorem sh_70 : shp S0 70 = (21, 12) := by decide +kernel
theorem sh_71 : shp S0 71 = (0, 3) := by decide +kernel
theorem sh_72 : shp S0 72 = (21, 12) := by decide +kernel
theorem sh_73 : shp S0 73 = (0, 3) := by decide +kernel
theorem sh_74 : shp S0 74 = (21, 12) := by decide +kernel
theorem sh_75 : shp S0 75 = (8, 6) := by decide +kernel
theorem sh_76 : shp S0 76 = (20, 40) := by decide +kernel
theorem sh_77 : shp S0 77 = (20, 40) := by decide +kernel
theorem sh_78 : shp S0 78 = (7, 5) := by decide +kernel
theorem sh_79 : shp S0 79 = (21, 6) := by decide +kernel
theorem sh_80 : shp S0 80 = (21, 6) := by decide +kernel
theorem sh_81 : shp S0 81 = (1, 8) := by decide +kernel
theorem sh_82 : shp S0 82 = (22, 6) := by decide +kernel
theorem sh_83 : shp S0 83 = (0, 3) := by decide +kernel
theorem sh_84 : shp S0 84 = (21, 12) := by decide +kernel
theorem sh_85 : shp S0 85 = (0, 3) := by decide +kernel
theorem sh_86 : shp S0 86 = (21, 12) := by decide +kernel
theorem sh_87 : shp S0 87 = (0, 3) := by decide +kernel
theorem sh_88 : shp S0 88 = (21, 12) := by decide +kernel
theorem sh_89 : shp S0 89 = (0, 3) := by decide +kernel
theorem sh_90 : shp S0 90 = (21, 12) := by decide +kernel
theorem sh_91 : shp S0 91 = (0, 3) := by decide +kernel
theorem sh_92 : shp S0 92 = (21, 12) := by decide +kernel
theorem sh_93 : shp S0 93 = (0, 3) := by decide +kernel
theorem sh_94 : shp S0 94 = (21, 12) := by decide +kernel
theorem sh_95 : shp S0 95 = (0, 3) := by decide +kernel
theorem sh_96 : shp S0 96 = (21, 12) := by decide +kernel
theorem sh_97 : shp S0 97 = (0, 3) := by decide +kernel
theorem sh_98 : shp S0 98 = (21, 12) := by decide +kernel
theorem sh_99 : shp S0 99 = (0, 3) := by decide +kernel
theorem sh_100 : shp S0 100 = (21, 12) := by decide +kernel
theorem sh_101 : shp S0 101 = (0, 3) := by decide +kernel
theorem sh_102 : shp S0 102 = (21, 12) := by decide +kernel
theorem sh_103 : shp S0 103 = (7, 5) := by decide +kernel
theorem sh_104 : shp S0 104 = (21, 6) := by decide +kernel
theorem sh_105 : shp S0 105 = (21, 6) := by decide +kernel
theorem sh_106 : shp S0 106 = (1, 8) := by decide +kernel
theorem sh_107 : shp S0 107 = (22, 6) := by decide +kernel
theorem sh_108 : shp S0 108 = (0, 3) := by decide +kernel
theorem sh_109 : shp S0 109 = (21, 12) := by decide +kernel
theorem sh_110 : shp S0 110 = (0, 3) := by decide +kernel
theorem sh_111 : shp S0 111 = (21, 12) := by decide +kernel
theorem sh_112 : shp S0 112 = (0, 3) := by decide +kernel
theorem sh_113 : shp S0 113 = (21, 12) := by decide +kernel
theorem sh_114 : shp S0 114 = (0, 3) := by decide +kernel
theorem sh_115 : shp S0 115 = (21, 12) := by decide +kernel
theorem sh_116 : shp S0 116 = (0, 3) := by decide +kernel
theorem sh_117 : shp S0 117 = (21, 12) := by decide +kernel
theorem sh_118 : shp S0 118 = (0, 3) := by decide +kernel
theorem sh_119 : shp S0 119 = (21, 12) := by decide +kernel
theorem sh_120 : shp S0 120 = (0, 3) := by decide +kernel
theorem sh_121 : shp S0 121 = (21, 12) := by decide +kernel
theorem sh_122 : shp S0 122 = (0, 3) := by decide +kernel
theorem sh_123 : shp S0 123 = (21, 12) := by decide +kernel
theorem sh_124 : shp S0 124 = (0, 3) := by decide +kernel
theorem sh_125 : shp S0 125 = (21, 12) := by decide +kernel
theorem sh_126 : shp S0 126 = (0, 3) := by decide +kernel
theorem sh_127 : shp S0 127 = (21, 12) := by decide +kernel
theorem sh_128 : shp S0 128 = (7, 5) := by decide +kernel
theorem sh_129 : shp S0 129 = (21, 6) := by decide +kernel
theorem sh_130 : shp S0 130 = (21, 6) := by decide +kernel
theorem sh_131 : shp S0 131 = (3, 5) := by decide +kernel
theorem sh_132 : shp S0 132 = (24, 36) := by decide +kernel
theorem sh_133 : shp S0 133 = (21, 6) := by decide +kernel
theorem sh_134 : shp S0 134 = (21, 6) := by decide +kernel
theorem sh_135 : shp S0 135 = (21, 6) := by decide +kernel
theorem sh_136 : shp S0 136 = (21, 6) := by decide +kernel
theorem sh_137 : shp S0 137 = (21, 6) := by decide +kernel
theorem sh_138 : shp S0 138 = (21, 6) := by decide +kernel
theorem sh_139 : shp S0 139 = (21, 6) := by decide +kernel
theorem sh_140 : shp S0 140 = (21, 6) := by decide +kernel
theorem sh_141 : shp S0 141 = (21, 6) := by decide +kernel
theorem sh_142 : shp S0 142 = (21, 6) := by decide +kernel
theorem sh_143 : shp S0 143 = (21, 6) := by decide +kernel
theorem sh_144 : shp S0 144 = (21, 6) := by decide +kernel
theorem sh_145 : shp S0 145 = (21, 6) := by decide +kernel
theorem sh_146 : shp S0 146 = (21, 6) := by decide +kernel
theorem sh_147 : shp S0 147 = (21, 6) := by decide +kernel
theorem sh_148 : shp S0 148 = (21, 6) := by decide +kernel
theorem sh_149 : shp S0 149 = (21, 6) := by decide +kernel
theorem sh_150 : shp S0 150 = (21, 6) := by decide +kernel
theorem sh_151 : shp S0 151 = (21, 6) := by decide +kernel
theorem sh_152 : shp S0 152 = (21, 6) := by decide +kernel
theorem sh_153 : shp S0 153 = (21, 6) := by decide +kernel
theorem sh_154 : shp S0 154 = (21, 6) := by decide +kernel
theorem sh_155 : shp S0 155 = (21, 6) := by decide +kernel
theorem sh_156 : shp S0 156 = (21, 6) := by decide +kernel
theorem sh_157 : shp S0 157 = (21, 6) := by decide +kernel
theorem sh_158 : shp S0 158 = (21, 6) := by decide +kernel
theorem sh_159 : shp S0 159 = (21, 6) := by decide +kernel
theorem sh_160 : shp S0 160 = (21, 6) := by decide +kernel
theorem sh_161 : shp S0 161 = (21, 6) := by decide +kernel
theorem sh_162 : shp S0 162 = (21, 6) := by decide +kernel
theorem sh_163 : shp S0 163 = (21, 6) := by decide +kernel
theorem sh_164 : shp S0 164 = (21, 6) := by decide +kernel
theorem sh_165 : shp S0 165 = (21, 6) := by decide +kernel
theorem sh_166 : shp S0 166 = (21, 6) := by decide +kernel
theorem sh_167 : shp S0 167 = (21, 6) := by decide +kernel
theorem sh_168 : shp S0 168 = (21, 6) := by decide +kernel
theorem sh_169 : shp S0 169 = (20, 36) := by decide +kernel
theorem sh_170 : shp S0 170 = (20, 36) := by decide +kernel
theorem sh_171 : shp S0 171 = (6, 7) := by decide +kernel
theorem sh_172 : shp S0 172 = (20, 243) := by decide +kernel
theorem sh_173 : shp S0 173 = (0, 3) := by decide +kernel
theorem sh_174 : shp S0 174 = (21, 12) := by decide +kernel
theorem sh_175 : shp S0 175 = (0, 3) := by decide +kernel
theorem sh_176 : shp S0 176 = (21, 12) := by decide +kernel
theorem sh_177 : shp S0 177 = (7, 5) := by decide +kernel
theorem sh_178 : shp S0 178 = (21, 6) := by decide +kernel
theorem sh_179 : shp S0 179 = (21, 6) := by decide +kernel
theorem sh_180 : shp S0 180 = (7, 5) := by decide +kernel
theorem sh_181 : shp S0 181 = (21, 6) := by decide +kernel
theorem sh_182 : shp S0 182 = (21, 6) := by decide +kernel
theorem sh_183 : shp S0 183 = (7, 5) := by decide +kernel
theorem sh_184 : shp S0 184 = (21, 6) := by decide +kernel
theorem sh_185 : shp S0 185 = (21, 6) := by decide +kernel
theorem sh_186 : shp S0 186 = (5, 4) := by decide +kernel
theorem sh_187 : shp S0 187 = (20, 7) := by decide +kernel
theorem sh_188 : shp S0 188 = (23, 6) := by decide +kernel
theorem sh_189 : shp S0 189 = (20, 6) := by decide +kernel
theorem sh_190 : shp S0 190 = (20, 6) := by decide +kernel
theorem sh_191 : shp S0 191 = (20, 6) := by decide +kernel
theorem sh_192 : shp S0 192 = (20, 6) := by decide +kernel
theorem sh_193 : shp S0 193 = (20, 6) := by decide +kernel
theorem sh_194 : shp S0 194 = (20, 6) := by decide +kernel
theorem sh_195 : shp S0 195 = (23, 6) := by decide +kernel
theorem sh_196 : shp S0 196 = (20, 6) := by decide +kernel
theorem sh_197 : shp S0 197 = (20, 6) := by decide +kernel
theorem sh_198 : shp S0 198 = (20, 6) := by decide +kernel
theorem sh_199 : shp S0 199 = (20, 6) := by decide +kernel
theorem sh_200 : shp S0 200 = (20, 6) := by decide +kernel
theorem sh_201 : shp S0 201 = (20, 6) := by decide +kernel
theorem sh_202 : shp S0 202 = (23, 6) := by decide +kernel
theorem sh_203 : shp S0 203 = (20, 6) := by decide +kernel
theorem sh_204 : shp S0 204 = (20, 6) := by decide +kernel
theorem sh_205 : shp S0 205 = (20, 6) := by decide +kernel
theorem sh_206 : shp S0 206 = (20, 6) := by decide +kernel
theorem sh_207 : shp S0 207 = (20, 6) := by decide +kernel
theorem sh_208 : shp S0 208 = (20, 6) := by decide +kernel
theorem sh_209 : shp S0 209 = (0, 3) := by decide +kernel
theorem sh_210 : shp S0 210 = (21, 12) := by decide +kernel
theorem sh_211 : shp S0 211 = (0, 3) := by decide +kernel
theorem sh_212 : shp S0 212 = (21, 12) := by decide +kernel
theorem sh_213 : shp S0 213 = (0, 3) := by decide +kernel
theorem sh_214 : shp S0 214 = (21, 12) := by decide +kernel
theorem sh_215 : shp S0 215 = (0, 3) := by decide +kernel
theorem sh_216 : shp S0 216 = (21, 12) := by decide +kernel
theorem sh_217 : shp S0 217 = (10, 38) := by decide +kernel
theorem sh_218 : shp S0 218 = (20, 3) := by decide +kernel
theorem sh_219 : shp S0 219 = (20, 11) := by decide +kernel
theorem sh_220 : shp S0 220 = (20, 792) := by decide +kernel
theorem sh_221 : shp S0 221 = (20, 72) := by decide +kernel
theorem sh_222 : shp S0 222 = (20, 243) := by decide +kernel
theorem sh_223 : shp S0 223 = (20, 6) := by decide +kernel
theorem sh_224 : shp S0 224 = (20, 16) := by decide +kernel
theorem sh_225 : shp S0 225 = (20, 6) := by decide +kernel
theorem sh_226 : shp S0 226 = (20, 6) := by decide +kernel
theorem sh_227 : shp S0 227 = (20, 6) := by decide +kernel
theorem sh_228 : shp S0 228 = (20, 2344) := by decide +kernel
theorem sh_229 : shp S0 229 = (20, 3) := by decide +kernel
theorem sh_230 : shp S0 230 = (20, 432) := by decide +kernel
theorem sh_231 : shp S0 231 = (20, 6) := by decide +kernel
theorem sh_232 : shp S0 232 = (20, 72) := by decide +kernel
theorem sh_233 : shp S0 233 = (20, 243) := by decide +kernel
theorem sh_234 : shp S0 234 = (20, 6) := by decide +kernel
theorem sh_235 : shp S0 235 = (20, 432) := by decide +kernel
theorem sh_236 : shp S0 236 = (20, 6) := by decide +kernel
theorem sh_237 : shp S0 237 = (20, 36) := by decide +kernel
theorem sh_238 : shp S0 238 = (20, 1296) := by decide +kernel
theorem sh_239 : shp S0 239 = (20, 36) := by decide +kernel
theorem sh_240 : shp S0 240 = (20, 243) := by decide +kernel
theorem sh_241 : shp S0 241 = (20, 243) := by decide +kernel
theorem sh_242 : shp S0 242 = (20, 40) := by decide +kernel
theorem sh_243 : shp S0 243 = (20, 40) := by decide +kernel
theorem sh_244 : shp S0 244 = (20, 36) := by decide +kernel
theorem sh_245 : shp S0 245 = (20, 36) := by decide +kernel
theorem sh_246 : shp S0 246 = (20, 36) := by decide +kernel
theorem sh_247 : shp S0 247 = (20, 64) := by decide +kernel
theorem fx_217_0 : fx 217 0 = some 218 := by decide +kernel
theorem fx_217_1 : fx 217 1 = none := by decide +kernel
theorem fx_217_2 : fx 217 2 = some 219 := by decide +kernel
theorem fx_217_3 : fx 217 3 = some 220 := by decide +kernel
theorem fx_217_4 : fx 217 4 = some 221 := by decide +kernel
theorem fx_217_5 : fx 217 5 = none := by decide +kernel
theorem fx_217_6 : fx 217 6 = some 222 := by decide +kernel
theorem fx_217_7 : fx 217 7 = none := by decide +kernel
theorem fx_217_8 : fx 217 8 = some 223 := by decide +kernel
theorem fx_217_9 : fx 217 9 = some 224 := by decide +kernel
theorem fx_217_10 : fx 217 10 = some 225 := by decide +kernel
theorem fx_217_11 : fx 217 11 = some 226 := by decide +kernel
theorem fx_217_12 : fx 217 12 = some 227 := by decide +kernel
theorem fx_217_13 : fx 217 13 = none := by decide +kernel
theorem fx_217_14 : fx 217 14 = some 228 := by decide +kernel
theorem fx_217_15 : fx 217 15 = some 229 := by decide +kernel
theorem fx_217_16 : fx 217 16 = none := by decide +kernel
theorem fx_217_17 : fx 217 17 = some 230 := by decide +kernel
theorem fx_217_18 : fx 217 18 = some 231 := by decide +kernel
theorem fx_217_19 : fx 217 19 = some 232 := by decide +kernel
theorem fx_217_20 : fx 217 20 = some 233 := by decide +kernel
theorem fx_217_21 : fx 217 21 = none := by decide +kernel
theorem fx_217_22 : fx 217 22 = some 234 := by decide +kernel
theorem fx_217_23 : fx 217 23 = some 235 := by decide +kernel
theorem fx_217_24 : fx 217 24 = some 236 := by decide +kernel
theorem fx_217_25 : fx 217 25 = some 237 := by decide +kernel
theorem fx_217_26 : fx 217 26 = some 238 := by decide +kernel
theorem fx_217_27 : fx 217 27 = some 239 := by decide +kernel
theorem fx_217_28 : fx 217 28 = some 240 := by decide +kernel
theorem fx_217_29 : fx 217 29 = some 241 := by decide +kernel
theorem fx_217_30 : fx 217 30 = some 242 := by decide +kernel
theorem fx_217_31 : fx 217 31 = none := by decide +kernel
theorem fx_217_32 : fx 217 32 = some 243 := by decide +kernel
theorem fx_217_33 : fx 217 33 = none := by decide +kernel
theorem fx_217_34 : fx 217 34 = some 244 := by decide +kernel
theorem fx_217_35 : fx 217 35 = some 245 := by decide +kernel
theorem fx_217_36 : fx 217 36 = some 246 := by decide +kernel
theorem fx_217_37 : fx 217 37 = some 247 := by decide +kernel
theorem fx_0_0 : fx 0 0 = some 1 := by decide +kernel
theorem fx_0_1 : fx 0 1 = some 2 := by decide +kernel
theorem fx_0_2 : fx 0 2 = some 3 := by decide +kernel
theorem fx_0_3 : fx 0 3 = some 5 := by decide +kernel
theorem fx_0_4 : fx 0 4 = some 8 := by decide +kernel
theorem fx_0_5 : fx 0 5 = some 75 := by decide +kernel
theorem fx_0_6 : fx 0 6 = some 81 := by decide +kernel
theorem fx_0_7 : fx 0 7 = some 106 := by decide +kernel
theorem fx_0_8 : fx 0 8 = some 131 := by decide +kernel
theorem fx_0_9 : fx 0 9 = some 171 := by decide +kernel
theorem fx_0_10 : fx 0 10 = some 186 := by decide +kernel
theorem fx_0_11 : fx 0 11 = none := by decide +kernel
theorem fx_0_12 : fx 0 12 = none := by decide +kernel
theorem fx_0_13 : fx 0 13 = none := by decide +kernel
theorem fx_1_0 : fx 1 0 = none := by decide +kernel
theorem fx_8_0 : fx 8 0 = some 1 := by decide +kernel
theorem fx_8_1 : fx 8 1 = none := by decide +kernel
theorem fx_8_2 : fx 8 2 = none := by decide +kernel
theorem fx_8_3 : fx 8 3 = some 9 := by decide +kernel
theorem fx_8_4 : fx 8 4 = some 10 := by decide +kernel
theorem fx_75_0 : fx 75 0 = some 1 := by decide +kernel
theorem fx_75_1 : fx 75 1 = none := by decide +kernel
theorem fx_75_2 : fx 75 2 = some 76 := by decide +kernel
theorem fx_75_3 : fx 75 3 = none := by decide +kernel
theorem fx_75_4 : fx 75 4 = some 77 := by decide +kernel
theorem fx_75_5 : fx 75 5 = some 78 := by decide +kernel
theorem fx_131_0 : fx 131 0 = some 1 := by decide +kernel
theorem fx_131_1 : fx 131 1 = some 132 := by decide +kernel
theorem fx_131_2 : fx 131 2 = some 169 := by decide +kernel
theorem fx_131_3 : fx 131 3 = some 170 := by decide +kernel
theorem fx_131_4 : fx 131 4 = none := by decide +kernel
theorem fx_171_0 : fx 171 0 = some 1 := by decide +kernel
theorem fx_171_1 : fx 171 1 = some 173 := by decide +kernel
theorem fx_171_2 : fx 171 2 = some 175 := by decide +kernel
theorem fx_171_3 : fx 171 3 = some 177 := by decide +kernel
theorem fx_171_4 : fx 171 4 = some 180 := by decide +kernel
theorem fx_171_5 : fx 171 5 = some 183 := by decide +kernel
theorem fx_171_6 : fx 171 6 = some 172 := by decide +kernel
theorem fx_186_0 : fx 186 0 = some 187 := by decide +kernel
theorem fx_186_1 : fx 186 1 = some 188 := by decide +kernel
theorem fx_186_2 : fx 186 2 = some 195 := by decide +kernel
theorem fx_186_3 : fx 186 3 = some 202 := by decide +kernel
theorem act_next : ∀ a ∈ List.range 248, sg S0 a = (0, 3) → sg S0 (a + 1) = (21, 12) := by decide +kernel
theorem spc_next : ∀ a ∈ List.range 248, sg S0 a = (7, 5) → sg S0 (a + 1) = (21, 6) ∧ sg S0 (a + 2) = (21, 6) := by decide +kernel
theorem shp_nat (k : Nat) : shp S0 (k : Int) = sg S0 k := by
  unfold shp
  rw [if_neg (by omega), Int.toNat_natCast]
  rfl
theorem S0_len : S0.length = 248 := by decide +kernel
theorem shA1 {a : Int} (h : shp S0 a = (0, 3)) : shp S0 (a + 1) = (21, 12) := by
  obtain ⟨k, rfl, hk, hs⟩ := shp_spec h (by decide)
  rw [S0_len] at hk
  have := act_next k (List.mem_range.mpr hk) hs
  rw [show ((k : Int) + 1) = ((k + 1 : Nat) : Int) by omega, shp_nat]
  exact this
theorem shS1 {a : Int} (h : shp S0 a = (7, 5)) : shp S0 (a + 1) = (21, 6) := by
  obtain ⟨k, rfl, hk, hs⟩ := shp_spec h (by decide)
  rw [S0_len] at hk
  have := (spc_next k (List.mem_range.mpr hk) hs).1
  rw [show ((k : Int) + 1) = ((k + 1 : Nat) : Int) by omega, shp_nat]
  exact this
theorem shS2 {a : Int} (h : shp S0 a = (7, 5)) : shp S0 (a + 2) = (21, 6) := by
  obtain ⟨k, rfl, hk, hs⟩ := shp_spec h (by decide)
  rw [S0_len] at hk
  have := (spc_next k (List.mem_range.mpr hk) hs).2
  rw [show ((k : Int) + 2) = ((k + 2 : Nat) : Int) by omega, shp_nat]
  exact this
theorem fxA0 {a : Int} (h : shp S0 a = (0, 3)) : fx a 0 = some 1 := by unfold fx; rw [h]; rfl
theorem fxA1 {a : Int} (h : shp S0 a = (0, 3)) : fx a 1 = none := by unfold fx; rw [h]; rfl
theorem fxA2 {a : Int} (h : shp S0 a = (0, 3)) : fx a 2 = some (a + 1) := by unfold fx; rw [h]; rfl
theorem fxS0 {a : Int} (h : shp S0 a = (7, 5)) : fx a 0 = some 1 := by unfold fx; rw [h]; rfl
theorem fxS1 {a : Int} (h : shp S0 a = (7, 5)) : fx a 1 = none := by unfold fx; rw [h]; rfl
theorem fxS2 {a : Int} (h : shp S0 a = (7, 5)) : fx a 2 = none := by unfold fx; rw [h]; rfl
theorem fxS3 {a : Int} (h : shp S0 a = (7, 5)) : fx a 3 = some (a + 1) := by unfold fx; rw [h]; rfl
theorem fxS4 {a : Int} (h : shp S0 a = (7, 5)) : fx a 4 = some (a + 2) := by unfold fx; rw [h]; rfl
theorem fxF {a : Int} (h : shp S0 a = (1, 8)) : fx a 0 = some 1 ∧ fx a 1 = some (a + 1) ∧ fx a 2 = none ∧ fx a 3 = some (a + 14) ∧ fx a 4 = some (a + 16) ∧ fx a 5 = some (a + 18) ∧ fx a 6 = some (a + 20) ∧ fx a 7 = some (a + 22) := by unfold fx; rw [h]; exact ⟨rfl, rfl, rfl, rfl, rfl, rfl, rfl, rfl⟩
end
section
/-! Rules for runs of the abstract machine behind the constructors. -/
theorem arun_mono : ∀ (n : Nat) {o : Option (List Int)} {f pc : Nat} {ls st : List AV} {σ : Sh} {M : Mo} {r : Option AV × Sh × Mo}, arun o n f pc ls st σ M = some r → ∀ k, arun o (n + k) f pc ls st σ M = some r
  | 0, _, _, _, _, _, _, _, _, h, _ => by
    unfold arun at h
    cases h
  | n + 1, o, f, pc, ls, st, σ, M, r, h, k => by
    rw [show n + 1 + k = (n + k) + 1 by omega]
    unfold arun at h ⊢
    cases hd : decode (bc f) pc with
    | error x => rw [hd] at h; cases h
    | ok il =>
      obtain ⟨i, len⟩ := il
      rw [hd] at h
      dsimp only at h ⊢
      cases hs : astep o f pc i len ls st σ M with
      | none => rw [hs] at h; cases h
      | some z =>
        rw [hs] at h
        rcases z with ⟨pc', ls', st', σ', M'⟩ | v | ⟨g, as, r2⟩
        · dsimp only at h ⊢
          exact arun_mono n h k
        · exact h
        · dsimp only at h ⊢
          cases hc : arun none n g 0 (entl g as) [] σ M with
          | none => rw [hc] at h; cases h
          | some w =>
            obtain ⟨v, σ', M'⟩ := w
            rw [hc] at h
            rw [arun_mono n hc k]
            exact arun_mono n h k
def Rn (f pc : Nat) (ls st : List AV) (M : Mo) (Q : Option AV → Mo → Prop) : Prop := Lay M → ∃ (n : Nat) (v : Option AV) (M' : Mo), arun none n f pc ls st S0 M = some (v, S0, M') ∧ Lay M' ∧ Q v M'
def Cl (g : Nat) (as : List AV) (M : Mo) (Q : Option AV → Mo → Prop) : Prop := (rcv S0 g as = true ∧ (ent as).length ≤ mxl g ∧ (as.all fun v => v.1 == 0 || v.1 == 1 || v.1 == 2) = true) ∧ Rn g 0 (entl g as) [] M Q
theorem Rn.mono {f pc : Nat} {ls st : List AV} {M : Mo} {Q Q' : Option AV → Mo → Prop} (h : Rn f pc ls st M Q) (hq : ∀ v M', Q v M' → Q' v M') : Rn f pc ls st M Q' := fun hl => by
  obtain ⟨n, v, M', h1, h2, h3⟩ := h hl
  exact ⟨n, v, M', h1, h2, hq v M' h3⟩
theorem Cl.mono {g : Nat} {as : List AV} {M : Mo} {Q Q' : Option AV → Mo → Prop} (h : Cl g as M Q) (hq : ∀ v M', Q v M' → Q' v M') : Cl g as M Q' := ⟨h.1, h.2.mono hq⟩
section
variable {f pc : Nat} {ls ls' st : List AV} {M : Mo} {Q : Option AV → Mo → Prop}
theorem r_step {len pc' : Nat} {i : Instr} {ls' st' : List AV} {M' : Mo} (hd : decode (bc f) pc = .ok (i, len)) (hs : astep none f pc i len ls st S0 M = some (.inl (pc', ls', st', S0, M'))) (hl : Lay M → Lay M') (k : Rn f pc' ls' st' M' Q) : Rn f pc ls st M Q := by
  intro h
  obtain ⟨n, v, M2, h1, h2, h3⟩ := k (hl h)
  refine ⟨n + 1, v, M2, ?_, h2, h3⟩
  unfold arun
  rw [hd]
  dsimp only
  rw [hs]
  exact h1
theorem r_stepL {len pc' : Nat} {i : Instr} {ls' st' : List AV} {M' : Mo} (hd : decode (bc f) pc = .ok (i, len)) (hs : Lay M → astep none f pc i len ls st S0 M = some (.inl (pc', ls', st', S0, M'))) (hl : Lay M → Lay M') (k : Rn f pc' ls' st' M' Q) : Rn f pc ls st M Q := fun h => r_step hd (hs h) hl k h
theorem r_callg {len : Nat} {i : Instr} {g : Nat} {as r : List AV} {Q1 : Option AV → Mo → Prop} (hd : decode (bc f) pc = .ok (i, len)) (hs : astep none f pc i len ls st S0 M = some (.inr (.inr (g, as, r)))) (hC : Rn g 0 (entl g as) [] M Q1) (k : ∀ v M', Q1 v M' → Rn f (pc + 3) ls (v.toList ++ r) M' Q) : Rn f pc ls st M Q := by
  intro h
  obtain ⟨n1, v1, M1, h1, h2, h3⟩ := hC h
  obtain ⟨n2, v2, M2, g1, g2, g3⟩ := k v1 M1 h3 h2
  refine ⟨(n1 + n2) + 1, v2, M2, ?_, g2, g3⟩
  unfold arun
  rw [hd]
  dsimp only
  rw [hs]
  dsimp only
  rw [arun_mono n1 h1 n2]
  dsimp only
  rw [Nat.add_comm]
  exact arun_mono n2 g1 n1
theorem r_retg {len : Nat} {i : Instr} {v : Option AV} (hd : decode (bc f) pc = .ok (i, len)) (hs : astep none f pc i len ls st S0 M = some (.inr (.inl v))) (hq : Q v M) : Rn f pc ls st M Q := by
  intro h
  refine ⟨1, v, M, ?_, h, hq⟩
  unfold arun
  rw [hd]
  dsimp only
  rw [hs]
theorem r_iret {x : Int} (hd : decode (bc f) pc = .ok (.ireturn, 1)) (hr : rty f = some .int) (hq : Q (some (0, x)) M) : Rn f pc ls [(0, x)] M Q := r_retg hd (by show (if rty f = some .int ∨ rty f = some .boolean ∧ (x = 0 ∨ x = 1) then (some (.inr (.inl (some (0, x)))) : Option AR) else none) = _; rw [if_pos (Or.inl hr)]) hq
theorem r_zret {x : Int} (hd : decode (bc f) pc = .ok (.ireturn, 1)) (hr : rty f = some .boolean) (hx : x = 0 ∨ x = 1) (hq : Q (some (0, x)) M) : Rn f pc ls [(0, x)] M Q := r_retg hd (by show (if rty f = some .int ∨ rty f = some .boolean ∧ (x = 0 ∨ x = 1) then (some (.inr (.inl (some (0, x)))) : Option AR) else none) = _; rw [if_pos (Or.inr ⟨hr, hx⟩)]) hq
theorem r_lret {x : Int} (hd : decode (bc f) pc = .ok (.lreturn, 1)) (hr : rty f = some .long) (hq : Q (some (1, x)) M) : Rn f pc ls [(1, x)] M Q := r_retg hd (by show (if rty f = some .long then (some (.inr (.inl (some (1, x)))) : Option AR) else none) = _; rw [if_pos hr]) hq
theorem r_vret (hd : decode (bc f) pc = .ok (.return_, 1)) (hr : rty f = none) (hq : Q none M) : Rn f pc ls [] M Q := r_retg hd (by show (if rty f = none then (some (.inr (.inl none)) : Option AR) else none) = _; rw [if_pos hr]) hq
/-- a call site: the method and the number of its arguments with the receiver -/
def cq (f n : Nat) (kds : List Nat) : Option (Nat × Nat) := match mlk (own f) n with
  | some e => if kds.contains e.2.2.2.1 ∧ hgt e.2.2.1 < hgt f ∧ e.2.2.2.1 < 6 then some (e.2.2.1, npr e.2.2.1 + (if sta e.2.2.1 then 0 else 1)) else none
  | none => none
theorem cq_ava {n : Nat} {kds : List Nat} {g na : Nat} {as r : List AV} (hq : cq f n kds = some (g, na)) (hp : pops na st = some (as, r)) (hcat : cats r ≤ 8) (hs : rcv S0 g as = true ∧ (ent as).length ≤ mxl g ∧ (as.all fun v => v.1 == 0 || v.1 == 1 || v.1 == 2) = true) : ava f 3 st S0 n kds = some (.inr (.inr (g, as, r))) ∧ ∃ e, mlk (own f) n = some e ∧ e.2.2.2.1 < 6 := by
  unfold cq at hq
  split at hq
  · rename_i e he
    split at hq
    · rename_i hc
      cases hq
      refine ⟨?_, e, he, hc.2.2⟩
      unfold ava
      rw [if_pos rfl, he]
      dsimp only
      rw [if_pos hc.1, hp]
      dsimp only
      rw [if_pos ⟨hcat, hc.2.1, hs⟩]
    · cases hq
  · cases hq
theorem r_callv {n g na : Nat} {as r : List AV} {Q1 : Option AV → Mo → Prop} (hd : decode (bc f) pc = .ok (.invokevirtual n, 3)) (hq : cq f n [0, 3] = some (g, na)) (hp : pops na st = some (as, r)) (hcat : Nat.ble (cats r) 8 = true) (hC : Cl g as M Q1) (k : ∀ v M', Q1 v M' → Rn f (pc + 3) ls (v.toList ++ r) M' Q) : Rn f pc ls st M Q :=
  r_callg hd (cq_ava hq hp (Nat.le_of_ble_eq_true hcat) hC.1).1 hC.2 k
theorem r_calls {n g na : Nat} {as r : List AV} {Q1 : Option AV → Mo → Prop} (hd : decode (bc f) pc = .ok (.invokestatic n, 3)) (hq : cq f n [1, 4] = some (g, na)) (hp : pops na st = some (as, r)) (hcat : Nat.ble (cats r) 8 = true) (hC : Cl g as M Q1) (k : ∀ v M', Q1 v M' → Rn f (pc + 3) ls (v.toList ++ r) M' Q) : Rn f pc ls st M Q := by
  obtain ⟨h1, e, h2, h3⟩ := cq_ava hq hp (Nat.le_of_ble_eq_true hcat) hC.1
  refine r_callg hd ?_ hC.2 k
  unfold astep
  dsimp only
  rw [h2]
  rw [if_neg (by simp; omega)]
  exact h1
/-! loads, stores, constants -/
theorem r_iload_n {k : Fin 4} {x : Int} (hd : decode (bc f) pc = .ok (.iload_n k, 1)) (hl : ls[k.val]? = some (0, x)) (k2 : Rn f (pc + 1) ls ((0, x) :: st) M Q) : Rn f pc ls st M Q := r_step hd (by unfold astep ald; dsimp only; rw [if_pos rfl, hl]; dsimp only; rw [if_pos rfl]; rfl) id k2
theorem r_iload {i : Nat} {x : Int} (hd : decode (bc f) pc = .ok (.iload i, 2)) (hl : ls[i]? = some (0, x)) (k2 : Rn f (pc + 2) ls ((0, x) :: st) M Q) : Rn f pc ls st M Q := r_step hd (by unfold astep ald; dsimp only; rw [if_pos rfl, hl]; dsimp only; rw [if_pos rfl]; rfl) id k2
theorem r_lload_n {k : Fin 4} {x : Int} (hd : decode (bc f) pc = .ok (.lload_n k, 1)) (hl : ls[k.val]? = some (1, x)) (k2 : Rn f (pc + 1) ls ((1, x) :: st) M Q) : Rn f pc ls st M Q := r_step hd (by unfold astep ald; dsimp only; rw [if_pos rfl, hl]; dsimp only; rw [if_pos rfl]; rfl) id k2
theorem r_lload {i : Nat} {x : Int} (hd : decode (bc f) pc = .ok (.lload i, 2)) (hl : ls[i]? = some (1, x)) (k2 : Rn f (pc + 2) ls ((1, x) :: st) M Q) : Rn f pc ls st M Q := r_step hd (by unfold astep ald; dsimp only; rw [if_pos rfl, hl]; dsimp only; rw [if_pos rfl]; rfl) id k2
theorem r_aload_n {k : Fin 4} {x : Int} (hd : decode (bc f) pc = .ok (.aload_n k, 1)) (hl : ls[k.val]? = some (2, x)) (h0 : 0 ≤ x) (k2 : Rn f (pc + 1) ls ((2, x) :: st) M Q) : Rn f pc ls st M Q := r_step hd (by unfold astep alda; dsimp only; rw [if_pos rfl, hl]; dsimp only; rw [if_pos (Or.inl ⟨rfl, h0⟩)]; rfl) id k2
theorem r_aload {i : Nat} {x : Int} (hd : decode (bc f) pc = .ok (.aload i, 2)) (hl : ls[i]? = some (2, x)) (h0 : 0 ≤ x) (k2 : Rn f (pc + 2) ls ((2, x) :: st) M Q) : Rn f pc ls st M Q := r_step hd (by unfold astep alda; dsimp only; rw [if_pos rfl, hl]; dsimp only; rw [if_pos (Or.inl ⟨rfl, h0⟩)]; rfl) id k2
theorem lt_len {i : Nat} {v : AV} (h : stl ls i v = ls') (hn : Nat.blt i ls.length = true) : i < ls.length := Nat.le_of_ble_eq_true hn
theorem r_istore_n {k : Fin 4} {x : Int} (hd : decode (bc f) pc = .ok (.istore_n k, 1)) (hn : Nat.blt k.val ls.length = true) (hl : stl ls k.val (0, x) = ls') (k2 : Rn f (pc + 1) ls' st M Q) : Rn f pc ls ((0, x) :: st) M Q := r_step hd (by unfold astep ast; dsimp only; rw [if_pos rfl, if_pos ⟨rfl, lt_len hl hn, fun h => absurd h (by decide)⟩, hl]; rfl) id k2
theorem r_istore {i : Nat} {x : Int} (hd : decode (bc f) pc = .ok (.istore i, 2)) (hn : Nat.blt i ls.length = true) (hl : stl ls i (0, x) = ls') (k2 : Rn f (pc + 2) ls' st M Q) : Rn f pc ls ((0, x) :: st) M Q := r_step hd (by unfold astep ast; dsimp only; rw [if_pos rfl, if_pos ⟨rfl, lt_len hl hn, fun h => absurd h (by decide)⟩, hl]; rfl) id k2
theorem r_lstore_n {k : Fin 4} {x : Int} (hd : decode (bc f) pc = .ok (.lstore_n k, 1)) (hn : Nat.blt (k.val + 1) ls.length = true) (hl : stl ls k.val (1, x) = ls') (k2 : Rn f (pc + 1) ls' st M Q) : Rn f pc ls ((1, x) :: st) M Q := r_step hd (by unfold astep ast; dsimp only; rw [if_pos rfl, if_pos ⟨rfl, Nat.le_of_ble_eq_true hn, fun h => absurd h (by decide)⟩, hl]; rfl) id k2
theorem r_lstore {i : Nat} {x : Int} (hd : decode (bc f) pc = .ok (.lstore i, 2)) (hn : Nat.blt (i + 1) ls.length = true) (hl : stl ls i (1, x) = ls') (k2 : Rn f (pc + 2) ls' st M Q) : Rn f pc ls ((1, x) :: st) M Q := r_step hd (by unfold astep ast; dsimp only; rw [if_pos rfl, if_pos ⟨rfl, Nat.le_of_ble_eq_true hn, fun h => absurd h (by decide)⟩, hl]; rfl) id k2
theorem r_astore_n {k : Fin 4} {x : Int} (hd : decode (bc f) pc = .ok (.astore_n k, 1)) (h0 : 0 ≤ x) (hn : Nat.blt k.val ls.length = true) (hl : stl ls k.val (2, x) = ls') (k2 : Rn f (pc + 1) ls' st M Q) : Rn f pc ls ((2, x) :: st) M Q := r_step hd (by unfold astep ast; dsimp only; rw [if_pos rfl, if_pos ⟨rfl, lt_len hl hn, fun _ => h0⟩, hl]; rfl) id k2
theorem r_astore {i : Nat} {x : Int} (hd : decode (bc f) pc = .ok (.astore i, 2)) (h0 : 0 ≤ x) (hn : Nat.blt i ls.length = true) (hl : stl ls i (2, x) = ls') (k2 : Rn f (pc + 2) ls' st M Q) : Rn f pc ls ((2, x) :: st) M Q := r_step hd (by unfold astep ast; dsimp only; rw [if_pos rfl, if_pos ⟨rfl, lt_len hl hn, fun _ => h0⟩, hl]; rfl) id k2
theorem ofI_add (x y : Int) : Int32.ofInt x + Int32.ofInt y = Int32.ofInt (x + y) := (Int32.ofInt_add x y).symm
theorem ofI_sub (x y : Int) : Int32.ofInt x - Int32.ofInt y = Int32.ofInt (x - y) := (Int32.ofInt_sub x y).symm
theorem ofI_mul (x y : Int) : Int32.ofInt x * Int32.ofInt y = Int32.ofInt (x * y) := (Int32.ofInt_mul x y).symm
theorem ofI_neg (x : Int) : -Int32.ofInt x = Int32.ofInt (-x) := (Int32.ofInt_neg x).symm
theorem ofL_add (x y : Int) : Int64.ofInt x + Int64.ofInt y = Int64.ofInt (x + y) := (Int64.ofInt_add x y).symm
theorem ofL_sub (x y : Int) : Int64.ofInt x - Int64.ofInt y = Int64.ofInt (x - y) := (Int64.ofInt_sub x y).symm
theorem ofL_mul (x y : Int) : Int64.ofInt x * Int64.ofInt y = Int64.ofInt (x * y) := (Int64.ofInt_mul x y).symm
theorem r_iinc {i : Nat} {x z : Int} (hd : decode (bc f) pc = .ok (.iinc i z, 3)) (hl : ls[i]? = some (0, x)) (hr : -2147483648 ≤ x + z ∧ x + z < 2147483648) (hs : stl ls i (0, x + z) = ls') (k2 : Rn f (pc + 3) ls' st M Q) : Rn f pc ls st M Q := r_step hd (by unfold astep; dsimp only; rw [if_pos rfl, hl]; show nx (pc + 3) (stl ls i (0, (Int32.ofInt x + Int32.ofInt z).toInt)) st S0 M = _; rw [ofI_add, i32_of hr, hs]; rfl) id k2
theorem r_iconst {z : Int} (hd : decode (bc f) pc = .ok (.iconst z, 1)) (hz : (decide (-128 ≤ z) && decide (z < 128)) = true) (k2 : Rn f (pc + 1) ls ((0, z) :: st) M Q) : Rn f pc ls st M Q := r_step hd (by simp only [Bool.and_eq_true, decide_eq_true_eq] at hz; unfold astep cst; dsimp only; rw [if_pos ⟨rfl, hz.1, hz.2⟩]; rfl) id k2
theorem r_bipush {z : Int} (hd : decode (bc f) pc = .ok (.bipush z, 2)) (hz : (decide (-128 ≤ z) && decide (z < 128)) = true) (k2 : Rn f (pc + 2) ls ((0, z) :: st) M Q) : Rn f pc ls st M Q := r_step hd (by simp only [Bool.and_eq_true, decide_eq_true_eq] at hz; unfold astep cst; dsimp only; rw [if_pos ⟨rfl, hz.1, hz.2⟩]; rfl) id k2
theorem r_sipush {z : Int} (hd : decode (bc f) pc = .ok (.sipush z, 3)) (hz : (decide (-32768 ≤ z) && decide (z < 32768)) = true) (k2 : Rn f (pc + 3) ls ((0, z) :: st) M Q) : Rn f pc ls st M Q := r_step hd (by simp only [Bool.and_eq_true, decide_eq_true_eq] at hz; unfold astep; dsimp only; rw [if_pos ⟨rfl, hz.1, hz.2⟩]; rfl) id k2
theorem r_lconst {z : Fin 2} {x : Int} (hd : decode (bc f) pc = .ok (.lconst z, 1)) (hx : (z.val : Int) = x) (k2 : Rn f (pc + 1) ls ((1, x) :: st) M Q) : Rn f pc ls st M Q := r_step hd (by unfold astep; dsimp only; rw [if_pos rfl, hx]; rfl) id k2
theorem r_ldc {n a b c d : Nat} {x : Int} (hd : decode (bc f) pc = .ok (.ldc n, 2)) (hk : klk (own f) n = some (a, b, x, 0, d)) (k2 : Rn f (pc + 2) ls ((0, x) :: st) M Q) : Rn f pc ls st M Q := r_step hd (by unfold astep; dsimp only; rw [if_pos rfl, hk]; rfl) id k2
theorem r_ldc_w {n a b c d : Nat} {x : Int} (hd : decode (bc f) pc = .ok (.ldc_w n, 3)) (hk : klk (own f) n = some (a, b, x, 0, d)) (k2 : Rn f (pc + 3) ls ((0, x) :: st) M Q) : Rn f pc ls st M Q := r_step hd (by unfold astep; dsimp only; rw [if_pos rfl, hk]; rfl) id k2
theorem r_ldc2_w {n a b d : Nat} {x : Int} (hd : decode (bc f) pc = .ok (.ldc2_w n, 3)) (hk : klk (own f) n = some (a, b, x, 1, d)) (k2 : Rn f (pc + 3) ls ((1, x) :: st) M Q) : Rn f pc ls st M Q := r_step hd (by unfold astep; dsimp only; rw [if_pos rfl, hk]; rfl) id k2
theorem r_iadd {x y : Int} (hd : decode (bc f) pc = .ok (.iadd, 1)) (hr : -2147483648 ≤ x + y ∧ x + y < 2147483648) (k2 : Rn f (pc + 1) ls ((0, x + y) :: st) M Q) : Rn f pc ls ((0, y) :: (0, x) :: st) M Q := r_step hd (by show nx (pc + 1) ls ((0, (Int32.ofInt x + Int32.ofInt y).toInt) :: st) S0 M = _; rw [ofI_add, i32_of hr]; rfl) id k2
theorem r_isub {x y : Int} (hd : decode (bc f) pc = .ok (.isub, 1)) (hr : -2147483648 ≤ x - y ∧ x - y < 2147483648) (k2 : Rn f (pc + 1) ls ((0, x - y) :: st) M Q) : Rn f pc ls ((0, y) :: (0, x) :: st) M Q := r_step hd (by show nx (pc + 1) ls ((0, (Int32.ofInt x - Int32.ofInt y).toInt) :: st) S0 M = _; rw [ofI_sub, i32_of hr]; rfl) id k2
theorem r_imul {x y : Int} (hd : decode (bc f) pc = .ok (.imul, 1)) (hr : -2147483648 ≤ x * y ∧ x * y < 2147483648) (k2 : Rn f (pc + 1) ls ((0, x * y) :: st) M Q) : Rn f pc ls ((0, y) :: (0, x) :: st) M Q := r_step hd (by show nx (pc + 1) ls ((0, (Int32.ofInt x * Int32.ofInt y).toInt) :: st) S0 M = _; rw [ofI_mul, i32_of hr]; rfl) id k2
theorem r_ineg {x : Int} (hd : decode (bc f) pc = .ok (.ineg, 1)) (hr : -2147483648 ≤ -x ∧ -x < 2147483648) (k2 : Rn f (pc + 1) ls ((0, -x) :: st) M Q) : Rn f pc ls ((0, x) :: st) M Q := r_step hd (by show nx (pc + 1) ls ((0, (-Int32.ofInt x).toInt) :: st) S0 M = _; rw [ofI_neg, i32_of hr]; rfl) id k2
theorem tdiv_rng {x y : Int} (hx : -2147483648 ≤ x ∧ x < 2147483648) (hy : 0 < y) : -2147483648 ≤ x.tdiv y ∧ x.tdiv y < 2147483648 := by
  by_cases h : 0 ≤ x
  · rw [Int.tdiv_eq_ediv_of_nonneg h]
    have := Int.ediv_le_self y h
    have := Int.ediv_nonneg h (Int.le_of_lt hy)
    omega
  · have h0 : 0 ≤ -x := by omega
    have e : x.tdiv y = -((-x) / y) := by
      rw [← Int.tdiv_eq_ediv_of_nonneg h0, Int.neg_tdiv, Int.neg_neg]
    rw [e]
    have := Int.ediv_le_self y h0
    have := Int.ediv_nonneg h0 (Int.le_of_lt hy)
    omega
theorem ofI_div {x y : Int} (hx : -2147483648 ≤ x ∧ x < 2147483648) (hy : 0 < y ∧ y < 2147483648) : (Int32.ofInt x / Int32.ofInt y).toInt = x.tdiv y := by
  rw [Int32.toInt_div, i32_of hx, i32_of (by omega), Int.bmod_eq_of_le (by have := (tdiv_rng hx hy.1).1; omega) (by have := (tdiv_rng hx hy.1).2; omega)]
theorem ofI_ne0 {y : Int} (hy : 0 < y ∧ y < 2147483648) : ¬ Int32.ofInt y = 0 := by
  rw [z32, i32_eq (by omega) (by omega)]
  omega
theorem ofI_rem {x y : Int} (hx : -2147483648 ≤ x ∧ x < 2147483648) (hy : 0 < y ∧ y < 2147483648) : (Int32.ofInt x - Int32.ofInt x / Int32.ofInt y * Int32.ofInt y).toInt = x.tmod y := by
  have h1 : Int32.ofInt x / Int32.ofInt y = Int32.ofInt (x.tdiv y) := by
    rw [← Int32.toInt_inj, ofI_div hx hy, i32_of (tdiv_rng hx hy.1)]
  have h3 : x.tmod y = x - x.tdiv y * y := by
    rw [Int.tmod_def, Int.mul_comm]
  have h4 : -2147483648 ≤ x.tmod y ∧ x.tmod y < 2147483648 := by
    have a1 := Int.lt_tmod_of_pos x hy.1
    have a2 := Int.tmod_lt_of_pos x hy.1
    omega
  rw [h1, ofI_mul, ofI_sub, ← h3, i32_of h4]
theorem r_idiv {x y : Int} (hd : decode (bc f) pc = .ok (.idiv, 1)) (hx : -2147483648 ≤ x ∧ x < 2147483648) (hy : 0 < y ∧ y < 2147483648) (k2 : Rn f (pc + 1) ls ((0, x.tdiv y) :: st) M Q) : Rn f pc ls ((0, y) :: (0, x) :: st) M Q := r_step hd (by show (if Int32.ofInt y = 0 then none else nx (pc + 1) ls ((0, (Int32.ofInt x / Int32.ofInt y).toInt) :: st) S0 M) = _; rw [if_neg (ofI_ne0 hy), ofI_div hx hy]; rfl) id k2
theorem r_irem {x y : Int} (hd : decode (bc f) pc = .ok (.irem, 1)) (hx : -2147483648 ≤ x ∧ x < 2147483648) (hy : 0 < y ∧ y < 2147483648) (k2 : Rn f (pc + 1) ls ((0, x.tmod y) :: st) M Q) : Rn f pc ls ((0, y) :: (0, x) :: st) M Q := r_step hd (by show (if Int32.ofInt y = 0 then none else nx (pc + 1) ls ((0, (Int32.ofInt x - Int32.ofInt x / Int32.ofInt y * Int32.ofInt y).toInt) :: st) S0 M) = _; rw [if_neg (ofI_ne0 hy), ofI_rem hx hy]; rfl) id k2
theorem r_idivn {x y : Int} (hd : decode (bc f) pc = .ok (.idiv, 1)) (hx : 0 ≤ x ∧ x < 2147483648) (hy : 0 < y ∧ y < 2147483648) (k2 : Rn f (pc + 1) ls ((0, x / y) :: st) M Q) : Rn f pc ls ((0, y) :: (0, x) :: st) M Q := r_idiv hd ⟨by omega, hx.2⟩ hy (by rw [Int.tdiv_eq_ediv_of_nonneg hx.1]; exact k2)
theorem r_iremn {x y : Int} (hd : decode (bc f) pc = .ok (.irem, 1)) (hx : 0 ≤ x ∧ x < 2147483648) (hy : 0 < y ∧ y < 2147483648) (k2 : Rn f (pc + 1) ls ((0, x % y) :: st) M Q) : Rn f pc ls ((0, y) :: (0, x) :: st) M Q := r_irem hd ⟨by omega, hx.2⟩ hy (by rw [Int.tmod_eq_emod_of_nonneg hx.1]; exact k2)
theorem r_iand {x y z : Int} (hd : decode (bc f) pc = .ok (.iand, 1)) (hz : (Int32.ofInt x &&& Int32.ofInt y).toInt = z) (k2 : Rn f (pc + 1) ls ((0, z) :: st) M Q) : Rn f pc ls ((0, y) :: (0, x) :: st) M Q := r_step hd (by show nx (pc + 1) ls ((0, (Int32.ofInt x &&& Int32.ofInt y).toInt) :: st) S0 M = _; rw [hz]; rfl) id k2
theorem r_ixor {x y z : Int} (hd : decode (bc f) pc = .ok (.ixor, 1)) (hz : (Int32.ofInt x ^^^ Int32.ofInt y).toInt = z) (k2 : Rn f (pc + 1) ls ((0, z) :: st) M Q) : Rn f pc ls ((0, y) :: (0, x) :: st) M Q := r_step hd (by show nx (pc + 1) ls ((0, (Int32.ofInt x ^^^ Int32.ofInt y).toInt) :: st) S0 M = _; rw [hz]; rfl) id k2
theorem r_ishl {x y z : Int} (hd : decode (bc f) pc = .ok (.ishl, 1)) (hz : (Int32.ofInt x <<< (Int32.ofInt y &&& 31)).toInt = z) (k2 : Rn f (pc + 1) ls ((0, z) :: st) M Q) : Rn f pc ls ((0, y) :: (0, x) :: st) M Q := r_step hd (by show nx (pc + 1) ls ((0, (Int32.ofInt x <<< (Int32.ofInt y &&& 31)).toInt) :: st) S0 M = _; rw [hz]; rfl) id k2
theorem r_ishr {x y z : Int} (hd : decode (bc f) pc = .ok (.ishr, 1)) (hz : (Int32.ofInt x >>> (Int32.ofInt y &&& 31)).toInt = z) (k2 : Rn f (pc + 1) ls ((0, z) :: st) M Q) : Rn f pc ls ((0, y) :: (0, x) :: st) M Q := r_step hd (by show nx (pc + 1) ls ((0, (Int32.ofInt x >>> (Int32.ofInt y &&& 31)).toInt) :: st) S0 M = _; rw [hz]; rfl) id k2
theorem r_iushr {x y z : Int} (hd : decode (bc f) pc = .ok (.iushr, 1)) (hz : ((Int32.ofInt x).toUInt32 >>> ((Int32.ofInt y).toUInt32 &&& Int32.toUInt32 31)).toInt32.toInt = z) (k2 : Rn f (pc + 1) ls ((0, z) :: st) M Q) : Rn f pc ls ((0, y) :: (0, x) :: st) M Q := r_step hd (by show nx (pc + 1) ls ((0, (((Int32.ofInt x).toUInt32 >>> ((Int32.ofInt y).toUInt32 &&& Int32.toUInt32 31)).toInt32).toInt) :: st) S0 M = _; rw [hz]; rfl) id k2
def lw (z : Int) : Int := (Int64.ofInt z).toInt
theorem lw_eq {z : Int} (h : -9223372036854775808 ≤ z ∧ z < 9223372036854775808) : lw z = z := i64_of h
theorem r_laddw {x y : Int} (hd : decode (bc f) pc = .ok (.ladd, 1)) (k2 : Rn f (pc + 1) ls ((1, lw (x + y)) :: st) M Q) : Rn f pc ls ((1, y) :: (1, x) :: st) M Q := r_step hd (by show nx (pc + 1) ls ((1, (Int64.ofInt x + Int64.ofInt y).toInt) :: st) S0 M = _; rw [ofL_add]; rfl) id k2
theorem r_lmulw {x y : Int} (hd : decode (bc f) pc = .ok (.lmul, 1)) (k2 : Rn f (pc + 1) ls ((1, lw (x * y)) :: st) M Q) : Rn f pc ls ((1, y) :: (1, x) :: st) M Q := r_step hd (by show nx (pc + 1) ls ((1, (Int64.ofInt x * Int64.ofInt y).toInt) :: st) S0 M = _; rw [ofL_mul]; rfl) id k2
theorem r_ladd {x y : Int} (hd : decode (bc f) pc = .ok (.ladd, 1)) (hr : -9223372036854775808 ≤ x + y ∧ x + y < 9223372036854775808) (k2 : Rn f (pc + 1) ls ((1, x + y) :: st) M Q) : Rn f pc ls ((1, y) :: (1, x) :: st) M Q := r_laddw hd (by rw [lw_eq hr]; exact k2)
theorem r_lmul {x y : Int} (hd : decode (bc f) pc = .ok (.lmul, 1)) (hr : -9223372036854775808 ≤ x * y ∧ x * y < 9223372036854775808) (k2 : Rn f (pc + 1) ls ((1, x * y) :: st) M Q) : Rn f pc ls ((1, y) :: (1, x) :: st) M Q := r_lmulw hd (by rw [lw_eq hr]; exact k2)
theorem r_lsub {x y : Int} (hd : decode (bc f) pc = .ok (.lsub, 1)) (hr : -9223372036854775808 ≤ x - y ∧ x - y < 9223372036854775808) (k2 : Rn f (pc + 1) ls ((1, x - y) :: st) M Q) : Rn f pc ls ((1, y) :: (1, x) :: st) M Q := r_step hd (by show nx (pc + 1) ls ((1, (Int64.ofInt x - Int64.ofInt y).toInt) :: st) S0 M = _; rw [ofL_sub, i64_of hr]; rfl) id k2
theorem r_land {x y z : Int} (hd : decode (bc f) pc = .ok (.land, 1)) (hz : (Int64.ofInt x &&& Int64.ofInt y).toInt = z) (k2 : Rn f (pc + 1) ls ((1, z) :: st) M Q) : Rn f pc ls ((1, y) :: (1, x) :: st) M Q := r_step hd (by show nx (pc + 1) ls ((1, (Int64.ofInt x &&& Int64.ofInt y).toInt) :: st) S0 M = _; rw [hz]; rfl) id k2
theorem r_lor {x y z : Int} (hd : decode (bc f) pc = .ok (.lor, 1)) (hz : (Int64.ofInt x ||| Int64.ofInt y).toInt = z) (k2 : Rn f (pc + 1) ls ((1, z) :: st) M Q) : Rn f pc ls ((1, y) :: (1, x) :: st) M Q := r_step hd (by show nx (pc + 1) ls ((1, (Int64.ofInt x ||| Int64.ofInt y).toInt) :: st) S0 M = _; rw [hz]; rfl) id k2
theorem r_lshl {x y z : Int} (hd : decode (bc f) pc = .ok (.lshl, 1)) (hz : (Int64.ofInt x <<< ((Int32.ofInt y).toInt64 &&& 63)).toInt = z) (k2 : Rn f (pc + 1) ls ((1, z) :: st) M Q) : Rn f pc ls ((0, y) :: (1, x) :: st) M Q := r_step hd (by show nx (pc + 1) ls ((1, (Int64.ofInt x <<< ((Int32.ofInt y).toInt64 &&& 63)).toInt) :: st) S0 M = _; rw [hz]; rfl) id k2
theorem r_lushr {x y z : Int} (hd : decode (bc f) pc = .ok (.lushr, 1)) (hz : ((Int64.ofInt x).toUInt64 >>> ((Int32.ofInt y).toInt64.toUInt64 &&& Int64.toUInt64 63)).toInt64.toInt = z) (k2 : Rn f (pc + 1) ls ((1, z) :: st) M Q) : Rn f pc ls ((0, y) :: (1, x) :: st) M Q := r_step hd (by show nx (pc + 1) ls ((1, (((Int64.ofInt x).toUInt64 >>> ((Int32.ofInt y).toInt64.toUInt64 &&& Int64.toUInt64 63)).toInt64).toInt) :: st) S0 M = _; rw [hz]; rfl) id k2
theorem r_lcmp {x y : Int} (hd : decode (bc f) pc = .ok (.lcmp, 1)) (k2 : Rn f (pc + 1) ls ((0, if y < x then 1 else if x = y then 0 else -1) :: st) M Q) : Rn f pc ls ((1, y) :: (1, x) :: st) M Q := r_step hd (by rfl) id k2
theorem r_i2l {x : Int} (hd : decode (bc f) pc = .ok (.i2l, 1)) (k2 : Rn f (pc + 1) ls ((1, x) :: st) M Q) : Rn f pc ls ((0, x) :: st) M Q := r_step hd (by rfl) id k2
theorem r_l2i {x : Int} (hd : decode (bc f) pc = .ok (.l2i, 1)) (hr : -2147483648 ≤ x ∧ x < 2147483648) (k2 : Rn f (pc + 1) ls ((0, x) :: st) M Q) : Rn f pc ls ((1, x) :: st) M Q := r_step hd (by show nx (pc + 1) ls ((0, (Int64.ofInt x).toInt32.toInt) :: st) S0 M = _; rw [Int64.toInt_toInt32, i64_of (by omega), Int.bmod_eq_of_le (by omega) (by omega)]; rfl) id k2
theorem ldiv_eq {x y : Int} (hx : 0 ≤ x ∧ x < 9223372036854775808) (hy : 0 < y ∧ y < 9223372036854775808) : (Int64.ofInt x / Int64.ofInt y).toInt = x / y := by
  have h1 := Int.ediv_le_self y hx.1
  have h2 := Int.ediv_nonneg hx.1 (Int.le_of_lt hy.1)
  rw [Int64.toInt_div, i64_of (by omega), i64_of (by omega), Int.tdiv_eq_ediv_of_nonneg hx.1, Int.bmod_eq_of_le (by omega) (by omega)]
theorem ofL_ne0 {y : Int} (hy : 0 < y ∧ y < 9223372036854775808) : ¬ Int64.ofInt y = 0 := by
  rw [show (0 : Int64) = Int64.ofInt 0 from rfl, i64_eq (by omega) (by omega)]
  omega
theorem r_ldiv {x y : Int} (hd : decode (bc f) pc = .ok (.ldiv, 1)) (hx : 0 ≤ x ∧ x < 9223372036854775808) (hy : 0 < y ∧ y < 9223372036854775808) (k2 : Rn f (pc + 1) ls ((1, x / y) :: st) M Q) : Rn f pc ls ((1, y) :: (1, x) :: st) M Q := r_step hd (by show (if Int64.ofInt y = 0 then none else nx (pc + 1) ls ((1, (Int64.ofInt x / Int64.ofInt y).toInt) :: st) S0 M) = _; rw [if_neg (ofL_ne0 hy), ldiv_eq hx hy]; rfl) id k2
theorem r_lrem {x y : Int} (hd : decode (bc f) pc = .ok (.lrem, 1)) (hx : 0 ≤ x ∧ x < 9223372036854775808) (hy : 0 < y ∧ y < 9223372036854775808) (k2 : Rn f (pc + 1) ls ((1, x % y) :: st) M Q) : Rn f pc ls ((1, y) :: (1, x) :: st) M Q := r_step hd (by
  have h1 : Int64.ofInt x / Int64.ofInt y = Int64.ofInt (x / y) := by
    have h1 := Int.ediv_le_self y hx.1
    have h2 := Int.ediv_nonneg hx.1 (Int.le_of_lt hy.1)
    rw [← Int64.toInt_inj, ldiv_eq hx hy, i64_of (by omega)]
  have h3 : x % y = x - x / y * y := by rw [Int.emod_def, Int.mul_comm]
  have h4 := Int.emod_nonneg x (by omega : y ≠ 0)
  have h5 := Int.emod_lt_of_pos x hy.1
  show (if Int64.ofInt y = 0 then none else nx (pc + 1) ls ((1, (Int64.ofInt x - Int64.ofInt x / Int64.ofInt y * Int64.ofInt y).toInt) :: st) S0 M) = _
  rw [if_neg (ofL_ne0 hy), h1, ofL_mul, ofL_sub, ← h3, i64_of (by omega)]
  rfl) id k2
theorem r_dup {v : AV} (hd : decode (bc f) pc = .ok (.dup, 1)) (hv : (v.1 == 0 || v.1 == 2) = true) (k2 : Rn f (pc + 1) ls (v :: v :: st) M Q) : Rn f pc ls (v :: st) M Q := r_step hd (by simp only [Bool.or_eq_true, beq_iff_eq] at hv; unfold astep; dsimp only; rw [if_pos rfl, if_pos hv]; rfl) id k2
theorem r_dup2 {v w : AV} (hd : decode (bc f) pc = .ok (.dup2, 1)) (hv : ((v.1 == 0 || v.1 == 2) && (w.1 == 0 || w.1 == 2)) = true) (k2 : Rn f (pc + 1) ls (v :: w :: v :: w :: st) M Q) : Rn f pc ls (v :: w :: st) M Q := r_step hd (by simp only [Bool.or_eq_true, Bool.and_eq_true, beq_iff_eq] at hv; unfold astep; dsimp only; rw [if_pos rfl, if_pos hv]; rfl) id k2
theorem jm_ok {σ : Sh} {off : Int} {t : Nat} (ht : (pc : Int) + off = t) : jm pc off ls st σ M = some (.inl (t, ls, st, σ, M)) := by
  unfold jm
  rw [if_pos (by omega), ht, Int.toNat_natCast]
  rfl
theorem r_goto {z : Int} {t : Nat} (hd : decode (bc f) pc = .ok (.goto z, 3)) (ht : (pc : Int) + z = t) (k2 : Rn f t ls st M Q) : Rn f pc ls st M Q := r_step hd (by unfold astep; dsimp only; rw [if_pos rfl, jm_ok ht]) id k2
theorem r_if_eq {x z : Int} {t : Nat} (hd : decode (bc f) pc = .ok (.ifCond .eq z, 3)) (ht : (pc : Int) + z = t) (k1 : x = 0 → Rn f t ls st M Q) (k2 : ¬ (x = 0) → Rn f (pc + 3) ls st M Q) : Rn f pc ls ((0, x) :: st) M Q := by
  by_cases h : x = 0
  · exact r_step hd (by unfold astep; dsimp only; rw [if_pos ⟨rfl, by omega⟩]; show (if cmpb _ _ _ then jm pc z ls st S0 M else nx (pc + 3) ls st S0 M) = _; rw [if_pos (by simp only [cmpb, decide_eq_true_eq]; exact h), jm_ok ht]) id (k1 h)
  · exact r_step hd (by unfold astep; dsimp only; rw [if_pos ⟨rfl, by omega⟩]; show (if cmpb _ _ _ then jm pc z ls st S0 M else nx (pc + 3) ls st S0 M) = _; rw [if_neg (by simp only [cmpb, decide_eq_true_eq]; exact h)]; rfl) id (k2 h)
theorem r_icmp_eq {x y z : Int} {t : Nat} (hd : decode (bc f) pc = .ok (.if_icmp .eq z, 3)) (ht : (pc : Int) + z = t) (k1 : x = y → Rn f t ls st M Q) (k2 : ¬ (x = y) → Rn f (pc + 3) ls st M Q) : Rn f pc ls ((0, y) :: (0, x) :: st) M Q := by
  by_cases h : x = y
  · exact r_step hd (by unfold astep; dsimp only; rw [if_pos ⟨rfl, by omega⟩]; show (if cmpb _ _ _ then jm pc z ls st S0 M else nx (pc + 3) ls st S0 M) = _; rw [if_pos (by simp only [cmpb, decide_eq_true_eq]; exact h), jm_ok ht]) id (k1 h)
  · exact r_step hd (by unfold astep; dsimp only; rw [if_pos ⟨rfl, by omega⟩]; show (if cmpb _ _ _ then jm pc z ls st S0 M else nx (pc + 3) ls st S0 M) = _; rw [if_neg (by simp only [cmpb, decide_eq_true_eq]; exact h)]; rfl) id (k2 h)
theorem r_if_ne {x z : Int} {t : Nat} (hd : decode (bc f) pc = .ok (.ifCond .ne z, 3)) (ht : (pc : Int) + z = t) (k1 : x ≠ 0 → Rn f t ls st M Q) (k2 : ¬ (x ≠ 0) → Rn f (pc + 3) ls st M Q) : Rn f pc ls ((0, x) :: st) M Q := by
  by_cases h : x ≠ 0
  · exact r_step hd (by unfold astep; dsimp only; rw [if_pos ⟨rfl, by omega⟩]; show (if cmpb _ _ _ then jm pc z ls st S0 M else nx (pc + 3) ls st S0 M) = _; rw [if_pos (by simp only [cmpb, decide_eq_true_eq]; exact h), jm_ok ht]) id (k1 h)
  · exact r_step hd (by unfold astep; dsimp only; rw [if_pos ⟨rfl, by omega⟩]; show (if cmpb _ _ _ then jm pc z ls st S0 M else nx (pc + 3) ls st S0 M) = _; rw [if_neg (by simp only [cmpb, decide_eq_true_eq]; exact h)]; rfl) id (k2 h)
theorem r_icmp_ne {x y z : Int} {t : Nat} (hd : decode (bc f) pc = .ok (.if_icmp .ne z, 3)) (ht : (pc : Int) + z = t) (k1 : x ≠ y → Rn f t ls st M Q) (k2 : ¬ (x ≠ y) → Rn f (pc + 3) ls st M Q) : Rn f pc ls ((0, y) :: (0, x) :: st) M Q := by
  by_cases h : x ≠ y
  · exact r_step hd (by unfold astep; dsimp only; rw [if_pos ⟨rfl, by omega⟩]; show (if cmpb _ _ _ then jm pc z ls st S0 M else nx (pc + 3) ls st S0 M) = _; rw [if_pos (by simp only [cmpb, decide_eq_true_eq]; exact h), jm_ok ht]) id (k1 h)
  · exact r_step hd (by unfold astep; dsimp only; rw [if_pos ⟨rfl, by omega⟩]; show (if cmpb _ _ _ then jm pc z ls st S0 M else nx (pc + 3) ls st S0 M) = _; rw [if_neg (by simp only [cmpb, decide_eq_true_eq]; exact h)]; rfl) id (k2 h)
theorem r_if_lt {x z : Int} {t : Nat} (hd : decode (bc f) pc = .ok (.ifCond .lt z, 3)) (ht : (pc : Int) + z = t) (k1 : x < 0 → Rn f t ls st M Q) (k2 : ¬ (x < 0) → Rn f (pc + 3) ls st M Q) : Rn f pc ls ((0, x) :: st) M Q := by
  by_cases h : x < 0
  · exact r_step hd (by unfold astep; dsimp only; rw [if_pos ⟨rfl, by omega⟩]; show (if cmpb _ _ _ then jm pc z ls st S0 M else nx (pc + 3) ls st S0 M) = _; rw [if_pos (by simp only [cmpb, decide_eq_true_eq]; exact h), jm_ok ht]) id (k1 h)
  · exact r_step hd (by unfold astep; dsimp only; rw [if_pos ⟨rfl, by omega⟩]; show (if cmpb _ _ _ then jm pc z ls st S0 M else nx (pc + 3) ls st S0 M) = _; rw [if_neg (by simp only [cmpb, decide_eq_true_eq]; exact h)]; rfl) id (k2 h)
theorem r_icmp_lt {x y z : Int} {t : Nat} (hd : decode (bc f) pc = .ok (.if_icmp .lt z, 3)) (ht : (pc : Int) + z = t) (k1 : x < y → Rn f t ls st M Q) (k2 : ¬ (x < y) → Rn f (pc + 3) ls st M Q) : Rn f pc ls ((0, y) :: (0, x) :: st) M Q := by
  by_cases h : x < y
  · exact r_step hd (by unfold astep; dsimp only; rw [if_pos ⟨rfl, by omega⟩]; show (if cmpb _ _ _ then jm pc z ls st S0 M else nx (pc + 3) ls st S0 M) = _; rw [if_pos (by simp only [cmpb, decide_eq_true_eq]; exact h), jm_ok ht]) id (k1 h)
  · exact r_step hd (by unfold astep; dsimp only; rw [if_pos ⟨rfl, by omega⟩]; show (if cmpb _ _ _ then jm pc z ls st S0 M else nx (pc + 3) ls st S0 M) = _; rw [if_neg (by simp only [cmpb, decide_eq_true_eq]; exact h)]; rfl) id (k2 h)
theorem r_if_ge {x z : Int} {t : Nat} (hd : decode (bc f) pc = .ok (.ifCond .ge z, 3)) (ht : (pc : Int) + z = t) (k1 : 0 ≤ x → Rn f t ls st M Q) (k2 : ¬ (0 ≤ x) → Rn f (pc + 3) ls st M Q) : Rn f pc ls ((0, x) :: st) M Q := by
  by_cases h : 0 ≤ x
  · exact r_step hd (by unfold astep; dsimp only; rw [if_pos ⟨rfl, by omega⟩]; show (if cmpb _ _ _ then jm pc z ls st S0 M else nx (pc + 3) ls st S0 M) = _; rw [if_pos (by simp only [cmpb, decide_eq_true_eq]; exact h), jm_ok ht]) id (k1 h)
  · exact r_step hd (by unfold astep; dsimp only; rw [if_pos ⟨rfl, by omega⟩]; show (if cmpb _ _ _ then jm pc z ls st S0 M else nx (pc + 3) ls st S0 M) = _; rw [if_neg (by simp only [cmpb, decide_eq_true_eq]; exact h)]; rfl) id (k2 h)
theorem r_icmp_ge {x y z : Int} {t : Nat} (hd : decode (bc f) pc = .ok (.if_icmp .ge z, 3)) (ht : (pc : Int) + z = t) (k1 : y ≤ x → Rn f t ls st M Q) (k2 : ¬ (y ≤ x) → Rn f (pc + 3) ls st M Q) : Rn f pc ls ((0, y) :: (0, x) :: st) M Q := by
  by_cases h : y ≤ x
  · exact r_step hd (by unfold astep; dsimp only; rw [if_pos ⟨rfl, by omega⟩]; show (if cmpb _ _ _ then jm pc z ls st S0 M else nx (pc + 3) ls st S0 M) = _; rw [if_pos (by simp only [cmpb, decide_eq_true_eq]; exact h), jm_ok ht]) id (k1 h)
  · exact r_step hd (by unfold astep; dsimp only; rw [if_pos ⟨rfl, by omega⟩]; show (if cmpb _ _ _ then jm pc z ls st S0 M else nx (pc + 3) ls st S0 M) = _; rw [if_neg (by simp only [cmpb, decide_eq_true_eq]; exact h)]; rfl) id (k2 h)
theorem r_if_gt {x z : Int} {t : Nat} (hd : decode (bc f) pc = .ok (.ifCond .gt z, 3)) (ht : (pc : Int) + z = t) (k1 : 0 < x → Rn f t ls st M Q) (k2 : ¬ (0 < x) → Rn f (pc + 3) ls st M Q) : Rn f pc ls ((0, x) :: st) M Q := by
  by_cases h : 0 < x
  · exact r_step hd (by unfold astep; dsimp only; rw [if_pos ⟨rfl, by omega⟩]; show (if cmpb _ _ _ then jm pc z ls st S0 M else nx (pc + 3) ls st S0 M) = _; rw [if_pos (by simp only [cmpb, decide_eq_true_eq]; exact h), jm_ok ht]) id (k1 h)
  · exact r_step hd (by unfold astep; dsimp only; rw [if_pos ⟨rfl, by omega⟩]; show (if cmpb _ _ _ then jm pc z ls st S0 M else nx (pc + 3) ls st S0 M) = _; rw [if_neg (by simp only [cmpb, decide_eq_true_eq]; exact h)]; rfl) id (k2 h)
theorem r_icmp_gt {x y z : Int} {t : Nat} (hd : decode (bc f) pc = .ok (.if_icmp .gt z, 3)) (ht : (pc : Int) + z = t) (k1 : y < x → Rn f t ls st M Q) (k2 : ¬ (y < x) → Rn f (pc + 3) ls st M Q) : Rn f pc ls ((0, y) :: (0, x) :: st) M Q := by
  by_cases h : y < x
  · exact r_step hd (by unfold astep; dsimp only; rw [if_pos ⟨rfl, by omega⟩]; show (if cmpb _ _ _ then jm pc z ls st S0 M else nx (pc + 3) ls st S0 M) = _; rw [if_pos (by simp only [cmpb, decide_eq_true_eq]; exact h), jm_ok ht]) id (k1 h)
  · exact r_step hd (by unfold astep; dsimp only; rw [if_pos ⟨rfl, by omega⟩]; show (if cmpb _ _ _ then jm pc z ls st S0 M else nx (pc + 3) ls st S0 M) = _; rw [if_neg (by simp only [cmpb, decide_eq_true_eq]; exact h)]; rfl) id (k2 h)
theorem r_if_le {x z : Int} {t : Nat} (hd : decode (bc f) pc = .ok (.ifCond .le z, 3)) (ht : (pc : Int) + z = t) (k1 : x ≤ 0 → Rn f t ls st M Q) (k2 : ¬ (x ≤ 0) → Rn f (pc + 3) ls st M Q) : Rn f pc ls ((0, x) :: st) M Q := by
  by_cases h : x ≤ 0
  · exact r_step hd (by unfold astep; dsimp only; rw [if_pos ⟨rfl, by omega⟩]; show (if cmpb _ _ _ then jm pc z ls st S0 M else nx (pc + 3) ls st S0 M) = _; rw [if_pos (by simp only [cmpb, decide_eq_true_eq]; exact h), jm_ok ht]) id (k1 h)
  · exact r_step hd (by unfold astep; dsimp only; rw [if_pos ⟨rfl, by omega⟩]; show (if cmpb _ _ _ then jm pc z ls st S0 M else nx (pc + 3) ls st S0 M) = _; rw [if_neg (by simp only [cmpb, decide_eq_true_eq]; exact h)]; rfl) id (k2 h)
theorem r_icmp_le {x y z : Int} {t : Nat} (hd : decode (bc f) pc = .ok (.if_icmp .le z, 3)) (ht : (pc : Int) + z = t) (k1 : x ≤ y → Rn f t ls st M Q) (k2 : ¬ (x ≤ y) → Rn f (pc + 3) ls st M Q) : Rn f pc ls ((0, y) :: (0, x) :: st) M Q := by
  by_cases h : x ≤ y
  · exact r_step hd (by unfold astep; dsimp only; rw [if_pos ⟨rfl, by omega⟩]; show (if cmpb _ _ _ then jm pc z ls st S0 M else nx (pc + 3) ls st S0 M) = _; rw [if_pos (by simp only [cmpb, decide_eq_true_eq]; exact h), jm_ok ht]) id (k1 h)
  · exact r_step hd (by unfold astep; dsimp only; rw [if_pos ⟨rfl, by omega⟩]; show (if cmpb _ _ _ then jm pc z ls st S0 M else nx (pc + 3) ls st S0 M) = _; rw [if_neg (by simp only [cmpb, decide_eq_true_eq]; exact h)]; rfl) id (k2 h)
theorem r_tabout {d lo hi x : Int} {offs : Array Int} {len t : Nat} (hd : decode (bc f) pc = .ok (.tableswitch d lo hi offs, len)) (hx : x < lo ∨ hi < x) (ht : (pc : Int) + d = t) (k2 : Rn f t ls st M Q) : Rn f pc ls ((0, x) :: st) M Q := r_step hd (by show (if x < lo ∨ hi < x then jm pc d ls st S0 M else _) = _; rw [if_pos hx, jm_ok ht]) id k2
theorem r_tabin {d lo hi x z : Int} {offs : Array Int} {len t : Nat} (hd : decode (bc f) pc = .ok (.tableswitch d lo hi offs, len)) (hx : ¬ (x < lo ∨ hi < x)) (hz : offs[(x - lo).toNat]? = some z) (ht : (pc : Int) + z = t) (k2 : Rn f t ls st M Q) : Rn f pc ls ((0, x) :: st) M Q := r_step hd (by show (if x < lo ∨ hi < x then _ else _) = _; rw [if_neg hx, hz]; exact jm_ok ht) id k2
theorem r_lookup {d x z : Int} {ps : Array (Int × Int)} {len t : Nat} (hd : decode (bc f) pc = .ok (.lookupswitch d ps, len)) (hp : (ps.toList.zip (ps.toList.drop 1)).all (fun (a, next) => a.1 < next.1) = true) (hz : Op.lookupswitch.offset ps.toList d x = z) (ht : (pc : Int) + z = t) (k2 : Rn f t ls st M Q) : Rn f pc ls ((0, x) :: st) M Q := r_step hd (by show (if _ then jm pc (Op.lookupswitch.offset ps.toList d x) ls st S0 M else none) = _; rw [if_pos hp, hz, jm_ok ht]) id k2
/-- a field: class, number, fields, kind, final -/
def fq (f n : Nat) : Option (Nat × Nat × Nat × Nat × Bool) := (fl (own f) n).map (fun e => (e.2.2.1, e.2.2.2.1, nfl e.2.2.1, tgf e.2.2.1 e.2.2.2.1, (fdt e.2.2.1 e.2.2.2.1).2.2.2))
theorem fq_spec {n ci k N t : Nat} {b : Bool} (h : fq f n = some (ci, k, N, t, b)) : ∃ x, fl (own f) n = some x ∧ x.2.2.1 = ci ∧ x.2.2.2.1 = k ∧ nfl ci = N ∧ tgf ci k = t ∧ (fdt ci k).2.2.2 = b := by
  unfold fq at h
  obtain ⟨x, h1, h2⟩ := Option.map_eq_some_iff.mp h
  cases h2
  exact ⟨x, h1, rfl, rfl, rfl, rfl, rfl⟩
theorem r_getf {n ci k N : Nat} {b : Bool} {a : Int} (hd : decode (bc f) pc = .ok (.getfield n, 3)) (hq : fq f n = some (ci, k, N, 0, b)) (hs : shp S0 a = (ci, N)) (k2 : Rn f (pc + 3) ls ((0, M a k) :: st) M Q) : Rn f pc ls ((2, a) :: st) M Q := by
  obtain ⟨x, h1, rfl, rfl, rfl, h5, h6⟩ := fq_spec hq
  exact r_step hd (by unfold astep; dsimp only; rw [if_pos rfl, h1]; show (if shp S0 a = (x.2.2.1, nfl x.2.2.1) ∧ (tgf x.2.2.1 x.2.2.2.1 = 2 → 0 ≤ M a x.2.2.2.1) then nx (pc + 3) ls ((tgf x.2.2.1 x.2.2.2.1, M a x.2.2.2.1) :: st) S0 M else none) = _; rw [if_pos ⟨hs, fun h => by omega⟩, h5]; rfl) id k2
theorem r_getc {n ci k N : Nat} {b : Bool} {a z : Int} (hd : decode (bc f) pc = .ok (.getfield n, 3)) (hq : fq f n = some (ci, k, N, 2, b)) (hs : shp S0 a = (ci, N)) (hx : fx a k = some z) (h0 : 0 ≤ z) (k2 : Rn f (pc + 3) ls ((2, z) :: st) M Q) : Rn f pc ls ((2, a) :: st) M Q := by
  obtain ⟨x, h1, rfl, rfl, rfl, h5, h6⟩ := fq_spec hq
  exact r_stepL hd (fun hl => by have hm := hl a x.2.2.2.1 z hx; unfold astep; dsimp only; rw [if_pos rfl, h1]; show (if shp S0 a = (x.2.2.1, nfl x.2.2.1) ∧ (tgf x.2.2.1 x.2.2.2.1 = 2 → 0 ≤ M a x.2.2.2.1) then nx (pc + 3) ls ((tgf x.2.2.1 x.2.2.2.1, M a x.2.2.2.1) :: st) S0 M else none) = _; rw [if_pos ⟨hs, fun _ => by omega⟩, h5, hm]; rfl) id k2
theorem r_putf {n ci k N : Nat} {a v : Int} (hd : decode (bc f) pc = .ok (.putfield n, 3)) (hq : fq f n = some (ci, k, N, 0, false)) (hs : shp S0 a = (ci, N)) (hx : fx a k = none) (k2 : Rn f (pc + 3) ls st (up2 M a k v) Q) : Rn f pc ls ((0, v) :: (2, a) :: st) M Q := by
  obtain ⟨x, h1, rfl, rfl, rfl, h5, h6⟩ := fq_spec hq
  exact r_step hd (by unfold astep; dsimp only; rw [if_pos rfl, h1]; show (if shp S0 a = (x.2.2.1, nfl x.2.2.1) ∧ 0 = tgf x.2.2.1 x.2.2.2.1 ∧ ((fdt x.2.2.1 x.2.2.2.1).2.2.2 = false ∨ ((nmm f).name = "<init>" ∧ own f = x.2.2.1)) then nx (pc + 3) ls st S0 (up2 M a x.2.2.2.1 v) else none) = _; rw [if_pos ⟨hs, h5.symm, Or.inl h6⟩]; rfl) (fun h => h.up hx) k2
theorem r_iaload {n : Nat} {a i : Int} (hd : decode (bc f) pc = .ok (.iaload, 1)) (hs : shp S0 a = (20, n)) (h0 : 0 ≤ i) (h1 : i < n) (k2 : Rn f (pc + 1) ls ((0, M a i) :: st) M Q) : Rn f pc ls ((0, i) :: (2, a) :: st) M Q := r_step hd (by show (if (shp S0 a).1 = 20 ∧ 0 ≤ i ∧ i < (shp S0 a).2 then nx (pc + 1) ls ((0, M a i) :: st) S0 M else none) = _; rw [hs, if_pos ⟨rfl, h0, h1⟩]; rfl) id k2
theorem r_laload {n : Nat} {a i : Int} (hd : decode (bc f) pc = .ok (.laload, 1)) (hs : shp S0 a = (21, n)) (h0 : 0 ≤ i) (h1 : i < n) (k2 : Rn f (pc + 1) ls ((1, M a i) :: st) M Q) : Rn f pc ls ((0, i) :: (2, a) :: st) M Q := r_step hd (by show (if (shp S0 a).1 = 21 ∧ 0 ≤ i ∧ i < (shp S0 a).2 then nx (pc + 1) ls ((1, M a i) :: st) S0 M else none) = _; rw [hs, if_pos ⟨rfl, h0, h1⟩]; rfl) id k2
theorem r_iastore {n : Nat} {a i x : Int} (hd : decode (bc f) pc = .ok (.iastore, 1)) (hs : shp S0 a = (20, n)) (h0 : 0 ≤ i) (h1 : i < n) (k2 : Rn f (pc + 1) ls st (up2 M a i x) Q) : Rn f pc ls ((0, x) :: (0, i) :: (2, a) :: st) M Q := r_step hd (by show (if (shp S0 a).1 = 20 ∧ 0 ≤ i ∧ i < (shp S0 a).2 then nx (pc + 1) ls st S0 (up2 M a i x) else none) = _; rw [hs, if_pos ⟨rfl, h0, h1⟩]; rfl) (fun h => h.up (fx_arr (Or.inl (by rw [hs])))) k2
theorem r_lastore {n : Nat} {a i x : Int} (hd : decode (bc f) pc = .ok (.lastore, 1)) (hs : shp S0 a = (21, n)) (h0 : 0 ≤ i) (h1 : i < n) (k2 : Rn f (pc + 1) ls st (up2 M a i x) Q) : Rn f pc ls ((1, x) :: (0, i) :: (2, a) :: st) M Q := r_step hd (by show (if (shp S0 a).1 = 21 ∧ 0 ≤ i ∧ i < (shp S0 a).2 then nx (pc + 1) ls st S0 (up2 M a i x) else none) = _; rw [hs, if_pos ⟨rfl, h0, h1⟩]; rfl) (fun h => h.up (fx_arr (Or.inr (by rw [hs])))) k2
theorem r_aaloadc {kd n : Nat} {a i z : Int} (hd : decode (bc f) pc = .ok (.aaload, 1)) (hs : shp S0 a = (kd, n)) (hk : 22 ≤ kd ∧ kd ≤ 24) (h0 : 0 ≤ i) (h1 : i < n) (hx : fx a i = some z) (hz : 0 ≤ z) (k2 : Rn f (pc + 1) ls ((2, z) :: st) M Q) : Rn f pc ls ((0, i) :: (2, a) :: st) M Q := r_stepL hd (fun hl => by have hm := hl a i z hx; show (if 22 ≤ (shp S0 a).1 ∧ (shp S0 a).1 ≤ 24 ∧ 0 ≤ i ∧ i < (shp S0 a).2 ∧ 0 ≤ M a i then nx (pc + 1) ls ((2, M a i) :: st) S0 M else none) = _; rw [hs, if_pos ⟨hk.1, hk.2, h0, h1, by omega⟩, hm]; rfl) id k2
theorem r_aaload {kd n : Nat} {a i : Int} (hd : decode (bc f) pc = .ok (.aaload, 1)) (hs : shp S0 a = (kd, n)) (hk : 22 ≤ kd ∧ kd ≤ 24) (h0 : 0 ≤ i) (h1 : i < n) (hz : 0 ≤ M a i) (k2 : Rn f (pc + 1) ls ((2, M a i) :: st) M Q) : Rn f pc ls ((0, i) :: (2, a) :: st) M Q := r_step hd (by show (if 22 ≤ (shp S0 a).1 ∧ (shp S0 a).1 ≤ 24 ∧ 0 ≤ i ∧ i < (shp S0 a).2 ∧ 0 ≤ M a i then nx (pc + 1) ls ((2, M a i) :: st) S0 M else none) = _; rw [hs, if_pos ⟨hk.1, hk.2, h0, h1, hz⟩]; rfl) id k2
theorem r_aastore {n : Nat} {a i x : Int} (hd : decode (bc f) pc = .ok (.aastore, 1)) (hs : shp S0 a = (22, n)) (h0 : 0 ≤ i) (h1 : i < n) (hx : shp S0 x = (0, 3)) (hf : fx a i = none) (k2 : Rn f (pc + 1) ls st (up2 M a i x) Q) : Rn f pc ls ((2, x) :: (0, i) :: (2, a) :: st) M Q := r_step hd (by show (if (shp S0 a).1 = 22 ∧ 0 ≤ i ∧ i < (shp S0 a).2 ∧ shp S0 x = (0, nfl 0) then nx (pc + 1) ls st S0 (up2 M a i x) else none) = _; rw [hs, if_pos ⟨rfl, h0, h1, hx⟩]; rfl) (fun h => h.up hf) k2
theorem r_acopy {n q na nb : Nat} {a b sp dp m : Int} (hd : decode (bc f) pc = .ok (.invokestatic n, 3)) (hm : (mlk (own f) n).map (fun e => e.2.2.2.1) = some 7) (hh : Nat.ble 1 (hgt f) = true) (hk : q = 20 ∨ q = 21) (ha : shp S0 a = (q, na)) (hb : shp S0 b = (q, nb)) (h1 : 0 ≤ m) (h2 : 0 ≤ sp) (h3 : 0 ≤ dp) (h4 : sp + m ≤ nb) (h5 : dp + m ≤ na) (hcat : Nat.ble (cats st) 8 = true) (k2 : Rn f (pc + 3) ls st (cp2 M b sp a dp m) Q) : Rn f pc ls ((0, m) :: (0, dp) :: (2, a) :: (0, sp) :: (2, b) :: st) M Q := r_step hd (by unfold astep; dsimp only; rw [if_pos hm]; show (if ((shp S0 a).1 = 20 ∧ (shp S0 b).1 = 20 ∨ (shp S0 a).1 = 21 ∧ (shp S0 b).1 = 21) ∧ 0 ≤ m ∧ 0 ≤ sp ∧ 0 ≤ dp ∧ sp + m ≤ (shp S0 b).2 ∧ dp + m ≤ (shp S0 a).2 ∧ cats st ≤ 8 ∧ 1 ≤ hgt f then nx (pc + 3) ls st S0 (cp2 M b sp a dp m) else none) = _; rw [ha, hb, if_pos ⟨by show (q = 20 ∧ q = 20 ∨ q = 21 ∧ q = 21); omega, h1, h2, h3, h4, h5, Nat.le_of_ble_eq_true hcat, Nat.le_of_ble_eq_true hh⟩]; rfl) (fun h => h.cp (by rw [ha]; exact hk)) k2
end
theorem stl_1_0 {a0 v : AV} (hv : (v.1 == 1) = false) : stl [a0] 0 v = [v] := by
  have hv2 : ¬ v.1 = 1 := by simpa using hv
  unfold stl
  dsimp only
  rw [if_neg hv2]
  rfl
theorem stl_2_0 {a0 a1 v : AV} (hv : (v.1 == 1) = false) : stl [a0, a1] 0 v = [v, a1] := by
  have hv2 : ¬ v.1 = 1 := by simpa using hv
  unfold stl
  dsimp only
  rw [if_neg hv2]
  rfl
theorem stw_2_0 {a0 a1 v : AV} (hv : (v.1 == 1) = true) : stl [a0, a1] 0 v = [v, (9, 0)] := by
  have hv2 : v.1 = 1 := by simpa using hv
  unfold stl
  dsimp only
  rw [if_pos hv2]
  rfl
theorem stl_2_1 {a0 a1 v : AV} (h : (a0.1 == 1) = false) (hv : (v.1 == 1) = false) : stl [a0, a1] 1 v = [a0, v] := by
  have hv2 : ¬ v.1 = 1 := by simpa using hv
  obtain ⟨t, z⟩ := a0
  have h2 : ¬ t = 1 := by simpa using h
  unfold stl
  dsimp only
  rw [if_neg hv2]
  split
  · rename_i heq
    simp only [List.getElem?_cons_succ, List.getElem?_cons_zero, Option.some.injEq, Prod.mk.injEq] at heq
    exact absurd heq.1 h2
  · rfl
theorem stl_3_0 {a0 a1 a2 v : AV} (hv : (v.1 == 1) = false) : stl [a0, a1, a2] 0 v = [v, a1, a2] := by
  have hv2 : ¬ v.1 = 1 := by simpa using hv
  unfold stl
  dsimp only
  rw [if_neg hv2]
  rfl
theorem stw_3_0 {a0 a1 a2 v : AV} (hv : (v.1 == 1) = true) : stl [a0, a1, a2] 0 v = [v, (9, 0), a2] := by
  have hv2 : v.1 = 1 := by simpa using hv
  unfold stl
  dsimp only
  rw [if_pos hv2]
  rfl
theorem stl_3_1 {a0 a1 a2 v : AV} (h : (a0.1 == 1) = false) (hv : (v.1 == 1) = false) : stl [a0, a1, a2] 1 v = [a0, v, a2] := by
  have hv2 : ¬ v.1 = 1 := by simpa using hv
  obtain ⟨t, z⟩ := a0
  have h2 : ¬ t = 1 := by simpa using h
  unfold stl
  dsimp only
  rw [if_neg hv2]
  split
  · rename_i heq
    simp only [List.getElem?_cons_succ, List.getElem?_cons_zero, Option.some.injEq, Prod.mk.injEq] at heq
    exact absurd heq.1 h2
  · rfl
theorem stw_3_1 {a0 a1 a2 v : AV} (h : (a0.1 == 1) = false) (hv : (v.1 == 1) = true) : stl [a0, a1, a2] 1 v = [a0, v, (9, 0)] := by
  have hv2 : v.1 = 1 := by simpa using hv
  obtain ⟨t, z⟩ := a0
  have h2 : ¬ t = 1 := by simpa using h
  unfold stl
  dsimp only
  rw [if_pos hv2]
  split
  · rename_i heq
    simp only [List.getElem?_cons_succ, List.getElem?_cons_zero, Option.some.injEq, Prod.mk.injEq] at heq
    exact absurd heq.1 h2
  · rfl
theorem stl_3_2 {a0 a1 a2 v : AV} (h : (a1.1 == 1) = false) (hv : (v.1 == 1) = false) : stl [a0, a1, a2] 2 v = [a0, a1, v] := by
  have hv2 : ¬ v.1 = 1 := by simpa using hv
  obtain ⟨t, z⟩ := a1
  have h2 : ¬ t = 1 := by simpa using h
  unfold stl
  dsimp only
  rw [if_neg hv2]
  split
  · rename_i heq
    simp only [List.getElem?_cons_succ, List.getElem?_cons_zero, Option.some.injEq, Prod.mk.injEq] at heq
    exact absurd heq.1 h2
  · rfl
theorem stl_4_0 {a0 a1 a2 a3 v : AV} (hv : (v.1 == 1) = false) : stl [a0, a1, a2, a3] 0 v = [v, a1, a2, a3] := by
  have hv2 : ¬ v.1 = 1 := by simpa using hv
  unfold stl
  dsimp only
  rw [if_neg hv2]
  rfl
theorem stw_4_0 {a0 a1 a2 a3 v : AV} (hv : (v.1 == 1) = true) : stl [a0, a1, a2, a3] 0 v = [v, (9, 0), a2, a3] := by
  have hv2 : v.1 = 1 := by simpa using hv
  unfold stl
  dsimp only
  rw [if_pos hv2]
  rfl
theorem stl_4_1 {a0 a1 a2 a3 v : AV} (h : (a0.1 == 1) = false) (hv : (v.1 == 1) = false) : stl [a0, a1, a2, a3] 1 v = [a0, v, a2, a3] := by
  have hv2 : ¬ v.1 = 1 := by simpa using hv
  obtain ⟨t, z⟩ := a0
  have h2 : ¬ t = 1 := by simpa using h
  unfold stl
  dsimp only
  rw [if_neg hv2]
  split
  · rename_i heq
    simp only [List.getElem?_cons_succ, List.getElem?_cons_zero, Option.some.injEq, Prod.mk.injEq] at heq
    exact absurd heq.1 h2
  · rfl
theorem stw_4_1 {a0 a1 a2 a3 v : AV} (h : (a0.1 == 1) = false) (hv : (v.1 == 1) = true) : stl [a0, a1, a2, a3] 1 v = [a0, v, (9, 0), a3] := by
  have hv2 : v.1 = 1 := by simpa using hv
  obtain ⟨t, z⟩ := a0
  have h2 : ¬ t = 1 := by simpa using h
  unfold stl
  dsimp only
  rw [if_pos hv2]
  split
  · rename_i heq
    simp only [List.getElem?_cons_succ, List.getElem?_cons_zero, Option.some.injEq, Prod.mk.injEq] at heq
    exact absurd heq.1 h2
  · rfl
theorem stl_4_2 {a0 a1 a2 a3 v : AV} (h : (a1.1 == 1) = false) (hv : (v.1 == 1) = false) : stl [a0, a1, a2, a3] 2 v = [a0, a1, v, a3] := by
  have hv2 : ¬ v.1 = 1 := by simpa using hv
  obtain ⟨t, z⟩ := a1
  have h2 : ¬ t = 1 := by simpa using h
  unfold stl
  dsimp only
  rw [if_neg hv2]
  split
  · rename_i heq
    simp only [List.getElem?_cons_succ, List.getElem?_cons_zero, Option.some.injEq, Prod.mk.injEq] at heq
    exact absurd heq.1 h2
  · rfl
theorem stw_4_2 {a0 a1 a2 a3 v : AV} (h : (a1.1 == 1) = false) (hv : (v.1 == 1) = true) : stl [a0, a1, a2, a3] 2 v = [a0, a1, v, (9, 0)] := by
  have hv2 : v.1 = 1 := by simpa using hv
  obtain ⟨t, z⟩ := a1
  have h2 : ¬ t = 1 := by simpa using h
  unfold stl
  dsimp only
  rw [if_pos hv2]
  split
  · rename_i heq
    simp only [List.getElem?_cons_succ, List.getElem?_cons_zero, Option.some.injEq, Prod.mk.injEq] at heq
    exact absurd heq.1 h2
  · rfl
theorem stl_4_3 {a0 a1 a2 a3 v : AV} (h : (a2.1 == 1) = false) (hv : (v.1 == 1) = false) : stl [a0, a1, a2, a3] 3 v = [a0, a1, a2, v] := by
  have hv2 : ¬ v.1 = 1 := by simpa using hv
  obtain ⟨t, z⟩ := a2
  have h2 : ¬ t = 1 := by simpa using h
  unfold stl
  dsimp only
  rw [if_neg hv2]
  split
  · rename_i heq
    simp only [List.getElem?_cons_succ, List.getElem?_cons_zero, Option.some.injEq, Prod.mk.injEq] at heq
    exact absurd heq.1 h2
  · rfl
theorem stl_5_0 {a0 a1 a2 a3 a4 v : AV} (hv : (v.1 == 1) = false) : stl [a0, a1, a2, a3, a4] 0 v = [v, a1, a2, a3, a4] := by
  have hv2 : ¬ v.1 = 1 := by simpa using hv
  unfold stl
  dsimp only
  rw [if_neg hv2]
  rfl
theorem stw_5_0 {a0 a1 a2 a3 a4 v : AV} (hv : (v.1 == 1) = true) : stl [a0, a1, a2, a3, a4] 0 v = [v, (9, 0), a2, a3, a4] := by
  have hv2 : v.1 = 1 := by simpa using hv
  unfold stl
  dsimp only
  rw [if_pos hv2]
  rfl
theorem stl_5_1 {a0 a1 a2 a3 a4 v : AV} (h : (a0.1 == 1) = false) (hv : (v.1 == 1) = false) : stl [a0, a1, a2, a3, a4] 1 v = [a0, v, a2, a3, a4] := by
  have hv2 : ¬ v.1 = 1 := by simpa using hv
  obtain ⟨t, z⟩ := a0
  have h2 : ¬ t = 1 := by simpa using h
  unfold stl
  dsimp only
  rw [if_neg hv2]
  split
  · rename_i heq
    simp only [List.getElem?_cons_succ, List.getElem?_cons_zero, Option.some.injEq, Prod.mk.injEq] at heq
    exact absurd heq.1 h2
  · rfl
theorem stw_5_1 {a0 a1 a2 a3 a4 v : AV} (h : (a0.1 == 1) = false) (hv : (v.1 == 1) = true) : stl [a0, a1, a2, a3, a4] 1 v = [a0, v, (9, 0), a3, a4] := by
  have hv2 : v.1 = 1 := by simpa using hv
  obtain ⟨t, z⟩ := a0
  have h2 : ¬ t = 1 := by simpa using h
  unfold stl
  dsimp only
  rw [if_pos hv2]
  split
  · rename_i heq
    simp only [List.getElem?_cons_succ, List.getElem?_cons_zero, Option.some.injEq, Prod.mk.injEq] at heq
    exact absurd heq.1 h2
  · rfl
theorem stl_5_2 {a0 a1 a2 a3 a4 v : AV} (h : (a1.1 == 1) = false) (hv : (v.1 == 1) = false) : stl [a0, a1, a2, a3, a4] 2 v = [a0, a1, v, a3, a4] := by
  have hv2 : ¬ v.1 = 1 := by simpa using hv
  obtain ⟨t, z⟩ := a1
  have h2 : ¬ t = 1 := by simpa using h
  unfold stl
  dsimp only
  rw [if_neg hv2]
  split
  · rename_i heq
    simp only [List.getElem?_cons_succ, List.getElem?_cons_zero, Option.some.injEq, Prod.mk.injEq] at heq
    exact absurd heq.1 h2
  · rfl
theorem stw_5_2 {a0 a1 a2 a3 a4 v : AV} (h : (a1.1 == 1) = false) (hv : (v.1 == 1) = true) : stl [a0, a1, a2, a3, a4] 2 v = [a0, a1, v, (9, 0), a4] := by
  have hv2 : v.1 = 1 := by simpa using hv
  obtain ⟨t, z⟩ := a1
  have h2 : ¬ t = 1 := by simpa using h
  unfold stl
  dsimp only
  rw [if_pos hv2]
  split
  · rename_i heq
    simp only [List.getElem?_cons_succ, List.getElem?_cons_zero, Option.some.injEq, Prod.mk.injEq] at heq
    exact absurd heq.1 h2
  · rfl
theorem stl_5_3 {a0 a1 a2 a3 a4 v : AV} (h : (a2.1 == 1) = false) (hv : (v.1 == 1) = false) : stl [a0, a1, a2, a3, a4] 3 v = [a0, a1, a2, v, a4] := by
  have hv2 : ¬ v.1 = 1 := by simpa using hv
  obtain ⟨t, z⟩ := a2
  have h2 : ¬ t = 1 := by simpa using h
  unfold stl
  dsimp only
  rw [if_neg hv2]
  split
  · rename_i heq
    simp only [List.getElem?_cons_succ, List.getElem?_cons_zero, Option.some.injEq, Prod.mk.injEq] at heq
    exact absurd heq.1 h2
  · rfl
theorem stw_5_3 {a0 a1 a2 a3 a4 v : AV} (h : (a2.1 == 1) = false) (hv : (v.1 == 1) = true) : stl [a0, a1, a2, a3, a4] 3 v = [a0, a1, a2, v, (9, 0)] := by
  have hv2 : v.1 = 1 := by simpa using hv
  obtain ⟨t, z⟩ := a2
  have h2 : ¬ t = 1 := by simpa using h
  unfold stl
  dsimp only
  rw [if_pos hv2]
  split
  · rename_i heq
    simp only [List.getElem?_cons_succ, List.getElem?_cons_zero, Option.some.injEq, Prod.mk.injEq] at heq
    exact absurd heq.1 h2
  · rfl
theorem stl_5_4 {a0 a1 a2 a3 a4 v : AV} (h : (a3.1 == 1) = false) (hv : (v.1 == 1) = false) : stl [a0, a1, a2, a3, a4] 4 v = [a0, a1, a2, a3, v] := by
  have hv2 : ¬ v.1 = 1 := by simpa using hv
  obtain ⟨t, z⟩ := a3
  have h2 : ¬ t = 1 := by simpa using h
  unfold stl
  dsimp only
  rw [if_neg hv2]
  split
  · rename_i heq
    simp only [List.getElem?_cons_succ, List.getElem?_cons_zero, Option.some.injEq, Prod.mk.injEq] at heq
    exact absurd heq.1 h2
  · rfl
theorem stl_6_0 {a0 a1 a2 a3 a4 a5 v : AV} (hv : (v.1 == 1) = false) : stl [a0, a1, a2, a3, a4, a5] 0 v = [v, a1, a2, a3, a4, a5] := by
  have hv2 : ¬ v.1 = 1 := by simpa using hv
  unfold stl
  dsimp only
  rw [if_neg hv2]
  rfl
theorem stw_6_0 {a0 a1 a2 a3 a4 a5 v : AV} (hv : (v.1 == 1) = true) : stl [a0, a1, a2, a3, a4, a5] 0 v = [v, (9, 0), a2, a3, a4, a5] := by
  have hv2 : v.1 = 1 := by simpa using hv
  unfold stl
  dsimp only
  rw [if_pos hv2]
  rfl
theorem stl_6_1 {a0 a1 a2 a3 a4 a5 v : AV} (h : (a0.1 == 1) = false) (hv : (v.1 == 1) = false) : stl [a0, a1, a2, a3, a4, a5] 1 v = [a0, v, a2, a3, a4, a5] := by
  have hv2 : ¬ v.1 = 1 := by simpa using hv
  obtain ⟨t, z⟩ := a0
  have h2 : ¬ t = 1 := by simpa using h
  unfold stl
  dsimp only
  rw [if_neg hv2]
  split
  · rename_i heq
    simp only [List.getElem?_cons_succ, List.getElem?_cons_zero, Option.some.injEq, Prod.mk.injEq] at heq
    exact absurd heq.1 h2
  · rfl
theorem stw_6_1 {a0 a1 a2 a3 a4 a5 v : AV} (h : (a0.1 == 1) = false) (hv : (v.1 == 1) = true) : stl [a0, a1, a2, a3, a4, a5] 1 v = [a0, v, (9, 0), a3, a4, a5] := by
  have hv2 : v.1 = 1 := by simpa using hv
  obtain ⟨t, z⟩ := a0
  have h2 : ¬ t = 1 := by simpa using h
  unfold stl
  dsimp only
  rw [if_pos hv2]
  split
  · rename_i heq
    simp only [List.getElem?_cons_succ, List.getElem?_cons_zero, Option.some.injEq, Prod.mk.injEq] at heq
    exact absurd heq.1 h2
  · rfl
theorem stl_6_2 {a0 a1 a2 a3 a4 a5 v : AV} (h : (a1.1 == 1) = false) (hv : (v.1 == 1) = false) : stl [a0, a1, a2, a3, a4, a5] 2 v = [a0, a1, v, a3, a4, a5] := by
  have hv2 : ¬ v.1 = 1 := by simpa using hv
  obtain ⟨t, z⟩ := a1
  have h2 : ¬ t = 1 := by simpa using h
  unfold stl
  dsimp only
  rw [if_neg hv2]
  split
  · rename_i heq
    simp only [List.getElem?_cons_succ, List.getElem?_cons_zero, Option.some.injEq, Prod.mk.injEq] at heq
    exact absurd heq.1 h2
  · rfl
theorem stw_6_2 {a0 a1 a2 a3 a4 a5 v : AV} (h : (a1.1 == 1) = false) (hv : (v.1 == 1) = true) : stl [a0, a1, a2, a3, a4, a5] 2 v = [a0, a1, v, (9, 0), a4, a5] := by
  have hv2 : v.1 = 1 := by simpa using hv
  obtain ⟨t, z⟩ := a1
  have h2 : ¬ t = 1 := by simpa using h
  unfold stl
  dsimp only
  rw [if_pos hv2]
  split
  · rename_i heq
    simp only [List.getElem?_cons_succ, List.getElem?_cons_zero, Option.some.injEq, Prod.mk.injEq] at heq
    exact absurd heq.1 h2
  · rfl
theorem stl_6_3 {a0 a1 a2 a3 a4 a5 v : AV} (h : (a2.1 == 1) = false) (hv : (v.1 == 1) = false) : stl [a0, a1, a2, a3, a4, a5] 3 v = [a0, a1, a2, v, a4, a5] := by
  have hv2 : ¬ v.1 = 1 := by simpa using hv
  obtain ⟨t, z⟩ := a2
  have h2 : ¬ t = 1 := by simpa using h
  unfold stl
  dsimp only
  rw [if_neg hv2]
  split
  · rename_i heq
    simp only [List.getElem?_cons_succ, List.getElem?_cons_zero, Option.some.injEq, Prod.mk.injEq] at heq
    exact absurd heq.1 h2
  · rfl
theorem stw_6_3 {a0 a1 a2 a3 a4 a5 v : AV} (h : (a2.1 == 1) = false) (hv : (v.1 == 1) = true) : stl [a0, a1, a2, a3, a4, a5] 3 v = [a0, a1, a2, v, (9, 0), a5] := by
  have hv2 : v.1 = 1 := by simpa using hv
  obtain ⟨t, z⟩ := a2
  have h2 : ¬ t = 1 := by simpa using h
  unfold stl
  dsimp only
  rw [if_pos hv2]
  split
  · rename_i heq
    simp only [List.getElem?_cons_succ, List.getElem?_cons_zero, Option.some.injEq, Prod.mk.injEq] at heq
    exact absurd heq.1 h2
  · rfl
theorem stl_6_4 {a0 a1 a2 a3 a4 a5 v : AV} (h : (a3.1 == 1) = false) (hv : (v.1 == 1) = false) : stl [a0, a1, a2, a3, a4, a5] 4 v = [a0, a1, a2, a3, v, a5] := by
  have hv2 : ¬ v.1 = 1 := by simpa using hv
  obtain ⟨t, z⟩ := a3
  have h2 : ¬ t = 1 := by simpa using h
  unfold stl
  dsimp only
  rw [if_neg hv2]
  split
  · rename_i heq
    simp only [List.getElem?_cons_succ, List.getElem?_cons_zero, Option.some.injEq, Prod.mk.injEq] at heq
    exact absurd heq.1 h2
  · rfl
theorem stw_6_4 {a0 a1 a2 a3 a4 a5 v : AV} (h : (a3.1 == 1) = false) (hv : (v.1 == 1) = true) : stl [a0, a1, a2, a3, a4, a5] 4 v = [a0, a1, a2, a3, v, (9, 0)] := by
  have hv2 : v.1 = 1 := by simpa using hv
  obtain ⟨t, z⟩ := a3
  have h2 : ¬ t = 1 := by simpa using h
  unfold stl
  dsimp only
  rw [if_pos hv2]
  split
  · rename_i heq
    simp only [List.getElem?_cons_succ, List.getElem?_cons_zero, Option.some.injEq, Prod.mk.injEq] at heq
    exact absurd heq.1 h2
  · rfl
theorem stl_6_5 {a0 a1 a2 a3 a4 a5 v : AV} (h : (a4.1 == 1) = false) (hv : (v.1 == 1) = false) : stl [a0, a1, a2, a3, a4, a5] 5 v = [a0, a1, a2, a3, a4, v] := by
  have hv2 : ¬ v.1 = 1 := by simpa using hv
  obtain ⟨t, z⟩ := a4
  have h2 : ¬ t = 1 := by simpa using h
  unfold stl
  dsimp only
  rw [if_neg hv2]
  split
  · rename_i heq
    simp only [List.getElem?_cons_succ, List.getElem?_cons_zero, Option.some.injEq, Prod.mk.injEq] at heq
    exact absurd heq.1 h2
  · rfl
theorem stl_7_0 {a0 a1 a2 a3 a4 a5 a6 v : AV} (hv : (v.1 == 1) = false) : stl [a0, a1, a2, a3, a4, a5, a6] 0 v = [v, a1, a2, a3, a4, a5, a6] := by
  have hv2 : ¬ v.1 = 1 := by simpa using hv
  unfold stl
  dsimp only
  rw [if_neg hv2]
  rfl
theorem stw_7_0 {a0 a1 a2 a3 a4 a5 a6 v : AV} (hv : (v.1 == 1) = true) : stl [a0, a1, a2, a3, a4, a5, a6] 0 v = [v, (9, 0), a2, a3, a4, a5, a6] := by
  have hv2 : v.1 = 1 := by simpa using hv
  unfold stl
  dsimp only
  rw [if_pos hv2]
  rfl
theorem stl_7_1 {a0 a1 a2 a3 a4 a5 a6 v : AV} (h : (a0.1 == 1) = false) (hv : (v.1 == 1) = false) : stl [a0, a1, a2, a3, a4, a5, a6] 1 v = [a0, v, a2, a3, a4, a5, a6] := by
  have hv2 : ¬ v.1 = 1 := by simpa using hv
  obtain ⟨t, z⟩ := a0
  have h2 : ¬ t = 1 := by simpa using h
  unfold stl
  dsimp only
  rw [if_neg hv2]
  split
  · rename_i heq
    simp only [List.getElem?_cons_succ, List.getElem?_cons_zero, Option.some.injEq, Prod.mk.injEq] at heq
    exact absurd heq.1 h2
  · rfl
theorem stw_7_1 {a0 a1 a2 a3 a4 a5 a6 v : AV} (h : (a0.1 == 1) = false) (hv : (v.1 == 1) = true) : stl [a0, a1, a2, a3, a4, a5, a6] 1 v = [a0, v, (9, 0), a3, a4, a5, a6] := by
  have hv2 : v.1 = 1 := by simpa using hv
  obtain ⟨t, z⟩ := a0
  have h2 : ¬ t = 1 := by simpa using h
  unfold stl
  dsimp only
  rw [if_pos hv2]
  split
  · rename_i heq
    simp only [List.getElem?_cons_succ, List.getElem?_cons_zero, Option.some.injEq, Prod.mk.injEq] at heq
    exact absurd heq.1 h2
  · rfl
theorem stl_7_2 {a0 a1 a2 a3 a4 a5 a6 v : AV} (h : (a1.1 == 1) = false) (hv : (v.1 == 1) = false) : stl [a0, a1, a2, a3, a4, a5, a6] 2 v = [a0, a1, v, a3, a4, a5, a6] := by
  have hv2 : ¬ v.1 = 1 := by simpa using hv
  obtain ⟨t, z⟩ := a1
  have h2 : ¬ t = 1 := by simpa using h
  unfold stl
  dsimp only
  rw [if_neg hv2]
  split
  · rename_i heq
    simp only [List.getElem?_cons_succ, List.getElem?_cons_zero, Option.some.injEq, Prod.mk.injEq] at heq
    exact absurd heq.1 h2
  · rfl
theorem stw_7_2 {a0 a1 a2 a3 a4 a5 a6 v : AV} (h : (a1.1 == 1) = false) (hv : (v.1 == 1) = true) : stl [a0, a1, a2, a3, a4, a5, a6] 2 v = [a0, a1, v, (9, 0), a4, a5, a6] := by
  have hv2 : v.1 = 1 := by simpa using hv
  obtain ⟨t, z⟩ := a1
  have h2 : ¬ t = 1 := by simpa using h
  unfold stl
  dsimp only
  rw [if_pos hv2]
  split
  · rename_i heq
    simp only [List.getElem?_cons_succ, List.getElem?_cons_zero, Option.some.injEq, Prod.mk.injEq] at heq
    exact absurd heq.1 h2
  · rfl
theorem stl_7_3 {a0 a1 a2 a3 a4 a5 a6 v : AV} (h : (a2.1 == 1) = false) (hv : (v.1 == 1) = false) : stl [a0, a1, a2, a3, a4, a5, a6] 3 v = [a0, a1, a2, v, a4, a5, a6] := by
  have hv2 : ¬ v.1 = 1 := by simpa using hv
  obtain ⟨t, z⟩ := a2
  have h2 : ¬ t = 1 := by simpa using h
  unfold stl
  dsimp only
  rw [if_neg hv2]
  split
  · rename_i heq
    simp only [List.getElem?_cons_succ, List.getElem?_cons_zero, Option.some.injEq, Prod.mk.injEq] at heq
    exact absurd heq.1 h2
  · rfl
theorem stw_7_3 {a0 a1 a2 a3 a4 a5 a6 v : AV} (h : (a2.1 == 1) = false) (hv : (v.1 == 1) = true) : stl [a0, a1, a2, a3, a4, a5, a6] 3 v = [a0, a1, a2, v, (9, 0), a5, a6] := by
  have hv2 : v.1 = 1 := by simpa using hv
  obtain ⟨t, z⟩ := a2
  have h2 : ¬ t = 1 := by simpa using h
  unfold stl
  dsimp only
  rw [if_pos hv2]
  split
  · rename_i heq
    simp only [List.getElem?_cons_succ, List.getElem?_cons_zero, Option.some.injEq, Prod.mk.injEq] at heq
    exact absurd heq.1 h2
  · rfl
theorem stl_7_4 {a0 a1 a2 a3 a4 a5 a6 v : AV} (h : (a3.1 == 1) = false) (hv : (v.1 == 1) = false) : stl [a0, a1, a2, a3, a4, a5, a6] 4 v = [a0, a1, a2, a3, v, a5, a6] := by
  have hv2 : ¬ v.1 = 1 := by simpa using hv
  obtain ⟨t, z⟩ := a3
  have h2 : ¬ t = 1 := by simpa using h
  unfold stl
  dsimp only
  rw [if_neg hv2]
  split
  · rename_i heq
    simp only [List.getElem?_cons_succ, List.getElem?_cons_zero, Option.some.injEq, Prod.mk.injEq] at heq
    exact absurd heq.1 h2
  · rfl
theorem stw_7_4 {a0 a1 a2 a3 a4 a5 a6 v : AV} (h : (a3.1 == 1) = false) (hv : (v.1 == 1) = true) : stl [a0, a1, a2, a3, a4, a5, a6] 4 v = [a0, a1, a2, a3, v, (9, 0), a6] := by
  have hv2 : v.1 = 1 := by simpa using hv
  obtain ⟨t, z⟩ := a3
  have h2 : ¬ t = 1 := by simpa using h
  unfold stl
  dsimp only
  rw [if_pos hv2]
  split
  · rename_i heq
    simp only [List.getElem?_cons_succ, List.getElem?_cons_zero, Option.some.injEq, Prod.mk.injEq] at heq
    exact absurd heq.1 h2
  · rfl
theorem stl_7_5 {a0 a1 a2 a3 a4 a5 a6 v : AV} (h : (a4.1 == 1) = false) (hv : (v.1 == 1) = false) : stl [a0, a1, a2, a3, a4, a5, a6] 5 v = [a0, a1, a2, a3, a4, v, a6] := by
  have hv2 : ¬ v.1 = 1 := by simpa using hv
  obtain ⟨t, z⟩ := a4
  have h2 : ¬ t = 1 := by simpa using h
  unfold stl
  dsimp only
  rw [if_neg hv2]
  split
  · rename_i heq
    simp only [List.getElem?_cons_succ, List.getElem?_cons_zero, Option.some.injEq, Prod.mk.injEq] at heq
    exact absurd heq.1 h2
  · rfl
theorem stw_7_5 {a0 a1 a2 a3 a4 a5 a6 v : AV} (h : (a4.1 == 1) = false) (hv : (v.1 == 1) = true) : stl [a0, a1, a2, a3, a4, a5, a6] 5 v = [a0, a1, a2, a3, a4, v, (9, 0)] := by
  have hv2 : v.1 = 1 := by simpa using hv
  obtain ⟨t, z⟩ := a4
  have h2 : ¬ t = 1 := by simpa using h
  unfold stl
  dsimp only
  rw [if_pos hv2]
  split
  · rename_i heq
    simp only [List.getElem?_cons_succ, List.getElem?_cons_zero, Option.some.injEq, Prod.mk.injEq] at heq
    exact absurd heq.1 h2
  · rfl
theorem stl_7_6 {a0 a1 a2 a3 a4 a5 a6 v : AV} (h : (a5.1 == 1) = false) (hv : (v.1 == 1) = false) : stl [a0, a1, a2, a3, a4, a5, a6] 6 v = [a0, a1, a2, a3, a4, a5, v] := by
  have hv2 : ¬ v.1 = 1 := by simpa using hv
  obtain ⟨t, z⟩ := a5
  have h2 : ¬ t = 1 := by simpa using h
  unfold stl
  dsimp only
  rw [if_neg hv2]
  split
  · rename_i heq
    simp only [List.getElem?_cons_succ, List.getElem?_cons_zero, Option.some.injEq, Prod.mk.injEq] at heq
    exact absurd heq.1 h2
  · rfl
theorem stl_8_0 {a0 a1 a2 a3 a4 a5 a6 a7 v : AV} (hv : (v.1 == 1) = false) : stl [a0, a1, a2, a3, a4, a5, a6, a7] 0 v = [v, a1, a2, a3, a4, a5, a6, a7] := by
  have hv2 : ¬ v.1 = 1 := by simpa using hv
  unfold stl
  dsimp only
  rw [if_neg hv2]
  rfl
theorem stw_8_0 {a0 a1 a2 a3 a4 a5 a6 a7 v : AV} (hv : (v.1 == 1) = true) : stl [a0, a1, a2, a3, a4, a5, a6, a7] 0 v = [v, (9, 0), a2, a3, a4, a5, a6, a7] := by
  have hv2 : v.1 = 1 := by simpa using hv
  unfold stl
  dsimp only
  rw [if_pos hv2]
  rfl
theorem stl_8_1 {a0 a1 a2 a3 a4 a5 a6 a7 v : AV} (h : (a0.1 == 1) = false) (hv : (v.1 == 1) = false) : stl [a0, a1, a2, a3, a4, a5, a6, a7] 1 v = [a0, v, a2, a3, a4, a5, a6, a7] := by
  have hv2 : ¬ v.1 = 1 := by simpa using hv
  obtain ⟨t, z⟩ := a0
  have h2 : ¬ t = 1 := by simpa using h
  unfold stl
  dsimp only
  rw [if_neg hv2]
  split
  · rename_i heq
    simp only [List.getElem?_cons_succ, List.getElem?_cons_zero, Option.some.injEq, Prod.mk.injEq] at heq
    exact absurd heq.1 h2
  · rfl
theorem stw_8_1 {a0 a1 a2 a3 a4 a5 a6 a7 v : AV} (h : (a0.1 == 1) = false) (hv : (v.1 == 1) = true) : stl [a0, a1, a2, a3, a4, a5, a6, a7] 1 v = [a0, v, (9, 0), a3, a4, a5, a6, a7] := by
  have hv2 : v.1 = 1 := by simpa using hv
  obtain ⟨t, z⟩ := a0
  have h2 : ¬ t = 1 := by simpa using h
  unfold stl
  dsimp only
  rw [if_pos hv2]
  split
  · rename_i heq
    simp only [List.getElem?_cons_succ, List.getElem?_cons_zero, Option.some.injEq, Prod.mk.injEq] at heq
    exact absurd heq.1 h2
  · rfl
theorem stl_8_2 {a0 a1 a2 a3 a4 a5 a6 a7 v : AV} (h : (a1.1 == 1) = false) (hv : (v.1 == 1) = false) : stl [a0, a1, a2, a3, a4, a5, a6, a7] 2 v = [a0, a1, v, a3, a4, a5, a6, a7] := by
  have hv2 : ¬ v.1 = 1 := by simpa using hv
  obtain ⟨t, z⟩ := a1
  have h2 : ¬ t = 1 := by simpa using h
  unfold stl
  dsimp only
  rw [if_neg hv2]
  split
  · rename_i heq
    simp only [List.getElem?_cons_succ, List.getElem?_cons_zero, Option.some.injEq, Prod.mk.injEq] at heq
    exact absurd heq.1 h2
  · rfl
theorem stw_8_2 {a0 a1 a2 a3 a4 a5 a6 a7 v : AV} (h : (a1.1 == 1) = false) (hv : (v.1 == 1) = true) : stl [a0, a1, a2, a3, a4, a5, a6, a7] 2 v = [a0, a1, v, (9, 0), a4, a5, a6, a7] := by
  have hv2 : v.1 = 1 := by simpa using hv
  obtain ⟨t, z⟩ := a1
  have h2 : ¬ t = 1 := by simpa using h
  unfold stl
  dsimp only
  rw [if_pos hv2]
  split
  · rename_i heq
    simp only [List.getElem?_cons_succ, List.getElem?_cons_zero, Option.some.injEq, Prod.mk.injEq] at heq
    exact absurd heq.1 h2
  · rfl
theorem stl_8_3 {a0 a1 a2 a3 a4 a5 a6 a7 v : AV} (h : (a2.1 == 1) = false) (hv : (v.1 == 1) = false) : stl [a0, a1, a2, a3, a4, a5, a6, a7] 3 v = [a0, a1, a2, v, a4, a5, a6, a7] := by
  have hv2 : ¬ v.1 = 1 := by simpa using hv
  obtain ⟨t, z⟩ := a2
  have h2 : ¬ t = 1 := by simpa using h
  unfold stl
  dsimp only
  rw [if_neg hv2]
  split
  · rename_i heq
    simp only [List.getElem?_cons_succ, List.getElem?_cons_zero, Option.some.injEq, Prod.mk.injEq] at heq
    exact absurd heq.1 h2
  · rfl
theorem stw_8_3 {a0 a1 a2 a3 a4 a5 a6 a7 v : AV} (h : (a2.1 == 1) = false) (hv : (v.1 == 1) = true) : stl [a0, a1, a2, a3, a4, a5, a6, a7] 3 v = [a0, a1, a2, v, (9, 0), a5, a6, a7] := by
  have hv2 : v.1 = 1 := by simpa using hv
  obtain ⟨t, z⟩ := a2
  have h2 : ¬ t = 1 := by simpa using h
  unfold stl
  dsimp only
  rw [if_pos hv2]
  split
  · rename_i heq
    simp only [List.getElem?_cons_succ, List.getElem?_cons_zero, Option.some.injEq, Prod.mk.injEq] at heq
    exact absurd heq.1 h2
  · rfl
theorem stl_8_4 {a0 a1 a2 a3 a4 a5 a6 a7 v : AV} (h : (a3.1 == 1) = false) (hv : (v.1 == 1) = false) : stl [a0, a1, a2, a3, a4, a5, a6, a7] 4 v = [a0, a1, a2, a3, v, a5, a6, a7] := by
  have hv2 : ¬ v.1 = 1 := by simpa using hv
  obtain ⟨t, z⟩ := a3
  have h2 : ¬ t = 1 := by simpa using h
  unfold stl
  dsimp only
  rw [if_neg hv2]
  split
  · rename_i heq
    simp only [List.getElem?_cons_succ, List.getElem?_cons_zero, Option.some.injEq, Prod.mk.injEq] at heq
    exact absurd heq.1 h2
  · rfl
theorem stw_8_4 {a0 a1 a2 a3 a4 a5 a6 a7 v : AV} (h : (a3.1 == 1) = false) (hv : (v.1 == 1) = true) : stl [a0, a1, a2, a3, a4, a5, a6, a7] 4 v = [a0, a1, a2, a3, v, (9, 0), a6, a7] := by
  have hv2 : v.1 = 1 := by simpa using hv
  obtain ⟨t, z⟩ := a3
  have h2 : ¬ t = 1 := by simpa using h
  unfold stl
  dsimp only
  rw [if_pos hv2]
  split
  · rename_i heq
    simp only [List.getElem?_cons_succ, List.getElem?_cons_zero, Option.some.injEq, Prod.mk.injEq] at heq
    exact absurd heq.1 h2
  · rfl
theorem stl_8_5 {a0 a1 a2 a3 a4 a5 a6 a7 v : AV} (h : (a4.1 == 1) = false) (hv : (v.1 == 1) = false) : stl [a0, a1, a2, a3, a4, a5, a6, a7] 5 v = [a0, a1, a2, a3, a4, v, a6, a7] := by
  have hv2 : ¬ v.1 = 1 := by simpa using hv
  obtain ⟨t, z⟩ := a4
  have h2 : ¬ t = 1 := by simpa using h
  unfold stl
  dsimp only
  rw [if_neg hv2]
  split
  · rename_i heq
    simp only [List.getElem?_cons_succ, List.getElem?_cons_zero, Option.some.injEq, Prod.mk.injEq] at heq
    exact absurd heq.1 h2
  · rfl
theorem stw_8_5 {a0 a1 a2 a3 a4 a5 a6 a7 v : AV} (h : (a4.1 == 1) = false) (hv : (v.1 == 1) = true) : stl [a0, a1, a2, a3, a4, a5, a6, a7] 5 v = [a0, a1, a2, a3, a4, v, (9, 0), a7] := by
  have hv2 : v.1 = 1 := by simpa using hv
  obtain ⟨t, z⟩ := a4
  have h2 : ¬ t = 1 := by simpa using h
  unfold stl
  dsimp only
  rw [if_pos hv2]
  split
  · rename_i heq
    simp only [List.getElem?_cons_succ, List.getElem?_cons_zero, Option.some.injEq, Prod.mk.injEq] at heq
    exact absurd heq.1 h2
  · rfl
theorem stl_8_6 {a0 a1 a2 a3 a4 a5 a6 a7 v : AV} (h : (a5.1 == 1) = false) (hv : (v.1 == 1) = false) : stl [a0, a1, a2, a3, a4, a5, a6, a7] 6 v = [a0, a1, a2, a3, a4, a5, v, a7] := by
  have hv2 : ¬ v.1 = 1 := by simpa using hv
  obtain ⟨t, z⟩ := a5
  have h2 : ¬ t = 1 := by simpa using h
  unfold stl
  dsimp only
  rw [if_neg hv2]
  split
  · rename_i heq
    simp only [List.getElem?_cons_succ, List.getElem?_cons_zero, Option.some.injEq, Prod.mk.injEq] at heq
    exact absurd heq.1 h2
  · rfl
theorem stw_8_6 {a0 a1 a2 a3 a4 a5 a6 a7 v : AV} (h : (a5.1 == 1) = false) (hv : (v.1 == 1) = true) : stl [a0, a1, a2, a3, a4, a5, a6, a7] 6 v = [a0, a1, a2, a3, a4, a5, v, (9, 0)] := by
  have hv2 : v.1 = 1 := by simpa using hv
  obtain ⟨t, z⟩ := a5
  have h2 : ¬ t = 1 := by simpa using h
  unfold stl
  dsimp only
  rw [if_pos hv2]
  split
  · rename_i heq
    simp only [List.getElem?_cons_succ, List.getElem?_cons_zero, Option.some.injEq, Prod.mk.injEq] at heq
    exact absurd heq.1 h2
  · rfl
theorem stl_8_7 {a0 a1 a2 a3 a4 a5 a6 a7 v : AV} (h : (a6.1 == 1) = false) (hv : (v.1 == 1) = false) : stl [a0, a1, a2, a3, a4, a5, a6, a7] 7 v = [a0, a1, a2, a3, a4, a5, a6, v] := by
  have hv2 : ¬ v.1 = 1 := by simpa using hv
  obtain ⟨t, z⟩ := a6
  have h2 : ¬ t = 1 := by simpa using h
  unfold stl
  dsimp only
  rw [if_neg hv2]
  split
  · rename_i heq
    simp only [List.getElem?_cons_succ, List.getElem?_cons_zero, Option.some.injEq, Prod.mk.injEq] at heq
    exact absurd heq.1 h2
  · rfl
theorem stl_9_0 {a0 a1 a2 a3 a4 a5 a6 a7 a8 v : AV} (hv : (v.1 == 1) = false) : stl [a0, a1, a2, a3, a4, a5, a6, a7, a8] 0 v = [v, a1, a2, a3, a4, a5, a6, a7, a8] := by
  have hv2 : ¬ v.1 = 1 := by simpa using hv
  unfold stl
  dsimp only
  rw [if_neg hv2]
  rfl
theorem stw_9_0 {a0 a1 a2 a3 a4 a5 a6 a7 a8 v : AV} (hv : (v.1 == 1) = true) : stl [a0, a1, a2, a3, a4, a5, a6, a7, a8] 0 v = [v, (9, 0), a2, a3, a4, a5, a6, a7, a8] := by
  have hv2 : v.1 = 1 := by simpa using hv
  unfold stl
  dsimp only
  rw [if_pos hv2]
  rfl
theorem stl_9_1 {a0 a1 a2 a3 a4 a5 a6 a7 a8 v : AV} (h : (a0.1 == 1) = false) (hv : (v.1 == 1) = false) : stl [a0, a1, a2, a3, a4, a5, a6, a7, a8] 1 v = [a0, v, a2, a3, a4, a5, a6, a7, a8] := by
  have hv2 : ¬ v.1 = 1 := by simpa using hv
  obtain ⟨t, z⟩ := a0
  have h2 : ¬ t = 1 := by simpa using h
  unfold stl
  dsimp only
  rw [if_neg hv2]
  split
  · rename_i heq
    simp only [List.getElem?_cons_succ, List.getElem?_cons_zero, Option.some.injEq, Prod.mk.injEq] at heq
    exact absurd heq.1 h2
  · rfl
theorem stw_9_1 {a0 a1 a2 a3 a4 a5 a6 a7 a8 v : AV} (h : (a0.1 == 1) = false) (hv : (v.1 == 1) = true) : stl [a0, a1, a2, a3, a4, a5, a6, a7, a8] 1 v = [a0, v, (9, 0), a3, a4, a5, a6, a7, a8] := by
  have hv2 : v.1 = 1 := by simpa using hv
  obtain ⟨t, z⟩ := a0
  have h2 : ¬ t = 1 := by simpa using h
  unfold stl
  dsimp only
  rw [if_pos hv2]
  split
  · rename_i heq
    simp only [List.getElem?_cons_succ, List.getElem?_cons_zero, Option.some.injEq, Prod.mk.injEq] at heq
    exact absurd heq.1 h2
  · rfl
theorem stl_9_2 {a0 a1 a2 a3 a4 a5 a6 a7 a8 v : AV} (h : (a1.1 == 1) = false) (hv : (v.1 == 1) = false) : stl [a0, a1, a2, a3, a4, a5, a6, a7, a8] 2 v = [a0, a1, v, a3, a4, a5, a6, a7, a8] := by
  have hv2 : ¬ v.1 = 1 := by simpa using hv
  obtain ⟨t, z⟩ := a1
  have h2 : ¬ t = 1 := by simpa using h
  unfold stl
  dsimp only
  rw [if_neg hv2]
  split
  · rename_i heq
    simp only [List.getElem?_cons_succ, List.getElem?_cons_zero, Option.some.injEq, Prod.mk.injEq] at heq
    exact absurd heq.1 h2
  · rfl
theorem stw_9_2 {a0 a1 a2 a3 a4 a5 a6 a7 a8 v : AV} (h : (a1.1 == 1) = false) (hv : (v.1 == 1) = true) : stl [a0, a1, a2, a3, a4, a5, a6, a7, a8] 2 v = [a0, a1, v, (9, 0), a4, a5, a6, a7, a8] := by
  have hv2 : v.1 = 1 := by simpa using hv
  obtain ⟨t, z⟩ := a1
  have h2 : ¬ t = 1 := by simpa using h
  unfold stl
  dsimp only
  rw [if_pos hv2]
  split
  · rename_i heq
    simp only [List.getElem?_cons_succ, List.getElem?_cons_zero, Option.some.injEq, Prod.mk.injEq] at heq
    exact absurd heq.1 h2
  · rfl
theorem stl_9_3 {a0 a1 a2 a3 a4 a5 a6 a7 a8 v : AV} (h : (a2.1 == 1) = false) (hv : (v.1 == 1) = false) : stl [a0, a1, a2, a3, a4, a5, a6, a7, a8] 3 v = [a0, a1, a2, v, a4, a5, a6, a7, a8] := by
  have hv2 : ¬ v.1 = 1 := by simpa using hv
  obtain ⟨t, z⟩ := a2
  have h2 : ¬ t = 1 := by simpa using h
  unfold stl
  dsimp only
  rw [if_neg hv2]
  split
  · rename_i heq
    simp only [List.getElem?_cons_succ, List.getElem?_cons_zero, Option.some.injEq, Prod.mk.injEq] at heq
    exact absurd heq.1 h2
  · rfl
theorem stw_9_3 {a0 a1 a2 a3 a4 a5 a6 a7 a8 v : AV} (h : (a2.1 == 1) = false) (hv : (v.1 == 1) = true) : stl [a0, a1, a2, a3, a4, a5, a6, a7, a8] 3 v = [a0, a1, a2, v, (9, 0), a5, a6, a7, a8] := by
  have hv2 : v.1 = 1 := by simpa using hv
  obtain ⟨t, z⟩ := a2
  have h2 : ¬ t = 1 := by simpa using h
  unfold stl
  dsimp only
  rw [if_pos hv2]
  split
  · rename_i heq
    simp only [List.getElem?_cons_succ, List.getElem?_cons_zero, Option.some.injEq, Prod.mk.injEq] at heq
    exact absurd heq.1 h2
  · rfl
theorem stl_9_4 {a0 a1 a2 a3 a4 a5 a6 a7 a8 v : AV} (h : (a3.1 == 1) = false) (hv : (v.1 == 1) = false) : stl [a0, a1, a2, a3, a4, a5, a6, a7, a8] 4 v = [a0, a1, a2, a3, v, a5, a6, a7, a8] := by
  have hv2 : ¬ v.1 = 1 := by simpa using hv
  obtain ⟨t, z⟩ := a3
  have h2 : ¬ t = 1 := by simpa using h
  unfold stl
  dsimp only
  rw [if_neg hv2]
  split
  · rename_i heq
    simp only [List.getElem?_cons_succ, List.getElem?_cons_zero, Option.some.injEq, Prod.mk.injEq] at heq
    exact absurd heq.1 h2
  · rfl
theorem stw_9_4 {a0 a1 a2 a3 a4 a5 a6 a7 a8 v : AV} (h : (a3.1 == 1) = false) (hv : (v.1 == 1) = true) : stl [a0, a1, a2, a3, a4, a5, a6, a7, a8] 4 v = [a0, a1, a2, a3, v, (9, 0), a6, a7, a8] := by
  have hv2 : v.1 = 1 := by simpa using hv
  obtain ⟨t, z⟩ := a3
  have h2 : ¬ t = 1 := by simpa using h
  unfold stl
  dsimp only
  rw [if_pos hv2]
  split
  · rename_i heq
    simp only [List.getElem?_cons_succ, List.getElem?_cons_zero, Option.some.injEq, Prod.mk.injEq] at heq
    exact absurd heq.1 h2
  · rfl
theorem stl_9_5 {a0 a1 a2 a3 a4 a5 a6 a7 a8 v : AV} (h : (a4.1 == 1) = false) (hv : (v.1 == 1) = false) : stl [a0, a1, a2, a3, a4, a5, a6, a7, a8] 5 v = [a0, a1, a2, a3, a4, v, a6, a7, a8] := by
  have hv2 : ¬ v.1 = 1 := by simpa using hv
  obtain ⟨t, z⟩ := a4
  have h2 : ¬ t = 1 := by simpa using h
  unfold stl
  dsimp only
  rw [if_neg hv2]
  split
  · rename_i heq
    simp only [List.getElem?_cons_succ, List.getElem?_cons_zero, Option.some.injEq, Prod.mk.injEq] at heq
    exact absurd heq.1 h2
  · rfl
theorem stw_9_5 {a0 a1 a2 a3 a4 a5 a6 a7 a8 v : AV} (h : (a4.1 == 1) = false) (hv : (v.1 == 1) = true) : stl [a0, a1, a2, a3, a4, a5, a6, a7, a8] 5 v = [a0, a1, a2, a3, a4, v, (9, 0), a7, a8] := by
  have hv2 : v.1 = 1 := by simpa using hv
  obtain ⟨t, z⟩ := a4
  have h2 : ¬ t = 1 := by simpa using h
  unfold stl
  dsimp only
  rw [if_pos hv2]
  split
  · rename_i heq
    simp only [List.getElem?_cons_succ, List.getElem?_cons_zero, Option.some.injEq, Prod.mk.injEq] at heq
    exact absurd heq.1 h2
  · rfl
theorem stl_9_6 {a0 a1 a2 a3 a4 a5 a6 a7 a8 v : AV} (h : (a5.1 == 1) = false) (hv : (v.1 == 1) = false) : stl [a0, a1, a2, a3, a4, a5, a6, a7, a8] 6 v = [a0, a1, a2, a3, a4, a5, v, a7, a8] := by
  have hv2 : ¬ v.1 = 1 := by simpa using hv
  obtain ⟨t, z⟩ := a5
  have h2 : ¬ t = 1 := by simpa using h
  unfold stl
  dsimp only
  rw [if_neg hv2]
  split
  · rename_i heq
    simp only [List.getElem?_cons_succ, List.getElem?_cons_zero, Option.some.injEq, Prod.mk.injEq] at heq
    exact absurd heq.1 h2
  · rfl
theorem stw_9_6 {a0 a1 a2 a3 a4 a5 a6 a7 a8 v : AV} (h : (a5.1 == 1) = false) (hv : (v.1 == 1) = true) : stl [a0, a1, a2, a3, a4, a5, a6, a7, a8] 6 v = [a0, a1, a2, a3, a4, a5, v, (9, 0), a8] := by
  have hv2 : v.1 = 1 := by simpa using hv
  obtain ⟨t, z⟩ := a5
  have h2 : ¬ t = 1 := by simpa using h
  unfold stl
  dsimp only
  rw [if_pos hv2]
  split
  · rename_i heq
    simp only [List.getElem?_cons_succ, List.getElem?_cons_zero, Option.some.injEq, Prod.mk.injEq] at heq
    exact absurd heq.1 h2
  · rfl
theorem stl_9_7 {a0 a1 a2 a3 a4 a5 a6 a7 a8 v : AV} (h : (a6.1 == 1) = false) (hv : (v.1 == 1) = false) : stl [a0, a1, a2, a3, a4, a5, a6, a7, a8] 7 v = [a0, a1, a2, a3, a4, a5, a6, v, a8] := by
  have hv2 : ¬ v.1 = 1 := by simpa using hv
  obtain ⟨t, z⟩ := a6
  have h2 : ¬ t = 1 := by simpa using h
  unfold stl
  dsimp only
  rw [if_neg hv2]
  split
  · rename_i heq
    simp only [List.getElem?_cons_succ, List.getElem?_cons_zero, Option.some.injEq, Prod.mk.injEq] at heq
    exact absurd heq.1 h2
  · rfl
theorem stw_9_7 {a0 a1 a2 a3 a4 a5 a6 a7 a8 v : AV} (h : (a6.1 == 1) = false) (hv : (v.1 == 1) = true) : stl [a0, a1, a2, a3, a4, a5, a6, a7, a8] 7 v = [a0, a1, a2, a3, a4, a5, a6, v, (9, 0)] := by
  have hv2 : v.1 = 1 := by simpa using hv
  obtain ⟨t, z⟩ := a6
  have h2 : ¬ t = 1 := by simpa using h
  unfold stl
  dsimp only
  rw [if_pos hv2]
  split
  · rename_i heq
    simp only [List.getElem?_cons_succ, List.getElem?_cons_zero, Option.some.injEq, Prod.mk.injEq] at heq
    exact absurd heq.1 h2
  · rfl
theorem stl_9_8 {a0 a1 a2 a3 a4 a5 a6 a7 a8 v : AV} (h : (a7.1 == 1) = false) (hv : (v.1 == 1) = false) : stl [a0, a1, a2, a3, a4, a5, a6, a7, a8] 8 v = [a0, a1, a2, a3, a4, a5, a6, a7, v] := by
  have hv2 : ¬ v.1 = 1 := by simpa using hv
  obtain ⟨t, z⟩ := a7
  have h2 : ¬ t = 1 := by simpa using h
  unfold stl
  dsimp only
  rw [if_neg hv2]
  split
  · rename_i heq
    simp only [List.getElem?_cons_succ, List.getElem?_cons_zero, Option.some.injEq, Prod.mk.injEq] at heq
    exact absurd heq.1 h2
  · rfl
theorem stl_10_0 {a0 a1 a2 a3 a4 a5 a6 a7 a8 a9 v : AV} (hv : (v.1 == 1) = false) : stl [a0, a1, a2, a3, a4, a5, a6, a7, a8, a9] 0 v = [v, a1, a2, a3, a4, a5, a6, a7, a8, a9] := by
  have hv2 : ¬ v.1 = 1 := by simpa using hv
  unfold stl
  dsimp only
  rw [if_neg hv2]
  rfl
theorem stw_10_0 {a0 a1 a2 a3 a4 a5 a6 a7 a8 a9 v : AV} (hv : (v.1 == 1) = true) : stl [a0, a1, a2, a3, a4, a5, a6, a7, a8, a9] 0 v = [v, (9, 0), a2, a3, a4, a5, a6, a7, a8, a9] := by
  have hv2 : v.1 = 1 := by simpa using hv
  unfold stl
  dsimp only
  rw [if_pos hv2]
  rfl
theorem stl_10_1 {a0 a1 a2 a3 a4 a5 a6 a7 a8 a9 v : AV} (h : (a0.1 == 1) = false) (hv : (v.1 == 1) = false) : stl [a0, a1, a2, a3, a4, a5, a6, a7, a8, a9] 1 v = [a0, v, a2, a3, a4, a5, a6, a7, a8, a9] := by
  have hv2 : ¬ v.1 = 1 := by simpa using hv
  obtain ⟨t, z⟩ := a0
  have h2 : ¬ t = 1 := by simpa using h
  unfold stl
  dsimp only
  rw [if_neg hv2]
  split
  · rename_i heq
    simp only [List.getElem?_cons_succ, List.getElem?_cons_zero, Option.some.injEq, Prod.mk.injEq] at heq
    exact absurd heq.1 h2
  · rfl
theorem stw_10_1 {a0 a1 a2 a3 a4 a5 a6 a7 a8 a9 v : AV} (h : (a0.1 == 1) = false) (hv : (v.1 == 1) = true) : stl [a0, a1, a2, a3, a4, a5, a6, a7, a8, a9] 1 v = [a0, v, (9, 0), a3, a4, a5, a6, a7, a8, a9] := by
  have hv2 : v.1 = 1 := by simpa using hv
  obtain ⟨t, z⟩ := a0
  have h2 : ¬ t = 1 := by simpa using h
  unfold stl
  dsimp only
  rw [if_pos hv2]
  split
  · rename_i heq
    simp only [List.getElem?_cons_succ, List.getElem?_cons_zero, Option.some.injEq, Prod.mk.injEq] at heq
    exact absurd heq.1 h2
  · rfl
theorem stl_10_2 {a0 a1 a2 a3 a4 a5 a6 a7 a8 a9 v : AV} (h : (a1.1 == 1) = false) (hv : (v.1 == 1) = false) : stl [a0, a1, a2, a3, a4, a5, a6, a7, a8, a9] 2 v = [a0, a1, v, a3, a4, a5, a6, a7, a8, a9] := by
  have hv2 : ¬ v.1 = 1 := by simpa using hv
  obtain ⟨t, z⟩ := a1
  have h2 : ¬ t = 1 := by simpa using h
  unfold stl
  dsimp only
  rw [if_neg hv2]
  split
  · rename_i heq
    simp only [List.getElem?_cons_succ, List.getElem?_cons_zero, Option.some.injEq, Prod.mk.injEq] at heq
    exact absurd heq.1 h2
  · rfl
theorem stw_10_2 {a0 a1 a2 a3 a4 a5 a6 a7 a8 a9 v : AV} (h : (a1.1 == 1) = false) (hv : (v.1 == 1) = true) : stl [a0, a1, a2, a3, a4, a5, a6, a7, a8, a9] 2 v = [a0, a1, v, (9, 0), a4, a5, a6, a7, a8, a9] := by
  have hv2 : v.1 = 1 := by simpa using hv
  obtain ⟨t, z⟩ := a1
  have h2 : ¬ t = 1 := by simpa using h
  unfold stl
  dsimp only
  rw [if_pos hv2]
  split
  · rename_i heq
    simp only [List.getElem?_cons_succ, List.getElem?_cons_zero, Option.some.injEq, Prod.mk.injEq] at heq
    exact absurd heq.1 h2
  · rfl
theorem stl_10_3 {a0 a1 a2 a3 a4 a5 a6 a7 a8 a9 v : AV} (h : (a2.1 == 1) = false) (hv : (v.1 == 1) = false) : stl [a0, a1, a2, a3, a4, a5, a6, a7, a8, a9] 3 v = [a0, a1, a2, v, a4, a5, a6, a7, a8, a9] := by
  have hv2 : ¬ v.1 = 1 := by simpa using hv
  obtain ⟨t, z⟩ := a2
  have h2 : ¬ t = 1 := by simpa using h
  unfold stl
  dsimp only
  rw [if_neg hv2]
  split
  · rename_i heq
    simp only [List.getElem?_cons_succ, List.getElem?_cons_zero, Option.some.injEq, Prod.mk.injEq] at heq
    exact absurd heq.1 h2
  · rfl
theorem stw_10_3 {a0 a1 a2 a3 a4 a5 a6 a7 a8 a9 v : AV} (h : (a2.1 == 1) = false) (hv : (v.1 == 1) = true) : stl [a0, a1, a2, a3, a4, a5, a6, a7, a8, a9] 3 v = [a0, a1, a2, v, (9, 0), a5, a6, a7, a8, a9] := by
  have hv2 : v.1 = 1 := by simpa using hv
  obtain ⟨t, z⟩ := a2
  have h2 : ¬ t = 1 := by simpa using h
  unfold stl
  dsimp only
  rw [if_pos hv2]
  split
  · rename_i heq
    simp only [List.getElem?_cons_succ, List.getElem?_cons_zero, Option.some.injEq, Prod.mk.injEq] at heq
    exact absurd heq.1 h2
  · rfl
theorem stl_10_4 {a0 a1 a2 a3 a4 a5 a6 a7 a8 a9 v : AV} (h : (a3.1 == 1) = false) (hv : (v.1 == 1) = false) : stl [a0, a1, a2, a3, a4, a5, a6, a7, a8, a9] 4 v = [a0, a1, a2, a3, v, a5, a6, a7, a8, a9] := by
  have hv2 : ¬ v.1 = 1 := by simpa using hv
  obtain ⟨t, z⟩ := a3
  have h2 : ¬ t = 1 := by simpa using h
  unfold stl
  dsimp only
  rw [if_neg hv2]
  split
  · rename_i heq
    simp only [List.getElem?_cons_succ, List.getElem?_cons_zero, Option.some.injEq, Prod.mk.injEq] at heq
    exact absurd heq.1 h2
  · rfl
theorem stw_10_4 {a0 a1 a2 a3 a4 a5 a6 a7 a8 a9 v : AV} (h : (a3.1 == 1) = false) (hv : (v.1 == 1) = true) : stl [a0, a1, a2, a3, a4, a5, a6, a7, a8, a9] 4 v = [a0, a1, a2, a3, v, (9, 0), a6, a7, a8, a9] := by
  have hv2 : v.1 = 1 := by simpa using hv
  obtain ⟨t, z⟩ := a3
  have h2 : ¬ t = 1 := by simpa using h
  unfold stl
  dsimp only
  rw [if_pos hv2]
  split
  · rename_i heq
    simp only [List.getElem?_cons_succ, List.getElem?_cons_zero, Option.some.injEq, Prod.mk.injEq] at heq
    exact absurd heq.1 h2
  · rfl
theorem stl_10_5 {a0 a1 a2 a3 a4 a5 a6 a7 a8 a9 v : AV} (h : (a4.1 == 1) = false) (hv : (v.1 == 1) = false) : stl [a0, a1, a2, a3, a4, a5, a6, a7, a8, a9] 5 v = [a0, a1, a2, a3, a4, v, a6, a7, a8, a9] := by
  have hv2 : ¬ v.1 = 1 := by simpa using hv
  obtain ⟨t, z⟩ := a4
  have h2 : ¬ t = 1 := by simpa using h
  unfold stl
  dsimp only
  rw [if_neg hv2]
  split
  · rename_i heq
    simp only [List.getElem?_cons_succ, List.getElem?_cons_zero, Option.some.injEq, Prod.mk.injEq] at heq
    exact absurd heq.1 h2
  · rfl
theorem stw_10_5 {a0 a1 a2 a3 a4 a5 a6 a7 a8 a9 v : AV} (h : (a4.1 == 1) = false) (hv : (v.1 == 1) = true) : stl [a0, a1, a2, a3, a4, a5, a6, a7, a8, a9] 5 v = [a0, a1, a2, a3, a4, v, (9, 0), a7, a8, a9] := by
  have hv2 : v.1 = 1 := by simpa using hv
  obtain ⟨t, z⟩ := a4
  have h2 : ¬ t = 1 := by simpa using h
  unfold stl
  dsimp only
  rw [if_pos hv2]
  split
  · rename_i heq
    simp only [List.getElem?_cons_succ, List.getElem?_cons_zero, Option.some.injEq, Prod.mk.injEq] at heq
    exact absurd heq.1 h2
  · rfl
theorem stl_10_6 {a0 a1 a2 a3 a4 a5 a6 a7 a8 a9 v : AV} (h : (a5.1 == 1) = false) (hv : (v.1 == 1) = false) : stl [a0, a1, a2, a3, a4, a5, a6, a7, a8, a9] 6 v = [a0, a1, a2, a3, a4, a5, v, a7, a8, a9] := by
  have hv2 : ¬ v.1 = 1 := by simpa using hv
  obtain ⟨t, z⟩ := a5
  have h2 : ¬ t = 1 := by simpa using h
  unfold stl
  dsimp only
  rw [if_neg hv2]
  split
  · rename_i heq
    simp only [List.getElem?_cons_succ, List.getElem?_cons_zero, Option.some.injEq, Prod.mk.injEq] at heq
    exact absurd heq.1 h2
  · rfl
theorem stw_10_6 {a0 a1 a2 a3 a4 a5 a6 a7 a8 a9 v : AV} (h : (a5.1 == 1) = false) (hv : (v.1 == 1) = true) : stl [a0, a1, a2, a3, a4, a5, a6, a7, a8, a9] 6 v = [a0, a1, a2, a3, a4, a5, v, (9, 0), a8, a9] := by
  have hv2 : v.1 = 1 := by simpa using hv
  obtain ⟨t, z⟩ := a5
  have h2 : ¬ t = 1 := by simpa using h
  unfold stl
  dsimp only
  rw [if_pos hv2]
  split
  · rename_i heq
    simp only [List.getElem?_cons_succ, List.getElem?_cons_zero, Option.some.injEq, Prod.mk.injEq] at heq
    exact absurd heq.1 h2
  · rfl
theorem stl_10_7 {a0 a1 a2 a3 a4 a5 a6 a7 a8 a9 v : AV} (h : (a6.1 == 1) = false) (hv : (v.1 == 1) = false) : stl [a0, a1, a2, a3, a4, a5, a6, a7, a8, a9] 7 v = [a0, a1, a2, a3, a4, a5, a6, v, a8, a9] := by
  have hv2 : ¬ v.1 = 1 := by simpa using hv
  obtain ⟨t, z⟩ := a6
  have h2 : ¬ t = 1 := by simpa using h
  unfold stl
  dsimp only
  rw [if_neg hv2]
  split
  · rename_i heq
    simp only [List.getElem?_cons_succ, List.getElem?_cons_zero, Option.some.injEq, Prod.mk.injEq] at heq
    exact absurd heq.1 h2
  · rfl
theorem stw_10_7 {a0 a1 a2 a3 a4 a5 a6 a7 a8 a9 v : AV} (h : (a6.1 == 1) = false) (hv : (v.1 == 1) = true) : stl [a0, a1, a2, a3, a4, a5, a6, a7, a8, a9] 7 v = [a0, a1, a2, a3, a4, a5, a6, v, (9, 0), a9] := by
  have hv2 : v.1 = 1 := by simpa using hv
  obtain ⟨t, z⟩ := a6
  have h2 : ¬ t = 1 := by simpa using h
  unfold stl
  dsimp only
  rw [if_pos hv2]
  split
  · rename_i heq
    simp only [List.getElem?_cons_succ, List.getElem?_cons_zero, Option.some.injEq, Prod.mk.injEq] at heq
    exact absurd heq.1 h2
  · rfl
theorem stl_10_8 {a0 a1 a2 a3 a4 a5 a6 a7 a8 a9 v : AV} (h : (a7.1 == 1) = false) (hv : (v.1 == 1) = false) : stl [a0, a1, a2, a3, a4, a5, a6, a7, a8, a9] 8 v = [a0, a1, a2, a3, a4, a5, a6, a7, v, a9] := by
  have hv2 : ¬ v.1 = 1 := by simpa using hv
  obtain ⟨t, z⟩ := a7
  have h2 : ¬ t = 1 := by simpa using h
  unfold stl
  dsimp only
  rw [if_neg hv2]
  split
  · rename_i heq
    simp only [List.getElem?_cons_succ, List.getElem?_cons_zero, Option.some.injEq, Prod.mk.injEq] at heq
    exact absurd heq.1 h2
  · rfl
theorem stw_10_8 {a0 a1 a2 a3 a4 a5 a6 a7 a8 a9 v : AV} (h : (a7.1 == 1) = false) (hv : (v.1 == 1) = true) : stl [a0, a1, a2, a3, a4, a5, a6, a7, a8, a9] 8 v = [a0, a1, a2, a3, a4, a5, a6, a7, v, (9, 0)] := by
  have hv2 : v.1 = 1 := by simpa using hv
  obtain ⟨t, z⟩ := a7
  have h2 : ¬ t = 1 := by simpa using h
  unfold stl
  dsimp only
  rw [if_pos hv2]
  split
  · rename_i heq
    simp only [List.getElem?_cons_succ, List.getElem?_cons_zero, Option.some.injEq, Prod.mk.injEq] at heq
    exact absurd heq.1 h2
  · rfl
theorem stl_10_9 {a0 a1 a2 a3 a4 a5 a6 a7 a8 a9 v : AV} (h : (a8.1 == 1) = false) (hv : (v.1 == 1) = false) : stl [a0, a1, a2, a3, a4, a5, a6, a7, a8, a9] 9 v = [a0, a1, a2, a3, a4, a5, a6, a7, a8, v] := by
  have hv2 : ¬ v.1 = 1 := by simpa using hv
  obtain ⟨t, z⟩ := a8
  have h2 : ¬ t = 1 := by simpa using h
  unfold stl
  dsimp only
  rw [if_neg hv2]
  split
  · rename_i heq
    simp only [List.getElem?_cons_succ, List.getElem?_cons_zero, Option.some.injEq, Prod.mk.injEq] at heq
    exact absurd heq.1 h2
  · rfl
theorem stl_11_0 {a0 a1 a2 a3 a4 a5 a6 a7 a8 a9 a10 v : AV} (hv : (v.1 == 1) = false) : stl [a0, a1, a2, a3, a4, a5, a6, a7, a8, a9, a10] 0 v = [v, a1, a2, a3, a4, a5, a6, a7, a8, a9, a10] := by
  have hv2 : ¬ v.1 = 1 := by simpa using hv
  unfold stl
  dsimp only
  rw [if_neg hv2]
  rfl
theorem stw_11_0 {a0 a1 a2 a3 a4 a5 a6 a7 a8 a9 a10 v : AV} (hv : (v.1 == 1) = true) : stl [a0, a1, a2, a3, a4, a5, a6, a7, a8, a9, a10] 0 v = [v, (9, 0), a2, a3, a4, a5, a6, a7, a8, a9, a10] := by
  have hv2 : v.1 = 1 := by simpa using hv
  unfold stl
  dsimp only
  rw [if_pos hv2]
  rfl
theorem stl_11_1 {a0 a1 a2 a3 a4 a5 a6 a7 a8 a9 a10 v : AV} (h : (a0.1 == 1) = false) (hv : (v.1 == 1) = false) : stl [a0, a1, a2, a3, a4, a5, a6, a7, a8, a9, a10] 1 v = [a0, v, a2, a3, a4, a5, a6, a7, a8, a9, a10] := by
  have hv2 : ¬ v.1 = 1 := by simpa using hv
  obtain ⟨t, z⟩ := a0
  have h2 : ¬ t = 1 := by simpa using h
  unfold stl
  dsimp only
  rw [if_neg hv2]
  split
  · rename_i heq
    simp only [List.getElem?_cons_succ, List.getElem?_cons_zero, Option.some.injEq, Prod.mk.injEq] at heq
    exact absurd heq.1 h2
  · rfl
theorem stw_11_1 {a0 a1 a2 a3 a4 a5 a6 a7 a8 a9 a10 v : AV} (h : (a0.1 == 1) = false) (hv : (v.1 == 1) = true) : stl [a0, a1, a2, a3, a4, a5, a6, a7, a8, a9, a10] 1 v = [a0, v, (9, 0), a3, a4, a5, a6, a7, a8, a9, a10] := by
  have hv2 : v.1 = 1 := by simpa using hv
  obtain ⟨t, z⟩ := a0
  have h2 : ¬ t = 1 := by simpa using h
  unfold stl
  dsimp only
  rw [if_pos hv2]
  split
  · rename_i heq
    simp only [List.getElem?_cons_succ, List.getElem?_cons_zero, Option.some.injEq, Prod.mk.injEq] at heq
    exact absurd heq.1 h2
  · rfl
theorem stl_11_2 {a0 a1 a2 a3 a4 a5 a6 a7 a8 a9 a10 v : AV} (h : (a1.1 == 1) = false) (hv : (v.1 == 1) = false) : stl [a0, a1, a2, a3, a4, a5, a6, a7, a8, a9, a10] 2 v = [a0, a1, v, a3, a4, a5, a6, a7, a8, a9, a10] := by
  have hv2 : ¬ v.1 = 1 := by simpa using hv
  obtain ⟨t, z⟩ := a1
  have h2 : ¬ t = 1 := by simpa using h
  unfold stl
  dsimp only
  rw [if_neg hv2]
  split
  · rename_i heq
    simp only [List.getElem?_cons_succ, List.getElem?_cons_zero, Option.some.injEq, Prod.mk.injEq] at heq
    exact absurd heq.1 h2
  · rfl
theorem stw_11_2 {a0 a1 a2 a3 a4 a5 a6 a7 a8 a9 a10 v : AV} (h : (a1.1 == 1) = false) (hv : (v.1 == 1) = true) : stl [a0, a1, a2, a3, a4, a5, a6, a7, a8, a9, a10] 2 v = [a0, a1, v, (9, 0), a4, a5, a6, a7, a8, a9, a10] := by
  have hv2 : v.1 = 1 := by simpa using hv
  obtain ⟨t, z⟩ := a1
  have h2 : ¬ t = 1 := by simpa using h
  unfold stl
  dsimp only
  rw [if_pos hv2]
  split
  · rename_i heq
    simp only [List.getElem?_cons_succ, List.getElem?_cons_zero, Option.some.injEq, Prod.mk.injEq] at heq
    exact absurd heq.1 h2
  · rfl
theorem stl_11_3 {a0 a1 a2 a3 a4 a5 a6 a7 a8 a9 a10 v : AV} (h : (a2.1 == 1) = false) (hv : (v.1 == 1) = false) : stl [a0, a1, a2, a3, a4, a5, a6, a7, a8, a9, a10] 3 v = [a0, a1, a2, v, a4, a5, a6, a7, a8, a9, a10] := by
  have hv2 : ¬ v.1 = 1 := by simpa using hv
  obtain ⟨t, z⟩ := a2
  have h2 : ¬ t = 1 := by simpa using h
  unfold stl
  dsimp only
  rw [if_neg hv2]
  split
  · rename_i heq
    simp only [List.getElem?_cons_succ, List.getElem?_cons_zero, Option.some.injEq, Prod.mk.injEq] at heq
    exact absurd heq.1 h2
  · rfl
theorem stw_11_3 {a0 a1 a2 a3 a4 a5 a6 a7 a8 a9 a10 v : AV} (h : (a2.1 == 1) = false) (hv : (v.1 == 1) = true) : stl [a0, a1, a2, a3, a4, a5, a6, a7, a8, a9, a10] 3 v = [a0, a1, a2, v, (9, 0), a5, a6, a7, a8, a9, a10] := by
  have hv2 : v.1 = 1 := by simpa using hv
  obtain ⟨t, z⟩ := a2
  have h2 : ¬ t = 1 := by simpa using h
  unfold stl
  dsimp only
  rw [if_pos hv2]
  split
  · rename_i heq
    simp only [List.getElem?_cons_succ, List.getElem?_cons_zero, Option.some.injEq, Prod.mk.injEq] at heq
    exact absurd heq.1 h2
  · rfl
theorem stl_11_4 {a0 a1 a2 a3 a4 a5 a6 a7 a8 a9 a10 v : AV} (h : (a3.1 == 1) = false) (hv : (v.1 == 1) = false) : stl [a0, a1, a2, a3, a4, a5, a6, a7, a8, a9, a10] 4 v = [a0, a1, a2, a3, v, a5, a6, a7, a8, a9, a10] := by
  have hv2 : ¬ v.1 = 1 := by simpa using hv
  obtain ⟨t, z⟩ := a3
  have h2 : ¬ t = 1 := by simpa using h
  unfold stl
  dsimp only
  rw [if_neg hv2]
  split
  · rename_i heq
    simp only [List.getElem?_cons_succ, List.getElem?_cons_zero, Option.some.injEq, Prod.mk.injEq] at heq
    exact absurd heq.1 h2
  · rfl
theorem stw_11_4 {a0 a1 a2 a3 a4 a5 a6 a7 a8 a9 a10 v : AV} (h : (a3.1 == 1) = false) (hv : (v.1 == 1) = true) : stl [a0, a1, a2, a3, a4, a5, a6, a7, a8, a9, a10] 4 v = [a0, a1, a2, a3, v, (9, 0), a6, a7, a8, a9, a10] := by
  have hv2 : v.1 = 1 := by simpa using hv
  obtain ⟨t, z⟩ := a3
  have h2 : ¬ t = 1 := by simpa using h
  unfold stl
  dsimp only
  rw [if_pos hv2]
  split
  · rename_i heq
    simp only [List.getElem?_cons_succ, List.getElem?_cons_zero, Option.some.injEq, Prod.mk.injEq] at heq
    exact absurd heq.1 h2
  · rfl
theorem stl_11_5 {a0 a1 a2 a3 a4 a5 a6 a7 a8 a9 a10 v : AV} (h : (a4.1 == 1) = false) (hv : (v.1 == 1) = false) : stl [a0, a1, a2, a3, a4, a5, a6, a7, a8, a9, a10] 5 v = [a0, a1, a2, a3, a4, v, a6, a7, a8, a9, a10] := by
  have hv2 : ¬ v.1 = 1 := by simpa using hv
  obtain ⟨t, z⟩ := a4
  have h2 : ¬ t = 1 := by simpa using h
  unfold stl
  dsimp only
  rw [if_neg hv2]
  split
  · rename_i heq
    simp only [List.getElem?_cons_succ, List.getElem?_cons_zero, Option.some.injEq, Prod.mk.injEq] at heq
    exact absurd heq.1 h2
  · rfl
theorem stw_11_5 {a0 a1 a2 a3 a4 a5 a6 a7 a8 a9 a10 v : AV} (h : (a4.1 == 1) = false) (hv : (v.1 == 1) = true) : stl [a0, a1, a2, a3, a4, a5, a6, a7, a8, a9, a10] 5 v = [a0, a1, a2, a3, a4, v, (9, 0), a7, a8, a9, a10] := by
  have hv2 : v.1 = 1 := by simpa using hv
  obtain ⟨t, z⟩ := a4
  have h2 : ¬ t = 1 := by simpa using h
  unfold stl
  dsimp only
  rw [if_pos hv2]
  split
  · rename_i heq
    simp only [List.getElem?_cons_succ, List.getElem?_cons_zero, Option.some.injEq, Prod.mk.injEq] at heq
    exact absurd heq.1 h2
  · rfl
theorem stl_11_6 {a0 a1 a2 a3 a4 a5 a6 a7 a8 a9 a10 v : AV} (h : (a5.1 == 1) = false) (hv : (v.1 == 1) = false) : stl [a0, a1, a2, a3, a4, a5, a6, a7, a8, a9, a10] 6 v = [a0, a1, a2, a3, a4, a5, v, a7, a8, a9, a10] := by
  have hv2 : ¬ v.1 = 1 := by simpa using hv
  obtain ⟨t, z⟩ := a5
  have h2 : ¬ t = 1 := by simpa using h
  unfold stl
  dsimp only
  rw [if_neg hv2]
  split
  · rename_i heq
    simp only [List.getElem?_cons_succ, List.getElem?_cons_zero, Option.some.injEq, Prod.mk.injEq] at heq
    exact absurd heq.1 h2
  · rfl
theorem stw_11_6 {a0 a1 a2 a3 a4 a5 a6 a7 a8 a9 a10 v : AV} (h : (a5.1 == 1) = false) (hv : (v.1 == 1) = true) : stl [a0, a1, a2, a3, a4, a5, a6, a7, a8, a9, a10] 6 v = [a0, a1, a2, a3, a4, a5, v, (9, 0), a8, a9, a10] := by
  have hv2 : v.1 = 1 := by simpa using hv
  obtain ⟨t, z⟩ := a5
  have h2 : ¬ t = 1 := by simpa using h
  unfold stl
  dsimp only
  rw [if_pos hv2]
  split
  · rename_i heq
    simp only [List.getElem?_cons_succ, List.getElem?_cons_zero, Option.some.injEq, Prod.mk.injEq] at heq
    exact absurd heq.1 h2
  · rfl
theorem stl_11_7 {a0 a1 a2 a3 a4 a5 a6 a7 a8 a9 a10 v : AV} (h : (a6.1 == 1) = false) (hv : (v.1 == 1) = false) : stl [a0, a1, a2, a3, a4, a5, a6, a7, a8, a9, a10] 7 v = [a0, a1, a2, a3, a4, a5, a6, v, a8, a9, a10] := by
  have hv2 : ¬ v.1 = 1 := by simpa using hv
  obtain ⟨t, z⟩ := a6
  have h2 : ¬ t = 1 := by simpa using h
  unfold stl
  dsimp only
  rw [if_neg hv2]
  split
  · rename_i heq
    simp only [List.getElem?_cons_succ, List.getElem?_cons_zero, Option.some.injEq, Prod.mk.injEq] at heq
    exact absurd heq.1 h2
  · rfl
theorem stw_11_7 {a0 a1 a2 a3 a4 a5 a6 a7 a8 a9 a10 v : AV} (h : (a6.1 == 1) = false) (hv : (v.1 == 1) = true) : stl [a0, a1, a2, a3, a4, a5, a6, a7, a8, a9, a10] 7 v = [a0, a1, a2, a3, a4, a5, a6, v, (9, 0), a9, a10] := by
  have hv2 : v.1 = 1 := by simpa using hv
  obtain ⟨t, z⟩ := a6
  have h2 : ¬ t = 1 := by simpa using h
  unfold stl
  dsimp only
  rw [if_pos hv2]
  split
  · rename_i heq
    simp only [List.getElem?_cons_succ, List.getElem?_cons_zero, Option.some.injEq, Prod.mk.injEq] at heq
    exact absurd heq.1 h2
  · rfl
theorem stl_11_8 {a0 a1 a2 a3 a4 a5 a6 a7 a8 a9 a10 v : AV} (h : (a7.1 == 1) = false) (hv : (v.1 == 1) = false) : stl [a0, a1, a2, a3, a4, a5, a6, a7, a8, a9, a10] 8 v = [a0, a1, a2, a3, a4, a5, a6, a7, v, a9, a10] := by
  have hv2 : ¬ v.1 = 1 := by simpa using hv
  obtain ⟨t, z⟩ := a7
  have h2 : ¬ t = 1 := by simpa using h
  unfold stl
  dsimp only
  rw [if_neg hv2]
  split
  · rename_i heq
    simp only [List.getElem?_cons_succ, List.getElem?_cons_zero, Option.some.injEq, Prod.mk.injEq] at heq
    exact absurd heq.1 h2
  · rfl
theorem stw_11_8 {a0 a1 a2 a3 a4 a5 a6 a7 a8 a9 a10 v : AV} (h : (a7.1 == 1) = false) (hv : (v.1 == 1) = true) : stl [a0, a1, a2, a3, a4, a5, a6, a7, a8, a9, a10] 8 v = [a0, a1, a2, a3, a4, a5, a6, a7, v, (9, 0), a10] := by
  have hv2 : v.1 = 1 := by simpa using hv
  obtain ⟨t, z⟩ := a7
  have h2 : ¬ t = 1 := by simpa using h
  unfold stl
  dsimp only
  rw [if_pos hv2]
  split
  · rename_i heq
    simp only [List.getElem?_cons_succ, List.getElem?_cons_zero, Option.some.injEq, Prod.mk.injEq] at heq
    exact absurd heq.1 h2
  · rfl
theorem stl_11_9 {a0 a1 a2 a3 a4 a5 a6 a7 a8 a9 a10 v : AV} (h : (a8.1 == 1) = false) (hv : (v.1 == 1) = false) : stl [a0, a1, a2, a3, a4, a5, a6, a7, a8, a9, a10] 9 v = [a0, a1, a2, a3, a4, a5, a6, a7, a8, v, a10] := by
  have hv2 : ¬ v.1 = 1 := by simpa using hv
  obtain ⟨t, z⟩ := a8
  have h2 : ¬ t = 1 := by simpa using h
  unfold stl
  dsimp only
  rw [if_neg hv2]
  split
  · rename_i heq
    simp only [List.getElem?_cons_succ, List.getElem?_cons_zero, Option.some.injEq, Prod.mk.injEq] at heq
    exact absurd heq.1 h2
  · rfl
theorem stw_11_9 {a0 a1 a2 a3 a4 a5 a6 a7 a8 a9 a10 v : AV} (h : (a8.1 == 1) = false) (hv : (v.1 == 1) = true) : stl [a0, a1, a2, a3, a4, a5, a6, a7, a8, a9, a10] 9 v = [a0, a1, a2, a3, a4, a5, a6, a7, a8, v, (9, 0)] := by
  have hv2 : v.1 = 1 := by simpa using hv
  obtain ⟨t, z⟩ := a8
  have h2 : ¬ t = 1 := by simpa using h
  unfold stl
  dsimp only
  rw [if_pos hv2]
  split
  · rename_i heq
    simp only [List.getElem?_cons_succ, List.getElem?_cons_zero, Option.some.injEq, Prod.mk.injEq] at heq
    exact absurd heq.1 h2
  · rfl
theorem stl_11_10 {a0 a1 a2 a3 a4 a5 a6 a7 a8 a9 a10 v : AV} (h : (a9.1 == 1) = false) (hv : (v.1 == 1) = false) : stl [a0, a1, a2, a3, a4, a5, a6, a7, a8, a9, a10] 10 v = [a0, a1, a2, a3, a4, a5, a6, a7, a8, a9, v] := by
  have hv2 : ¬ v.1 = 1 := by simpa using hv
  obtain ⟨t, z⟩ := a9
  have h2 : ¬ t = 1 := by simpa using h
  unfold stl
  dsimp only
  rw [if_neg hv2]
  split
  · rename_i heq
    simp only [List.getElem?_cons_succ, List.getElem?_cons_zero, Option.some.injEq, Prod.mk.injEq] at heq
    exact absurd heq.1 h2
  · rfl
theorem stl_12_0 {a0 a1 a2 a3 a4 a5 a6 a7 a8 a9 a10 a11 v : AV} (hv : (v.1 == 1) = false) : stl [a0, a1, a2, a3, a4, a5, a6, a7, a8, a9, a10, a11] 0 v = [v, a1, a2, a3, a4, a5, a6, a7, a8, a9, a10, a11] := by
  have hv2 : ¬ v.1 = 1 := by simpa using hv
  unfold stl
  dsimp only
  rw [if_neg hv2]
  rfl
theorem stw_12_0 {a0 a1 a2 a3 a4 a5 a6 a7 a8 a9 a10 a11 v : AV} (hv : (v.1 == 1) = true) : stl [a0, a1, a2, a3, a4, a5, a6, a7, a8, a9, a10, a11] 0 v = [v, (9, 0), a2, a3, a4, a5, a6, a7, a8, a9, a10, a11] := by
  have hv2 : v.1 = 1 := by simpa using hv
  unfold stl
  dsimp only
  rw [if_pos hv2]
  rfl
theorem stl_12_1 {a0 a1 a2 a3 a4 a5 a6 a7 a8 a9 a10 a11 v : AV} (h : (a0.1 == 1) = false) (hv : (v.1 == 1) = false) : stl [a0, a1, a2, a3, a4, a5, a6, a7, a8, a9, a10, a11] 1 v = [a0, v, a2, a3, a4, a5, a6, a7, a8, a9, a10, a11] := by
  have hv2 : ¬ v.1 = 1 := by simpa using hv
  obtain ⟨t, z⟩ := a0
  have h2 : ¬ t = 1 := by simpa using h
  unfold stl
  dsimp only
  rw [if_neg hv2]
  split
  · rename_i heq
    simp only [List.getElem?_cons_succ, List.getElem?_cons_zero, Option.some.injEq, Prod.mk.injEq] at heq
    exact absurd heq.1 h2
  · rfl
theorem stw_12_1 {a0 a1 a2 a3 a4 a5 a6 a7 a8 a9 a10 a11 v : AV} (h : (a0.1 == 1) = false) (hv : (v.1 == 1) = true) : stl [a0, a1, a2, a3, a4, a5, a6, a7, a8, a9, a10, a11] 1 v = [a0, v, (9, 0), a3, a4, a5, a6, a7, a8, a9, a10, a11] := by
  have hv2 : v.1 = 1 := by simpa using hv
  obtain ⟨t, z⟩ := a0
  have h2 : ¬ t = 1 := by simpa using h
  unfold stl
  dsimp only
  rw [if_pos hv2]
  split
  · rename_i heq
    simp only [List.getElem?_cons_succ, List.getElem?_cons_zero, Option.some.injEq, Prod.mk.injEq] at heq
    exact absurd heq.1 h2
  · rfl
theorem stl_12_2 {a0 a1 a2 a3 a4 a5 a6 a7 a8 a9 a10 a11 v : AV} (h : (a1.1 == 1) = false) (hv : (v.1 == 1) = false) : stl [a0, a1, a2, a3, a4, a5, a6, a7, a8, a9, a10, a11] 2 v = [a0, a1, v, a3, a4, a5, a6, a7, a8, a9, a10, a11] := by
  have hv2 : ¬ v.1 = 1 := by simpa using hv
  obtain ⟨t, z⟩ := a1
  have h2 : ¬ t = 1 := by simpa using h
  unfold stl
  dsimp only
  rw [if_neg hv2]
  split
  · rename_i heq
    simp only [List.getElem?_cons_succ, List.getElem?_cons_zero, Option.some.injEq, Prod.mk.injEq] at heq
    exact absurd heq.1 h2
  · rfl
theorem stw_12_2 {a0 a1 a2 a3 a4 a5 a6 a7 a8 a9 a10 a11 v : AV} (h : (a1.1 == 1) = false) (hv : (v.1 == 1) = true) : stl [a0, a1, a2, a3, a4, a5, a6, a7, a8, a9, a10, a11] 2 v = [a0, a1, v, (9, 0), a4, a5, a6, a7, a8, a9, a10, a11] := by
  have hv2 : v.1 = 1 := by simpa using hv
  obtain ⟨t, z⟩ := a1
  have h2 : ¬ t = 1 := by simpa using h
  unfold stl
  dsimp only
  rw [if_pos hv2]
  split
  · rename_i heq
    simp only [List.getElem?_cons_succ, List.getElem?_cons_zero, Option.some.injEq, Prod.mk.injEq] at heq
    exact absurd heq.1 h2
  · rfl
theorem stl_12_3 {a0 a1 a2 a3 a4 a5 a6 a7 a8 a9 a10 a11 v : AV} (h : (a2.1 == 1) = false) (hv : (v.1 == 1) = false) : stl [a0, a1, a2, a3, a4, a5, a6, a7, a8, a9, a10, a11] 3 v = [a0, a1, a2, v, a4, a5, a6, a7, a8, a9, a10, a11] := by
  have hv2 : ¬ v.1 = 1 := by simpa using hv
  obtain ⟨t, z⟩ := a2
  have h2 : ¬ t = 1 := by simpa using h
  unfold stl
  dsimp only
  rw [if_neg hv2]
  split
  · rename_i heq
    simp only [List.getElem?_cons_succ, List.getElem?_cons_zero, Option.some.injEq, Prod.mk.injEq] at heq
    exact absurd heq.1 h2
  · rfl
theorem stw_12_3 {a0 a1 a2 a3 a4 a5 a6 a7 a8 a9 a10 a11 v : AV} (h : (a2.1 == 1) = false) (hv : (v.1 == 1) = true) : stl [a0, a1, a2, a3, a4, a5, a6, a7, a8, a9, a10, a11] 3 v = [a0, a1, a2, v, (9, 0), a5, a6, a7, a8, a9, a10, a11] := by
  have hv2 : v.1 = 1 := by simpa using hv
  obtain ⟨t, z⟩ := a2
  have h2 : ¬ t = 1 := by simpa using h
  unfold stl
  dsimp only
  rw [if_pos hv2]
  split
  · rename_i heq
    simp only [List.getElem?_cons_succ, List.getElem?_cons_zero, Option.some.injEq, Prod.mk.injEq] at heq
    exact absurd heq.1 h2
  · rfl
theorem stl_12_4 {a0 a1 a2 a3 a4 a5 a6 a7 a8 a9 a10 a11 v : AV} (h : (a3.1 == 1) = false) (hv : (v.1 == 1) = false) : stl [a0, a1, a2, a3, a4, a5, a6, a7, a8, a9, a10, a11] 4 v = [a0, a1, a2, a3, v, a5, a6, a7, a8, a9, a10, a11] := by
  have hv2 : ¬ v.1 = 1 := by simpa using hv
  obtain ⟨t, z⟩ := a3
  have h2 : ¬ t = 1 := by simpa using h
  unfold stl
  dsimp only
  rw [if_neg hv2]
  split
  · rename_i heq
    simp only [List.getElem?_cons_succ, List.getElem?_cons_zero, Option.some.injEq, Prod.mk.injEq] at heq
    exact absurd heq.1 h2
  · rfl
theorem stw_12_4 {a0 a1 a2 a3 a4 a5 a6 a7 a8 a9 a10 a11 v : AV} (h : (a3.1 == 1) = false) (hv : (v.1 == 1) = true) : stl [a0, a1, a2, a3, a4, a5, a6, a7, a8, a9, a10, a11] 4 v = [a0, a1, a2, a3, v, (9, 0), a6, a7, a8, a9, a10, a11] := by
  have hv2 : v.1 = 1 := by simpa using hv
  obtain ⟨t, z⟩ := a3
  have h2 : ¬ t = 1 := by simpa using h
  unfold stl
  dsimp only
  rw [if_pos hv2]
  split
  · rename_i heq
    simp only [List.getElem?_cons_succ, List.getElem?_cons_zero, Option.some.injEq, Prod.mk.injEq] at heq
    exact absurd heq.1 h2
  · rfl
theorem stl_12_5 {a0 a1 a2 a3 a4 a5 a6 a7 a8 a9 a10 a11 v : AV} (h : (a4.1 == 1) = false) (hv : (v.1 == 1) = false) : stl [a0, a1, a2, a3, a4, a5, a6, a7, a8, a9, a10, a11] 5 v = [a0, a1, a2, a3, a4, v, a6, a7, a8, a9, a10, a11] := by
  have hv2 : ¬ v.1 = 1 := by simpa using hv
  obtain ⟨t, z⟩ := a4
  have h2 : ¬ t = 1 := by simpa using h
  unfold stl
  dsimp only
  rw [if_neg hv2]
  split
  · rename_i heq
    simp only [List.getElem?_cons_succ, List.getElem?_cons_zero, Option.some.injEq, Prod.mk.injEq] at heq
    exact absurd heq.1 h2
  · rfl
theorem stw_12_5 {a0 a1 a2 a3 a4 a5 a6 a7 a8 a9 a10 a11 v : AV} (h : (a4.1 == 1) = false) (hv : (v.1 == 1) = true) : stl [a0, a1, a2, a3, a4, a5, a6, a7, a8, a9, a10, a11] 5 v = [a0, a1, a2, a3, a4, v, (9, 0), a7, a8, a9, a10, a11] := by
  have hv2 : v.1 = 1 := by simpa using hv
  obtain ⟨t, z⟩ := a4
  have h2 : ¬ t = 1 := by simpa using h
  unfold stl
  dsimp only
  rw [if_pos hv2]
  split
  · rename_i heq
    simp only [List.getElem?_cons_succ, List.getElem?_cons_zero, Option.some.injEq, Prod.mk.injEq] at heq
    exact absurd heq.1 h2
  · rfl
theorem stl_12_6 {a0 a1 a2 a3 a4 a5 a6 a7 a8 a9 a10 a11 v : AV} (h : (a5.1 == 1) = false) (hv : (v.1 == 1) = false) : stl [a0, a1, a2, a3, a4, a5, a6, a7, a8, a9, a10, a11] 6 v = [a0, a1, a2, a3, a4, a5, v, a7, a8, a9, a10, a11] := by
  have hv2 : ¬ v.1 = 1 := by simpa using hv
  obtain ⟨t, z⟩ := a5
  have h2 : ¬ t = 1 := by simpa using h
  unfold stl
  dsimp only
  rw [if_neg hv2]
  split
  · rename_i heq
    simp only [List.getElem?_cons_succ, List.getElem?_cons_zero, Option.some.injEq, Prod.mk.injEq] at heq
    exact absurd heq.1 h2
  · rfl
theorem stw_12_6 {a0 a1 a2 a3 a4 a5 a6 a7 a8 a9 a10 a11 v : AV} (h : (a5.1 == 1) = false) (hv : (v.1 == 1) = true) : stl [a0, a1, a2, a3, a4, a5, a6, a7, a8, a9, a10, a11] 6 v = [a0, a1, a2, a3, a4, a5, v, (9, 0), a8, a9, a10, a11] := by
  have hv2 : v.1 = 1 := by simpa using hv
  obtain ⟨t, z⟩ := a5
  have h2 : ¬ t = 1 := by simpa using h
  unfold stl
  dsimp only
  rw [if_pos hv2]
  split
  · rename_i heq
    simp only [List.getElem?_cons_succ, List.getElem?_cons_zero, Option.some.injEq, Prod.mk.injEq] at heq
    exact absurd heq.1 h2
  · rfl
theorem stl_12_7 {a0 a1 a2 a3 a4 a5 a6 a7 a8 a9 a10 a11 v : AV} (h : (a6.1 == 1) = false) (hv : (v.1 == 1) = false) : stl [a0, a1, a2, a3, a4, a5, a6, a7, a8, a9, a10, a11] 7 v = [a0, a1, a2, a3, a4, a5, a6, v, a8, a9, a10, a11] := by
  have hv2 : ¬ v.1 = 1 := by simpa using hv
  obtain ⟨t, z⟩ := a6
  have h2 : ¬ t = 1 := by simpa using h
  unfold stl
  dsimp only
  rw [if_neg hv2]
  split
  · rename_i heq
    simp only [List.getElem?_cons_succ, List.getElem?_cons_zero, Option.some.injEq, Prod.mk.injEq] at heq
    exact absurd heq.1 h2
  · rfl
theorem stw_12_7 {a0 a1 a2 a3 a4 a5 a6 a7 a8 a9 a10 a11 v : AV} (h : (a6.1 == 1) = false) (hv : (v.1 == 1) = true) : stl [a0, a1, a2, a3, a4, a5, a6, a7, a8, a9, a10, a11] 7 v = [a0, a1, a2, a3, a4, a5, a6, v, (9, 0), a9, a10, a11] := by
  have hv2 : v.1 = 1 := by simpa using hv
  obtain ⟨t, z⟩ := a6
  have h2 : ¬ t = 1 := by simpa using h
  unfold stl
  dsimp only
  rw [if_pos hv2]
  split
  · rename_i heq
    simp only [List.getElem?_cons_succ, List.getElem?_cons_zero, Option.some.injEq, Prod.mk.injEq] at heq
    exact absurd heq.1 h2
  · rfl
theorem stl_12_8 {a0 a1 a2 a3 a4 a5 a6 a7 a8 a9 a10 a11 v : AV} (h : (a7.1 == 1) = false) (hv : (v.1 == 1) = false) : stl [a0, a1, a2, a3, a4, a5, a6, a7, a8, a9, a10, a11] 8 v = [a0, a1, a2, a3, a4, a5, a6, a7, v, a9, a10, a11] := by
  have hv2 : ¬ v.1 = 1 := by simpa using hv
  obtain ⟨t, z⟩ := a7
  have h2 : ¬ t = 1 := by simpa using h
  unfold stl
  dsimp only
  rw [if_neg hv2]
  split
  · rename_i heq
    simp only [List.getElem?_cons_succ, List.getElem?_cons_zero, Option.some.injEq, Prod.mk.injEq] at heq
    exact absurd heq.1 h2
  · rfl
theorem stw_12_8 {a0 a1 a2 a3 a4 a5 a6 a7 a8 a9 a10 a11 v : AV} (h : (a7.1 == 1) = false) (hv : (v.1 == 1) = true) : stl [a0, a1, a2, a3, a4, a5, a6, a7, a8, a9, a10, a11] 8 v = [a0, a1, a2, a3, a4, a5, a6, a7, v, (9, 0), a10, a11] := by
  have hv2 : v.1 = 1 := by simpa using hv
  obtain ⟨t, z⟩ := a7
  have h2 : ¬ t = 1 := by simpa using h
  unfold stl
  dsimp only
  rw [if_pos hv2]
  split
  · rename_i heq
    simp only [List.getElem?_cons_succ, List.getElem?_cons_zero, Option.some.injEq, Prod.mk.injEq] at heq
    exact absurd heq.1 h2
  · rfl
theorem stl_12_9 {a0 a1 a2 a3 a4 a5 a6 a7 a8 a9 a10 a11 v : AV} (h : (a8.1 == 1) = false) (hv : (v.1 == 1) = false) : stl [a0, a1, a2, a3, a4, a5, a6, a7, a8, a9, a10, a11] 9 v = [a0, a1, a2, a3, a4, a5, a6, a7, a8, v, a10, a11] := by
  have hv2 : ¬ v.1 = 1 := by simpa using hv
  obtain ⟨t, z⟩ := a8
  have h2 : ¬ t = 1 := by simpa using h
  unfold stl
  dsimp only
  rw [if_neg hv2]
  split
  · rename_i heq
    simp only [List.getElem?_cons_succ, List.getElem?_cons_zero, Option.some.injEq, Prod.mk.injEq] at heq
    exact absurd heq.1 h2
  · rfl
theorem stw_12_9 {a0 a1 a2 a3 a4 a5 a6 a7 a8 a9 a10 a11 v : AV} (h : (a8.1 == 1) = false) (hv : (v.1 == 1) = true) : stl [a0, a1, a2, a3, a4, a5, a6, a7, a8, a9, a10, a11] 9 v = [a0, a1, a2, a3, a4, a5, a6, a7, a8, v, (9, 0), a11] := by
  have hv2 : v.1 = 1 := by simpa using hv
  obtain ⟨t, z⟩ := a8
  have h2 : ¬ t = 1 := by simpa using h
  unfold stl
  dsimp only
  rw [if_pos hv2]
  split
  · rename_i heq
    simp only [List.getElem?_cons_succ, List.getElem?_cons_zero, Option.some.injEq, Prod.mk.injEq] at heq
    exact absurd heq.1 h2
  · rfl
theorem stl_12_10 {a0 a1 a2 a3 a4 a5 a6 a7 a8 a9 a10 a11 v : AV} (h : (a9.1 == 1) = false) (hv : (v.1 == 1) = false) : stl [a0, a1, a2, a3, a4, a5, a6, a7, a8, a9, a10, a11] 10 v = [a0, a1, a2, a3, a4, a5, a6, a7, a8, a9, v, a11] := by
  have hv2 : ¬ v.1 = 1 := by simpa using hv
  obtain ⟨t, z⟩ := a9
  have h2 : ¬ t = 1 := by simpa using h
  unfold stl
  dsimp only
  rw [if_neg hv2]
  split
  · rename_i heq
    simp only [List.getElem?_cons_succ, List.getElem?_cons_zero, Option.some.injEq, Prod.mk.injEq] at heq
    exact absurd heq.1 h2
  · rfl
theorem stw_12_10 {a0 a1 a2 a3 a4 a5 a6 a7 a8 a9 a10 a11 v : AV} (h : (a9.1 == 1) = false) (hv : (v.1 == 1) = true) : stl [a0, a1, a2, a3, a4, a5, a6, a7, a8, a9, a10, a11] 10 v = [a0, a1, a2, a3, a4, a5, a6, a7, a8, a9, v, (9, 0)] := by
  have hv2 : v.1 = 1 := by simpa using hv
  obtain ⟨t, z⟩ := a9
  have h2 : ¬ t = 1 := by simpa using h
  unfold stl
  dsimp only
  rw [if_pos hv2]
  split
  · rename_i heq
    simp only [List.getElem?_cons_succ, List.getElem?_cons_zero, Option.some.injEq, Prod.mk.injEq] at heq
    exact absurd heq.1 h2
  · rfl
theorem stl_12_11 {a0 a1 a2 a3 a4 a5 a6 a7 a8 a9 a10 a11 v : AV} (h : (a10.1 == 1) = false) (hv : (v.1 == 1) = false) : stl [a0, a1, a2, a3, a4, a5, a6, a7, a8, a9, a10, a11] 11 v = [a0, a1, a2, a3, a4, a5, a6, a7, a8, a9, a10, v] := by
  have hv2 : ¬ v.1 = 1 := by simpa using hv
  obtain ⟨t, z⟩ := a10
  have h2 : ¬ t = 1 := by simpa using h
  unfold stl
  dsimp only
  rw [if_neg hv2]
  split
  · rename_i heq
    simp only [List.getElem?_cons_succ, List.getElem?_cons_zero, Option.some.injEq, Prod.mk.injEq] at heq
    exact absurd heq.1 h2
  · rfl
end
