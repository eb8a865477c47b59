-- ===== PART A: goes FIRST, ahead of the names: the tables' words, and 'selects' of the private methods out of them =====
/-- a private method of a class that the tables say can be made, by its rows of tables_1 -/
def lw_okq (q : MethodName × Nat) : Prop := (q.1.cls ≠ "java/lang/invoke/MethodHandle" ∧ q.1.cls ≠ "java/lang/invoke/VarHandle") ∧ Cond.instantiable q.1.cls q.2 ∈ tables_1 ∧ Cond.privateMethod q.1 ∈ tables_1 ∧ Cond.instanceMethod q.1 ∈ tables_1
theorem lw_p0 : lw_okq (⟨"DrownedBell", "fail", "(I)I"⟩, 8) := ⟨⟨by decide +kernel, by decide +kernel⟩, List.mem_of_getElem? (i := 21) (by decide +kernel), List.mem_of_getElem? (i := 314) (by decide +kernel), List.mem_of_getElem? (i := 315) (by decide +kernel)⟩
theorem lw_p1 : lw_okq (⟨"DrownedBell$Fisher", "wish", "(I)I"⟩, 6) := ⟨⟨by decide +kernel, by decide +kernel⟩, List.mem_of_getElem? (i := 101) (by decide +kernel), List.mem_of_getElem? (i := 487) (by decide +kernel), List.mem_of_getElem? (i := 488) (by decide +kernel)⟩
theorem lw_p2 : lw_okq (⟨"DrownedBell$Reader", "readOr", "(I)V"⟩, 5) := ⟨⟨by decide +kernel, by decide +kernel⟩, List.mem_of_getElem? (i := 211) (by decide +kernel), List.mem_of_getElem? (i := 544) (by decide +kernel), List.mem_of_getElem? (i := 545) (by decide +kernel)⟩
theorem lw_p3 : lw_okq (⟨"DrownedBell$Reader", "readAnd", "(I)V"⟩, 5) := ⟨⟨by decide +kernel, by decide +kernel⟩, List.mem_of_getElem? (i := 211) (by decide +kernel), List.mem_of_getElem? (i := 548) (by decide +kernel), List.mem_of_getElem? (i := 549) (by decide +kernel)⟩
theorem lw_p4 : lw_okq (⟨"DrownedBell$Reader", "readCompared", "(I)V"⟩, 5) := ⟨⟨by decide +kernel, by decide +kernel⟩, List.mem_of_getElem? (i := 211) (by decide +kernel), List.mem_of_getElem? (i := 552) (by decide +kernel), List.mem_of_getElem? (i := 553) (by decide +kernel)⟩
theorem lw_p5 : lw_okq (⟨"DrownedBell$Reader", "readSum", "(I)V"⟩, 5) := ⟨⟨by decide +kernel, by decide +kernel⟩, List.mem_of_getElem? (i := 211) (by decide +kernel), List.mem_of_getElem? (i := 556) (by decide +kernel), List.mem_of_getElem? (i := 557) (by decide +kernel)⟩
theorem lw_p6 : lw_okq (⟨"DrownedBell$Reader", "readProduct", "(I)V"⟩, 5) := ⟨⟨by decide +kernel, by decide +kernel⟩, List.mem_of_getElem? (i := 211) (by decide +kernel), List.mem_of_getElem? (i := 560) (by decide +kernel), List.mem_of_getElem? (i := 561) (by decide +kernel)⟩
theorem lw_p7 : lw_okq (⟨"DrownedBell$Reader", "readUnit", "(I)V"⟩, 5) := ⟨⟨by decide +kernel, by decide +kernel⟩, List.mem_of_getElem? (i := 211) (by decide +kernel), List.mem_of_getElem? (i := 564) (by decide +kernel), List.mem_of_getElem? (i := 565) (by decide +kernel)⟩
theorem lw_p8 : lw_okq (⟨"DrownedBell$Reader", "next", "()I"⟩, 5) := ⟨⟨by decide +kernel, by decide +kernel⟩, List.mem_of_getElem? (i := 211) (by decide +kernel), List.mem_of_getElem? (i := 568) (by decide +kernel), List.mem_of_getElem? (i := 569) (by decide +kernel)⟩
theorem lw_p9 : lw_okq (⟨"DrownedBell$Reader", "readNumber", "()V"⟩, 5) := ⟨⟨by decide +kernel, by decide +kernel⟩, List.mem_of_getElem? (i := 211) (by decide +kernel), List.mem_of_getElem? (i := 660) (by decide +kernel), List.mem_of_getElem? (i := 661) (by decide +kernel)⟩
theorem lw_p10 : lw_okq (⟨"DrownedBell$Reader", "readClosing", "()V"⟩, 5) := ⟨⟨by decide +kernel, by decide +kernel⟩, List.mem_of_getElem? (i := 211) (by decide +kernel), List.mem_of_getElem? (i := 668) (by decide +kernel), List.mem_of_getElem? (i := 669) (by decide +kernel)⟩
theorem lw_p11 : lw_okq (⟨"DrownedBell", "passHours", "(IZ)I"⟩, 8) := ⟨⟨by decide +kernel, by decide +kernel⟩, List.mem_of_getElem? (i := 21) (by decide +kernel), List.mem_of_getElem? (i := 692) (by decide +kernel), List.mem_of_getElem? (i := 693) (by decide +kernel)⟩
theorem lw_p12 : lw_okq (⟨"DrownedBell", "goAhead", "(I)V"⟩, 8) := ⟨⟨by decide +kernel, by decide +kernel⟩, List.mem_of_getElem? (i := 21) (by decide +kernel), List.mem_of_getElem? (i := 728) (by decide +kernel), List.mem_of_getElem? (i := 729) (by decide +kernel)⟩
theorem lw_p13 : lw_okq (⟨"DrownedBell", "gateKeeps", "(IIII)Z"⟩, 8) := ⟨⟨by decide +kernel, by decide +kernel⟩, List.mem_of_getElem? (i := 21) (by decide +kernel), List.mem_of_getElem? (i := 780) (by decide +kernel), List.mem_of_getElem? (i := 781) (by decide +kernel)⟩
theorem lw_p14 : lw_okq (⟨"DrownedBell$Voices", "say", "(IIII)I"⟩, 5) := ⟨⟨by decide +kernel, by decide +kernel⟩, List.mem_of_getElem? (i := 238) (by decide +kernel), List.mem_of_getElem? (i := 800) (by decide +kernel), List.mem_of_getElem? (i := 801) (by decide +kernel)⟩
theorem lw_p15 : lw_okq (⟨"DrownedBell$Voices", "worked", "(III)I"⟩, 5) := ⟨⟨by decide +kernel, by decide +kernel⟩, List.mem_of_getElem? (i := 238) (by decide +kernel), List.mem_of_getElem? (i := 811) (by decide +kernel), List.mem_of_getElem? (i := 812) (by decide +kernel)⟩
def lw_privs_1 : List (MethodName × Nat) := [(⟨"DrownedBell", "fail", "(I)I"⟩, 8), (⟨"DrownedBell$Fisher", "wish", "(I)I"⟩, 6), (⟨"DrownedBell$Reader", "readOr", "(I)V"⟩, 5), (⟨"DrownedBell$Reader", "readAnd", "(I)V"⟩, 5), (⟨"DrownedBell$Reader", "readCompared", "(I)V"⟩, 5), (⟨"DrownedBell$Reader", "readSum", "(I)V"⟩, 5), (⟨"DrownedBell$Reader", "readProduct", "(I)V"⟩, 5), (⟨"DrownedBell$Reader", "readUnit", "(I)V"⟩, 5), (⟨"DrownedBell$Reader", "next", "()I"⟩, 5), (⟨"DrownedBell$Reader", "readNumber", "()V"⟩, 5), (⟨"DrownedBell$Reader", "readClosing", "()V"⟩, 5), (⟨"DrownedBell", "passHours", "(IZ)I"⟩, 8), (⟨"DrownedBell", "goAhead", "(I)V"⟩, 8), (⟨"DrownedBell", "gateKeeps", "(IIII)Z"⟩, 8), (⟨"DrownedBell$Voices", "say", "(IIII)I"⟩, 5), (⟨"DrownedBell$Voices", "worked", "(III)I"⟩, 5)]
theorem lw_r1 : ∀ q ∈ lw_privs_1, lw_okq q := List.forall_mem_cons.mpr ⟨lw_p0, List.forall_mem_cons.mpr ⟨lw_p1, List.forall_mem_cons.mpr ⟨lw_p2, List.forall_mem_cons.mpr ⟨lw_p3, List.forall_mem_cons.mpr ⟨lw_p4, List.forall_mem_cons.mpr ⟨lw_p5, List.forall_mem_cons.mpr ⟨lw_p6, List.forall_mem_cons.mpr ⟨lw_p7, List.forall_mem_cons.mpr ⟨lw_p8, List.forall_mem_cons.mpr ⟨lw_p9, List.forall_mem_cons.mpr ⟨lw_p10, List.forall_mem_cons.mpr ⟨lw_p11, List.forall_mem_cons.mpr ⟨lw_p12, List.forall_mem_cons.mpr ⟨lw_p13, List.forall_mem_cons.mpr ⟨lw_p14, List.forall_mem_cons.mpr ⟨lw_p15, fun _ h => absurd h List.not_mem_nil⟩⟩⟩⟩⟩⟩⟩⟩⟩⟩⟩⟩⟩⟩⟩⟩
theorem lw_p16 : lw_okq (⟨"DrownedBell", "sheetAt", "(I)LDrownedBell$Sheet;"⟩, 8) := ⟨⟨by decide +kernel, by decide +kernel⟩, List.mem_of_getElem? (i := 21) (by decide +kernel), List.mem_of_getElem? (i := 823) (by decide +kernel), List.mem_of_getElem? (i := 824) (by decide +kernel)⟩
theorem lw_p17 : lw_okq (⟨"DrownedBellModel", "finds", "(I)I"⟩, 19) := ⟨⟨by decide +kernel, by decide +kernel⟩, List.mem_of_getElem? (i := 899) (by decide +kernel), List.mem_of_getElem? (i := 971) (by decide +kernel), List.mem_of_getElem? (i := 972) (by decide +kernel)⟩
theorem lw_p18 : lw_okq (⟨"DrownedBellModel", "worked", "(III)I"⟩, 19) := ⟨⟨by decide +kernel, by decide +kernel⟩, List.mem_of_getElem? (i := 899) (by decide +kernel), List.mem_of_getElem? (i := 981) (by decide +kernel), List.mem_of_getElem? (i := 982) (by decide +kernel)⟩
theorem lw_p19 : lw_okq (⟨"DrownedBellModel", "either", "()I"⟩, 19) := ⟨⟨by decide +kernel, by decide +kernel⟩, List.mem_of_getElem? (i := 899) (by decide +kernel), List.mem_of_getElem? (i := 985) (by decide +kernel), List.mem_of_getElem? (i := 986) (by decide +kernel)⟩
theorem lw_p20 : lw_okq (⟨"DrownedBellModel", "both", "()I"⟩, 19) := ⟨⟨by decide +kernel, by decide +kernel⟩, List.mem_of_getElem? (i := 899) (by decide +kernel), List.mem_of_getElem? (i := 989) (by decide +kernel), List.mem_of_getElem? (i := 990) (by decide +kernel)⟩
theorem lw_p21 : lw_okq (⟨"DrownedBellModel", "compared", "()I"⟩, 19) := ⟨⟨by decide +kernel, by decide +kernel⟩, List.mem_of_getElem? (i := 899) (by decide +kernel), List.mem_of_getElem? (i := 993) (by decide +kernel), List.mem_of_getElem? (i := 994) (by decide +kernel)⟩
theorem lw_p22 : lw_okq (⟨"DrownedBellModel", "sum", "()I"⟩, 19) := ⟨⟨by decide +kernel, by decide +kernel⟩, List.mem_of_getElem? (i := 899) (by decide +kernel), List.mem_of_getElem? (i := 997) (by decide +kernel), List.mem_of_getElem? (i := 998) (by decide +kernel)⟩
theorem lw_p23 : lw_okq (⟨"DrownedBellModel", "product", "()I"⟩, 19) := ⟨⟨by decide +kernel, by decide +kernel⟩, List.mem_of_getElem? (i := 899) (by decide +kernel), List.mem_of_getElem? (i := 1001) (by decide +kernel), List.mem_of_getElem? (i := 1002) (by decide +kernel)⟩
theorem lw_p24 : lw_okq (⟨"DrownedBellModel", "unit", "()I"⟩, 19) := ⟨⟨by decide +kernel, by decide +kernel⟩, List.mem_of_getElem? (i := 899) (by decide +kernel), List.mem_of_getElem? (i := 1005) (by decide +kernel), List.mem_of_getElem? (i := 1006) (by decide +kernel)⟩
theorem lw_p25 : lw_okq (⟨"DrownedBellModel", "here", "()I"⟩, 19) := ⟨⟨by decide +kernel, by decide +kernel⟩, List.mem_of_getElem? (i := 899) (by decide +kernel), List.mem_of_getElem? (i := 1009) (by decide +kernel), List.mem_of_getElem? (i := 1010) (by decide +kernel)⟩
theorem lw_p26 : lw_okq (⟨"DrownedBellModel", "wrong", "()I"⟩, 19) := ⟨⟨by decide +kernel, by decide +kernel⟩, List.mem_of_getElem? (i := 899) (by decide +kernel), List.mem_of_getElem? (i := 1013) (by decide +kernel), List.mem_of_getElem? (i := 1014) (by decide +kernel)⟩
theorem lw_p27 : lw_okq (⟨"DrownedBellModel", "takes", "(I)Z"⟩, 19) := ⟨⟨by decide +kernel, by decide +kernel⟩, List.mem_of_getElem? (i := 899) (by decide +kernel), List.mem_of_getElem? (i := 1017) (by decide +kernel), List.mem_of_getElem? (i := 1018) (by decide +kernel)⟩
theorem lw_p28 : lw_okq (⟨"DrownedBellModel", "nameOf", "(I)I"⟩, 19) := ⟨⟨by decide +kernel, by decide +kernel⟩, List.mem_of_getElem? (i := 899) (by decide +kernel), List.mem_of_getElem? (i := 1021) (by decide +kernel), List.mem_of_getElem? (i := 1022) (by decide +kernel)⟩
theorem lw_p29 : lw_okq (⟨"DrownedBellModel", "gives", "(IIII)I"⟩, 19) := ⟨⟨by decide +kernel, by decide +kernel⟩, List.mem_of_getElem? (i := 899) (by decide +kernel), List.mem_of_getElem? (i := 1031) (by decide +kernel), List.mem_of_getElem? (i := 1032) (by decide +kernel)⟩
theorem lw_p30 : lw_okq (⟨"DrownedBellModel", "rainAt", "(II)I"⟩, 19) := ⟨⟨by decide +kernel, by decide +kernel⟩, List.mem_of_getElem? (i := 899) (by decide +kernel), List.mem_of_getElem? (i := 1051) (by decide +kernel), List.mem_of_getElem? (i := 1052) (by decide +kernel)⟩
theorem lw_p31 : lw_okq (⟨"DrownedBellModel", "toldNow", "(I)I"⟩, 19) := ⟨⟨by decide +kernel, by decide +kernel⟩, List.mem_of_getElem? (i := 899) (by decide +kernel), List.mem_of_getElem? (i := 1068) (by decide +kernel), List.mem_of_getElem? (i := 1069) (by decide +kernel)⟩
def lw_privs_2 : List (MethodName × Nat) := [(⟨"DrownedBell", "sheetAt", "(I)LDrownedBell$Sheet;"⟩, 8), (⟨"DrownedBellModel", "finds", "(I)I"⟩, 19), (⟨"DrownedBellModel", "worked", "(III)I"⟩, 19), (⟨"DrownedBellModel", "either", "()I"⟩, 19), (⟨"DrownedBellModel", "both", "()I"⟩, 19), (⟨"DrownedBellModel", "compared", "()I"⟩, 19), (⟨"DrownedBellModel", "sum", "()I"⟩, 19), (⟨"DrownedBellModel", "product", "()I"⟩, 19), (⟨"DrownedBellModel", "unit", "()I"⟩, 19), (⟨"DrownedBellModel", "here", "()I"⟩, 19), (⟨"DrownedBellModel", "wrong", "()I"⟩, 19), (⟨"DrownedBellModel", "takes", "(I)Z"⟩, 19), (⟨"DrownedBellModel", "nameOf", "(I)I"⟩, 19), (⟨"DrownedBellModel", "gives", "(IIII)I"⟩, 19), (⟨"DrownedBellModel", "rainAt", "(II)I"⟩, 19), (⟨"DrownedBellModel", "toldNow", "(I)I"⟩, 19)]
theorem lw_r2 : ∀ q ∈ lw_privs_2, lw_okq q := List.forall_mem_cons.mpr ⟨lw_p16, List.forall_mem_cons.mpr ⟨lw_p17, List.forall_mem_cons.mpr ⟨lw_p18, List.forall_mem_cons.mpr ⟨lw_p19, List.forall_mem_cons.mpr ⟨lw_p20, List.forall_mem_cons.mpr ⟨lw_p21, List.forall_mem_cons.mpr ⟨lw_p22, List.forall_mem_cons.mpr ⟨lw_p23, List.forall_mem_cons.mpr ⟨lw_p24, List.forall_mem_cons.mpr ⟨lw_p25, List.forall_mem_cons.mpr ⟨lw_p26, List.forall_mem_cons.mpr ⟨lw_p27, List.forall_mem_cons.mpr ⟨lw_p28, List.forall_mem_cons.mpr ⟨lw_p29, List.forall_mem_cons.mpr ⟨lw_p30, List.forall_mem_cons.mpr ⟨lw_p31, fun _ h => absurd h List.not_mem_nil⟩⟩⟩⟩⟩⟩⟩⟩⟩⟩⟩⟩⟩⟩⟩⟩
theorem lw_p32 : lw_okq (⟨"DrownedBellModel", "flowAt", "(I)I"⟩, 19) := ⟨⟨by decide +kernel, by decide +kernel⟩, List.mem_of_getElem? (i := 899) (by decide +kernel), List.mem_of_getElem? (i := 1072) (by decide +kernel), List.mem_of_getElem? (i := 1073) (by decide +kernel)⟩
theorem lw_p33 : lw_okq (⟨"DrownedBellModel", "current", "()I"⟩, 19) := ⟨⟨by decide +kernel, by decide +kernel⟩, List.mem_of_getElem? (i := 899) (by decide +kernel), List.mem_of_getElem? (i := 1076) (by decide +kernel), List.mem_of_getElem? (i := 1077) (by decide +kernel)⟩
theorem lw_p34 : lw_okq (⟨"DrownedBellModel", "strikes", "()I"⟩, 19) := ⟨⟨by decide +kernel, by decide +kernel⟩, List.mem_of_getElem? (i := 899) (by decide +kernel), List.mem_of_getElem? (i := 1080) (by decide +kernel), List.mem_of_getElem? (i := 1081) (by decide +kernel)⟩
theorem lw_p35 : lw_okq (⟨"DrownedBellModel", "stands", "()Z"⟩, 19) := ⟨⟨by decide +kernel, by decide +kernel⟩, List.mem_of_getElem? (i := 899) (by decide +kernel), List.mem_of_getElem? (i := 1084) (by decide +kernel), List.mem_of_getElem? (i := 1085) (by decide +kernel)⟩
theorem lw_p36 : lw_okq (⟨"DrownedBellModel", "note", "()I"⟩, 19) := ⟨⟨by decide +kernel, by decide +kernel⟩, List.mem_of_getElem? (i := 899) (by decide +kernel), List.mem_of_getElem? (i := 1088) (by decide +kernel), List.mem_of_getElem? (i := 1089) (by decide +kernel)⟩
theorem lw_p37 : lw_okq (⟨"DrownedBellModel", "becomes", "(III)V"⟩, 19) := ⟨⟨by decide +kernel, by decide +kernel⟩, List.mem_of_getElem? (i := 899) (by decide +kernel), List.mem_of_getElem? (i := 1110) (by decide +kernel), List.mem_of_getElem? (i := 1111) (by decide +kernel)⟩
theorem lw_p38 : lw_okq (⟨"DrownedBellModel", "isFisher", "(I)Z"⟩, 19) := ⟨⟨by decide +kernel, by decide +kernel⟩, List.mem_of_getElem? (i := 899) (by decide +kernel), List.mem_of_getElem? (i := 1118) (by decide +kernel), List.mem_of_getElem? (i := 1119) (by decide +kernel)⟩
theorem lw_p39 : lw_okq (⟨"DrownedBellModel", "toldOf", "(II)I"⟩, 19) := ⟨⟨by decide +kernel, by decide +kernel⟩, List.mem_of_getElem? (i := 899) (by decide +kernel), List.mem_of_getElem? (i := 1123) (by decide +kernel), List.mem_of_getElem? (i := 1124) (by decide +kernel)⟩
theorem lw_p40 : lw_okq (⟨"DrownedBellModel", "of", "(II)I"⟩, 19) := ⟨⟨by decide +kernel, by decide +kernel⟩, List.mem_of_getElem? (i := 899) (by decide +kernel), List.mem_of_getElem? (i := 1127) (by decide +kernel), List.mem_of_getElem? (i := 1128) (by decide +kernel)⟩
theorem lw_p41 : lw_okq (⟨"DrownedBellModel", "hears", "(I)Z"⟩, 19) := ⟨⟨by decide +kernel, by decide +kernel⟩, List.mem_of_getElem? (i := 899) (by decide +kernel), List.mem_of_getElem? (i := 1131) (by decide +kernel), List.mem_of_getElem? (i := 1132) (by decide +kernel)⟩
theorem lw_p42 : lw_okq (⟨"DrownedBellModel", "bidNow", "(I)I"⟩, 19) := ⟨⟨by decide +kernel, by decide +kernel⟩, List.mem_of_getElem? (i := 899) (by decide +kernel), List.mem_of_getElem? (i := 1135) (by decide +kernel), List.mem_of_getElem? (i := 1136) (by decide +kernel)⟩
theorem lw_p43 : lw_okq (⟨"DrownedBellModel", "oddsOf", "(II)I"⟩, 19) := ⟨⟨by decide +kernel, by decide +kernel⟩, List.mem_of_getElem? (i := 899) (by decide +kernel), List.mem_of_getElem? (i := 1139) (by decide +kernel), List.mem_of_getElem? (i := 1140) (by decide +kernel)⟩
theorem lw_p44 : lw_okq (⟨"DrownedBellModel", "bidOf", "(III)I"⟩, 19) := ⟨⟨by decide +kernel, by decide +kernel⟩, List.mem_of_getElem? (i := 899) (by decide +kernel), List.mem_of_getElem? (i := 1146) (by decide +kernel), List.mem_of_getElem? (i := 1147) (by decide +kernel)⟩
theorem lw_p45 : lw_okq (⟨"DrownedBellModel", "goes", "(IZ)I"⟩, 19) := ⟨⟨by decide +kernel, by decide +kernel⟩, List.mem_of_getElem? (i := 899) (by decide +kernel), List.mem_of_getElem? (i := 1180) (by decide +kernel), List.mem_of_getElem? (i := 1181) (by decide +kernel)⟩
theorem lw_p46 : lw_okq (⟨"DrownedBellModel", "otherwise", "()V"⟩, 19) := ⟨⟨by decide +kernel, by decide +kernel⟩, List.mem_of_getElem? (i := 899) (by decide +kernel), List.mem_of_getElem? (i := 1185) (by decide +kernel), List.mem_of_getElem? (i := 1186) (by decide +kernel)⟩
theorem lw_p47 : lw_okq (⟨"DrownedBellModel", "drawn", "()I"⟩, 19) := ⟨⟨by decide +kernel, by decide +kernel⟩, List.mem_of_getElem? (i := 899) (by decide +kernel), List.mem_of_getElem? (i := 1189) (by decide +kernel), List.mem_of_getElem? (i := 1190) (by decide +kernel)⟩
def lw_privs_3 : List (MethodName × Nat) := [(⟨"DrownedBellModel", "flowAt", "(I)I"⟩, 19), (⟨"DrownedBellModel", "current", "()I"⟩, 19), (⟨"DrownedBellModel", "strikes", "()I"⟩, 19), (⟨"DrownedBellModel", "stands", "()Z"⟩, 19), (⟨"DrownedBellModel", "note", "()I"⟩, 19), (⟨"DrownedBellModel", "becomes", "(III)V"⟩, 19), (⟨"DrownedBellModel", "isFisher", "(I)Z"⟩, 19), (⟨"DrownedBellModel", "toldOf", "(II)I"⟩, 19), (⟨"DrownedBellModel", "of", "(II)I"⟩, 19), (⟨"DrownedBellModel", "hears", "(I)Z"⟩, 19), (⟨"DrownedBellModel", "bidNow", "(I)I"⟩, 19), (⟨"DrownedBellModel", "oddsOf", "(II)I"⟩, 19), (⟨"DrownedBellModel", "bidOf", "(III)I"⟩, 19), (⟨"DrownedBellModel", "goes", "(IZ)I"⟩, 19), (⟨"DrownedBellModel", "otherwise", "()V"⟩, 19), (⟨"DrownedBellModel", "drawn", "()I"⟩, 19)]
theorem lw_r3 : ∀ q ∈ lw_privs_3, lw_okq q := List.forall_mem_cons.mpr ⟨lw_p32, List.forall_mem_cons.mpr ⟨lw_p33, List.forall_mem_cons.mpr ⟨lw_p34, List.forall_mem_cons.mpr ⟨lw_p35, List.forall_mem_cons.mpr ⟨lw_p36, List.forall_mem_cons.mpr ⟨lw_p37, List.forall_mem_cons.mpr ⟨lw_p38, List.forall_mem_cons.mpr ⟨lw_p39, List.forall_mem_cons.mpr ⟨lw_p40, List.forall_mem_cons.mpr ⟨lw_p41, List.forall_mem_cons.mpr ⟨lw_p42, List.forall_mem_cons.mpr ⟨lw_p43, List.forall_mem_cons.mpr ⟨lw_p44, List.forall_mem_cons.mpr ⟨lw_p45, List.forall_mem_cons.mpr ⟨lw_p46, List.forall_mem_cons.mpr ⟨lw_p47, fun _ h => absurd h List.not_mem_nil⟩⟩⟩⟩⟩⟩⟩⟩⟩⟩⟩⟩⟩⟩⟩⟩
theorem lw_p48 : lw_okq (⟨"DrownedBellModel", "goesBy", "()V"⟩, 19) := ⟨⟨by decide +kernel, by decide +kernel⟩, List.mem_of_getElem? (i := 899) (by decide +kernel), List.mem_of_getElem? (i := 1194) (by decide +kernel), List.mem_of_getElem? (i := 1195) (by decide +kernel)⟩
theorem lw_p49 : lw_okq (⟨"DrownedBellModel", "heardBy", "()V"⟩, 19) := ⟨⟨by decide +kernel, by decide +kernel⟩, List.mem_of_getElem? (i := 899) (by decide +kernel), List.mem_of_getElem? (i := 1198) (by decide +kernel), List.mem_of_getElem? (i := 1199) (by decide +kernel)⟩
theorem lw_p50 : lw_okq (⟨"DrownedBellModel", "goesOn", "(I)V"⟩, 19) := ⟨⟨by decide +kernel, by decide +kernel⟩, List.mem_of_getElem? (i := 899) (by decide +kernel), List.mem_of_getElem? (i := 1214) (by decide +kernel), List.mem_of_getElem? (i := 1215) (by decide +kernel)⟩
theorem lw_p51 : lw_okq (⟨"DrownedBellModel", "keeps", "(IIII)Z"⟩, 19) := ⟨⟨by decide +kernel, by decide +kernel⟩, List.mem_of_getElem? (i := 899) (by decide +kernel), List.mem_of_getElem? (i := 1238) (by decide +kernel), List.mem_of_getElem? (i := 1239) (by decide +kernel)⟩
theorem lw_p52 : lw_okq (⟨"DrownedBellModel", "own", "()I"⟩, 19) := ⟨⟨by decide +kernel, by decide +kernel⟩, List.mem_of_getElem? (i := 899) (by decide +kernel), List.mem_of_getElem? (i := 1255) (by decide +kernel), List.mem_of_getElem? (i := 1256) (by decide +kernel)⟩
theorem lw_p53 : lw_okq (⟨"DrownedBellModel", "heard", "(II)I"⟩, 19) := ⟨⟨by decide +kernel, by decide +kernel⟩, List.mem_of_getElem? (i := 899) (by decide +kernel), List.mem_of_getElem? (i := 1259) (by decide +kernel), List.mem_of_getElem? (i := 1260) (by decide +kernel)⟩
theorem lw_p54 : lw_okq (⟨"DrownedBellModel", "ran", "(I)V"⟩, 19) := ⟨⟨by decide +kernel, by decide +kernel⟩, List.mem_of_getElem? (i := 899) (by decide +kernel), List.mem_of_getElem? (i := 1263) (by decide +kernel), List.mem_of_getElem? (i := 1264) (by decide +kernel)⟩
theorem lw_p55 : lw_okq (⟨"DrownedBellModel", "bid", "(II)I"⟩, 19) := ⟨⟨by decide +kernel, by decide +kernel⟩, List.mem_of_getElem? (i := 899) (by decide +kernel), List.mem_of_getElem? (i := 1267) (by decide +kernel), List.mem_of_getElem? (i := 1268) (by decide +kernel)⟩
theorem lw_p56 : lw_okq (⟨"DrownedBellModel", "rows", "(II)I"⟩, 19) := ⟨⟨by decide +kernel, by decide +kernel⟩, List.mem_of_getElem? (i := 899) (by decide +kernel), List.mem_of_getElem? (i := 1271) (by decide +kernel), List.mem_of_getElem? (i := 1272) (by decide +kernel)⟩
theorem lw_p57 : lw_okq (⟨"DrownedBellModel", "tells", "(II)I"⟩, 19) := ⟨⟨by decide +kernel, by decide +kernel⟩, List.mem_of_getElem? (i := 899) (by decide +kernel), List.mem_of_getElem? (i := 1275) (by decide +kernel), List.mem_of_getElem? (i := 1276) (by decide +kernel)⟩
theorem lw_p58 : lw_okq (⟨"DrownedBellModel", "sumOf", "(I)I"⟩, 19) := ⟨⟨by decide +kernel, by decide +kernel⟩, List.mem_of_getElem? (i := 899) (by decide +kernel), List.mem_of_getElem? (i := 1326) (by decide +kernel), List.mem_of_getElem? (i := 1327) (by decide +kernel)⟩
def lw_privs_4 : List (MethodName × Nat) := [(⟨"DrownedBellModel", "goesBy", "()V"⟩, 19), (⟨"DrownedBellModel", "heardBy", "()V"⟩, 19), (⟨"DrownedBellModel", "goesOn", "(I)V"⟩, 19), (⟨"DrownedBellModel", "keeps", "(IIII)Z"⟩, 19), (⟨"DrownedBellModel", "own", "()I"⟩, 19), (⟨"DrownedBellModel", "heard", "(II)I"⟩, 19), (⟨"DrownedBellModel", "ran", "(I)V"⟩, 19), (⟨"DrownedBellModel", "bid", "(II)I"⟩, 19), (⟨"DrownedBellModel", "rows", "(II)I"⟩, 19), (⟨"DrownedBellModel", "tells", "(II)I"⟩, 19), (⟨"DrownedBellModel", "sumOf", "(I)I"⟩, 19)]
theorem lw_r4 : ∀ q ∈ lw_privs_4, lw_okq q := List.forall_mem_cons.mpr ⟨lw_p48, List.forall_mem_cons.mpr ⟨lw_p49, List.forall_mem_cons.mpr ⟨lw_p50, List.forall_mem_cons.mpr ⟨lw_p51, List.forall_mem_cons.mpr ⟨lw_p52, List.forall_mem_cons.mpr ⟨lw_p53, List.forall_mem_cons.mpr ⟨lw_p54, List.forall_mem_cons.mpr ⟨lw_p55, List.forall_mem_cons.mpr ⟨lw_p56, List.forall_mem_cons.mpr ⟨lw_p57, List.forall_mem_cons.mpr ⟨lw_p58, fun _ h => absurd h List.not_mem_nil⟩⟩⟩⟩⟩⟩⟩⟩⟩⟩⟩
def lw_privs : List (MethodName × Nat) := lw_privs_1 ++ (lw_privs_2 ++ (lw_privs_3 ++ (lw_privs_4)))
def lw_tbl : List Cond := k2_sels lw_privs ++ tables_1
theorem lw_privs_ok : ∀ q ∈ lw_privs, lw_okq q := by
  show ∀ q ∈ lw_privs_1 ++ (lw_privs_2 ++ (lw_privs_3 ++ (lw_privs_4))), lw_okq q
  exact List.forall_mem_append.mpr ⟨lw_r1, List.forall_mem_append.mpr ⟨lw_r2, List.forall_mem_append.mpr ⟨lw_r3, lw_r4⟩⟩⟩

def RX0 : String := "DrownedBell$Fisher"
def TX0 : u_T := fun k => match k with
  | 0 => ("DrownedBell$Fisher", "kind", "I", false)
  | 1 => ("DrownedBell$Fisher", "m", "I", false)
  | 2 => ("DrownedBell$Fisher", "far", "I", false)
  | 3 => ("DrownedBell$Fisher", "purse", "I", false)
  | 4 => ("DrownedBell$Fisher", "heard", "I", false)
  | _ => ("DrownedBell$Fisher", "latest", "I", false)
def tyX0 : Nat → FieldType := fun k => match k with
  | 0 => .int
  | 1 => .int
  | 2 => .int
  | 3 => .int
  | 4 => .int
  | _ => .int
abbrev wsX00 : List Cond := u_ws RX0 TX0 6
theorem nmX0 : ∀ a, a < 6 → ∀ b, b < 6 → a ≠ b → (TX0 a).2.1 ≠ (TX0 b).2.1 := by decide +kernel
theorem tyX0_ok : ∀ k, k < 6 → parseFieldDescriptor (TX0 k).2.2.1 = some (tyX0 k) := by decide +kernel
abbrev cX0_init : ByteArray := prog_2_method_1_code
def yX0_init : MethodName := ⟨RX0, "<init>", "()V"⟩
abbrev cX0_begin : ByteArray := prog_2_method_2_code
def yX0_begin : MethodName := ⟨RX0, "begin", "(II)V"⟩
abbrev cX0_turnInto : ByteArray := prog_2_method_3_code
def yX0_turnInto : MethodName := ⟨RX0, "turnInto", "(I)V"⟩
abbrev cX0_copyOf : ByteArray := prog_2_method_4_code
def yX0_copyOf : MethodName := ⟨RX0, "copyOf", "(LDrownedBell$Fisher;)V"⟩
abbrev cX0_isOf : ByteArray := prog_2_method_5_code
def yX0_isOf : MethodName := ⟨RX0, "isOf", "(I)Z"⟩
abbrev cX0_hark : ByteArray := prog_2_method_6_code
def yX0_hark : MethodName := ⟨RX0, "hark", "(II)V"⟩
abbrev cX0_hearsIt : ByteArray := prog_2_method_7_code
def yX0_hearsIt : MethodName := ⟨RX0, "hearsIt", "(II)Z"⟩
abbrev cX0_bidAt : ByteArray := prog_2_method_8_code
def yX0_bidAt : MethodName := ⟨RX0, "bidAt", "(II)I"⟩
abbrev cX0_wish : ByteArray := prog_2_method_9_code
def yX0_wish : MethodName := ⟨RX0, "wish", "(I)I"⟩
def RX1 : String := "DrownedBell$Formula"
def TX1 : u_T := fun k => match k with
  | 0 => ("DrownedBell$Formula", "steps", "[I", true)
  | 1 => ("DrownedBell$Formula", "pile", "[I", true)
  | _ => ("DrownedBell$Formula", "size", "I", false)
def tyX1 : Nat → FieldType := fun k => match k with
  | 0 => .array .int
  | 1 => .array .int
  | _ => .int
abbrev wsX10 : List Cond := u_ws RX1 TX1 3
theorem nmX1 : ∀ a, a < 3 → ∀ b, b < 3 → a ≠ b → (TX1 a).2.1 ≠ (TX1 b).2.1 := by decide +kernel
theorem tyX1_ok : ∀ k, k < 3 → parseFieldDescriptor (TX1 k).2.2.1 = some (tyX1 k) := by decide +kernel
abbrev cX1_init : ByteArray := prog_3_method_1_code
def yX1_init : MethodName := ⟨RX1, "<init>", "()V"⟩
abbrev cX1_copyOf : ByteArray := prog_3_method_2_code
def yX1_copyOf : MethodName := ⟨RX1, "copyOf", "(LDrownedBell$Formula;)V"⟩
abbrev cX1_isText : ByteArray := prog_3_method_3_code
def yX1_isText : MethodName := ⟨RX1, "isText", "()Z"⟩
abbrev cX1_clear : ByteArray := prog_3_method_4_code
def yX1_clear : MethodName := ⟨RX1, "clear", "()V"⟩
abbrev cX1_add : ByteArray := prog_3_method_5_code
def yX1_add : MethodName := ⟨RX1, "add", "(I)V"⟩
abbrev cX1_worth : ByteArray := prog_3_method_6_code
def yX1_worth : MethodName := ⟨RX1, "worth", "(III)I"⟩
abbrev cX1_joined : ByteArray := prog_3_method_7_code
def yX1_joined : MethodName := ⟨RX1, "joined", "(III)I"⟩
def RX2 : String := "DrownedBell$Ledger"
def TX2 : u_T := fun k => match k with
  | 0 => ("DrownedBell$Ledger", "dry", "[I", true)
  | 1 => ("DrownedBell$Ledger", "wet", "[I", true)
  | _ => ("DrownedBell$Ledger", "past", "I", false)
def tyX2 : Nat → FieldType := fun k => match k with
  | 0 => .array .int
  | 1 => .array .int
  | _ => .int
abbrev wsX20 : List Cond := u_ws RX2 TX2 3
theorem nmX2 : ∀ a, a < 3 → ∀ b, b < 3 → a ≠ b → (TX2 a).2.1 ≠ (TX2 b).2.1 := by decide +kernel
theorem tyX2_ok : ∀ k, k < 3 → parseFieldDescriptor (TX2 k).2.2.1 = some (tyX2 k) := by decide +kernel
abbrev cX2_init : ByteArray := prog_4_method_1_code
def yX2_init : MethodName := ⟨RX2, "<init>", "()V"⟩
abbrev cX2_copyOf : ByteArray := prog_4_method_2_code
def yX2_copyOf : MethodName := ⟨RX2, "copyOf", "(LDrownedBell$Ledger;)V"⟩
abbrev cX2_add : ByteArray := prog_4_method_3_code
def yX2_add : MethodName := ⟨RX2, "add", "(I)V"⟩
abbrev cX2_above : ByteArray := prog_4_method_4_code
def yX2_above : MethodName := ⟨RX2, "above", "(I)I"⟩
abbrev cX2_below : ByteArray := prog_4_method_5_code
def yX2_below : MethodName := ⟨RX2, "below", "(I)I"⟩
abbrev cX2_reduced : ByteArray := prog_4_method_6_code
def yX2_reduced : MethodName := ⟨RX2, "reduced", "(III)I"⟩
def RX3 : String := "DrownedBell$Reader"
def TX3 : u_T := fun k => match k with
  | 0 => ("DrownedBell$Reader", "draft", "LDrownedBell$Formula;", true)
  | 1 => ("DrownedBell$Reader", "tape", "LDrownedBell$Tape;", false)
  | 2 => ("DrownedBell$Reader", "names", "Ljava/lang/String;", false)
  | 3 => ("DrownedBell$Reader", "place", "I", false)
  | _ => ("DrownedBell$Reader", "failed", "Z", false)
def tyX3 : Nat → FieldType := fun k => match k with
  | 0 => .object "DrownedBell$Formula"
  | 1 => .object "DrownedBell$Tape"
  | 2 => .object "java/lang/String"
  | 3 => .int
  | _ => .boolean
abbrev wsX30 : List Cond := u_ws RX3 TX3 5
theorem nmX3 : ∀ a, a < 5 → ∀ b, b < 5 → a ≠ b → (TX3 a).2.1 ≠ (TX3 b).2.1 := by decide +kernel
theorem tyX3_ok : ∀ k, k < 5 → parseFieldDescriptor (TX3 k).2.2.1 = some (tyX3 k) := by decide +kernel
abbrev cX3_init : ByteArray := prog_5_method_1_code
def yX3_init : MethodName := ⟨RX3, "<init>", "()V"⟩
abbrev cX3_faultOf : ByteArray := prog_5_method_2_code
def yX3_faultOf : MethodName := ⟨RX3, "faultOf", "(LDrownedBell$Tape;Ljava/lang/String;)I"⟩
abbrev cX3_next : ByteArray := prog_5_method_3_code
def yX3_next : MethodName := ⟨RX3, "next", "()I"⟩
abbrev cX3_readOr : ByteArray := prog_5_method_4_code
def yX3_readOr : MethodName := ⟨RX3, "readOr", "(I)V"⟩
abbrev cX3_readAnd : ByteArray := prog_5_method_5_code
def yX3_readAnd : MethodName := ⟨RX3, "readAnd", "(I)V"⟩
abbrev cX3_readCompared : ByteArray := prog_5_method_6_code
def yX3_readCompared : MethodName := ⟨RX3, "readCompared", "(I)V"⟩
abbrev cX3_readSum : ByteArray := prog_5_method_7_code
def yX3_readSum : MethodName := ⟨RX3, "readSum", "(I)V"⟩
abbrev cX3_readProduct : ByteArray := prog_5_method_8_code
def yX3_readProduct : MethodName := ⟨RX3, "readProduct", "(I)V"⟩
abbrev cX3_readUnit : ByteArray := prog_5_method_9_code
def yX3_readUnit : MethodName := ⟨RX3, "readUnit", "(I)V"⟩
abbrev cX3_readClosing : ByteArray := prog_5_method_10_code
def yX3_readClosing : MethodName := ⟨RX3, "readClosing", "()V"⟩
abbrev cX3_readNumber : ByteArray := prog_5_method_11_code
def yX3_readNumber : MethodName := ⟨RX3, "readNumber", "()V"⟩
def RX4 : String := "DrownedBell$Sheet"
def TX4 : u_T := fun k => match k with
  | 0 => ("DrownedBell$Sheet", "cells", "[I", true)
  | 1 => ("DrownedBell$Sheet", "bits", "I", false)
  | _ => ("DrownedBell$Sheet", "size", "I", false)
def tyX4 : Nat → FieldType := fun k => match k with
  | 0 => .array .int
  | 1 => .int
  | _ => .int
abbrev wsX40 : List Cond := u_ws RX4 TX4 3
theorem nmX4 : ∀ a, a < 3 → ∀ b, b < 3 → a ≠ b → (TX4 a).2.1 ≠ (TX4 b).2.1 := by decide +kernel
theorem tyX4_ok : ∀ k, k < 3 → parseFieldDescriptor (TX4 k).2.2.1 = some (tyX4 k) := by decide +kernel
abbrev cX4_init : ByteArray := prog_6_method_1_code
def yX4_init : MethodName := ⟨RX4, "<init>", "()V"⟩
abbrev cX4_lay : ByteArray := prog_6_method_2_code
def yX4_lay : MethodName := ⟨RX4, "lay", "(II)V"⟩
abbrev cX4_isMissing : ByteArray := prog_6_method_3_code
def yX4_isMissing : MethodName := ⟨RX4, "isMissing", "()Z"⟩
abbrev cX4_lowest : ByteArray := prog_6_method_4_code
def yX4_lowest : MethodName := ⟨RX4, "lowest", "(I)I"⟩
abbrev cX4_holds : ByteArray := prog_6_method_5_code
def yX4_holds : MethodName := ⟨RX4, "holds", "(II)Z"⟩
def RX5 : String := "DrownedBell$Streams"
def TX5 : u_T := fun k => match k with
  | 0 => ("DrownedBell$Streams", "wide", "[I", true)
  | _ => ("DrownedBell$Streams", "drops", "[I", true)
def tyX5 : Nat → FieldType := fun k => match k with
  | 0 => .array .int
  | _ => .array .int
abbrev wsX50 : List Cond := u_ws RX5 TX5 2
theorem nmX5 : ∀ a, a < 2 → ∀ b, b < 2 → a ≠ b → (TX5 a).2.1 ≠ (TX5 b).2.1 := by decide +kernel
theorem tyX5_ok : ∀ k, k < 2 → parseFieldDescriptor (TX5 k).2.2.1 = some (tyX5 k) := by decide +kernel
abbrev cX5_init : ByteArray := prog_7_method_1_code
def yX5_init : MethodName := ⟨RX5, "<init>", "()V"⟩
abbrev cX5_copyOf : ByteArray := prog_7_method_2_code
def yX5_copyOf : MethodName := ⟨RX5, "copyOf", "(LDrownedBell$Streams;)V"⟩
abbrev cX5_rainAt : ByteArray := prog_7_method_3_code
def yX5_rainAt : MethodName := ⟨RX5, "rainAt", "(II)I"⟩
abbrev cX5_putRain : ByteArray := prog_7_method_4_code
def yX5_putRain : MethodName := ⟨RX5, "putRain", "(III)V"⟩
abbrev cX5_flowAt : ByteArray := prog_7_method_5_code
def yX5_flowAt : MethodName := ⟨RX5, "flowAt", "(I)I"⟩
abbrev cX5_leading : ByteArray := prog_7_method_6_code
def yX5_leading : MethodName := ⟨RX5, "leading", "(I)I"⟩
def RX6 : String := "DrownedBell$Tape"
def TX6 : u_T := fun k => match k with
  | 0 => ("DrownedBell$Tape", "bytes", "[I", true)
  | _ => ("DrownedBell$Tape", "size", "I", false)
def tyX6 : Nat → FieldType := fun k => match k with
  | 0 => .array .int
  | _ => .int
abbrev wsX60 : List Cond := u_ws RX6 TX6 2
theorem nmX6 : ∀ a, a < 2 → ∀ b, b < 2 → a ≠ b → (TX6 a).2.1 ≠ (TX6 b).2.1 := by decide +kernel
theorem tyX6_ok : ∀ k, k < 2 → parseFieldDescriptor (TX6 k).2.2.1 = some (tyX6 k) := by decide +kernel
abbrev cX6_init : ByteArray := prog_8_method_1_code
def yX6_init : MethodName := ⟨RX6, "<init>", "()V"⟩
abbrev cX6_copyOf : ByteArray := prog_8_method_2_code
def yX6_copyOf : MethodName := ⟨RX6, "copyOf", "(LDrownedBell$Tape;)V"⟩
abbrev cX6_append : ByteArray := prog_8_method_3_code
def yX6_append : MethodName := ⟨RX6, "append", "(JI)V"⟩
abbrev cX6_byteAt : ByteArray := prog_8_method_4_code
def yX6_byteAt : MethodName := ⟨RX6, "byteAt", "(I)I"⟩
def RX7 : String := "DrownedBell$Voices"
def TX7 : u_T := fun k => match k with
  | 0 => ("DrownedBell$Voices", "begun", "[I", true)
  | 1 => ("DrownedBell$Voices", "size", "I", false)
  | 2 => ("DrownedBell$Voices", "kind", "I", false)
  | 3 => ("DrownedBell$Voices", "m", "I", false)
  | _ => ("DrownedBell$Voices", "n", "I", false)
def tyX7 : Nat → FieldType := fun k => match k with
  | 0 => .array .int
  | 1 => .int
  | 2 => .int
  | 3 => .int
  | _ => .int
abbrev wsX70 : List Cond := u_ws RX7 TX7 5
theorem nmX7 : ∀ a, a < 5 → ∀ b, b < 5 → a ≠ b → (TX7 a).2.1 ≠ (TX7 b).2.1 := by decide +kernel
theorem tyX7_ok : ∀ k, k < 5 → parseFieldDescriptor (TX7 k).2.2.1 = some (tyX7 k) := by decide +kernel
abbrev cX7_init : ByteArray := prog_9_method_1_code
def yX7_init : MethodName := ⟨RX7, "<init>", "()V"⟩
abbrev cX7_speak : ByteArray := prog_9_method_2_code
def yX7_speak : MethodName := ⟨RX7, "speak", "(LDrownedBell$Fisher;III)I"⟩
abbrev cX7_say : ByteArray := prog_9_method_3_code
def yX7_say : MethodName := ⟨RX7, "say", "(IIII)I"⟩
abbrev cX7_bodyOf : ByteArray := prog_9_method_4_code
def yX7_bodyOf : MethodName := ⟨RX7, "bodyOf", "(II)I"⟩
abbrev cX7_worked : ByteArray := prog_9_method_5_code
def yX7_worked : MethodName := ⟨RX7, "worked", "(III)I"⟩
def RX8 : String := "DrownedBell$World"
def TX8 : u_T := fun k => match k with
  | 0 => ("DrownedBell$World", "streams", "LDrownedBell$Streams;", true)
  | 1 => ("DrownedBell$World", "ledger", "LDrownedBell$Ledger;", true)
  | 2 => ("DrownedBell$World", "rings", "LDrownedBell$Formula;", true)
  | 3 => ("DrownedBell$World", "lets", "LDrownedBell$Formula;", true)
  | 4 => ("DrownedBell$World", "tape", "LDrownedBell$Tape;", true)
  | 5 => ("DrownedBell$World", "fishers", "[LDrownedBell$Fisher;", true)
  | 6 => ("DrownedBell$World", "people", "I", false)
  | 7 => ("DrownedBell$World", "high", "[I", true)
  | 8 => ("DrownedBell$World", "waiting", "[I", true)
  | 9 => ("DrownedBell$World", "waits", "I", false)
  | 10 => ("DrownedBell$World", "hour", "I", false)
  | 11 => ("DrownedBell$World", "level", "I", false)
  | 12 => ("DrownedBell$World", "gate", "I", false)
  | 13 => ("DrownedBell$World", "spilt", "I", false)
  | 14 => ("DrownedBell$World", "silt", "I", false)
  | 15 => ("DrownedBell$World", "muffled", "I", false)
  | 16 => ("DrownedBell$World", "strain", "I", false)
  | 17 => ("DrownedBell$World", "limit", "I", false)
  | _ => ("DrownedBell$World", "z", "I", false)
def tyX8 : Nat → FieldType := fun k => match k with
  | 0 => .object "DrownedBell$Streams"
  | 1 => .object "DrownedBell$Ledger"
  | 2 => .object "DrownedBell$Formula"
  | 3 => .object "DrownedBell$Formula"
  | 4 => .object "DrownedBell$Tape"
  | 5 => .array (.object "DrownedBell$Fisher")
  | 6 => .int
  | 7 => .array .int
  | 8 => .array .int
  | 9 => .int
  | 10 => .int
  | 11 => .int
  | 12 => .int
  | 13 => .int
  | 14 => .int
  | 15 => .int
  | 16 => .int
  | 17 => .int
  | _ => .int
abbrev wsX80 : List Cond := u_ws RX8 TX8 19
theorem nmX8 : ∀ a, a < 19 → ∀ b, b < 19 → a ≠ b → (TX8 a).2.1 ≠ (TX8 b).2.1 := by decide +kernel
theorem tyX8_ok : ∀ k, k < 19 → parseFieldDescriptor (TX8 k).2.2.1 = some (tyX8 k) := by decide +kernel
abbrev cX8_init : ByteArray := prog_10_method_1_code
def yX8_init : MethodName := ⟨RX8, "<init>", "()V"⟩
abbrev cX8_copyOf : ByteArray := prog_10_method_2_code
def yX8_copyOf : MethodName := ⟨RX8, "copyOf", "(LDrownedBell$World;)V"⟩
abbrev cX8_maySet : ByteArray := prog_10_method_3_code
def yX8_maySet : MethodName := ⟨RX8, "maySet", "(II)Z"⟩
abbrev cX8_setting : ByteArray := prog_10_method_4_code
def yX8_setting : MethodName := ⟨RX8, "setting", "(I)I"⟩
abbrev cX8_putSetting : ByteArray := prog_10_method_5_code
def yX8_putSetting : MethodName := ⟨RX8, "putSetting", "(II)V"⟩
abbrev cX8_reading : ByteArray := prog_10_method_6_code
def yX8_reading : MethodName := ⟨RX8, "reading", "(I)I"⟩
abbrev cX8_hourOfDay : ByteArray := prog_10_method_7_code
def yX8_hourOfDay : MethodName := ⟨RX8, "hourOfDay", "()I"⟩
abbrev cX8_flow : ByteArray := prog_10_method_8_code
def yX8_flow : MethodName := ⟨RX8, "flow", "()I"⟩
abbrev cX8_currentOf : ByteArray := prog_10_method_9_code
def yX8_currentOf : MethodName := ⟨RX8, "currentOf", "(I)I"⟩
abbrev cX8_stands : ByteArray := prog_10_method_10_code
def yX8_stands : MethodName := ⟨RX8, "stands", "()Z"⟩
abbrev cX8_strikes : ByteArray := prog_10_method_11_code
def yX8_strikes : MethodName := ⟨RX8, "strikes", "()I"⟩
abbrev cX8_strikesBy : ByteArray := prog_10_method_12_code
def yX8_strikesBy : MethodName := ⟨RX8, "strikesBy", "(I)I"⟩
abbrev cX8_noteOf : ByteArray := prog_10_method_13_code
def yX8_noteOf : MethodName := ⟨RX8, "noteOf", "(I)I"⟩
abbrev cX8_rung : ByteArray := prog_10_method_14_code
def yX8_rung : MethodName := ⟨RX8, "rung", "(III)I"⟩
abbrev cX8_letOut : ByteArray := prog_10_method_15_code
def yX8_letOut : MethodName := ⟨RX8, "letOut", "(III)I"⟩
abbrev cX8_thingShows : ByteArray := prog_10_method_16_code
def yX8_thingShows : MethodName := ⟨RX8, "thingShows", "(I)Z"⟩
abbrev cX8_passHour : ByteArray := prog_10_method_17_code
def yX8_passHour : MethodName := ⟨RX8, "passHour", "()V"⟩
abbrev cX8_loosen : ByteArray := prog_10_method_18_code
def yX8_loosen : MethodName := ⟨RX8, "loosen", "()V"⟩
abbrev cX8_fisherAt : ByteArray := prog_10_method_19_code
def yX8_fisherAt : MethodName := ⟨RX8, "fisherAt", "(I)LDrownedBell$Fisher;"⟩
abbrev cX8_hearsNow : ByteArray := prog_10_method_20_code
def yX8_hearsNow : MethodName := ⟨RX8, "hearsNow", "(LDrownedBell$Fisher;)Z"⟩
abbrev cX8_bidNow : ByteArray := prog_10_method_21_code
def yX8_bidNow : MethodName := ⟨RX8, "bidNow", "(LDrownedBell$Fisher;)I"⟩
abbrev cX8_trait : ByteArray := prog_10_method_22_code
def yX8_trait : MethodName := ⟨RX8, "trait", "(LDrownedBell$Fisher;I)I"⟩
abbrev cX8_heardOfAll : ByteArray := prog_10_method_23_code
def yX8_heardOfAll : MethodName := ⟨RX8, "heardOfAll", "()I"⟩
abbrev cX8_pursesOfAll : ByteArray := prog_10_method_24_code
def yX8_pursesOfAll : MethodName := ⟨RX8, "pursesOfAll", "()I"⟩
def RX9 : String := "DrownedBell"
def TX9 : u_T := fun k => match k with
  | 0 => ("DrownedBell", "here", "LDrownedBell$World;", true)
  | 1 => ("DrownedBell", "ahead", "LDrownedBell$World;", true)
  | 2 => ("DrownedBell", "kept", "LDrownedBell$World;", true)
  | 3 => ("DrownedBell", "reader", "LDrownedBell$Reader;", true)
  | 4 => ("DrownedBell", "voices", "LDrownedBell$Voices;", true)
  | 5 => ("DrownedBell", "sheets", "[LDrownedBell$Sheet;", true)
  | 6 => ("DrownedBell", "errors", "[I", true)
  | _ => ("DrownedBell", "images", "I", false)
def tyX9 : Nat → FieldType := fun k => match k with
  | 0 => .object "DrownedBell$World"
  | 1 => .object "DrownedBell$World"
  | 2 => .object "DrownedBell$World"
  | 3 => .object "DrownedBell$Reader"
  | 4 => .object "DrownedBell$Voices"
  | 5 => .array (.object "DrownedBell$Sheet")
  | 6 => .array .int
  | _ => .int
abbrev wsX90 : List Cond := u_ws RX9 TX9 8
theorem nmX9 : ∀ a, a < 8 → ∀ b, b < 8 → a ≠ b → (TX9 a).2.1 ≠ (TX9 b).2.1 := by decide +kernel
theorem tyX9_ok : ∀ k, k < 8 → parseFieldDescriptor (TX9 k).2.2.1 = some (tyX9 k) := by decide +kernel
abbrev cX9_init : ByteArray := prog_1_method_1_code
def yX9_init : MethodName := ⟨RX9, "<init>", "()V"⟩
abbrev cX9_within : ByteArray := prog_1_method_2_code
def yX9_within : MethodName := ⟨RX9, "within", "(III)Z"⟩
abbrev cX9_held : ByteArray := prog_1_method_3_code
def yX9_held : MethodName := ⟨RX9, "held", "(III)I"⟩
abbrev cX9_fail : ByteArray := prog_1_method_4_code
def yX9_fail : MethodName := ⟨RX9, "fail", "(I)I"⟩
abbrev cX9_goAhead : ByteArray := prog_1_method_5_code
def yX9_goAhead : MethodName := ⟨RX9, "goAhead", "(I)V"⟩
abbrev cX9_sheetAt : ByteArray := prog_1_method_6_code
def yX9_sheetAt : MethodName := ⟨RX9, "sheetAt", "(I)LDrownedBell$Sheet;"⟩
abbrev cX9_rain : ByteArray := prog_1_method_7_code
def yX9_rain : MethodName := ⟨RX9, "rain", "(III)I"⟩
abbrev cX9_set : ByteArray := prog_1_method_8_code
def yX9_set : MethodName := ⟨RX9, "set", "(II)I"⟩
abbrev cX9_now : ByteArray := prog_1_method_9_code
def yX9_now : MethodName := ⟨RX9, "now", "(I)I"⟩
abbrev cX9_led : ByteArray := prog_1_method_10_code
def yX9_led : MethodName := ⟨RX9, "led", "(I)I"⟩
abbrev cX9_thing : ByteArray := prog_1_method_11_code
def yX9_thing : MethodName := ⟨RX9, "thing", "(II)I"⟩
abbrev cX9_shows : ByteArray := prog_1_method_12_code
def yX9_shows : MethodName := ⟨RX9, "shows", "()I"⟩
abbrev cX9_fisher : ByteArray := prog_1_method_13_code
def yX9_fisher : MethodName := ⟨RX9, "fisher", "(II)I"⟩
abbrev cX9_ofFisher : ByteArray := prog_1_method_14_code
def yX9_ofFisher : MethodName := ⟨RX9, "ofFisher", "(II)I"⟩
abbrev cX9_change : ByteArray := prog_1_method_15_code
def yX9_change : MethodName := ⟨RX9, "change", "(III)I"⟩
abbrev cX9_become : ByteArray := prog_1_method_16_code
def yX9_become : MethodName := ⟨RX9, "become", "(II)I"⟩
abbrev cX9_as : ByteArray := prog_1_method_17_code
def yX9_as : MethodName := ⟨RX9, "as", "(II)I"⟩
abbrev cX9_bids : ByteArray := prog_1_method_18_code
def yX9_bids : MethodName := ⟨RX9, "bids", "(III)I"⟩
abbrev cX9_sell : ByteArray := prog_1_method_19_code
def yX9_sell : MethodName := ⟨RX9, "sell", "()I"⟩
abbrev cX9_feed : ByteArray := prog_1_method_20_code
def yX9_feed : MethodName := ⟨RX9, "feed", "(JI)I"⟩
abbrev cX9_text : ByteArray := prog_1_method_21_code
def yX9_text : MethodName := ⟨RX9, "text", "(I)I"⟩
abbrev cX9_law : ByteArray := prog_1_method_22_code
def yX9_law : MethodName := ⟨RX9, "law", "(IIII)I"⟩
abbrev cX9_hours : ByteArray := prog_1_method_23_code
def yX9_hours : MethodName := ⟨RX9, "hours", "(I)I"⟩
abbrev cX9_loose : ByteArray := prog_1_method_24_code
def yX9_loose : MethodName := ⟨RX9, "loose", "(I)I"⟩
abbrev cX9_passHours : ByteArray := prog_1_method_25_code
def yX9_passHours : MethodName := ⟨RX9, "passHours", "(IZ)I"⟩
abbrev cX9_then : ByteArray := prog_1_method_26_code
def yX9_then : MethodName := ⟨RX9, "then", "(II)I"⟩
abbrev cX9_thenFisher : ByteArray := prog_1_method_27_code
def yX9_thenFisher : MethodName := ⟨RX9, "thenFisher", "(III)I"⟩
abbrev cX9_falls : ByteArray := prog_1_method_28_code
def yX9_falls : MethodName := ⟨RX9, "falls", "(I)I"⟩
abbrev cX9_book : ByteArray := prog_1_method_29_code
def yX9_book : MethodName := ⟨RX9, "book", "(II)I"⟩
abbrev cX9_odds : ByteArray := prog_1_method_30_code
def yX9_odds : MethodName := ⟨RX9, "odds", "(II)J"⟩
abbrev cX9_gateFor : ByteArray := prog_1_method_31_code
def yX9_gateFor : MethodName := ⟨RX9, "gateFor", "(III)I"⟩
abbrev cX9_gateKeeps : ByteArray := prog_1_method_32_code
def yX9_gateKeeps : MethodName := ⟨RX9, "gateKeeps", "(IIII)Z"⟩
abbrev cX9_shown : ByteArray := prog_1_method_33_code
def yX9_shown : MethodName := ⟨RX9, "shown", "(II)I"⟩
abbrev cX9_seed : ByteArray := prog_1_method_34_code
def yX9_seed : MethodName := ⟨RX9, "seed", "(I)I"⟩
abbrev cX9_voice : ByteArray := prog_1_method_35_code
def yX9_voice : MethodName := ⟨RX9, "voice", "(III)I"⟩
abbrev cX9_trace : ByteArray := prog_1_method_36_code
def yX9_trace : MethodName := ⟨RX9, "trace", "(I)I"⟩
abbrev cX9_sheet : ByteArray := prog_1_method_37_code
def yX9_sheet : MethodName := ⟨RX9, "sheet", "(III)I"⟩
abbrev cX9_put : ByteArray := prog_1_method_38_code
def yX9_put : MethodName := ⟨RX9, "put", "(III)I"⟩
abbrev cX9_move : ByteArray := prog_1_method_39_code
def yX9_move : MethodName := ⟨RX9, "move", "(IIIII)I"⟩
abbrev cX9_rains : ByteArray := prog_1_method_40_code
def yX9_rains : MethodName := ⟨RX9, "rains", "(II)I"⟩
abbrev cX9_judge : ByteArray := prog_1_method_41_code
def yX9_judge : MethodName := ⟨RX9, "judge", "(I)I"⟩
abbrev cX9_image : ByteArray := prog_1_method_42_code
def yX9_image : MethodName := ⟨RX9, "image", "()I"⟩
abbrev cX9_restore : ByteArray := prog_1_method_43_code
def yX9_restore : MethodName := ⟨RX9, "restore", "()I"⟩
abbrev cX9_tell : ByteArray := prog_1_method_44_code
def yX9_tell : MethodName := ⟨RX9, "tell", "(I)I"⟩
abbrev cX9_check : ByteArray := prog_1_method_45_code
def yX9_check : MethodName := ⟨RX9, "check", "()I"⟩
abbrev cX9_count : ByteArray := prog_1_method_46_code
def yX9_count : MethodName := ⟨RX9, "count", "(I)I"⟩
abbrev cX9_told : ByteArray := prog_1_method_47_code
def yX9_told : MethodName := ⟨RX9, "told", "(I)I"⟩
def RX10 : String := "DrownedBellModel"
def TX10 : u_T := fun k => match k with
  | 0 => ("DrownedBellModel", "d", "[I", true)
  | 1 => ("DrownedBellModel", "e", "[I", true)
  | 2 => ("DrownedBellModel", "kept", "[I", true)
  | 3 => ("DrownedBellModel", "images", "I", false)
  | 4 => ("DrownedBellModel", "found", "[I", true)
  | 5 => ("DrownedBellModel", "base", "I", false)
  | 6 => ("DrownedBellModel", "at", "I", false)
  | 7 => ("DrownedBellModel", "size", "I", false)
  | 8 => ("DrownedBellModel", "fault", "I", false)
  | 9 => ("DrownedBellModel", "opened", "I", false)
  | 10 => ("DrownedBellModel", "isLet", "Z", false)
  | 11 => ("DrownedBellModel", "names", "[I", true)
  | 12 => ("DrownedBellModel", "traced", "[I", true)
  | 13 => ("DrownedBellModel", "traceMany", "I", false)
  | 14 => ("DrownedBellModel", "who", "I", false)
  | 15 => ("DrownedBellModel", "bitsOf", "[I", true)
  | 16 => ("DrownedBellModel", "sizeOf", "[I", true)
  | 17 => ("DrownedBellModel", "number", "[I", true)
  | _ => ("DrownedBellModel", "lifted", "[I", true)
def tyX10 : Nat → FieldType := fun k => match k with
  | 0 => .array .int
  | 1 => .array .int
  | 2 => .array .int
  | 3 => .int
  | 4 => .array .int
  | 5 => .int
  | 6 => .int
  | 7 => .int
  | 8 => .int
  | 9 => .int
  | 10 => .boolean
  | 11 => .array .int
  | 12 => .array .int
  | 13 => .int
  | 14 => .int
  | 15 => .array .int
  | 16 => .array .int
  | 17 => .array .int
  | _ => .array .int
abbrev wsX100 : List Cond := u_ws RX10 TX10 19
theorem nmX10 : ∀ a, a < 19 → ∀ b, b < 19 → a ≠ b → (TX10 a).2.1 ≠ (TX10 b).2.1 := by decide +kernel
theorem tyX10_ok : ∀ k, k < 19 → parseFieldDescriptor (TX10 k).2.2.1 = some (tyX10 k) := by decide +kernel
abbrev cX10_init : ByteArray := prog_12_method_1_code
def yX10_init : MethodName := ⟨RX10, "<init>", "()V"⟩
abbrev cX10_finds : ByteArray := prog_12_method_3_code
def yX10_finds : MethodName := ⟨RX10, "finds", "(I)I"⟩
abbrev cX10_in : ByteArray := prog_12_method_4_code
def yX10_in : MethodName := ⟨RX10, "in", "(JJJ)Z"⟩
abbrev cX10_held : ByteArray := prog_12_method_5_code
def yX10_held : MethodName := ⟨RX10, "held", "(III)I"⟩
abbrev cX10_lesser : ByteArray := prog_12_method_6_code
def yX10_lesser : MethodName := ⟨RX10, "lesser", "(II)I"⟩
abbrev cX10_greater : ByteArray := prog_12_method_7_code
def yX10_greater : MethodName := ⟨RX10, "greater", "(II)I"⟩
abbrev cX10_copies : ByteArray := prog_12_method_8_code
def yX10_copies : MethodName := ⟨RX10, "copies", "([I[I)V"⟩
abbrev cX10_isFisher : ByteArray := prog_12_method_9_code
def yX10_isFisher : MethodName := ⟨RX10, "isFisher", "(I)Z"⟩
abbrev cX10_of : ByteArray := prog_12_method_10_code
def yX10_of : MethodName := ⟨RX10, "of", "(II)I"⟩
abbrev cX10_becomes : ByteArray := prog_12_method_11_code
def yX10_becomes : MethodName := ⟨RX10, "becomes", "(III)V"⟩
abbrev cX10_here : ByteArray := prog_12_method_12_code
def yX10_here : MethodName := ⟨RX10, "here", "()I"⟩
abbrev cX10_wrong : ByteArray := prog_12_method_13_code
def yX10_wrong : MethodName := ⟨RX10, "wrong", "()I"⟩
abbrev cX10_takes : ByteArray := prog_12_method_14_code
def yX10_takes : MethodName := ⟨RX10, "takes", "(I)Z"⟩
abbrev cX10_nameOf : ByteArray := prog_12_method_15_code
def yX10_nameOf : MethodName := ⟨RX10, "nameOf", "(I)I"⟩
abbrev cX10_either : ByteArray := prog_12_method_16_code
def yX10_either : MethodName := ⟨RX10, "either", "()I"⟩
abbrev cX10_both : ByteArray := prog_12_method_17_code
def yX10_both : MethodName := ⟨RX10, "both", "()I"⟩
abbrev cX10_compared : ByteArray := prog_12_method_18_code
def yX10_compared : MethodName := ⟨RX10, "compared", "()I"⟩
abbrev cX10_sum : ByteArray := prog_12_method_19_code
def yX10_sum : MethodName := ⟨RX10, "sum", "()I"⟩
abbrev cX10_product : ByteArray := prog_12_method_20_code
def yX10_product : MethodName := ⟨RX10, "product", "()I"⟩
abbrev cX10_unit : ByteArray := prog_12_method_21_code
def yX10_unit : MethodName := ⟨RX10, "unit", "()I"⟩
abbrev cX10_worked : ByteArray := prog_12_method_22_code
def yX10_worked : MethodName := ⟨RX10, "worked", "(III)I"⟩
abbrev cX10_feed : ByteArray := prog_12_method_23_code
def yX10_feed : MethodName := ⟨RX10, "feed", "(JI)I"⟩
abbrev cX10_text : ByteArray := prog_12_method_24_code
def yX10_text : MethodName := ⟨RX10, "text", "(I)I"⟩
abbrev cX10_gives : ByteArray := prog_12_method_25_code
def yX10_gives : MethodName := ⟨RX10, "gives", "(IIII)I"⟩
abbrev cX10_law : ByteArray := prog_12_method_26_code
def yX10_law : MethodName := ⟨RX10, "law", "(IIII)I"⟩
abbrev cX10_rainAt : ByteArray := prog_12_method_27_code
def yX10_rainAt : MethodName := ⟨RX10, "rainAt", "(II)I"⟩
abbrev cX10_flowAt : ByteArray := prog_12_method_28_code
def yX10_flowAt : MethodName := ⟨RX10, "flowAt", "(I)I"⟩
abbrev cX10_current : ByteArray := prog_12_method_29_code
def yX10_current : MethodName := ⟨RX10, "current", "()I"⟩
abbrev cX10_stands : ByteArray := prog_12_method_30_code
def yX10_stands : MethodName := ⟨RX10, "stands", "()Z"⟩
abbrev cX10_strikes : ByteArray := prog_12_method_31_code
def yX10_strikes : MethodName := ⟨RX10, "strikes", "()I"⟩
abbrev cX10_note : ByteArray := prog_12_method_32_code
def yX10_note : MethodName := ⟨RX10, "note", "()I"⟩
abbrev cX10_rain : ByteArray := prog_12_method_33_code
def yX10_rain : MethodName := ⟨RX10, "rain", "(III)I"⟩
abbrev cX10_set : ByteArray := prog_12_method_34_code
def yX10_set : MethodName := ⟨RX10, "set", "(II)I"⟩
abbrev cX10_toldNow : ByteArray := prog_12_method_35_code
def yX10_toldNow : MethodName := ⟨RX10, "toldNow", "(I)I"⟩
abbrev cX10_now : ByteArray := prog_12_method_36_code
def yX10_now : MethodName := ⟨RX10, "now", "(I)I"⟩
abbrev cX10_led : ByteArray := prog_12_method_37_code
def yX10_led : MethodName := ⟨RX10, "led", "(I)I"⟩
abbrev cX10_thing : ByteArray := prog_12_method_38_code
def yX10_thing : MethodName := ⟨RX10, "thing", "(II)I"⟩
abbrev cX10_shows : ByteArray := prog_12_method_39_code
def yX10_shows : MethodName := ⟨RX10, "shows", "()I"⟩
abbrev cX10_fisher : ByteArray := prog_12_method_40_code
def yX10_fisher : MethodName := ⟨RX10, "fisher", "(II)I"⟩
abbrev cX10_hears : ByteArray := prog_12_method_41_code
def yX10_hears : MethodName := ⟨RX10, "hears", "(I)Z"⟩
abbrev cX10_bidOf : ByteArray := prog_12_method_42_code
def yX10_bidOf : MethodName := ⟨RX10, "bidOf", "(III)I"⟩
abbrev cX10_common : ByteArray := prog_12_method_43_code
def yX10_common : MethodName := ⟨RX10, "common", "(II)I"⟩
abbrev cX10_oddsOf : ByteArray := prog_12_method_44_code
def yX10_oddsOf : MethodName := ⟨RX10, "oddsOf", "(II)I"⟩
abbrev cX10_bidNow : ByteArray := prog_12_method_45_code
def yX10_bidNow : MethodName := ⟨RX10, "bidNow", "(I)I"⟩
abbrev cX10_toldOf : ByteArray := prog_12_method_46_code
def yX10_toldOf : MethodName := ⟨RX10, "toldOf", "(II)I"⟩
abbrev cX10_ofFisher : ByteArray := prog_12_method_47_code
def yX10_ofFisher : MethodName := ⟨RX10, "ofFisher", "(II)I"⟩
abbrev cX10_change : ByteArray := prog_12_method_48_code
def yX10_change : MethodName := ⟨RX10, "change", "(III)I"⟩
abbrev cX10_become : ByteArray := prog_12_method_49_code
def yX10_become : MethodName := ⟨RX10, "become", "(II)I"⟩
abbrev cX10_above : ByteArray := prog_12_method_50_code
def yX10_above : MethodName := ⟨RX10, "above", "(I)I"⟩
abbrev cX10_as : ByteArray := prog_12_method_51_code
def yX10_as : MethodName := ⟨RX10, "as", "(II)I"⟩
abbrev cX10_bids : ByteArray := prog_12_method_52_code
def yX10_bids : MethodName := ⟨RX10, "bids", "(III)I"⟩
abbrev cX10_sell : ByteArray := prog_12_method_53_code
def yX10_sell : MethodName := ⟨RX10, "sell", "()I"⟩
abbrev cX10_heardBy : ByteArray := prog_12_method_54_code
def yX10_heardBy : MethodName := ⟨RX10, "heardBy", "()V"⟩
abbrev cX10_goesBy : ByteArray := prog_12_method_55_code
def yX10_goesBy : MethodName := ⟨RX10, "goesBy", "()V"⟩
abbrev cX10_goesOn : ByteArray := prog_12_method_56_code
def yX10_goesOn : MethodName := ⟨RX10, "goesOn", "(I)V"⟩
abbrev cX10_drawn : ByteArray := prog_12_method_57_code
def yX10_drawn : MethodName := ⟨RX10, "drawn", "()I"⟩
abbrev cX10_otherwise : ByteArray := prog_12_method_58_code
def yX10_otherwise : MethodName := ⟨RX10, "otherwise", "()V"⟩
abbrev cX10_goes : ByteArray := prog_12_method_59_code
def yX10_goes : MethodName := ⟨RX10, "goes", "(IZ)I"⟩
abbrev cX10_hours : ByteArray := prog_12_method_60_code
def yX10_hours : MethodName := ⟨RX10, "hours", "(I)I"⟩
abbrev cX10_loose : ByteArray := prog_12_method_61_code
def yX10_loose : MethodName := ⟨RX10, "loose", "(I)I"⟩
abbrev cX10_then : ByteArray := prog_12_method_62_code
def yX10_then : MethodName := ⟨RX10, "then", "(II)I"⟩
abbrev cX10_thenFisher : ByteArray := prog_12_method_63_code
def yX10_thenFisher : MethodName := ⟨RX10, "thenFisher", "(III)I"⟩
abbrev cX10_falls : ByteArray := prog_12_method_64_code
def yX10_falls : MethodName := ⟨RX10, "falls", "(I)I"⟩
abbrev cX10_book : ByteArray := prog_12_method_65_code
def yX10_book : MethodName := ⟨RX10, "book", "(II)I"⟩
abbrev cX10_odds : ByteArray := prog_12_method_66_code
def yX10_odds : MethodName := ⟨RX10, "odds", "(II)J"⟩
abbrev cX10_keeps : ByteArray := prog_12_method_67_code
def yX10_keeps : MethodName := ⟨RX10, "keeps", "(IIII)Z"⟩
abbrev cX10_gateFor : ByteArray := prog_12_method_68_code
def yX10_gateFor : MethodName := ⟨RX10, "gateFor", "(III)I"⟩
abbrev cX10_shown : ByteArray := prog_12_method_69_code
def yX10_shown : MethodName := ⟨RX10, "shown", "(II)I"⟩
abbrev cX10_seed : ByteArray := prog_12_method_70_code
def yX10_seed : MethodName := ⟨RX10, "seed", "(I)I"⟩
abbrev cX10_ran : ByteArray := prog_12_method_71_code
def yX10_ran : MethodName := ⟨RX10, "ran", "(I)V"⟩
abbrev cX10_own : ByteArray := prog_12_method_72_code
def yX10_own : MethodName := ⟨RX10, "own", "()I"⟩
abbrev cX10_heard : ByteArray := prog_12_method_73_code
def yX10_heard : MethodName := ⟨RX10, "heard", "(II)I"⟩
abbrev cX10_bid : ByteArray := prog_12_method_74_code
def yX10_bid : MethodName := ⟨RX10, "bid", "(II)I"⟩
abbrev cX10_rows : ByteArray := prog_12_method_75_code
def yX10_rows : MethodName := ⟨RX10, "rows", "(II)I"⟩
abbrev cX10_tells : ByteArray := prog_12_method_76_code
def yX10_tells : MethodName := ⟨RX10, "tells", "(II)I"⟩
abbrev cX10_voice : ByteArray := prog_12_method_77_code
def yX10_voice : MethodName := ⟨RX10, "voice", "(III)I"⟩
abbrev cX10_trace : ByteArray := prog_12_method_78_code
def yX10_trace : MethodName := ⟨RX10, "trace", "(I)I"⟩
abbrev cX10_isSheet : ByteArray := prog_12_method_79_code
def yX10_isSheet : MethodName := ⟨RX10, "isSheet", "(I)Z"⟩
abbrev cX10_sheet : ByteArray := prog_12_method_80_code
def yX10_sheet : MethodName := ⟨RX10, "sheet", "(III)I"⟩
abbrev cX10_put : ByteArray := prog_12_method_81_code
def yX10_put : MethodName := ⟨RX10, "put", "(III)I"⟩
abbrev cX10_move : ByteArray := prog_12_method_82_code
def yX10_move : MethodName := ⟨RX10, "move", "(IIIII)I"⟩
abbrev cX10_rains : ByteArray := prog_12_method_83_code
def yX10_rains : MethodName := ⟨RX10, "rains", "(II)I"⟩
abbrev cX10_judge : ByteArray := prog_12_method_84_code
def yX10_judge : MethodName := ⟨RX10, "judge", "(I)I"⟩
abbrev cX10_image : ByteArray := prog_12_method_85_code
def yX10_image : MethodName := ⟨RX10, "image", "()I"⟩
abbrev cX10_restore : ByteArray := prog_12_method_86_code
def yX10_restore : MethodName := ⟨RX10, "restore", "()I"⟩
abbrev cX10_tell : ByteArray := prog_12_method_87_code
def yX10_tell : MethodName := ⟨RX10, "tell", "(I)I"⟩
abbrev cX10_check : ByteArray := prog_12_method_88_code
def yX10_check : MethodName := ⟨RX10, "check", "()I"⟩
abbrev cX10_sumOf : ByteArray := prog_12_method_89_code
def yX10_sumOf : MethodName := ⟨RX10, "sumOf", "(I)I"⟩
abbrev cX10_count : ByteArray := prog_12_method_90_code
def yX10_count : MethodName := ⟨RX10, "count", "(I)I"⟩
abbrev cX10_told : ByteArray := prog_12_method_91_code
def yX10_told : MethodName := ⟨RX10, "told", "(I)I"⟩
def RJx145de : String := "java/io/Serializable"
def TJx145de : u_T := fun k => match k with
  | _ => ("", "", "", false)
def tyJx145de : Nat → FieldType := fun k => match k with
  | _ => .int
abbrev wsJx145de0 : List Cond := u_ws RJx145de TJx145de 0
theorem nmJx145de : ∀ a, a < 0 → ∀ b, b < 0 → a ≠ b → (TJx145de a).2.1 ≠ (TJx145de b).2.1 := by decide +kernel
theorem tyJx145de_ok : ∀ k, k < 0 → parseFieldDescriptor (TJx145de k).2.2.1 = some (tyJx145de k) := by decide +kernel
def RJx9f9b0 : String := "java/lang/CharSequence"
def TJx9f9b0 : u_T := fun k => match k with
  | _ => ("", "", "", false)
def tyJx9f9b0 : Nat → FieldType := fun k => match k with
  | _ => .int
abbrev wsJx9f9b00 : List Cond := u_ws RJx9f9b0 TJx9f9b0 0
theorem nmJx9f9b0 : ∀ a, a < 0 → ∀ b, b < 0 → a ≠ b → (TJx9f9b0 a).2.1 ≠ (TJx9f9b0 b).2.1 := by decide +kernel
theorem tyJx9f9b0_ok : ∀ k, k < 0 → parseFieldDescriptor (TJx9f9b0 k).2.2.1 = some (tyJx9f9b0 k) := by decide +kernel
def RJ11 : String := "java/lang/Character"
def TJ11 : u_T := fun k => match k with
  | _ => ("", "", "", false)
def tyJ11 : Nat → FieldType := fun k => match k with
  | _ => .int
abbrev wsJ110 : List Cond := u_ws RJ11 TJ11 0
theorem nmJ11 : ∀ a, a < 0 → ∀ b, b < 0 → a ≠ b → (TJ11 a).2.1 ≠ (TJ11 b).2.1 := by decide +kernel
theorem tyJ11_ok : ∀ k, k < 0 → parseFieldDescriptor (TJ11 k).2.2.1 = some (tyJ11 k) := by decide +kernel
abbrev cJ11_isValidCodePoint_9a6ad : ByteArray := prog_13_method_11_code
def yJ11_isValidCodePoint_9a6ad : MethodName := ⟨RJ11, "isValidCodePoint", "(I)Z"⟩
abbrev cJ11_highSurrogate_5068e : ByteArray := prog_13_method_28_code
def yJ11_highSurrogate_5068e : MethodName := ⟨RJ11, "highSurrogate", "(I)C"⟩
abbrev cJ11_lowSurrogate_5068e : ByteArray := prog_13_method_29_code
def yJ11_lowSurrogate_5068e : MethodName := ⟨RJ11, "lowSurrogate", "(I)C"⟩
def RJxb160c : String := "java/lang/Comparable"
def TJxb160c : u_T := fun k => match k with
  | _ => ("", "", "", false)
def tyJxb160c : Nat → FieldType := fun k => match k with
  | _ => .int
abbrev wsJxb160c0 : List Cond := u_ws RJxb160c TJxb160c 0
theorem nmJxb160c : ∀ a, a < 0 → ∀ b, b < 0 → a ≠ b → (TJxb160c a).2.1 ≠ (TJxb160c b).2.1 := by decide +kernel
theorem tyJxb160c_ok : ∀ k, k < 0 → parseFieldDescriptor (TJxb160c k).2.2.1 = some (tyJxb160c k) := by decide +kernel
def RJ9 : String := "java/lang/Math"
def TJ9 : u_T := fun k => match k with
  | _ => ("", "", "", false)
def tyJ9 : Nat → FieldType := fun k => match k with
  | _ => .int
abbrev wsJ90 : List Cond := u_ws RJ9 TJ9 0
theorem nmJ9 : ∀ a, a < 0 → ∀ b, b < 0 → a ≠ b → (TJ9 a).2.1 ≠ (TJ9 b).2.1 := by decide +kernel
theorem tyJ9_ok : ∀ k, k < 0 → parseFieldDescriptor (TJ9 k).2.2.1 = some (tyJ9 k) := by decide +kernel
abbrev cJ9_floorMod_7cf53 : ByteArray := prog_14_method_50_code
def yJ9_floorMod_7cf53 : MethodName := ⟨RJ9, "floorMod", "(II)I"⟩
abbrev cJ9_max_7cf53 : ByteArray := prog_14_method_65_code
def yJ9_max_7cf53 : MethodName := ⟨RJ9, "max", "(II)I"⟩
abbrev cJ9_min_7cf53 : ByteArray := prog_14_method_69_code
def yJ9_min_7cf53 : MethodName := ⟨RJ9, "min", "(II)I"⟩
def RJ0 : String := "java/lang/String"
def TJ0 : u_T := fun k => match k with
  | _ => ("", "", "", false)
def tyJ0 : Nat → FieldType := fun k => match k with
  | _ => .int
abbrev wsJ00 : List Cond := u_ws RJ0 TJ0 0
theorem nmJ0 : ∀ a, a < 0 → ∀ b, b < 0 → a ≠ b → (TJ0 a).2.1 ≠ (TJ0 b).2.1 := by decide +kernel
theorem tyJ0_ok : ∀ k, k < 0 → parseFieldDescriptor (TJ0 k).2.2.1 = some (tyJ0 k) := by decide +kernel
abbrev cJ0_length_8abf5 : ByteArray := prog_15_method_54_code
def yJ0_length_8abf5 : MethodName := ⟨RJ0, "length", "()I"⟩
abbrev cJ0_indexOf_0f7a4 : ByteArray := prog_15_method_79_code
def yJ0_indexOf_0f7a4 : MethodName := ⟨RJ0, "indexOf", "(I)I"⟩
abbrev cJ0_indexOf_7cf53 : ByteArray := prog_15_method_80_code
def yJ0_indexOf_7cf53 : MethodName := ⟨RJ0, "indexOf", "(II)I"⟩
abbrev cJ0_coder_7d493 : ByteArray := prog_15_method_152_code
def yJ0_coder_7d493 : MethodName := ⟨RJ0, "coder", "()B"⟩
abbrev cJ0_isLatin1_aae02 : ByteArray := prog_15_method_154_code
def yJ0_isLatin1_aae02 : MethodName := ⟨RJ0, "isLatin1", "()Z"⟩
abbrev cJ0_checkBoundsBeginEnd_23922 : ByteArray := prog_15_method_158_code
def yJ0_checkBoundsBeginEnd_23922 : MethodName := ⟨RJ0, "checkBoundsBeginEnd", "(III)V"⟩
def RJ1 : String := "java/lang/StringLatin1"
def TJ1 : u_T := fun k => match k with
  | _ => ("", "", "", false)
def tyJ1 : Nat → FieldType := fun k => match k with
  | _ => .int
abbrev wsJ10 : List Cond := u_ws RJ1 TJ1 0
theorem nmJ1 : ∀ a, a < 0 → ∀ b, b < 0 → a ≠ b → (TJ1 a).2.1 ≠ (TJ1 b).2.1 := by decide +kernel
theorem tyJ1_ok : ∀ k, k < 0 → parseFieldDescriptor (TJ1 k).2.2.1 = some (tyJ1 k) := by decide +kernel
abbrev cJ1_canEncode_9a6ad : ByteArray := prog_16_method_4_code
def yJ1_canEncode_9a6ad : MethodName := ⟨RJ1, "canEncode", "(I)Z"⟩
abbrev cJ1_indexOf_4cfef : ByteArray := prog_16_method_22_code
def yJ1_indexOf_4cfef : MethodName := ⟨RJ1, "indexOf", "([BIII)I"⟩
abbrev cJ1_indexOfChar_4cfef : ByteArray := prog_16_method_23_code
def yJ1_indexOfChar_4cfef : MethodName := ⟨RJ1, "indexOfChar", "([BIII)I"⟩
def RJ2 : String := "java/lang/StringUTF16"
def TJ2 : u_T := fun k => match k with
  | _ => ("", "", "", false)
def tyJ2 : Nat → FieldType := fun k => match k with
  | _ => .int
abbrev wsJ20 : List Cond := u_ws RJ2 TJ2 0
theorem nmJ2 : ∀ a, a < 0 → ∀ b, b < 0 → a ≠ b → (TJ2 a).2.1 ≠ (TJ2 b).2.1 := by decide +kernel
theorem tyJ2_ok : ∀ k, k < 0 → parseFieldDescriptor (TJ2 k).2.2.1 = some (tyJ2 k) := by decide +kernel
abbrev cJ2_getChar_3b067 : ByteArray := prog_17_method_5_code
def yJ2_getChar_3b067 : MethodName := ⟨RJ2, "getChar", "([BI)C"⟩
abbrev cJ2_length_9d52b : ByteArray := prog_17_method_6_code
def yJ2_length_9d52b : MethodName := ⟨RJ2, "length", "([B)I"⟩
abbrev cJ2_indexOf_4cfef : ByteArray := prog_17_method_40_code
def yJ2_indexOf_4cfef : MethodName := ⟨RJ2, "indexOf", "([BIII)I"⟩
abbrev cJ2_indexOfChar_4cfef : ByteArray := prog_17_method_47_code
def yJ2_indexOfChar_4cfef : MethodName := ⟨RJ2, "indexOfChar", "([BIII)I"⟩
abbrev cJ2_indexOfCharUnsafe_4cfef : ByteArray := prog_17_method_48_code
def yJ2_indexOfCharUnsafe_4cfef : MethodName := ⟨RJ2, "indexOfCharUnsafe", "([BIII)I"⟩
abbrev cJ2_indexOfSupplementary_4cfef : ByteArray := prog_17_method_49_code
def yJ2_indexOfSupplementary_4cfef : MethodName := ⟨RJ2, "indexOfSupplementary", "([BIII)I"⟩
abbrev cJ2_checkBoundsBeginEnd_d044e : ByteArray := prog_17_method_93_code
def yJ2_checkBoundsBeginEnd_d044e : MethodName := ⟨RJ2, "checkBoundsBeginEnd", "(II[B)V"⟩
def RJ10 : String := "java/lang/System"
def TJ10 : u_T := fun k => match k with
  | _ => ("", "", "", false)
def tyJ10 : Nat → FieldType := fun k => match k with
  | _ => .int
abbrev wsJ100 : List Cond := u_ws RJ10 TJ10 0
theorem nmJ10 : ∀ a, a < 0 → ∀ b, b < 0 → a ≠ b → (TJ10 a).2.1 ≠ (TJ10 b).2.1 := by decide +kernel
theorem tyJ10_ok : ∀ k, k < 0 → parseFieldDescriptor (TJ10 k).2.2.1 = some (tyJ10 k) := by decide +kernel
def RJxfd54e : String := "java/lang/constant/Constable"
def TJxfd54e : u_T := fun k => match k with
  | _ => ("", "", "", false)
def tyJxfd54e : Nat → FieldType := fun k => match k with
  | _ => .int
abbrev wsJxfd54e0 : List Cond := u_ws RJxfd54e TJxfd54e 0
theorem nmJxfd54e : ∀ a, a < 0 → ∀ b, b < 0 → a ≠ b → (TJxfd54e a).2.1 ≠ (TJxfd54e b).2.1 := by decide +kernel
theorem tyJxfd54e_ok : ∀ k, k < 0 → parseFieldDescriptor (TJxfd54e k).2.2.1 = some (tyJxfd54e k) := by decide +kernel
def RJx3cf43 : String := "java/lang/constant/ConstantDesc"
def TJx3cf43 : u_T := fun k => match k with
  | _ => ("", "", "", false)
def tyJx3cf43 : Nat → FieldType := fun k => match k with
  | _ => .int
abbrev wsJx3cf430 : List Cond := u_ws RJx3cf43 TJx3cf43 0
theorem nmJx3cf43 : ∀ a, a < 0 → ∀ b, b < 0 → a ≠ b → (TJx3cf43 a).2.1 ≠ (TJx3cf43 b).2.1 := by decide +kernel
theorem tyJx3cf43_ok : ∀ k, k < 0 → parseFieldDescriptor (TJx3cf43 k).2.2.1 = some (tyJx3cf43 k) := by decide +kernel
def RJ7 : String := "java/util/Arrays"
def TJ7 : u_T := fun k => match k with
  | _ => ("", "", "", false)
def tyJ7 : Nat → FieldType := fun k => match k with
  | _ => .int
abbrev wsJ70 : List Cond := u_ws RJ7 TJ7 0
theorem nmJ7 : ∀ a, a < 0 → ∀ b, b < 0 → a ≠ b → (TJ7 a).2.1 ≠ (TJ7 b).2.1 := by decide +kernel
theorem tyJ7_ok : ∀ k, k < 0 → parseFieldDescriptor (TJ7 k).2.2.1 = some (tyJ7 k) := by decide +kernel
abbrev cJ7_fill_53178 : ByteArray := prog_19_method_103_code
def yJ7_fill_53178 : MethodName := ⟨RJ7, "fill", "([II)V"⟩
def RJ3 : String := "jdk/internal/util/Preconditions"
def TJ3 : u_T := fun k => match k with
  | _ => ("", "", "", false)
def tyJ3 : Nat → FieldType := fun k => match k with
  | _ => .int
abbrev wsJ30 : List Cond := u_ws RJ3 TJ3 0
theorem nmJ3 : ∀ a, a < 0 → ∀ b, b < 0 → a ≠ b → (TJ3 a).2.1 ≠ (TJ3 b).2.1 := by decide +kernel
theorem tyJ3_ok : ∀ k, k < 0 → parseFieldDescriptor (TJ3 k).2.2.1 = some (tyJ3 k) := by decide +kernel
abbrev cJ3_checkFromToIndex_8c36e : ByteArray := prog_20_method_12_code
def yJ3_checkFromToIndex_8c36e : MethodName := ⟨RJ3, "checkFromToIndex", "(IIILjava/util/function/BiFunction;)I"⟩
def RL : String := "DrownedBellLaw"
abbrev cL_law : ByteArray := code
abbrev vwCl : List vw_C := [(RX0, TX0, 6), (RX1, TX1, 3), (RX2, TX2, 3), (RX3, TX3, 5), (RX4, TX4, 3), (RX5, TX5, 2), (RX6, TX6, 2), (RX7, TX7, 5), (RX8, TX8, 19), (RX9, TX9, 8), (RX10, TX10, 19)]
