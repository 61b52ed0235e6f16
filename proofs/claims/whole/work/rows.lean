section
-- ===== PART A: goes FIRST, ahead of the names: the tables' words, and 'selects' of the private methods out of them =====
/-- a private method of a class that the tables say can be made, by its rows of tables_1 -/
def lw_okq (q : MethodName × Nat) : Prop := (q.1.cls ≠ "java/lang/invoke/MethodHandle" ∧ q.1.cls ≠ "java/lang/invoke/VarHandle") ∧ Cond.instantiable q.1.cls q.2 ∈ tables_1 ∧ Cond.privateMethod q.1 ∈ tables_1 ∧ Cond.instanceMethod q.1 ∈ tables_1
theorem lw_p0 : lw_okq (⟨"WarrantWeather$Reader", "kind", "()I"⟩, 7) := ⟨⟨by decide +kernel, by decide +kernel⟩, List.mem_of_getElem? (i := 155) (by decide +kernel), List.mem_of_getElem? (i := 516) (by decide +kernel), List.mem_of_getElem? (i := 517) (by decide +kernel)⟩
theorem lw_p1 : lw_okq (⟨"WarrantWeather$Reader", "readClause", "()Z"⟩, 7) := ⟨⟨by decide +kernel, by decide +kernel⟩, List.mem_of_getElem? (i := 155) (by decide +kernel), List.mem_of_getElem? (i := 520) (by decide +kernel), List.mem_of_getElem? (i := 521) (by decide +kernel)⟩
theorem lw_p2 : lw_okq (⟨"WarrantWeather$Reader", "wrong", "(I)Z"⟩, 7) := ⟨⟨by decide +kernel, by decide +kernel⟩, List.mem_of_getElem? (i := 155) (by decide +kernel), List.mem_of_getElem? (i := 525) (by decide +kernel), List.mem_of_getElem? (i := 526) (by decide +kernel)⟩
theorem lw_p3 : lw_okq (⟨"WarrantWeather$Reader", "readSum", "(I)Z"⟩, 7) := ⟨⟨by decide +kernel, by decide +kernel⟩, List.mem_of_getElem? (i := 155) (by decide +kernel), List.mem_of_getElem? (i := 534) (by decide +kernel), List.mem_of_getElem? (i := 535) (by decide +kernel)⟩
theorem lw_p4 : lw_okq (⟨"WarrantWeather$Reader", "readOne", "(I)Z"⟩, 7) := ⟨⟨by decide +kernel, by decide +kernel⟩, List.mem_of_getElem? (i := 155) (by decide +kernel), List.mem_of_getElem? (i := 538) (by decide +kernel), List.mem_of_getElem? (i := 539) (by decide +kernel)⟩
theorem lw_p5 : lw_okq (⟨"WarrantWeather$Reader", "value", "()I"⟩, 7) := ⟨⟨by decide +kernel, by decide +kernel⟩, List.mem_of_getElem? (i := 155) (by decide +kernel), List.mem_of_getElem? (i := 542) (by decide +kernel), List.mem_of_getElem? (i := 543) (by decide +kernel)⟩
theorem lw_p6 : lw_okq (⟨"WarrantWeather$Reader", "faultOfPlain", "(II)I"⟩, 7) := ⟨⟨by decide +kernel, by decide +kernel⟩, List.mem_of_getElem? (i := 155) (by decide +kernel), List.mem_of_getElem? (i := 546) (by decide +kernel), List.mem_of_getElem? (i := 547) (by decide +kernel)⟩
theorem lw_p7 : lw_okq (⟨"WarrantWeather$Reader", "emitIf", "(ZI)V"⟩, 7) := ⟨⟨by decide +kernel, by decide +kernel⟩, List.mem_of_getElem? (i := 155) (by decide +kernel), List.mem_of_getElem? (i := 552) (by decide +kernel), List.mem_of_getElem? (i := 553) (by decide +kernel)⟩
theorem lw_p8 : lw_okq (⟨"WarrantWeather$Reader", "readEither", "()Z"⟩, 7) := ⟨⟨by decide +kernel, by decide +kernel⟩, List.mem_of_getElem? (i := 155) (by decide +kernel), List.mem_of_getElem? (i := 556) (by decide +kernel), List.mem_of_getElem? (i := 557) (by decide +kernel)⟩
theorem lw_p9 : lw_okq (⟨"WarrantWeather$Reader", "readAsk", "()Z"⟩, 7) := ⟨⟨by decide +kernel, by decide +kernel⟩, List.mem_of_getElem? (i := 155) (by decide +kernel), List.mem_of_getElem? (i := 560) (by decide +kernel), List.mem_of_getElem? (i := 561) (by decide +kernel)⟩
theorem lw_p10 : lw_okq (⟨"WarrantWeather$Court", "comesTo", "(I)I"⟩, 10) := ⟨⟨by decide +kernel, by decide +kernel⟩, List.mem_of_getElem? (i := 209) (by decide +kernel), List.mem_of_getElem? (i := 615) (by decide +kernel), List.mem_of_getElem? (i := 616) (by decide +kernel)⟩
theorem lw_p11 : lw_okq (⟨"WarrantWeather$Court", "call", "(I)V"⟩, 10) := ⟨⟨by decide +kernel, by decide +kernel⟩, List.mem_of_getElem? (i := 209) (by decide +kernel), List.mem_of_getElem? (i := 680) (by decide +kernel), List.mem_of_getElem? (i := 681) (by decide +kernel)⟩
theorem lw_p12 : lw_okq (⟨"WarrantWeather$Court", "addGains", "(IZ)I"⟩, 10) := ⟨⟨by decide +kernel, by decide +kernel⟩, List.mem_of_getElem? (i := 209) (by decide +kernel), List.mem_of_getElem? (i := 732) (by decide +kernel), List.mem_of_getElem? (i := 733) (by decide +kernel)⟩
theorem lw_p13 : lw_okq (⟨"WarrantWeather$Planner", "follow", "(IIII)V"⟩, 9) := ⟨⟨by decide +kernel, by decide +kernel⟩, List.mem_of_getElem? (i := 261) (by decide +kernel), List.mem_of_getElem? (i := 779) (by decide +kernel), List.mem_of_getElem? (i := 780) (by decide +kernel)⟩
theorem lw_p14 : lw_okq (⟨"WarrantWeather$Council", "shareOf", "(II)I"⟩, 4) := ⟨⟨by decide +kernel, by decide +kernel⟩, List.mem_of_getElem? (i := 297) (by decide +kernel), List.mem_of_getElem? (i := 812) (by decide +kernel), List.mem_of_getElem? (i := 813) (by decide +kernel)⟩
theorem lw_p15 : lw_okq (⟨"WarrantWeather", "songFits", "(II)Z"⟩, 9) := ⟨⟨by decide +kernel, by decide +kernel⟩, List.mem_of_getElem? (i := 22) (by decide +kernel), List.mem_of_getElem? (i := 837) (by decide +kernel), List.mem_of_getElem? (i := 838) (by decide +kernel)⟩
def lw_privs_1 : List (MethodName × Nat) := [(⟨"WarrantWeather$Reader", "kind", "()I"⟩, 7), (⟨"WarrantWeather$Reader", "readClause", "()Z"⟩, 7), (⟨"WarrantWeather$Reader", "wrong", "(I)Z"⟩, 7), (⟨"WarrantWeather$Reader", "readSum", "(I)Z"⟩, 7), (⟨"WarrantWeather$Reader", "readOne", "(I)Z"⟩, 7), (⟨"WarrantWeather$Reader", "value", "()I"⟩, 7), (⟨"WarrantWeather$Reader", "faultOfPlain", "(II)I"⟩, 7), (⟨"WarrantWeather$Reader", "emitIf", "(ZI)V"⟩, 7), (⟨"WarrantWeather$Reader", "readEither", "()Z"⟩, 7), (⟨"WarrantWeather$Reader", "readAsk", "()Z"⟩, 7), (⟨"WarrantWeather$Court", "comesTo", "(I)I"⟩, 10), (⟨"WarrantWeather$Court", "call", "(I)V"⟩, 10), (⟨"WarrantWeather$Court", "addGains", "(IZ)I"⟩, 10), (⟨"WarrantWeather$Planner", "follow", "(IIII)V"⟩, 9), (⟨"WarrantWeather$Council", "shareOf", "(II)I"⟩, 4), (⟨"WarrantWeather", "songFits", "(II)Z"⟩, 9)]
theorem lw_r1 : ∀ q ∈ lw_privs_1, lw_okq q := List.forall_mem_cons.mpr ⟨lw_p0, List.forall_mem_cons.mpr ⟨lw_p1, List.forall_mem_cons.mpr ⟨lw_p2, List.forall_mem_cons.mpr ⟨lw_p3, List.forall_mem_cons.mpr ⟨lw_p4, List.forall_mem_cons.mpr ⟨lw_p5, List.forall_mem_cons.mpr ⟨lw_p6, List.forall_mem_cons.mpr ⟨lw_p7, List.forall_mem_cons.mpr ⟨lw_p8, List.forall_mem_cons.mpr ⟨lw_p9, List.forall_mem_cons.mpr ⟨lw_p10, List.forall_mem_cons.mpr ⟨lw_p11, List.forall_mem_cons.mpr ⟨lw_p12, List.forall_mem_cons.mpr ⟨lw_p13, List.forall_mem_cons.mpr ⟨lw_p14, List.forall_mem_cons.mpr ⟨lw_p15, fun _ h => absurd h List.not_mem_nil⟩⟩⟩⟩⟩⟩⟩⟩⟩⟩⟩⟩⟩⟩⟩⟩
theorem lw_p16 : lw_okq (⟨"WarrantWeatherModel", "copies", "(Z)V"⟩, 39) := ⟨⟨by decide +kernel, by decide +kernel⟩, List.mem_of_getElem? (i := 886) (by decide +kernel), List.mem_of_getElem? (i := 892) (by decide +kernel), List.mem_of_getElem? (i := 893) (by decide +kernel)⟩
theorem lw_p17 : lw_okq (⟨"WarrantWeatherModel", "wetDays", "()I"⟩, 39) := ⟨⟨by decide +kernel, by decide +kernel⟩, List.mem_of_getElem? (i := 886) (by decide +kernel), List.mem_of_getElem? (i := 1036) (by decide +kernel), List.mem_of_getElem? (i := 1037) (by decide +kernel)⟩
theorem lw_p18 : lw_okq (⟨"WarrantWeatherModel", "decrees", "(III)Z"⟩, 39) := ⟨⟨by decide +kernel, by decide +kernel⟩, List.mem_of_getElem? (i := 886) (by decide +kernel), List.mem_of_getElem? (i := 1044) (by decide +kernel), List.mem_of_getElem? (i := 1045) (by decide +kernel)⟩
theorem lw_p19 : lw_okq (⟨"WarrantWeatherModel", "put", "(I)V"⟩, 39) := ⟨⟨by decide +kernel, by decide +kernel⟩, List.mem_of_getElem? (i := 886) (by decide +kernel), List.mem_of_getElem? (i := 1060) (by decide +kernel), List.mem_of_getElem? (i := 1061) (by decide +kernel)⟩
theorem lw_p20 : lw_okq (⟨"WarrantWeatherModel", "next", "()V"⟩, 39) := ⟨⟨by decide +kernel, by decide +kernel⟩, List.mem_of_getElem? (i := 886) (by decide +kernel), List.mem_of_getElem? (i := 1072) (by decide +kernel), List.mem_of_getElem? (i := 1073) (by decide +kernel)⟩
theorem lw_p21 : lw_okq (⟨"WarrantWeatherModel", "asks", "()V"⟩, 39) := ⟨⟨by decide +kernel, by decide +kernel⟩, List.mem_of_getElem? (i := 886) (by decide +kernel), List.mem_of_getElem? (i := 1106) (by decide +kernel), List.mem_of_getElem? (i := 1107) (by decide +kernel)⟩
theorem lw_p22 : lw_okq (⟨"WarrantWeatherModel", "isWord", "(I)Z"⟩, 39) := ⟨⟨by decide +kernel, by decide +kernel⟩, List.mem_of_getElem? (i := 886) (by decide +kernel), List.mem_of_getElem? (i := 1110) (by decide +kernel), List.mem_of_getElem? (i := 1111) (by decide +kernel)⟩
theorem lw_p23 : lw_okq (⟨"WarrantWeatherModel", "opensSign", "(I)Z"⟩, 39) := ⟨⟨by decide +kernel, by decide +kernel⟩, List.mem_of_getElem? (i := 886) (by decide +kernel), List.mem_of_getElem? (i := 1114) (by decide +kernel), List.mem_of_getElem? (i := 1115) (by decide +kernel)⟩
theorem lw_p24 : lw_okq (⟨"WarrantWeatherModel", "errs", "(I)V"⟩, 39) := ⟨⟨by decide +kernel, by decide +kernel⟩, List.mem_of_getElem? (i := 886) (by decide +kernel), List.mem_of_getElem? (i := 1118) (by decide +kernel), List.mem_of_getElem? (i := 1119) (by decide +kernel)⟩
theorem lw_p25 : lw_okq (⟨"WarrantWeatherModel", "opensFrame", "(I)V"⟩, 39) := ⟨⟨by decide +kernel, by decide +kernel⟩, List.mem_of_getElem? (i := 886) (by decide +kernel), List.mem_of_getElem? (i := 1122) (by decide +kernel), List.mem_of_getElem? (i := 1123) (by decide +kernel)⟩
theorem lw_p26 : lw_okq (⟨"WarrantWeatherModel", "begins", "()V"⟩, 39) := ⟨⟨by decide +kernel, by decide +kernel⟩, List.mem_of_getElem? (i := 886) (by decide +kernel), List.mem_of_getElem? (i := 1126) (by decide +kernel), List.mem_of_getElem? (i := 1127) (by decide +kernel)⟩
theorem lw_p27 : lw_okq (⟨"WarrantWeatherModel", "emits", "(II)V"⟩, 39) := ⟨⟨by decide +kernel, by decide +kernel⟩, List.mem_of_getElem? (i := 886) (by decide +kernel), List.mem_of_getElem? (i := 1130) (by decide +kernel), List.mem_of_getElem? (i := 1131) (by decide +kernel)⟩
theorem lw_p28 : lw_okq (⟨"WarrantWeatherModel", "oneIsOver", "()V"⟩, 39) := ⟨⟨by decide +kernel, by decide +kernel⟩, List.mem_of_getElem? (i := 886) (by decide +kernel), List.mem_of_getElem? (i := 1134) (by decide +kernel), List.mem_of_getElem? (i := 1135) (by decide +kernel)⟩
theorem lw_p29 : lw_okq (⟨"WarrantWeatherModel", "top", "()I"⟩, 39) := ⟨⟨by decide +kernel, by decide +kernel⟩, List.mem_of_getElem? (i := 886) (by decide +kernel), List.mem_of_getElem? (i := 1138) (by decide +kernel), List.mem_of_getElem? (i := 1139) (by decide +kernel)⟩
theorem lw_p30 : lw_okq (⟨"WarrantWeatherModel", "isSign", "(I)Z"⟩, 39) := ⟨⟨by decide +kernel, by decide +kernel⟩, List.mem_of_getElem? (i := 886) (by decide +kernel), List.mem_of_getElem? (i := 1145) (by decide +kernel), List.mem_of_getElem? (i := 1146) (by decide +kernel)⟩
theorem lw_p31 : lw_okq (⟨"WarrantWeatherModel", "goesOn", "()V"⟩, 39) := ⟨⟨by decide +kernel, by decide +kernel⟩, List.mem_of_getElem? (i := 886) (by decide +kernel), List.mem_of_getElem? (i := 1149) (by decide +kernel), List.mem_of_getElem? (i := 1150) (by decide +kernel)⟩
def lw_privs_2 : List (MethodName × Nat) := [(⟨"WarrantWeatherModel", "copies", "(Z)V"⟩, 39), (⟨"WarrantWeatherModel", "wetDays", "()I"⟩, 39), (⟨"WarrantWeatherModel", "decrees", "(III)Z"⟩, 39), (⟨"WarrantWeatherModel", "put", "(I)V"⟩, 39), (⟨"WarrantWeatherModel", "next", "()V"⟩, 39), (⟨"WarrantWeatherModel", "asks", "()V"⟩, 39), (⟨"WarrantWeatherModel", "isWord", "(I)Z"⟩, 39), (⟨"WarrantWeatherModel", "opensSign", "(I)Z"⟩, 39), (⟨"WarrantWeatherModel", "errs", "(I)V"⟩, 39), (⟨"WarrantWeatherModel", "opensFrame", "(I)V"⟩, 39), (⟨"WarrantWeatherModel", "begins", "()V"⟩, 39), (⟨"WarrantWeatherModel", "emits", "(II)V"⟩, 39), (⟨"WarrantWeatherModel", "oneIsOver", "()V"⟩, 39), (⟨"WarrantWeatherModel", "top", "()I"⟩, 39), (⟨"WarrantWeatherModel", "isSign", "(I)Z"⟩, 39), (⟨"WarrantWeatherModel", "goesOn", "()V"⟩, 39)]
theorem lw_r2 : ∀ q ∈ lw_privs_2, lw_okq q := List.forall_mem_cons.mpr ⟨lw_p16, List.forall_mem_cons.mpr ⟨lw_p17, List.forall_mem_cons.mpr ⟨lw_p18, List.forall_mem_cons.mpr ⟨lw_p19, List.forall_mem_cons.mpr ⟨lw_p20, List.forall_mem_cons.mpr ⟨lw_p21, List.forall_mem_cons.mpr ⟨lw_p22, List.forall_mem_cons.mpr ⟨lw_p23, List.forall_mem_cons.mpr ⟨lw_p24, List.forall_mem_cons.mpr ⟨lw_p25, List.forall_mem_cons.mpr ⟨lw_p26, List.forall_mem_cons.mpr ⟨lw_p27, List.forall_mem_cons.mpr ⟨lw_p28, List.forall_mem_cons.mpr ⟨lw_p29, List.forall_mem_cons.mpr ⟨lw_p30, List.forall_mem_cons.mpr ⟨lw_p31, fun _ h => absurd h List.not_mem_nil⟩⟩⟩⟩⟩⟩⟩⟩⟩⟩⟩⟩⟩⟩⟩⟩
theorem lw_p32 : lw_okq (⟨"WarrantWeatherModel", "waitsFor", "(I)V"⟩, 39) := ⟨⟨by decide +kernel, by decide +kernel⟩, List.mem_of_getElem? (i := 886) (by decide +kernel), List.mem_of_getElem? (i := 1153) (by decide +kernel), List.mem_of_getElem? (i := 1154) (by decide +kernel)⟩
theorem lw_p33 : lw_okq (⟨"WarrantWeatherModel", "works", "(I)V"⟩, 39) := ⟨⟨by decide +kernel, by decide +kernel⟩, List.mem_of_getElem? (i := 886) (by decide +kernel), List.mem_of_getElem? (i := 1160) (by decide +kernel), List.mem_of_getElem? (i := 1161) (by decide +kernel)⟩
theorem lw_p34 : lw_okq (⟨"WarrantWeatherModel", "askIsOver", "()V"⟩, 39) := ⟨⟨by decide +kernel, by decide +kernel⟩, List.mem_of_getElem? (i := 886) (by decide +kernel), List.mem_of_getElem? (i := 1167) (by decide +kernel), List.mem_of_getElem? (i := 1168) (by decide +kernel)⟩
theorem lw_p35 : lw_okq (⟨"WarrantWeatherModel", "clauseIsOver", "()V"⟩, 39) := ⟨⟨by decide +kernel, by decide +kernel⟩, List.mem_of_getElem? (i := 886) (by decide +kernel), List.mem_of_getElem? (i := 1171) (by decide +kernel), List.mem_of_getElem? (i := 1172) (by decide +kernel)⟩
theorem lw_p36 : lw_okq (⟨"WarrantWeatherModel", "asksOn", "()V"⟩, 39) := ⟨⟨by decide +kernel, by decide +kernel⟩, List.mem_of_getElem? (i := 886) (by decide +kernel), List.mem_of_getElem? (i := 1175) (by decide +kernel), List.mem_of_getElem? (i := 1176) (by decide +kernel)⟩
theorem lw_p37 : lw_okq (⟨"WarrantWeatherModel", "clause", "()V"⟩, 39) := ⟨⟨by decide +kernel, by decide +kernel⟩, List.mem_of_getElem? (i := 886) (by decide +kernel), List.mem_of_getElem? (i := 1179) (by decide +kernel), List.mem_of_getElem? (i := 1180) (by decide +kernel)⟩
theorem lw_p38 : lw_okq (⟨"WarrantWeatherModel", "hasClause", "(I)Z"⟩, 39) := ⟨⟨by decide +kernel, by decide +kernel⟩, List.mem_of_getElem? (i := 886) (by decide +kernel), List.mem_of_getElem? (i := 1195) (by decide +kernel), List.mem_of_getElem? (i := 1196) (by decide +kernel)⟩
theorem lw_p39 : lw_okq (⟨"WarrantWeatherModel", "warrantNames", "(II)V"⟩, 39) := ⟨⟨by decide +kernel, by decide +kernel⟩, List.mem_of_getElem? (i := 886) (by decide +kernel), List.mem_of_getElem? (i := 1199) (by decide +kernel), List.mem_of_getElem? (i := 1200) (by decide +kernel)⟩
theorem lw_p40 : lw_okq (⟨"WarrantWeatherModel", "decreeOf", "(II)I"⟩, 39) := ⟨⟨by decide +kernel, by decide +kernel⟩, List.mem_of_getElem? (i := 886) (by decide +kernel), List.mem_of_getElem? (i := 1203) (by decide +kernel), List.mem_of_getElem? (i := 1204) (by decide +kernel)⟩
theorem lw_p41 : lw_okq (⟨"WarrantWeatherModel", "says", "(I)J"⟩, 39) := ⟨⟨by decide +kernel, by decide +kernel⟩, List.mem_of_getElem? (i := 886) (by decide +kernel), List.mem_of_getElem? (i := 1207) (by decide +kernel), List.mem_of_getElem? (i := 1208) (by decide +kernel)⟩
theorem lw_p42 : lw_okq (⟨"WarrantWeatherModel", "saysOf", "(I)J"⟩, 39) := ⟨⟨by decide +kernel, by decide +kernel⟩, List.mem_of_getElem? (i := 886) (by decide +kernel), List.mem_of_getElem? (i := 1211) (by decide +kernel), List.mem_of_getElem? (i := 1212) (by decide +kernel)⟩
theorem lw_p43 : lw_okq (⟨"WarrantWeatherModel", "hats", "(IIII)I"⟩, 39) := ⟨⟨by decide +kernel, by decide +kernel⟩, List.mem_of_getElem? (i := 886) (by decide +kernel), List.mem_of_getElem? (i := 1235) (by decide +kernel), List.mem_of_getElem? (i := 1236) (by decide +kernel)⟩
theorem lw_p44 : lw_okq (⟨"WarrantWeatherModel", "provinceOf", "(I)I"⟩, 39) := ⟨⟨by decide +kernel, by decide +kernel⟩, List.mem_of_getElem? (i := 886) (by decide +kernel), List.mem_of_getElem? (i := 1239) (by decide +kernel), List.mem_of_getElem? (i := 1240) (by decide +kernel)⟩
theorem lw_p45 : lw_okq (⟨"WarrantWeatherModel", "does", "(IIII)Z"⟩, 39) := ⟨⟨by decide +kernel, by decide +kernel⟩, List.mem_of_getElem? (i := 886) (by decide +kernel), List.mem_of_getElem? (i := 1243) (by decide +kernel), List.mem_of_getElem? (i := 1244) (by decide +kernel)⟩
theorem lw_p46 : lw_okq (⟨"WarrantWeatherModel", "folkNames", "(IIII)V"⟩, 39) := ⟨⟨by decide +kernel, by decide +kernel⟩, List.mem_of_getElem? (i := 886) (by decide +kernel), List.mem_of_getElem? (i := 1247) (by decide +kernel), List.mem_of_getElem? (i := 1248) (by decide +kernel)⟩
theorem lw_p47 : lw_okq (⟨"WarrantWeatherModel", "isFolk", "(I)Z"⟩, 39) := ⟨⟨by decide +kernel, by decide +kernel⟩, List.mem_of_getElem? (i := 886) (by decide +kernel), List.mem_of_getElem? (i := 1255) (by decide +kernel), List.mem_of_getElem? (i := 1256) (by decide +kernel)⟩
def lw_privs_3 : List (MethodName × Nat) := [(⟨"WarrantWeatherModel", "waitsFor", "(I)V"⟩, 39), (⟨"WarrantWeatherModel", "works", "(I)V"⟩, 39), (⟨"WarrantWeatherModel", "askIsOver", "()V"⟩, 39), (⟨"WarrantWeatherModel", "clauseIsOver", "()V"⟩, 39), (⟨"WarrantWeatherModel", "asksOn", "()V"⟩, 39), (⟨"WarrantWeatherModel", "clause", "()V"⟩, 39), (⟨"WarrantWeatherModel", "hasClause", "(I)Z"⟩, 39), (⟨"WarrantWeatherModel", "warrantNames", "(II)V"⟩, 39), (⟨"WarrantWeatherModel", "decreeOf", "(II)I"⟩, 39), (⟨"WarrantWeatherModel", "says", "(I)J"⟩, 39), (⟨"WarrantWeatherModel", "saysOf", "(I)J"⟩, 39), (⟨"WarrantWeatherModel", "hats", "(IIII)I"⟩, 39), (⟨"WarrantWeatherModel", "provinceOf", "(I)I"⟩, 39), (⟨"WarrantWeatherModel", "does", "(IIII)Z"⟩, 39), (⟨"WarrantWeatherModel", "folkNames", "(IIII)V"⟩, 39), (⟨"WarrantWeatherModel", "isFolk", "(I)Z"⟩, 39)]
theorem lw_r3 : ∀ q ∈ lw_privs_3, lw_okq q := List.forall_mem_cons.mpr ⟨lw_p32, List.forall_mem_cons.mpr ⟨lw_p33, List.forall_mem_cons.mpr ⟨lw_p34, List.forall_mem_cons.mpr ⟨lw_p35, List.forall_mem_cons.mpr ⟨lw_p36, List.forall_mem_cons.mpr ⟨lw_p37, List.forall_mem_cons.mpr ⟨lw_p38, List.forall_mem_cons.mpr ⟨lw_p39, List.forall_mem_cons.mpr ⟨lw_p40, List.forall_mem_cons.mpr ⟨lw_p41, List.forall_mem_cons.mpr ⟨lw_p42, List.forall_mem_cons.mpr ⟨lw_p43, List.forall_mem_cons.mpr ⟨lw_p44, List.forall_mem_cons.mpr ⟨lw_p45, List.forall_mem_cons.mpr ⟨lw_p46, List.forall_mem_cons.mpr ⟨lw_p47, fun _ h => absurd h List.not_mem_nil⟩⟩⟩⟩⟩⟩⟩⟩⟩⟩⟩⟩⟩⟩⟩⟩
theorem lw_p48 : lw_okq (⟨"WarrantWeatherModel", "fineOf", "(IIII)I"⟩, 39) := ⟨⟨by decide +kernel, by decide +kernel⟩, List.mem_of_getElem? (i := 886) (by decide +kernel), List.mem_of_getElem? (i := 1259) (by decide +kernel), List.mem_of_getElem? (i := 1260) (by decide +kernel)⟩
theorem lw_p49 : lw_okq (⟨"WarrantWeatherModel", "appeals", "(IIII)Z"⟩, 39) := ⟨⟨by decide +kernel, by decide +kernel⟩, List.mem_of_getElem? (i := 886) (by decide +kernel), List.mem_of_getElem? (i := 1263) (by decide +kernel), List.mem_of_getElem? (i := 1264) (by decide +kernel)⟩
theorem lw_p50 : lw_okq (⟨"WarrantWeatherModel", "gainAsIs", "(IIZ)I"⟩, 39) := ⟨⟨by decide +kernel, by decide +kernel⟩, List.mem_of_getElem? (i := 886) (by decide +kernel), List.mem_of_getElem? (i := 1274) (by decide +kernel), List.mem_of_getElem? (i := 1275) (by decide +kernel)⟩
theorem lw_p51 : lw_okq (⟨"WarrantWeatherModel", "gainOf", "(IIIIZ)I"⟩, 39) := ⟨⟨by decide +kernel, by decide +kernel⟩, List.mem_of_getElem? (i := 886) (by decide +kernel), List.mem_of_getElem? (i := 1278) (by decide +kernel), List.mem_of_getElem? (i := 1279) (by decide +kernel)⟩
theorem lw_p52 : lw_okq (⟨"WarrantWeatherModel", "sumAll", "(IIZ)I"⟩, 39) := ⟨⟨by decide +kernel, by decide +kernel⟩, List.mem_of_getElem? (i := 886) (by decide +kernel), List.mem_of_getElem? (i := 1288) (by decide +kernel), List.mem_of_getElem? (i := 1289) (by decide +kernel)⟩
theorem lw_p53 : lw_okq (⟨"WarrantWeatherModel", "sumOf", "(IIIZ)I"⟩, 39) := ⟨⟨by decide +kernel, by decide +kernel⟩, List.mem_of_getElem? (i := 886) (by decide +kernel), List.mem_of_getElem? (i := 1292) (by decide +kernel), List.mem_of_getElem? (i := 1293) (by decide +kernel)⟩
theorem lw_p54 : lw_okq (⟨"WarrantWeatherModel", "isAlike", "(III)Z"⟩, 39) := ⟨⟨by decide +kernel, by decide +kernel⟩, List.mem_of_getElem? (i := 886) (by decide +kernel), List.mem_of_getElem? (i := 1308) (by decide +kernel), List.mem_of_getElem? (i := 1309) (by decide +kernel)⟩
theorem lw_p55 : lw_okq (⟨"WarrantWeatherModel", "gainBy", "(III)I"⟩, 39) := ⟨⟨by decide +kernel, by decide +kernel⟩, List.mem_of_getElem? (i := 886) (by decide +kernel), List.mem_of_getElem? (i := 1316) (by decide +kernel), List.mem_of_getElem? (i := 1317) (by decide +kernel)⟩
theorem lw_p56 : lw_okq (⟨"WarrantWeatherModel", "isHidden", "(IIII)Z"⟩, 39) := ⟨⟨by decide +kernel, by decide +kernel⟩, List.mem_of_getElem? (i := 886) (by decide +kernel), List.mem_of_getElem? (i := 1320) (by decide +kernel), List.mem_of_getElem? (i := 1321) (by decide +kernel)⟩
theorem lw_p57 : lw_okq (⟨"WarrantWeatherModel", "isLike", "(III)Z"⟩, 39) := ⟨⟨by decide +kernel, by decide +kernel⟩, List.mem_of_getElem? (i := 886) (by decide +kernel), List.mem_of_getElem? (i := 1328) (by decide +kernel), List.mem_of_getElem? (i := 1329) (by decide +kernel)⟩
theorem lw_p58 : lw_okq (⟨"WarrantWeatherModel", "hasBy", "(III)I"⟩, 39) := ⟨⟨by decide +kernel, by decide +kernel⟩, List.mem_of_getElem? (i := 886) (by decide +kernel), List.mem_of_getElem? (i := 1336) (by decide +kernel), List.mem_of_getElem? (i := 1337) (by decide +kernel)⟩
theorem lw_p59 : lw_okq (⟨"WarrantWeatherModel", "songOf", "(II)I"⟩, 39) := ⟨⟨by decide +kernel, by decide +kernel⟩, List.mem_of_getElem? (i := 886) (by decide +kernel), List.mem_of_getElem? (i := 1352) (by decide +kernel), List.mem_of_getElem? (i := 1353) (by decide +kernel)⟩
theorem lw_p60 : lw_okq (⟨"WarrantWeatherModel", "words", "(I)I"⟩, 39) := ⟨⟨by decide +kernel, by decide +kernel⟩, List.mem_of_getElem? (i := 886) (by decide +kernel), List.mem_of_getElem? (i := 1356) (by decide +kernel), List.mem_of_getElem? (i := 1357) (by decide +kernel)⟩
theorem lw_p61 : lw_okq (⟨"WarrantWeatherModel", "wetDecrees", "()I"⟩, 39) := ⟨⟨by decide +kernel, by decide +kernel⟩, List.mem_of_getElem? (i := 886) (by decide +kernel), List.mem_of_getElem? (i := 1382) (by decide +kernel), List.mem_of_getElem? (i := 1383) (by decide +kernel)⟩
def lw_privs_4 : List (MethodName × Nat) := [(⟨"WarrantWeatherModel", "fineOf", "(IIII)I"⟩, 39), (⟨"WarrantWeatherModel", "appeals", "(IIII)Z"⟩, 39), (⟨"WarrantWeatherModel", "gainAsIs", "(IIZ)I"⟩, 39), (⟨"WarrantWeatherModel", "gainOf", "(IIIIZ)I"⟩, 39), (⟨"WarrantWeatherModel", "sumAll", "(IIZ)I"⟩, 39), (⟨"WarrantWeatherModel", "sumOf", "(IIIZ)I"⟩, 39), (⟨"WarrantWeatherModel", "isAlike", "(III)Z"⟩, 39), (⟨"WarrantWeatherModel", "gainBy", "(III)I"⟩, 39), (⟨"WarrantWeatherModel", "isHidden", "(IIII)Z"⟩, 39), (⟨"WarrantWeatherModel", "isLike", "(III)Z"⟩, 39), (⟨"WarrantWeatherModel", "hasBy", "(III)I"⟩, 39), (⟨"WarrantWeatherModel", "songOf", "(II)I"⟩, 39), (⟨"WarrantWeatherModel", "words", "(I)I"⟩, 39), (⟨"WarrantWeatherModel", "wetDecrees", "()I"⟩, 39)]
theorem lw_r4 : ∀ q ∈ lw_privs_4, lw_okq q := List.forall_mem_cons.mpr ⟨lw_p48, List.forall_mem_cons.mpr ⟨lw_p49, List.forall_mem_cons.mpr ⟨lw_p50, List.forall_mem_cons.mpr ⟨lw_p51, List.forall_mem_cons.mpr ⟨lw_p52, List.forall_mem_cons.mpr ⟨lw_p53, List.forall_mem_cons.mpr ⟨lw_p54, List.forall_mem_cons.mpr ⟨lw_p55, List.forall_mem_cons.mpr ⟨lw_p56, List.forall_mem_cons.mpr ⟨lw_p57, List.forall_mem_cons.mpr ⟨lw_p58, List.forall_mem_cons.mpr ⟨lw_p59, List.forall_mem_cons.mpr ⟨lw_p60, List.forall_mem_cons.mpr ⟨lw_p61, fun _ h => absurd h List.not_mem_nil⟩⟩⟩⟩⟩⟩⟩⟩⟩⟩⟩⟩⟩⟩
def lw_privs : List (MethodName × Nat) := lw_privs_1 ++ (lw_privs_2 ++ (lw_privs_3 ++ (lw_privs_4)))
def lw_tbl : List Cond := k2_sels lw_privs ++ tables_1
theorem lw_privs_ok : ∀ q ∈ lw_privs, lw_okq q := by
  show ∀ q ∈ lw_privs_1 ++ (lw_privs_2 ++ (lw_privs_3 ++ (lw_privs_4))), lw_okq q
  exact List.forall_mem_append.mpr ⟨lw_r1, List.forall_mem_append.mpr ⟨lw_r2, List.forall_mem_append.mpr ⟨lw_r3, lw_r4⟩⟩⟩
end
section
/-! NAMES: printed by wip/whole/gen_names.py out of the claim's tables -/
def xIsNest : Cond → Bool
  | .fieldLinkNest .. => true
  | .methodLinkNest .. => true
  | _ => false
def xTbl : List Cond := lw_tbl.filter goodWord
def xNest : List Cond := lw_tbl.filter xIsNest
theorem xin {w : Cond} (i : Nat) (h : lw_tbl[i]? = some w) (hg : goodWord w = true) : w ∈ xTbl := List.mem_filter.mpr ⟨List.mem_of_getElem? h, hg⟩
theorem xinN {w : Cond} (i : Nat) (h : lw_tbl[i]? = some w) (hg : xIsNest w = true) : w ∈ xNest := List.mem_filter.mpr ⟨List.mem_of_getElem? h, hg⟩
theorem xGood {w : Cond} (h : w ∈ xTbl) : GoodIn xTbl (w :: xTbl) := fun v hv => by
  have hv : v ∈ xTbl := (List.mem_cons.mp hv).elim (fun e => e ▸ h) id
  exact ⟨hv, good_of_word (List.mem_filter.mp hv).2⟩
def xWords : String := "warrant does gain fine appeal toll or and not day province last seen sky decree trade fear act wet hats mine others "
def xWordsN : Nat := 116
def xWordsB : List Int32 := [119, 97, 114, 114, 97, 110, 116, 32, 100, 111, 101, 115, 32, 103, 97, 105, 110, 32, 102, 105, 110, 101, 32, 97, 112, 112, 101, 97, 108, 32, 116, 111, 108, 108, 32, 111, 114, 32, 97, 110, 100, 32, 110, 111, 116, 32, 100, 97, 121, 32, 112, 114, 111, 118, 105, 110, 99, 101, 32, 108, 97, 115, 116, 32, 115, 101, 101, 110, 32, 115, 107, 121, 32, 100, 101, 99, 114, 101, 101, 32, 116, 114, 97, 100, 101, 32, 102, 101, 97, 114, 32, 97, 99, 116, 32, 119, 101, 116, 32, 104, 97, 116, 115, 32, 109, 105, 110, 101, 32, 111, 116, 104, 101, 114, 115, 32]
def xNames : List Int32 := [0b111111, 0b111111, 0b000001, 0b000001, 0b010111, 0b011110, 0b011110, 0b011110, 0b001100, 0b000100, 0b010000, 0b100000, 0b100000]
def R_Bench : String := "WarrantWeather$Bench"
def T_Bench : u_T := fun k => match k with
  | 0 => ("WarrantWeather$Bench", "stack", "[I", true)
  | _ => ("WarrantWeather$Bench", "told", "[I", true)
def ty_Bench : Nat → FieldType := fun k => match k with
  | 0 => .array .int
  | _ => .array .int
def R_Council : String := "WarrantWeather$Council"
def T_Council : u_T := fun k => match k with
  | 0 => ("WarrantWeather$Council", "rolls", "LWarrantWeather$Rolls;", true)
  | 1 => ("WarrantWeather$Council", "court", "LWarrantWeather$Court;", true)
  | 2 => ("WarrantWeather$Council", "gains", "[I", true)
  | _ => ("WarrantWeather$Council", "tolls", "[I", true)
def ty_Council : Nat → FieldType := fun k => match k with
  | 0 => .object "WarrantWeather$Rolls"
  | 1 => .object "WarrantWeather$Court"
  | 2 => .array .int
  | _ => .array .int
def R_Court : String := "WarrantWeather$Court"
def T_Court : u_T := fun k => match k with
  | 0 => ("WarrantWeather$Court", "hats", "I", false)
  | 1 => ("WarrantWeather$Court", "leftOut", "I", false)
  | 2 => ("WarrantWeather$Court", "rolls", "LWarrantWeather$Rolls;", true)
  | 3 => ("WarrantWeather$Court", "shelf", "LWarrantWeather$Shelf;", true)
  | 4 => ("WarrantWeather$Court", "bench", "LWarrantWeather$Bench;", true)
  | 5 => ("WarrantWeather$Court", "acts", "[I", true)
  | 6 => ("WarrantWeather$Court", "totals", "[I", true)
  | 7 => ("WarrantWeather$Court", "province", "I", false)
  | 8 => ("WarrantWeather$Court", "truly", "I", false)
  | _ => ("WarrantWeather$Court", "decree", "I", false)
def ty_Court : Nat → FieldType := fun k => match k with
  | 0 => .int
  | 1 => .int
  | 2 => .object "WarrantWeather$Rolls"
  | 3 => .object "WarrantWeather$Shelf"
  | 4 => .object "WarrantWeather$Bench"
  | 5 => .array .int
  | 6 => .array .int
  | 7 => .int
  | 8 => .int
  | _ => .int
def R_Law : String := "WarrantWeather$Law"
def T_Law : u_T := fun k => match k with
  | 0 => ("WarrantWeather$Law", "code", "[I", true)
  | 1 => ("WarrantWeather$Law", "starts", "[I", true)
  | 2 => ("WarrantWeather$Law", "stops", "[I", true)
  | 3 => ("WarrantWeather$Law", "order", "[I", true)
  | 4 => ("WarrantWeather$Law", "clauses", "I", false)
  | _ => ("WarrantWeather$Law", "length", "I", false)
def ty_Law : Nat → FieldType := fun k => match k with
  | 0 => .array .int
  | 1 => .array .int
  | 2 => .array .int
  | 3 => .array .int
  | 4 => .int
  | _ => .int
def R_Planner : String := "WarrantWeather$Planner"
def T_Planner : u_T := fun k => match k with
  | 0 => ("WarrantWeather$Planner", "best", "I", false)
  | 1 => ("WarrantWeather$Planner", "bestPath", "I", false)
  | 2 => ("WarrantWeather$Planner", "rolls", "LWarrantWeather$Rolls;", true)
  | 3 => ("WarrantWeather$Planner", "court", "LWarrantWeather$Court;", true)
  | 4 => ("WarrantWeather$Planner", "gains", "[I", true)
  | 5 => ("WarrantWeather$Planner", "rule", "[I", true)
  | 6 => ("WarrantWeather$Planner", "first", "I", false)
  | 7 => ("WarrantWeather$Planner", "length", "I", false)
  | _ => ("WarrantWeather$Planner", "any", "Z", false)
def ty_Planner : Nat → FieldType := fun k => match k with
  | 0 => .int
  | 1 => .int
  | 2 => .object "WarrantWeather$Rolls"
  | 3 => .object "WarrantWeather$Court"
  | 4 => .array .int
  | 5 => .array .int
  | 6 => .int
  | 7 => .int
  | _ => .boolean
def R_Reader : String := "WarrantWeather$Reader"
def T_Reader : u_T := fun k => match k with
  | 0 => ("WarrantWeather$Reader", "hasRead", "Z", false)
  | 1 => ("WarrantWeather$Reader", "faultKind", "I", false)
  | 2 => ("WarrantWeather$Reader", "faultAt", "I", false)
  | 3 => ("WarrantWeather$Reader", "tokens", "LWarrantWeather$Tokens;", true)
  | 4 => ("WarrantWeather$Reader", "law", "LWarrantWeather$Law;", false)
  | 5 => ("WarrantWeather$Reader", "at", "I", false)
  | _ => ("WarrantWeather$Reader", "clause", "I", false)
def ty_Reader : Nat → FieldType := fun k => match k with
  | 0 => .boolean
  | 1 => .int
  | 2 => .int
  | 3 => .object "WarrantWeather$Tokens"
  | 4 => .object "WarrantWeather$Law"
  | 5 => .int
  | _ => .int
def R_Rolls : String := "WarrantWeather$Rolls"
def T_Rolls : u_T := fun k => match k with
  | 0 => ("WarrantWeather$Rolls", "home", "[I", true)
  | 1 => ("WarrantWeather$Rolls", "trade", "[I", true)
  | 2 => ("WarrantWeather$Rolls", "fear", "[I", true)
  | 3 => ("WarrantWeather$Rolls", "skies", "[I", true)
  | 4 => ("WarrantWeather$Rolls", "decrees", "[I", true)
  | 5 => ("WarrantWeather$Rolls", "chances", "[I", true)
  | 6 => ("WarrantWeather$Rolls", "steps", "[I", true)
  | 7 => ("WarrantWeather$Rolls", "count", "I", false)
  | 8 => ("WarrantWeather$Rolls", "ruinAt", "I", false)
  | 9 => ("WarrantWeather$Rolls", "texts", "I", false)
  | 10 => ("WarrantWeather$Rolls", "ruling", "I", false)
  | 11 => ("WarrantWeather$Rolls", "stepCount", "I", false)
  | _ => ("WarrantWeather$Rolls", "nextStep", "I", false)
def ty_Rolls : Nat → FieldType := fun k => match k with
  | 0 => .array .int
  | 1 => .array .int
  | 2 => .array .int
  | 3 => .array .int
  | 4 => .array .int
  | 5 => .array .int
  | 6 => .array .int
  | 7 => .int
  | 8 => .int
  | 9 => .int
  | 10 => .int
  | 11 => .int
  | _ => .int
def R_Shelf : String := "WarrantWeather$Shelf"
def T_Shelf : u_T := fun k => match k with
  | 0 => ("WarrantWeather$Shelf", "rolls", "LWarrantWeather$Rolls;", true)
  | 1 => ("WarrantWeather$Shelf", "blank", "LWarrantWeather$Law;", true)
  | _ => ("WarrantWeather$Shelf", "laws", "[LWarrantWeather$Law;", true)
def ty_Shelf : Nat → FieldType := fun k => match k with
  | 0 => .object "WarrantWeather$Rolls"
  | 1 => .object "WarrantWeather$Law"
  | _ => .array (.object "WarrantWeather$Law")
def R_Song : String := "WarrantWeather$Song"
def T_Song : u_T := fun k => match k with
  | 0 => ("WarrantWeather$Song", "words", "I", false)
  | _ => ("WarrantWeather$Song", "vowels", "[I", true)
def ty_Song : Nat → FieldType := fun k => match k with
  | 0 => .int
  | _ => .array .int
def R_Tape : String := "WarrantWeather$Tape"
def T_Tape : u_T := fun k => match k with
  | 0 => ("WarrantWeather$Tape", "bytes", "[I", true)
  | _ => ("WarrantWeather$Tape", "count", "I", false)
def ty_Tape : Nat → FieldType := fun k => match k with
  | 0 => .array .int
  | _ => .int
def R_Tokens : String := "WarrantWeather$Tokens"
def T_Tokens : u_T := fun k => match k with
  | 0 => ("WarrantWeather$Tokens", "kinds", "[I", true)
  | 1 => ("WarrantWeather$Tokens", "places", "[I", true)
  | 2 => ("WarrantWeather$Tokens", "values", "[I", true)
  | _ => ("WarrantWeather$Tokens", "count", "I", false)
def ty_Tokens : Nat → FieldType := fun k => match k with
  | 0 => .array .int
  | 1 => .array .int
  | 2 => .array .int
  | _ => .int
def R_Ww : String := "WarrantWeather"
def T_Ww : u_T := fun k => match k with
  | 0 => ("WarrantWeather", "now", "LWarrantWeather$Rolls;", true)
  | 1 => ("WarrantWeather", "kept", "LWarrantWeather$Rolls;", true)
  | 2 => ("WarrantWeather", "tape", "LWarrantWeather$Tape;", true)
  | 3 => ("WarrantWeather", "reader", "LWarrantWeather$Reader;", true)
  | 4 => ("WarrantWeather", "shelf", "LWarrantWeather$Shelf;", true)
  | 5 => ("WarrantWeather", "court", "LWarrantWeather$Court;", true)
  | 6 => ("WarrantWeather", "planner", "LWarrantWeather$Planner;", true)
  | 7 => ("WarrantWeather", "council", "LWarrantWeather$Council;", true)
  | _ => ("WarrantWeather", "song", "LWarrantWeather$Song;", true)
def ty_Ww : Nat → FieldType := fun k => match k with
  | 0 => .object "WarrantWeather$Rolls"
  | 1 => .object "WarrantWeather$Rolls"
  | 2 => .object "WarrantWeather$Tape"
  | 3 => .object "WarrantWeather$Reader"
  | 4 => .object "WarrantWeather$Shelf"
  | 5 => .object "WarrantWeather$Court"
  | 6 => .object "WarrantWeather$Planner"
  | 7 => .object "WarrantWeather$Council"
  | _ => .object "WarrantWeather$Song"
def R_Md : String := "WarrantWeatherModel"
def T_Md : u_T := fun k => match k with
  | 0 => ("WarrantWeatherModel", "a", "[I", true)
  | 1 => ("WarrantWeatherModel", "image", "[I", true)
  | 2 => ("WarrantWeatherModel", "tape", "[B", true)
  | 3 => ("WarrantWeatherModel", "taped", "I", false)
  | 4 => ("WarrantWeatherModel", "fault", "I", false)
  | 5 => ("WarrantWeatherModel", "faultAt", "I", false)
  | 6 => ("WarrantWeatherModel", "clauses", "[I", true)
  | 7 => ("WarrantWeatherModel", "clauseAt", "[I", true)
  | 8 => ("WarrantWeatherModel", "clauseNumber", "[I", true)
  | 9 => ("WarrantWeatherModel", "order", "[I", true)
  | 10 => ("WarrantWeatherModel", "value", "[I", true)
  | 11 => ("WarrantWeatherModel", "length", "I", false)
  | 12 => ("WarrantWeatherModel", "at", "I", false)
  | 13 => ("WarrantWeatherModel", "token", "I", false)
  | 14 => ("WarrantWeatherModel", "sort", "I", false)
  | 15 => ("WarrantWeatherModel", "told", "I", false)
  | 16 => ("WarrantWeatherModel", "wrong", "I", false)
  | 17 => ("WarrantWeatherModel", "wrongAt", "I", false)
  | 18 => ("WarrantWeatherModel", "open", "I", false)
  | 19 => ("WarrantWeatherModel", "frames", "I", false)
  | 20 => ("WarrantWeatherModel", "frame", "[I", true)
  | 21 => ("WarrantWeatherModel", "compare", "[I", true)
  | 22 => ("WarrantWeatherModel", "waits", "I", false)
  | 23 => ("WarrantWeatherModel", "wait", "[I", true)
  | 24 => ("WarrantWeatherModel", "waitFrame", "[I", true)
  | 25 => ("WarrantWeatherModel", "state", "I", false)
  | 26 => ("WarrantWeatherModel", "newClauses", "I", false)
  | 27 => ("WarrantWeatherModel", "newKind", "I", false)
  | 28 => ("WarrantWeatherModel", "newAt", "[I", true)
  | 29 => ("WarrantWeatherModel", "newNumber", "[I", true)
  | 30 => ("WarrantWeatherModel", "newOrders", "I", false)
  | 31 => ("WarrantWeatherModel", "newOrder", "[I", true)
  | 32 => ("WarrantWeatherModel", "newValue", "[I", true)
  | 33 => ("WarrantWeatherModel", "name", "[I", true)
  | 34 => ("WarrantWeatherModel", "pile", "[J", true)
  | 35 => ("WarrantWeatherModel", "without", "I", false)
  | 36 => ("WarrantWeatherModel", "known", "[I", true)
  | 37 => ("WarrantWeatherModel", "gains", "[I", true)
  | _ => ("WarrantWeatherModel", "sung", "[I", true)
def ty_Md : Nat → FieldType := fun k => match k with
  | 0 => .array .int
  | 1 => .array .int
  | 2 => .array .byte
  | 3 => .int
  | 4 => .int
  | 5 => .int
  | 6 => .array .int
  | 7 => .array .int
  | 8 => .array .int
  | 9 => .array .int
  | 10 => .array .int
  | 11 => .int
  | 12 => .int
  | 13 => .int
  | 14 => .int
  | 15 => .int
  | 16 => .int
  | 17 => .int
  | 18 => .int
  | 19 => .int
  | 20 => .array .int
  | 21 => .array .int
  | 22 => .int
  | 23 => .array .int
  | 24 => .array .int
  | 25 => .int
  | 26 => .int
  | 27 => .int
  | 28 => .array .int
  | 29 => .array .int
  | 30 => .int
  | 31 => .array .int
  | 32 => .array .int
  | 33 => .array .int
  | 34 => .array .long
  | 35 => .int
  | 36 => .array .int
  | 37 => .array .int
  | _ => .array .int
abbrev classes : List vw_C := [(R_Bench, T_Bench, 2), (R_Council, T_Council, 4), (R_Court, T_Court, 10), (R_Law, T_Law, 6), (R_Planner, T_Planner, 9), (R_Reader, T_Reader, 7), (R_Rolls, T_Rolls, 13), (R_Shelf, T_Shelf, 3), (R_Song, T_Song, 2), (R_Tape, T_Tape, 2), (R_Tokens, T_Tokens, 4), (R_Ww, T_Ww, 9), (R_Md, T_Md, 39)]
/-- what is known of a class: its fields' rows of the tables, their types, that their names differ -/
def xCls (C : String) (T : u_T) (N : Nat) (ty : Nat → FieldType) : Prop := (∀ w ∈ u_ws C T N, w ∈ xTbl) ∧ (∀ k, k < N → parseFieldDescriptor (T k).2.2.1 = some (ty k)) ∧ (∀ a, a < N → ∀ b, b < N → a ≠ b → (T a).2.1 ≠ (T b).2.1)
set_option maxRecDepth 20000 in
theorem q_Bench : xCls R_Bench T_Bench 2 ty_Bench := by
  refine ⟨fun w hw => ?_, by decide +kernel, by decide +kernel⟩
  have h : u_ws R_Bench T_Bench 2 = [284, 286].filterMap (fun i => lw_tbl[i]?) ∧ (u_ws R_Bench T_Bench 2).all goodWord = true := by decide +kernel
  refine List.mem_filter.mpr ⟨?_, List.all_eq_true.mp h.2 w hw⟩
  rw [h.1] at hw
  obtain ⟨i, -, hi⟩ := List.mem_filterMap.mp hw
  exact List.mem_of_getElem? hi
set_option maxRecDepth 20000 in
theorem q_Council : xCls R_Council T_Council 4 ty_Council := by
  refine ⟨fun w hw => ?_, by decide +kernel, by decide +kernel⟩
  have h : u_ws R_Council T_Council 4 = [368, 370, 372, 374].filterMap (fun i => lw_tbl[i]?) ∧ (u_ws R_Council T_Council 4).all goodWord = true := by decide +kernel
  refine List.mem_filter.mpr ⟨?_, List.all_eq_true.mp h.2 w hw⟩
  rw [h.1] at hw
  obtain ⟨i, -, hi⟩ := List.mem_filterMap.mp hw
  exact List.mem_of_getElem? hi
set_option maxRecDepth 20000 in
theorem q_Court : xCls R_Court T_Court 10 ty_Court := by
  refine ⟨fun w hw => ?_, by decide +kernel, by decide +kernel⟩
  have h : u_ws R_Court T_Court 10 = [301, 303, 305, 307, 309, 311, 313, 315, 317, 319].filterMap (fun i => lw_tbl[i]?) ∧ (u_ws R_Court T_Court 10).all goodWord = true := by decide +kernel
  refine List.mem_filter.mpr ⟨?_, List.all_eq_true.mp h.2 w hw⟩
  rw [h.1] at hw
  obtain ⟨i, -, hi⟩ := List.mem_filterMap.mp hw
  exact List.mem_of_getElem? hi
set_option maxRecDepth 20000 in
theorem q_Law : xCls R_Law T_Law 6 ty_Law := by
  refine ⟨fun w hw => ?_, by decide +kernel, by decide +kernel⟩
  have h : u_ws R_Law T_Law 6 = [191, 193, 195, 197, 199, 201].filterMap (fun i => lw_tbl[i]?) ∧ (u_ws R_Law T_Law 6).all goodWord = true := by decide +kernel
  refine List.mem_filter.mpr ⟨?_, List.all_eq_true.mp h.2 w hw⟩
  rw [h.1] at hw
  obtain ⟨i, -, hi⟩ := List.mem_filterMap.mp hw
  exact List.mem_of_getElem? hi
set_option maxRecDepth 20000 in
theorem q_Planner : xCls R_Planner T_Planner 9 ty_Planner := by
  refine ⟨fun w hw => ?_, by decide +kernel, by decide +kernel⟩
  have h : u_ws R_Planner T_Planner 9 = [339, 341, 343, 345, 347, 349, 351, 353, 355].filterMap (fun i => lw_tbl[i]?) ∧ (u_ws R_Planner T_Planner 9).all goodWord = true := by decide +kernel
  refine List.mem_filter.mpr ⟨?_, List.all_eq_true.mp h.2 w hw⟩
  rw [h.1] at hw
  obtain ⟨i, -, hi⟩ := List.mem_filterMap.mp hw
  exact List.mem_of_getElem? hi
set_option maxRecDepth 20000 in
theorem q_Reader : xCls R_Reader T_Reader 7 ty_Reader := by
  refine ⟨fun w hw => ?_, by decide +kernel, by decide +kernel⟩
  have h : u_ws R_Reader T_Reader 7 = [255, 257, 259, 261, 263, 265, 267].filterMap (fun i => lw_tbl[i]?) ∧ (u_ws R_Reader T_Reader 7).all goodWord = true := by decide +kernel
  refine List.mem_filter.mpr ⟨?_, List.all_eq_true.mp h.2 w hw⟩
  rw [h.1] at hw
  obtain ⟨i, -, hi⟩ := List.mem_filterMap.mp hw
  exact List.mem_of_getElem? hi
set_option maxRecDepth 20000 in
theorem q_Rolls : xCls R_Rolls T_Rolls 13 ty_Rolls := by
  refine ⟨fun w hw => ?_, by decide +kernel, by decide +kernel⟩
  have h : u_ws R_Rolls T_Rolls 13 = [125, 127, 129, 131, 133, 135, 137, 139, 141, 143, 145, 147, 149].filterMap (fun i => lw_tbl[i]?) ∧ (u_ws R_Rolls T_Rolls 13).all goodWord = true := by decide +kernel
  refine List.mem_filter.mpr ⟨?_, List.all_eq_true.mp h.2 w hw⟩
  rw [h.1] at hw
  obtain ⟨i, -, hi⟩ := List.mem_filterMap.mp hw
  exact List.mem_of_getElem? hi
set_option maxRecDepth 20000 in
theorem q_Shelf : xCls R_Shelf T_Shelf 3 ty_Shelf := by
  refine ⟨fun w hw => ?_, by decide +kernel, by decide +kernel⟩
  have h : u_ws R_Shelf T_Shelf 3 = [209, 211, 213].filterMap (fun i => lw_tbl[i]?) ∧ (u_ws R_Shelf T_Shelf 3).all goodWord = true := by decide +kernel
  refine List.mem_filter.mpr ⟨?_, List.all_eq_true.mp h.2 w hw⟩
  rw [h.1] at hw
  obtain ⟨i, -, hi⟩ := List.mem_filterMap.mp hw
  exact List.mem_of_getElem? hi
set_option maxRecDepth 20000 in
theorem q_Song : xCls R_Song T_Song 2 ty_Song := by
  refine ⟨fun w hw => ?_, by decide +kernel, by decide +kernel⟩
  have h : u_ws R_Song T_Song 2 = [386, 388].filterMap (fun i => lw_tbl[i]?) ∧ (u_ws R_Song T_Song 2).all goodWord = true := by decide +kernel
  refine List.mem_filter.mpr ⟨?_, List.all_eq_true.mp h.2 w hw⟩
  rw [h.1] at hw
  obtain ⟨i, -, hi⟩ := List.mem_filterMap.mp hw
  exact List.mem_of_getElem? hi
set_option maxRecDepth 20000 in
theorem q_Tape : xCls R_Tape T_Tape 2 ty_Tape := by
  refine ⟨fun w hw => ?_, by decide +kernel, by decide +kernel⟩
  have h : u_ws R_Tape T_Tape 2 = [164, 166].filterMap (fun i => lw_tbl[i]?) ∧ (u_ws R_Tape T_Tape 2).all goodWord = true := by decide +kernel
  refine List.mem_filter.mpr ⟨?_, List.all_eq_true.mp h.2 w hw⟩
  rw [h.1] at hw
  obtain ⟨i, -, hi⟩ := List.mem_filterMap.mp hw
  exact List.mem_of_getElem? hi
set_option maxRecDepth 20000 in
theorem q_Tokens : xCls R_Tokens T_Tokens 4 ty_Tokens := by
  refine ⟨fun w hw => ?_, by decide +kernel, by decide +kernel⟩
  have h : u_ws R_Tokens T_Tokens 4 = [236, 238, 240, 242].filterMap (fun i => lw_tbl[i]?) ∧ (u_ws R_Tokens T_Tokens 4).all goodWord = true := by decide +kernel
  refine List.mem_filter.mpr ⟨?_, List.all_eq_true.mp h.2 w hw⟩
  rw [h.1] at hw
  obtain ⟨i, -, hi⟩ := List.mem_filterMap.mp hw
  exact List.mem_of_getElem? hi
set_option maxRecDepth 20000 in
theorem q_Ww : xCls R_Ww T_Ww 9 ty_Ww := by
  refine ⟨fun w hw => ?_, by decide +kernel, by decide +kernel⟩
  have h : u_ws R_Ww T_Ww 9 = [400, 402, 404, 406, 408, 410, 412, 414, 416].filterMap (fun i => lw_tbl[i]?) ∧ (u_ws R_Ww T_Ww 9).all goodWord = true := by decide +kernel
  refine List.mem_filter.mpr ⟨?_, List.all_eq_true.mp h.2 w hw⟩
  rw [h.1] at hw
  obtain ⟨i, -, hi⟩ := List.mem_filterMap.mp hw
  exact List.mem_of_getElem? hi
set_option maxRecDepth 20000 in
theorem q_Md : xCls R_Md T_Md 39 ty_Md := by
  refine ⟨fun w hw => ?_, by decide +kernel, by decide +kernel⟩
  have h : u_ws R_Md T_Md 39 = [996, 998, 1000, 1002, 1004, 1006, 1008, 1010, 1012, 1014, 1016, 1018, 1020, 1022, 1024, 1026, 1028, 1030, 1032, 1034, 1036, 1038, 1040, 1042, 1044, 1046, 1048, 1050, 1052, 1054, 1056, 1058, 1060, 1062, 1064, 1066, 1068, 1070, 1072].filterMap (fun i => lw_tbl[i]?) ∧ (u_ws R_Md T_Md 39).all goodWord = true := by decide +kernel
  refine List.mem_filter.mpr ⟨?_, List.all_eq_true.mp h.2 w hw⟩
  rw [h.1] at hw
  obtain ⟨i, -, hi⟩ := List.mem_filterMap.mp hw
  exact List.mem_of_getElem? hi
end
section
/-! THE FRAME: an abstract heap (shapes, ints, longs), and the judgement X over it: the machine's walk with all of its context hidden. -/
/-- a cell's shape: an array (its type, its length, its references), or an object (its class's number, its slots' kinds: 0 an int, 1 null, 2 a reference that V holds, q + 3 the reference q) -/
abbrev xC : Type := (FieldType × Nat × (Nat → Option Nat)) ⊕ (Nat × List Nat)
abbrev xS : Type := List xC
abbrev xV : Type := Nat → Nat → Int32
abbrev xL : Type := Nat → Nat → Int64
abbrev xH : Type := xS × xV × xL
/-- where the world lies: its first address, the addresses of what isn't ours, the classes' numbers and slots, the arrays' classes, the script -/
abbrev xG : Type := Nat × (Nat → Nat) × va_G × (FieldType → ClassId) × (Nat × (Nat → Int32))
/-- a method: its name, its bytes, how many locals, what it returns, how many cells and slots it may make -/
abbrev xM : Type := MethodName × ByteArray × Nat × Option FieldType × Nat × Nat
def xv (G : xG) : Value → Value
  | .ref q => .ref (G.1 + q)
  | .retAddr k => .ref (G.2.1 k)
  | v => v
theorem xv_cat (G : xG) (v : Value) : (xv G v).category = v.category := by cases v <;> rfl
def xsv (kd : Nat) (x : Int32) : Value := match kd with
  | 0 => .int x
  | 1 => .null
  | 2 => .ref x.toNatClampNeg
  | q + 3 => .ref q
def xb (G : xG) (V : xV) (L : xL) (r : Nat) (ty : FieldType) (f : Nat → Option Nat) : (Nat → Int32) ⊕ (Nat → Int64) ⊕ (Nat → UInt32) ⊕ (Nat → UInt64) ⊕ (Nat → Option Nat) := match ty with
  | .long => .inr (.inl (L r))
  | .object _ => .inr (.inr (.inr (.inr (fun j => (f j).map (fun q => G.1 + q)))))
  | _ => .inl (V r)
def xe (G : xG) (V : xV) (L : xL) (r : Nat) : xC → va_E
  | .inl (ty, n, f) => .inl (G.2.2.2.1 ty, n, xb G V L r ty f)
  | .inr (ci, ks) => .inr (ci, ks.mapIdx (fun k kd => xv G (xsv kd (V r k))))
def xw (G : xG) (sh : xS) (V : xV) (L : xL) : va_W := sh.mapIdx (fun r c => (G.1 + r, xe G V L r c))
def xA (G : xG) : Nat → Prop := fun q => G.1 ≤ q
def xR (G : xG) (sh : xS) (V : xV) (L : xL) (H : Heap) : Prop := va_P G.2.2.1 classes (xw G sh V L) H
theorem xw_at {G : xG} {sh : xS} {V : xV} {L : xL} {r : Nat} {c : xC} (h : sh[r]? = some c) : (xw G sh V L)[r]? = some (G.1 + r, xe G V L r c) := by
  simp only [xw, List.getElem?_mapIdx, h, Option.map_some]
theorem xw_of {G : xG} {sh : xS} {V : xV} {L : xL} {r : Nat} {q : Nat × va_E} (h : (xw G sh V L)[r]? = some q) : ∃ c, sh[r]? = some c ∧ q = (G.1 + r, xe G V L r c) := by
  simp only [xw, List.getElem?_mapIdx, Option.map_eq_some_iff] at h
  obtain ⟨c, h1, h2⟩ := h
  exact ⟨c, h1, h2.symm⟩
theorem xw_D (G : xG) (sh : xS) (V : xV) (L : xL) : va_D (xA G) (xw G sh V L) := by
  refine ⟨fun i j p q hi hj e => ?_, fun k q hk => ?_⟩
  · obtain ⟨c1, -, rfl⟩ := xw_of hi
    obtain ⟨c2, -, rfl⟩ := xw_of hj
    have e : G.1 + i = G.1 + j := e
    omega
  · obtain ⟨c1, -, rfl⟩ := xw_of hk
    exact Nat.le_add_right _ _
/-- the array types that the world has -/
def xTy (G : xG) : List (ClassId × FieldType) := [(G.2.2.2.1 .int, .int), (G.2.2.2.1 .byte, .byte), (G.2.2.2.1 .long, .long), (G.2.2.2.1 (.object "WarrantWeather$Law"), .object "WarrantWeather$Law")]
/-- what holds of every state: the tables, the script, the constants that aren't ours -/
def xK (G : xG) (U : State) : Prop :=
  va_K G.2.2.1 classes (xTy G) U ∧ (∀ w ∈ xNest, va_Nw w U) ∧ va_X (G.2.1 0) G.2.2.2.2.1 G.2.2.2.2.2 U U.heap ∧ G.2.1 0 < G.1 ∧ G.1 ≤ U.heap.size ∧
  va_Z "WarrantWeather" "NAME_IS_OF" "[I" (.ref (G.2.1 2)) (xA G) U U.heap ∧ va_T .int (G.2.1 2) 13 (fun j => .int (xNames.getD j 0)) (xA G) U U.heap ∧
  vk_R "WarrantWeather$Tokens" 65 xWords (G.2.1 1) U ∧ vk_S 1 [xWordsN] [xWordsB] (fun _ => G.2.1 1) (fun _ => G.2.1 3) (xA G) U U.heap ∧
  va_Z "java/lang/String" "COMPACT_STRINGS" "Z" (.int 1) (xA G) U U.heap ∧ va_Zq "jdk/internal/util/Preconditions" "SIOOBE_FORMATTER" "Ljava/util/function/BiFunction;" (xA G) U U.heap ∧ va_AO "WarrantWeather$Law" U
theorem xK.to {G : xG} {s U : State} (h : xK G s) (hW : s.WarmedH U.vm) (hz : s.heap.size ≤ U.heap.size) (hq : ∀ q : Nat, q < s.heap.size → ¬ xA G q → U.heap[q]? = s.heap[q]?) : xK G U := by
  obtain ⟨h1, h2, h3, h4, h5, h6, h7, h8, h9, h10, h11, h12⟩ := h
  have hb : ¬ xA G (G.2.1 0) := Nat.not_le.mpr h4
  refine ⟨va_K.moved hW.alike h1, fun w hw => ?_, (va_X.moved hW.alike h3).kept (hq _ (Nat.lt_of_lt_of_le h4 h5) hb), h4, Nat.le_trans h5 hz, (va_Z.moved hW.alike h6).kept hq, (va_T.moved hW.alike h7).kept hq, vk_R.warm hW h8, (vk_S.moved hW.alike h9).kept hq, (va_Z.moved hW.alike h10).kept hq, (va_Zq.moved hW.alike h11).kept hq, va_AO.moved hW.alike h12⟩
  have h := h2 w hw
  have hn : xIsNest w = true := (List.mem_filter.mp hw).2
  cases w <;> first | (exact va_Nw.warmF hW h) | (exact va_Nw.warmM hW h) | (cases hn)
theorem xK.call {G : xG} {U : State} {g : JFrame} {mk : MethodId} {a : Array Value} (h : xK G U) : xK G (U.calling g mk a) := by
  obtain ⟨h1, h2, h3, h4, h5, h6, h7, h8, h9, h10, h11, h12⟩ := h
  refine ⟨va_K.moved (u := U) (U := U.calling g mk a) (Vm.Alike.refl U.vm) h1, fun w hw => va_Nw.same ?_ (u := U) rfl (h2 w hw), va_X.moved (u := U) (Vm.Alike.refl U.vm) h3, h4, h5, va_Z.moved (u := U) (Vm.Alike.refl U.vm) h6, va_T.moved (u := U) (Vm.Alike.refl U.vm) h7, vk_R.same (u := U) rfl h8, vk_S.moved (u := U) (Vm.Alike.refl U.vm) h9, va_Z.moved (u := U) (Vm.Alike.refl U.vm) h10, va_Zq.moved (u := U) (Vm.Alike.refl U.vm) h11, va_AO.moved (u := U) (Vm.Alike.refl U.vm) h12⟩
  have hn : xIsNest w = true := (List.mem_filter.mp hw).2
  cases w <;> first | rfl | (cases hn)
/-- the room of a method whose calls go d deep -/
def xRm (d : Nat) (M : xM) : Room := { frames := d, cells := M.2.2.2.2.1, slots := M.2.2.2.2.2, locals := 64 * d + 64 }
def xPc (G : xG) (as : List Value) (h : xH) : Array Value → State → Prop := fun a U => a = (as.map (xv G)).toArray ∧ xR G h.1 h.2.1 h.2.2 U.heap ∧ xK G U ∧ U.heap.size ≤ G.1 + h.1.length
def xQc (G : xG) (Q : Option Value → xH → Prop) : Array Value → State → Outcome → State → Prop := fun _ st o t => ∃ (r : Option Value) (h : xH), o = .returned (r.map (xv G)) ∧ Q r h ∧ xR G h.1 h.2.1 h.2.2 t.heap ∧ va_F (xA G) st t
/-- a method's contract over the abstract heap -/
def xRuns (d : Nat) (M : xM) (as : List Value) (h : xH) (Q : Option Value → xH → Prop) : Prop :=
  ∀ (l : Launch) (G : xG), Met l M.1 (.code M.1 M.2.1 M.2.2.1 M.2.2.2.1 :: xTbl) (xRm d M) (xPc G as h) (xQc G Q) M.2.2.2.2.1 M.2.2.2.2.2 (xA G)
/-- a method's context -/
def xCx (G : xG) (M : xM) (p : Program) (s : State) (m : MethodId) (args : Array Value) (meth : Method) (c : Code) : Prop :=
  p.tables.exec = Jvm.exec ∧ c.code = M.2.1 ∧ meth.sig.returnType = M.2.2.2.1 ∧ c.maxLocals = M.2.2.1 ∧ s.vm.findClass M.1.cls = some m.cls ∧ (∀ w ∈ xTbl, w.before args s = true) ∧ meth.locks = false ∧ meth.name = M.1.name ∧ xK G s
def xls (G : xG) (ls : List (Nat × Value)) : List (Nat × Value) := ls.map (fun q => (q.1, xv G q.2))
/-- the judgement: the machine, in method M at pc with these locals and this stack, over this heap, comes to Z -/
def X (M : xM) (R : Room) (Z : xG → List Frame → Array Value → State → State → Prop) (sh : xS) (V : xV) (L : xL) (cu su pc : Nat) (ls : List (Nat × Value)) (st : List Value) : Prop :=
  ∀ (l : Launch) (G : xG) (p : Program) (e : Env) (s : State) (m : MethodId) (args : Array Value) (below : List Frame) (meth : Method) (c : Code) (H : Heap) (locs : List Loc) (la : Array Slot),
    xCx G M p s m args meth c → s.heap.size + cu ≤ G.1 + sh.length → xR G sh V L H → va_S (xA G) s.heap H locs → lv_has la M.2.2.1 (xls G ls) →
    W p l e R s m args below meth c H locs cu su (Z G below args s) (F0 m pc la (st.map (xv G)))
/-- a method's end -/
def xZ (M : xM) (Q : Option Value → xH → Prop) : xG → List Frame → Array Value → State → State → Prop := fun G below args s => MQ below (xQc G Q) args s M.2.2.2.2.1 M.2.2.2.2.2 (xA G)
theorem xl_at {G : xG} {ls : List (Nat × Value)} {k i : Nat} {v : Value} (h : ls[k]? = some (i, v)) : (xls G ls)[k]? = some (i, xv G v) := by
  simp only [xls, List.getElem?_map, h, Option.map_some]
theorem xl_st1 {G : xG} {ls ls' : List (Nat × Value)} {i : Nat} {v : Value} (h : (i, v) :: ls.filter (fun q => !(q.1 == i) && !(q.1 + 1 == i && q.2.category == 2)) = ls') :
    (i, xv G v) :: (xls G ls).filter (fun q => !(q.1 == i) && !(q.1 + 1 == i && q.2.category == 2)) = xls G ls' := by
  subst h
  simp only [xls, List.filter_map, List.map_cons]
  congr 2
  congr 1
  funext q
  simp only [Function.comp, xv_cat]
theorem xl_st2 {G : xG} {ls ls' : List (Nat × Value)} {i : Nat} {v : Value} (h : (i, v) :: ls.filter (fun q => !(q.1 == i) && (!(q.1 == i + 1) && !(q.1 + 1 == i && q.2.category == 2))) = ls') :
    (i, xv G v) :: (xls G ls).filter (fun q => !(q.1 == i) && (!(q.1 == i + 1) && !(q.1 + 1 == i && q.2.category == 2))) = xls G ls' := by
  subst h
  simp only [xls, List.filter_map, List.map_cons]
  congr 2
  congr 1
  funext q
  simp only [Function.comp, xv_cat]
theorem xl_args (G : xG) : ∀ (as : List Value) (i : Nat), lv_args i (as.map (xv G)) = xls G (lv_args i as)
  | [], _ => rfl
  | v :: vs, i => by
    simp only [List.map_cons, lv_args, xv_cat, xls]
    rw [xl_args G vs]
    rfl
theorem xl_sl (G : xG) : ∀ as : List Value, (lg_sl (as.map (xv G))).length = (lg_sl as).length
  | [] => rfl
  | v :: vs => by
    have ih := xl_sl G vs
    simp only [lg_sl, List.map_cons, List.flatMap_cons, List.length_append, xv_cat] at ih ⊢
    rw [ih]
    split <;> rfl
/-- a method's contract out of the walk of its body -/
theorem xRuns_of {d : Nat} {M : xM} {as : List Value} {sh : xS} {V : xV} {L : xL} {Q : Option Value → xH → Prop} (hy : plainName M.1.cls = true) (hn : (lg_sl as).length ≤ M.2.2.1)
    (h : X M (xRm d M) (xZ M Q) sh V L 0 0 0 (lv_args 0 as) []) : xRuns d M as (sh, V, L) Q := by
  intro l G
  refine Met.ofW (cc := M.2.1) (maxL := M.2.2.1) (ret := M.2.2.2.1) hy rfl ?_
  intro p e s m args below meth c s₁ B hml hv
  obtain ⟨rfl, hR, hK, hz⟩ := hv
  have hl := lv_entry (as.map (xv G)) (n := M.2.2.1) (by rw [xl_sl]; exact hn)
  rw [xl_args] at hl
  rw [lg_entry_eq]
  exact h l G p e s m _ below meth c s.heap [] _ ⟨B.exec, B.bytes, B.returns, hml, findClass_of_methodNamed B.named, fun w hw => atoms_spec B.pre w (List.mem_cons_of_mem _ hw), B.notSynchronized, (name_of_methodNamed B.named B.method).1, hK⟩ hz hR va_S.rf hl
theorem xRuns.weak {d : Nat} {M : xM} {as : List Value} {h : xH} {Q Q2 : Option Value → xH → Prop} (hM : xRuns d M as h Q) (hq : ∀ r h', Q r h' → Q2 r h') : xRuns d M as h Q2 := by
  intro l G
  refine fun p e ha hc hk s m args below hf happ hP hK => ?_
  obtain ⟨k, o, h1, h2, h3, ⟨r, h', e1, e2, e3⟩, h4⟩ := hM l G p e ha hc hk s m args below hf happ hP hK
  exact ⟨k, o, h1, h2, h3, ⟨r, h', e1, hq r h' e2, e3⟩, h4⟩
section XR
variable {p : Program} {l : Launch} {e : Env} {R : Room} {s : State} {m : MethodId} {args : Array Value} {below : List Frame} {meth : Method} {c : Code} {H : Heap} {locs : List Loc} {cells slots : Nat} {Qf : State → Prop}
variable {pc mc ms : Nat} {la : Array Slot} {rest st0 : List Value} {a : Array Value} {G : xG} {Q : Option Value → xH → Prop}
theorem x_run (hr : va_Run p l e R s m args below meth c H locs cells slots mc ms (F0 m pc la st0) rest (xQc G Q a) (xA G)) (hS : va_S (xA G) s.heap H locs)
    (K : ∀ (r : Option Value) (h : xH) (H1 : Heap) (locs1 : List Loc), Q r h → xR G h.1 h.2.1 h.2.2 H1 → va_S (xA G) s.heap H1 locs1 → W p l e R s m args below meth c H1 locs1 (cells + mc) (slots + ms) Qf (F0 m (pc + 3) la ((r.map (xv G)).toList ++ rest))) : W p l e R s m args below meth c H locs cells slots Qf (F0 m pc la st0) := by
  intro T hT Xx
  obtain ⟨v, st₀, t, T', L, h0, X', hL, e1, e2, ⟨r, h, hv, hq, hR, hz, hk⟩, st⟩ := hr T hT Xx
  cases hv
  rw [h0] at hz hk
  obtain ⟨t2, a1, b1⟩ := K r h T'.heap (locs ++ L) hq (by rw [e1]; exact hR)
    ⟨Nat.le_trans hS.1 (by rw [e1]; exact hz), fun q h1 h2 => by rw [e1, hk q (Nat.lt_of_lt_of_le h1 hS.1) h2]; exact hS.2.1 q h1 h2, fun q hq => by
      rcases List.mem_append.mp hq with h | h
      · exact hS.2.2 q h
      · exact hL q h⟩ T' rfl X'
  exact ⟨t2, st t2 a1, b1⟩
theorem x_size {g : JFrame} (h : H.size ≤ s.heap.size + cells → W p l e R s m args below meth c H locs cells slots Qf g) : W p l e R s m args below meth c H locs cells slots Qf g := fun T hT Xs => h (by have := Xs.same.2.2.1; rw [← hT]; exact this) T hT Xs
end XR
theorem xR_low {G : xG} {sh : xS} {V : xV} {L : xL} {H : Heap} (h : xR G sh V L H) (hb : G.1 ≤ H.size) : G.1 + sh.length ≤ H.size := by
  rcases Nat.eq_zero_or_pos sh.length with h0 | h0
  · omega
  · have h1 : sh[sh.length - 1]? = some sh[sh.length - 1] := List.getElem?_eq_getElem (by omega)
    have h2 := (h _ _ (xw_at (G := G) (V := V) (L := L) h1)).lt
    simp only at h2
    omega
theorem xe_eq {G : xG} {V V' : xV} {L L' : xL} {r : Nat} (c : xC) (hV : V' r = V r) (hL : L' r = L r) : xe G V' L' r c = xe G V L r c := by
  rcases c with ⟨ty, n, f⟩ | ⟨ci, ks⟩
  · cases ty <;> simp only [xe, xb, hV, hL]
  · simp only [xe, hV]
theorem xw_set {G : xG} {sh : xS} {V V' : xV} {L L' : xL} {r : Nat} (c : xC) (hr : r < sh.length) (hV : ∀ j, j ≠ r → V' j = V j) (hL : ∀ j, j ≠ r → L' j = L j) : xw G (sh.set r c) V' L' = (xw G sh V L).set r (G.1 + r, xe G V' L' r c) := by
  apply List.ext_getElem?
  intro i
  by_cases hi : i = r
  · subst hi
    rw [xw_at (List.getElem?_set_self hr), List.getElem?_set_self (by simp only [xw, List.length_mapIdx]; exact hr)]
  · rw [List.getElem?_set_ne (Ne.symm hi)]
    simp only [xw, List.getElem?_mapIdx]
    rw [List.getElem?_set_ne (Ne.symm hi)]
    cases sh[i]? with
    | none => rfl
    | some c' =>
      simp only [Option.map_some]
      rw [xe_eq c' (hV i hi) (hL i hi)]
theorem xw_setS {G : xG} {sh : xS} {V V' : xV} {L L' : xL} {r : Nat} {c : xC} (hr : sh[r]? = some c) (hV : ∀ j, j ≠ r → V' j = V j) (hL : ∀ j, j ≠ r → L' j = L j) : xw G sh V' L' = (xw G sh V L).set r (G.1 + r, xe G V' L' r c) := by
  have h1 := xw_set (G := G) c (List.getElem?_eq_some_iff.mp hr).1 hV hL
  rw [← h1]
  congr 1
  apply List.ext_getElem?
  intro i
  by_cases hi : i = r
  · subst hi
    rw [List.getElem?_set_self (List.getElem?_eq_some_iff.mp hr).1, hr]
  · rw [List.getElem?_set_ne (Ne.symm hi)]
/-- one int of the heap is another -/
def x2 (V : xV) (r k : Nat) (v : Int32) : xV := fun r' k' => if r' = r ∧ k' = k then v else V r' k'
def x2L (L : xL) (r k : Nat) (v : Int64) : xL := fun r' k' => if r' = r ∧ k' = k then v else L r' k'
/-- a row of the heap is another -/
def xrow (V : xV) (r : Nat) (f : Nat → Int32) : xV := fun r' => if r' = r then f else V r'
theorem x2_ne {V : xV} {r k j : Nat} {v : Int32} (h : j ≠ r) : x2 V r k v j = V j := by funext i; simp [x2, h]
theorem x2L_ne {V : xL} {r k j : Nat} {v : Int64} (h : j ≠ r) : x2L V r k v j = V j := by funext i; simp [x2L, h]
theorem xrow_ne {V : xV} {r j : Nat} {f : Nat → Int32} (h : j ≠ r) : xrow V r f j = V j := if_neg h
theorem xrow_eq {V : xV} {r : Nat} {f : Nat → Int32} : xrow V r f r = f := if_pos rfl
theorem x2_upd {V : xV} {r k : Nat} {v : Int32} : x2 V r k v r = upd (V r) k v := by funext i; simp [x2, upd]
theorem x2L_upd {V : xL} {r k : Nat} {v : Int64} : x2L V r k v r = vp_updL (V r) k v := by funext i; simp [x2L, vp_updL]
/-- an index is within -/
def xI (i : Int32) (n : Nat) : Bool := decide (0 ≤ i.toInt ∧ i.toInt < (n : Int))
theorem xI_in {i : Int32} {n : Nat} (h : xI i n = true) : vp_in i n := vp_in_iff.mpr (of_decide_eq_true h)
end
section
/-! THE RULES: a row for each instruction (printed by wip/whole/gen_rules.py) -/
section XRules
variable {M : xM} {R : Room} {Z : xG → List Frame → Array Value → State → State → Prop} {sh : xS} {V : xV} {L : xL} {cu su pc : Nat} {ls ls' : List (Nat × Value)} {st : List Value}
theorem x_iconst {n : Int} (v : Int32) (hd : decode M.2.1 pc = .ok (.iconst n, 1)) (hv : Int32.ofInt n = v) (K : X M R Z sh V L cu su (pc + 1) ls (.int v :: st)) : X M R Z sh V L cu su pc ls st := by
  intro l G p e s m args below meth c H locs la hC hz hR hS hl
  exact lv_iconst hC.1 hC.2.1 hd hv (K l G p e s m args below meth c H locs la hC hz hR hS hl)
theorem x_bipush {n : Int} (v : Int32) (hd : decode M.2.1 pc = .ok (.bipush n, 2)) (hv : (Int8.ofInt n).toInt32 = v) (K : X M R Z sh V L cu su (pc + 2) ls (.int v :: st)) : X M R Z sh V L cu su pc ls st := by
  intro l G p e s m args below meth c H locs la hC hz hR hS hl
  exact lv_bipush hC.1 hC.2.1 hd hv (K l G p e s m args below meth c H locs la hC hz hR hS hl)
theorem x_sipush {n : Int} (v : Int32) (hd : decode M.2.1 pc = .ok (.sipush n, 3)) (hv : (Int16.ofInt n).toInt32 = v) (K : X M R Z sh V L cu su (pc + 3) ls (.int v :: st)) : X M R Z sh V L cu su pc ls st := by
  intro l G p e s m args below meth c H locs la hC hz hR hS hl
  exact lv_sipush hC.1 hC.2.1 hd hv (K l G p e s m args below meth c H locs la hC hz hR hS hl)
theorem x_lconst {n : Fin 2} (v : Int64) (hd : decode M.2.1 pc = .ok (.lconst n, 1)) (hv : Int64.ofNat (n : Nat) = v) (K : X M R Z sh V L cu su (pc + 1) ls (.long v :: st)) : X M R Z sh V L cu su pc ls st := by
  intro l G p e s m args below meth c H locs la hC hz hR hS hl
  exact lv_lconst hC.1 hC.2.1 hd hv (K l G p e s m args below meth c H locs la hC hz hR hS hl)
theorem x_iadd {x y : Int32} (hd : decode M.2.1 pc = .ok (.iadd, 1))  (K : X M R Z sh V L cu su (pc + 1) ls (.int (x + y) :: st)) : X M R Z sh V L cu su pc ls (.int y :: .int x :: st) := by
  intro l G p e s m args below meth c H locs la hC hz hR hS hl
  exact lv_iadd hC.1 hC.2.1 hd  (K l G p e s m args below meth c H locs la hC hz hR hS hl)
theorem x_isub {x y : Int32} (hd : decode M.2.1 pc = .ok (.isub, 1))  (K : X M R Z sh V L cu su (pc + 1) ls (.int (x - y) :: st)) : X M R Z sh V L cu su pc ls (.int y :: .int x :: st) := by
  intro l G p e s m args below meth c H locs la hC hz hR hS hl
  exact lv_isub hC.1 hC.2.1 hd  (K l G p e s m args below meth c H locs la hC hz hR hS hl)
theorem x_imul {x y : Int32} (hd : decode M.2.1 pc = .ok (.imul, 1))  (K : X M R Z sh V L cu su (pc + 1) ls (.int (x * y) :: st)) : X M R Z sh V L cu su pc ls (.int y :: .int x :: st) := by
  intro l G p e s m args below meth c H locs la hC hz hR hS hl
  exact lv_imul hC.1 hC.2.1 hd  (K l G p e s m args below meth c H locs la hC hz hR hS hl)
theorem x_iand {x y : Int32} (hd : decode M.2.1 pc = .ok (.iand, 1))  (K : X M R Z sh V L cu su (pc + 1) ls (.int (x &&& y) :: st)) : X M R Z sh V L cu su pc ls (.int y :: .int x :: st) := by
  intro l G p e s m args below meth c H locs la hC hz hR hS hl
  exact lv_iand hC.1 hC.2.1 hd  (K l G p e s m args below meth c H locs la hC hz hR hS hl)
theorem x_ior {x y : Int32} (hd : decode M.2.1 pc = .ok (.ior, 1))  (K : X M R Z sh V L cu su (pc + 1) ls (.int (x ||| y) :: st)) : X M R Z sh V L cu su pc ls (.int y :: .int x :: st) := by
  intro l G p e s m args below meth c H locs la hC hz hR hS hl
  exact lv_ior hC.1 hC.2.1 hd  (K l G p e s m args below meth c H locs la hC hz hR hS hl)
theorem x_ixor {x y : Int32} (hd : decode M.2.1 pc = .ok (.ixor, 1))  (K : X M R Z sh V L cu su (pc + 1) ls (.int (x ^^^ y) :: st)) : X M R Z sh V L cu su pc ls (.int y :: .int x :: st) := by
  intro l G p e s m args below meth c H locs la hC hz hR hS hl
  exact lv_ixor hC.1 hC.2.1 hd  (K l G p e s m args below meth c H locs la hC hz hR hS hl)
theorem x_ladd {x y : Int64} (hd : decode M.2.1 pc = .ok (.ladd, 1))  (K : X M R Z sh V L cu su (pc + 1) ls (.long (x + y) :: st)) : X M R Z sh V L cu su pc ls (.long y :: .long x :: st) := by
  intro l G p e s m args below meth c H locs la hC hz hR hS hl
  exact lv_ladd hC.1 hC.2.1 hd  (K l G p e s m args below meth c H locs la hC hz hR hS hl)
theorem x_lsub {x y : Int64} (hd : decode M.2.1 pc = .ok (.lsub, 1))  (K : X M R Z sh V L cu su (pc + 1) ls (.long (x - y) :: st)) : X M R Z sh V L cu su pc ls (.long y :: .long x :: st) := by
  intro l G p e s m args below meth c H locs la hC hz hR hS hl
  exact lv_lsub hC.1 hC.2.1 hd  (K l G p e s m args below meth c H locs la hC hz hR hS hl)
theorem x_lmul {x y : Int64} (hd : decode M.2.1 pc = .ok (.lmul, 1))  (K : X M R Z sh V L cu su (pc + 1) ls (.long (x * y) :: st)) : X M R Z sh V L cu su pc ls (.long y :: .long x :: st) := by
  intro l G p e s m args below meth c H locs la hC hz hR hS hl
  exact lv_lmul hC.1 hC.2.1 hd  (K l G p e s m args below meth c H locs la hC hz hR hS hl)
theorem x_land {x y : Int64} (hd : decode M.2.1 pc = .ok (.land, 1))  (K : X M R Z sh V L cu su (pc + 1) ls (.long (x &&& y) :: st)) : X M R Z sh V L cu su pc ls (.long y :: .long x :: st) := by
  intro l G p e s m args below meth c H locs la hC hz hR hS hl
  exact lv_land hC.1 hC.2.1 hd  (K l G p e s m args below meth c H locs la hC hz hR hS hl)
theorem x_lor {x y : Int64} (hd : decode M.2.1 pc = .ok (.lor, 1))  (K : X M R Z sh V L cu su (pc + 1) ls (.long (x ||| y) :: st)) : X M R Z sh V L cu su pc ls (.long y :: .long x :: st) := by
  intro l G p e s m args below meth c H locs la hC hz hR hS hl
  exact lv_lor hC.1 hC.2.1 hd  (K l G p e s m args below meth c H locs la hC hz hR hS hl)
theorem x_idiv {x y : Int32} (hd : decode M.2.1 pc = .ok (.idiv, 1)) (hne : ¬ y = 0) (K : X M R Z sh V L cu su (pc + 1) ls (.int (x / y) :: st)) : X M R Z sh V L cu su pc ls (.int y :: .int x :: st) := by
  intro l G p e s m args below meth c H locs la hC hz hR hS hl
  exact lv_idiv hC.1 hC.2.1 hd hne (K l G p e s m args below meth c H locs la hC hz hR hS hl)
theorem x_irem {x y : Int32} (hd : decode M.2.1 pc = .ok (.irem, 1)) (hne : ¬ y = 0) (K : X M R Z sh V L cu su (pc + 1) ls (.int (x - x / y * y) :: st)) : X M R Z sh V L cu su pc ls (.int y :: .int x :: st) := by
  intro l G p e s m args below meth c H locs la hC hz hR hS hl
  exact lv_irem hC.1 hC.2.1 hd hne (K l G p e s m args below meth c H locs la hC hz hR hS hl)
theorem x_ldiv {x y : Int64} (hd : decode M.2.1 pc = .ok (.ldiv, 1)) (hne : ¬ y = 0) (K : X M R Z sh V L cu su (pc + 1) ls (.long (x / y) :: st)) : X M R Z sh V L cu su pc ls (.long y :: .long x :: st) := by
  intro l G p e s m args below meth c H locs la hC hz hR hS hl
  exact lv_ldiv hC.1 hC.2.1 hd hne (K l G p e s m args below meth c H locs la hC hz hR hS hl)
theorem x_ineg {x : Int32} (hd : decode M.2.1 pc = .ok (.ineg, 1))  (K : X M R Z sh V L cu su (pc + 1) ls (.int (0 - x) :: st)) : X M R Z sh V L cu su pc ls (.int x :: st) := by
  intro l G p e s m args below meth c H locs la hC hz hR hS hl
  exact lv_ineg hC.1 hC.2.1 hd  (K l G p e s m args below meth c H locs la hC hz hR hS hl)
theorem x_lneg {x : Int64} (hd : decode M.2.1 pc = .ok (.lneg, 1))  (K : X M R Z sh V L cu su (pc + 1) ls (.long (0 - x) :: st)) : X M R Z sh V L cu su pc ls (.long x :: st) := by
  intro l G p e s m args below meth c H locs la hC hz hR hS hl
  exact lv_lneg hC.1 hC.2.1 hd  (K l G p e s m args below meth c H locs la hC hz hR hS hl)
theorem x_ishl {x y : Int32} (hd : decode M.2.1 pc = .ok (.ishl, 1))  (K : X M R Z sh V L cu su (pc + 1) ls (.int (x <<< (y &&& 31)) :: st)) : X M R Z sh V L cu su pc ls (.int y :: .int x :: st) := by
  intro l G p e s m args below meth c H locs la hC hz hR hS hl
  exact lv_ishl hC.1 hC.2.1 hd  (K l G p e s m args below meth c H locs la hC hz hR hS hl)
theorem x_ishr {x y : Int32} (hd : decode M.2.1 pc = .ok (.ishr, 1))  (K : X M R Z sh V L cu su (pc + 1) ls (.int (x >>> (y &&& 31)) :: st)) : X M R Z sh V L cu su pc ls (.int y :: .int x :: st) := by
  intro l G p e s m args below meth c H locs la hC hz hR hS hl
  exact lv_ishr hC.1 hC.2.1 hd  (K l G p e s m args below meth c H locs la hC hz hR hS hl)
theorem x_i2l {x : Int32} (hd : decode M.2.1 pc = .ok (.i2l, 1))  (K : X M R Z sh V L cu su (pc + 1) ls (.long x.toInt64 :: st)) : X M R Z sh V L cu su pc ls (.int x :: st) := by
  intro l G p e s m args below meth c H locs la hC hz hR hS hl
  exact lv_i2l hC.1 hC.2.1 hd rfl (K l G p e s m args below meth c H locs la hC hz hR hS hl)
theorem x_l2i {x : Int64} (hd : decode M.2.1 pc = .ok (.l2i, 1))  (K : X M R Z sh V L cu su (pc + 1) ls (.int x.toInt32 :: st)) : X M R Z sh V L cu su pc ls (.long x :: st) := by
  intro l G p e s m args below meth c H locs la hC hz hR hS hl
  exact lv_l2i hC.1 hC.2.1 hd rfl (K l G p e s m args below meth c H locs la hC hz hR hS hl)
theorem x_i2b {x : Int32} (hd : decode M.2.1 pc = .ok (.i2b, 1))  (K : X M R Z sh V L cu su (pc + 1) ls (.int x.toInt8.toInt32 :: st)) : X M R Z sh V L cu su pc ls (.int x :: st) := by
  intro l G p e s m args below meth c H locs la hC hz hR hS hl
  exact lv_i2b hC.1 hC.2.1 hd rfl (K l G p e s m args below meth c H locs la hC hz hR hS hl)
theorem x_lcmp {x y : Int64} (hd : decode M.2.1 pc = .ok (.lcmp, 1))  (K : X M R Z sh V L cu su (pc + 1) ls (.int (lg_cmp x y) :: st)) : X M R Z sh V L cu su pc ls (.long y :: .long x :: st) := by
  intro l G p e s m args below meth c H locs la hC hz hR hS hl
  exact W.lcmp hC.1 hC.2.1 hd  (K l G p e s m args below meth c H locs la hC hz hR hS hl)
theorem x_dup {v : Value} (hd : decode M.2.1 pc = .ok (.dup, 1)) (hv : v.category = 1) (K : X M R Z sh V L cu su (pc + 1) ls (v :: v :: st)) : X M R Z sh V L cu su pc ls (v :: st) := by
  intro l G p e s m args below meth c H locs la hC hz hR hS hl
  exact lv_dup hC.1 hC.2.1 hd (by rw [xv_cat]; exact hv) (K l G p e s m args below meth c H locs la hC hz hR hS hl)
theorem x_pop {v : Value} (hd : decode M.2.1 pc = .ok (.pop, 1)) (hv : v.category = 1) (K : X M R Z sh V L cu su (pc + 1) ls st) : X M R Z sh V L cu su pc ls (v :: st) := by
  intro l G p e s m args below meth c H locs la hC hz hR hS hl
  exact lv_pop hC.1 hC.2.1 hd (by rw [xv_cat]; exact hv) (K l G p e s m args below meth c H locs la hC hz hR hS hl)
theorem x_dup2 {v w : Value} (hd : decode M.2.1 pc = .ok (.dup2, 1)) (hv : v.category = 1) (hw : w.category = 1) (K : X M R Z sh V L cu su (pc + 1) ls (v :: w :: v :: w :: st)) : X M R Z sh V L cu su pc ls (v :: w :: st) := by
  intro l G p e s m args below meth c H locs la hC hz hR hS hl
  exact lv_dup2_11 hC.1 hC.2.1 hd (by rw [xv_cat]; exact hv) (by rw [xv_cat]; exact hw) (K l G p e s m args below meth c H locs la hC hz hR hS hl)
theorem x_null  (hd : decode M.2.1 pc = .ok (.aconst_null, 1))  (K : X M R Z sh V L cu su (pc + 1) ls (.null :: st)) : X M R Z sh V L cu su pc ls st := by
  intro l G p e s m args below meth c H locs la hC hz hR hS hl
  exact lv_null hC.1 hC.2.1 hd  (K l G p e s m args below meth c H locs la hC hz hR hS hl)
theorem x_iload_n {k : Fin 4} (j : Nat) {i : Nat} {x : Int32} (hd : decode M.2.1 pc = .ok (.iload_n k, 1)) (hi : (k : Nat) = i) (hk : ls[j]? = some (i, .int x)) (K : X M R Z sh V L cu su (pc + 1) ls (.int x :: st)) : X M R Z sh V L cu su pc ls st := by
  intro l G p e s m args below meth c H locs la hC hz hR hS hl
  exact lv_iload_n hC.1 hC.2.1 hd hi (lv_at hl j (xl_at hk)) (K l G p e s m args below meth c H locs la hC hz hR hS hl)
theorem x_iload (j : Nat) {i : Nat} {x : Int32} (hd : decode M.2.1 pc = .ok (.iload i, 2)) (hk : ls[j]? = some (i, .int x)) (K : X M R Z sh V L cu su (pc + 2) ls (.int x :: st)) : X M R Z sh V L cu su pc ls st := by
  intro l G p e s m args below meth c H locs la hC hz hR hS hl
  exact lv_iload hC.1 hC.2.1 hd (lv_at hl j (xl_at hk)) (K l G p e s m args below meth c H locs la hC hz hR hS hl)
theorem x_lload_n {k : Fin 4} (j : Nat) {i : Nat} {x : Int64} (hd : decode M.2.1 pc = .ok (.lload_n k, 1)) (hi : (k : Nat) = i) (hk : ls[j]? = some (i, .long x)) (K : X M R Z sh V L cu su (pc + 1) ls (.long x :: st)) : X M R Z sh V L cu su pc ls st := by
  intro l G p e s m args below meth c H locs la hC hz hR hS hl
  exact lv_lload_n hC.1 hC.2.1 hd hi (lv_at hl j (xl_at hk)) (K l G p e s m args below meth c H locs la hC hz hR hS hl)
theorem x_lload (j : Nat) {i : Nat} {x : Int64} (hd : decode M.2.1 pc = .ok (.lload i, 2)) (hk : ls[j]? = some (i, .long x)) (K : X M R Z sh V L cu su (pc + 2) ls (.long x :: st)) : X M R Z sh V L cu su pc ls st := by
  intro l G p e s m args below meth c H locs la hC hz hR hS hl
  exact lv_lload hC.1 hC.2.1 hd (lv_at hl j (xl_at hk)) (K l G p e s m args below meth c H locs la hC hz hR hS hl)
theorem x_aload_n {k : Fin 4} (j : Nat) {i q : Nat} (hd : decode M.2.1 pc = .ok (.aload_n k, 1)) (hi : (k : Nat) = i) (hk : ls[j]? = some (i, .ref q)) (K : X M R Z sh V L cu su (pc + 1) ls (.ref q :: st)) : X M R Z sh V L cu su pc ls st := by
  intro l G p e s m args below meth c H locs la hC hz hR hS hl
  exact lv_aload_n hC.1 hC.2.1 hd hi (lv_at hl j (xl_at hk)) (K l G p e s m args below meth c H locs la hC hz hR hS hl)
theorem x_aload_nX {k : Fin 4} (j : Nat) {i q : Nat} (hd : decode M.2.1 pc = .ok (.aload_n k, 1)) (hi : (k : Nat) = i) (hk : ls[j]? = some (i, .retAddr q)) (K : X M R Z sh V L cu su (pc + 1) ls (.retAddr q :: st)) : X M R Z sh V L cu su pc ls st := by
  intro l G p e s m args below meth c H locs la hC hz hR hS hl
  exact lv_aload_n hC.1 hC.2.1 hd hi (lv_at hl j (xl_at hk)) (K l G p e s m args below meth c H locs la hC hz hR hS hl)
theorem x_aload_nN {k : Fin 4} (j : Nat) {i : Nat} (hd : decode M.2.1 pc = .ok (.aload_n k, 1)) (hi : (k : Nat) = i) (hk : ls[j]? = some (i, .null)) (K : X M R Z sh V L cu su (pc + 1) ls (.null :: st)) : X M R Z sh V L cu su pc ls st := by
  intro l G p e s m args below meth c H locs la hC hz hR hS hl
  exact lv_aload_nN hC.1 hC.2.1 hd hi (lv_at hl j (xl_at hk)) (K l G p e s m args below meth c H locs la hC hz hR hS hl)
theorem x_aload (j : Nat) {i q : Nat} (hd : decode M.2.1 pc = .ok (.aload i, 2)) (hk : ls[j]? = some (i, .ref q)) (K : X M R Z sh V L cu su (pc + 2) ls (.ref q :: st)) : X M R Z sh V L cu su pc ls st := by
  intro l G p e s m args below meth c H locs la hC hz hR hS hl
  exact lv_aload hC.1 hC.2.1 hd (lv_at hl j (xl_at hk)) (K l G p e s m args below meth c H locs la hC hz hR hS hl)
theorem x_istore_n {k : Fin 4} {x : Int32} {i : Nat} (ls' : List (Nat × Value)) (hd : decode M.2.1 pc = .ok (.istore_n k, 1)) (hi : (k : Nat) = i) (hn : i < M.2.2.1) (hl' : (i, .int x) :: ls.filter (fun q => !(q.1 == i) && !(q.1 + 1 == i && q.2.category == 2)) = ls') (K : X M R Z sh V L cu su (pc + 1) ls' st) : X M R Z sh V L cu su pc ls (.int x :: st) := by
  intro l G p e s m args below meth c H locs la hC hz hR hS hl
  exact lv_istore_n hC.1 hC.2.1 hd hi hl hn (xl_st1 hl') (fun la' hl2 => K l G p e s m args below meth c H locs la' hC hz hR hS hl2)
theorem x_istore {x : Int32} {i : Nat} (ls' : List (Nat × Value)) (hd : decode M.2.1 pc = .ok (.istore i, 2))  (hn : i < M.2.2.1) (hl' : (i, .int x) :: ls.filter (fun q => !(q.1 == i) && !(q.1 + 1 == i && q.2.category == 2)) = ls') (K : X M R Z sh V L cu su (pc + 2) ls' st) : X M R Z sh V L cu su pc ls (.int x :: st) := by
  intro l G p e s m args below meth c H locs la hC hz hR hS hl
  exact lv_istore hC.1 hC.2.1 hd  hl hn (xl_st1 hl') (fun la' hl2 => K l G p e s m args below meth c H locs la' hC hz hR hS hl2)
theorem x_lstore_n {k : Fin 4} {x : Int64} {i : Nat} (ls' : List (Nat × Value)) (hd : decode M.2.1 pc = .ok (.lstore_n k, 1)) (hi : (k : Nat) = i) (hn : i + 1 < M.2.2.1) (hl' : (i, .long x) :: ls.filter (fun q => !(q.1 == i) && (!(q.1 == i + 1) && !(q.1 + 1 == i && q.2.category == 2))) = ls') (K : X M R Z sh V L cu su (pc + 1) ls' st) : X M R Z sh V L cu su pc ls (.long x :: st) := by
  intro l G p e s m args below meth c H locs la hC hz hR hS hl
  exact lv_lstore_n hC.1 hC.2.1 hd hi hl hn (xl_st2 hl') (fun la' hl2 => K l G p e s m args below meth c H locs la' hC hz hR hS hl2)
theorem x_lstore {x : Int64} {i : Nat} (ls' : List (Nat × Value)) (hd : decode M.2.1 pc = .ok (.lstore i, 2))  (hn : i + 1 < M.2.2.1) (hl' : (i, .long x) :: ls.filter (fun q => !(q.1 == i) && (!(q.1 == i + 1) && !(q.1 + 1 == i && q.2.category == 2))) = ls') (K : X M R Z sh V L cu su (pc + 2) ls' st) : X M R Z sh V L cu su pc ls (.long x :: st) := by
  intro l G p e s m args below meth c H locs la hC hz hR hS hl
  exact lv_lstore hC.1 hC.2.1 hd  hl hn (xl_st2 hl') (fun la' hl2 => K l G p e s m args below meth c H locs la' hC hz hR hS hl2)
theorem x_astore_n {k : Fin 4} {q : Nat} {i : Nat} (ls' : List (Nat × Value)) (hd : decode M.2.1 pc = .ok (.astore_n k, 1)) (hi : (k : Nat) = i) (hn : i < M.2.2.1) (hl' : (i, .ref q) :: ls.filter (fun q => !(q.1 == i) && !(q.1 + 1 == i && q.2.category == 2)) = ls') (K : X M R Z sh V L cu su (pc + 1) ls' st) : X M R Z sh V L cu su pc ls (.ref q :: st) := by
  intro l G p e s m args below meth c H locs la hC hz hR hS hl
  exact lv_astore_n hC.1 hC.2.1 hd hi hl hn (xl_st1 hl') (fun la' hl2 => K l G p e s m args below meth c H locs la' hC hz hR hS hl2)
theorem x_astore_nN {k : Fin 4} {i : Nat} (ls' : List (Nat × Value)) (hd : decode M.2.1 pc = .ok (.astore_n k, 1)) (hi : (k : Nat) = i) (hn : i < M.2.2.1) (hl' : (i, .null) :: ls.filter (fun q => !(q.1 == i) && !(q.1 + 1 == i && q.2.category == 2)) = ls') (K : X M R Z sh V L cu su (pc + 1) ls' st) : X M R Z sh V L cu su pc ls (.null :: st) := by
  intro l G p e s m args below meth c H locs la hC hz hR hS hl
  exact lv_astore_nN hC.1 hC.2.1 hd hi hl hn (xl_st1 hl') (fun la' hl2 => K l G p e s m args below meth c H locs la' hC hz hR hS hl2)
theorem x_iinc (j : Nat) {i : Nat} {n : Int} {x : Int32} (v : Int32) (ls' : List (Nat × Value)) (hd : decode M.2.1 pc = .ok (.iinc i n, 3)) (hk : ls[j]? = some (i, .int x)) (hv : Int32.ofInt n = v) (hn : i < M.2.2.1) (hl' : (i, .int (x + v)) :: ls.filter (fun q => !(q.1 == i) && !(q.1 + 1 == i && q.2.category == 2)) = ls') (K : X M R Z sh V L cu su (pc + 3) ls' st) : X M R Z sh V L cu su pc ls st := by
  intro l G p e s m args below meth c H locs la hC hz hR hS hl
  subst hv
  exact lv_iinc hC.1 hC.2.1 hd hl (xl_at hk) rfl hn (xl_st1 hl') (fun la' hl2 => K l G p e s m args below meth c H locs la' hC hz hR hS hl2)
theorem x_if_eq {x : Int32} {off : Int} (tgt : Nat) (hd : decode M.2.1 pc = .ok (.ifCond .eq off, 3)) (ht : (pc : Int) + off = (tgt : Int)) (K1 : x = 0 → X M R Z sh V L cu su tgt ls st) (K2 : ¬ (x = 0) → X M R Z sh V L cu su (pc + 3) ls st) : X M R Z sh V L cu su pc ls (.int x :: st) := by
  intro l G p e s m args below meth c H locs la hC hz hR hS hl
  exact lv_if_eq hC.1 hC.2.1 hd ht (fun k => K1 (by first | exact k | simpa using k) l G p e s m args below meth c H locs la hC hz hR hS hl) (fun k => K2 (by first | exact k | simpa using k) l G p e s m args below meth c H locs la hC hz hR hS hl)
theorem x_icmp_eq {x y : Int32} {off : Int} (tgt : Nat) (hd : decode M.2.1 pc = .ok (.if_icmp .eq off, 3)) (ht : (pc : Int) + off = (tgt : Int)) (K1 : x = y → X M R Z sh V L cu su tgt ls st) (K2 : ¬ (x = y) → X M R Z sh V L cu su (pc + 3) ls st) : X M R Z sh V L cu su pc ls (.int y :: .int x :: st) := by
  intro l G p e s m args below meth c H locs la hC hz hR hS hl
  exact lv_icmp_eq hC.1 hC.2.1 hd ht (fun k => K1 (by first | exact k | simpa using k) l G p e s m args below meth c H locs la hC hz hR hS hl) (fun k => K2 (by first | exact k | simpa using k) l G p e s m args below meth c H locs la hC hz hR hS hl)
theorem x_if_ne {x : Int32} {off : Int} (tgt : Nat) (hd : decode M.2.1 pc = .ok (.ifCond .ne off, 3)) (ht : (pc : Int) + off = (tgt : Int)) (K1 : ¬ x = 0 → X M R Z sh V L cu su tgt ls st) (K2 : ¬ (¬ x = 0) → X M R Z sh V L cu su (pc + 3) ls st) : X M R Z sh V L cu su pc ls (.int x :: st) := by
  intro l G p e s m args below meth c H locs la hC hz hR hS hl
  exact lv_if_ne hC.1 hC.2.1 hd ht (fun k => K1 (by first | exact k | simpa using k) l G p e s m args below meth c H locs la hC hz hR hS hl) (fun k => K2 (by first | exact k | simpa using k) l G p e s m args below meth c H locs la hC hz hR hS hl)
theorem x_icmp_ne {x y : Int32} {off : Int} (tgt : Nat) (hd : decode M.2.1 pc = .ok (.if_icmp .ne off, 3)) (ht : (pc : Int) + off = (tgt : Int)) (K1 : ¬ x = y → X M R Z sh V L cu su tgt ls st) (K2 : ¬ (¬ x = y) → X M R Z sh V L cu su (pc + 3) ls st) : X M R Z sh V L cu su pc ls (.int y :: .int x :: st) := by
  intro l G p e s m args below meth c H locs la hC hz hR hS hl
  exact lv_icmp_ne hC.1 hC.2.1 hd ht (fun k => K1 (by first | exact k | simpa using k) l G p e s m args below meth c H locs la hC hz hR hS hl) (fun k => K2 (by first | exact k | simpa using k) l G p e s m args below meth c H locs la hC hz hR hS hl)
theorem x_if_lt {x : Int32} {off : Int} (tgt : Nat) (hd : decode M.2.1 pc = .ok (.ifCond .lt off, 3)) (ht : (pc : Int) + off = (tgt : Int)) (K1 : x < 0 → X M R Z sh V L cu su tgt ls st) (K2 : ¬ (x < 0) → X M R Z sh V L cu su (pc + 3) ls st) : X M R Z sh V L cu su pc ls (.int x :: st) := by
  intro l G p e s m args below meth c H locs la hC hz hR hS hl
  exact lv_if_lt hC.1 hC.2.1 hd ht (fun k => K1 (by first | exact k | simpa using k) l G p e s m args below meth c H locs la hC hz hR hS hl) (fun k => K2 (by first | exact k | simpa using k) l G p e s m args below meth c H locs la hC hz hR hS hl)
theorem x_icmp_lt {x y : Int32} {off : Int} (tgt : Nat) (hd : decode M.2.1 pc = .ok (.if_icmp .lt off, 3)) (ht : (pc : Int) + off = (tgt : Int)) (K1 : x < y → X M R Z sh V L cu su tgt ls st) (K2 : ¬ (x < y) → X M R Z sh V L cu su (pc + 3) ls st) : X M R Z sh V L cu su pc ls (.int y :: .int x :: st) := by
  intro l G p e s m args below meth c H locs la hC hz hR hS hl
  exact lv_icmp_lt hC.1 hC.2.1 hd ht (fun k => K1 (by first | exact k | simpa using k) l G p e s m args below meth c H locs la hC hz hR hS hl) (fun k => K2 (by first | exact k | simpa using k) l G p e s m args below meth c H locs la hC hz hR hS hl)
theorem x_if_ge {x : Int32} {off : Int} (tgt : Nat) (hd : decode M.2.1 pc = .ok (.ifCond .ge off, 3)) (ht : (pc : Int) + off = (tgt : Int)) (K1 : 0 ≤ x → X M R Z sh V L cu su tgt ls st) (K2 : ¬ (0 ≤ x) → X M R Z sh V L cu su (pc + 3) ls st) : X M R Z sh V L cu su pc ls (.int x :: st) := by
  intro l G p e s m args below meth c H locs la hC hz hR hS hl
  exact lv_if_ge hC.1 hC.2.1 hd ht (fun k => K1 (by first | exact k | simpa using k) l G p e s m args below meth c H locs la hC hz hR hS hl) (fun k => K2 (by first | exact k | simpa using k) l G p e s m args below meth c H locs la hC hz hR hS hl)
theorem x_icmp_ge {x y : Int32} {off : Int} (tgt : Nat) (hd : decode M.2.1 pc = .ok (.if_icmp .ge off, 3)) (ht : (pc : Int) + off = (tgt : Int)) (K1 : y ≤ x → X M R Z sh V L cu su tgt ls st) (K2 : ¬ (y ≤ x) → X M R Z sh V L cu su (pc + 3) ls st) : X M R Z sh V L cu su pc ls (.int y :: .int x :: st) := by
  intro l G p e s m args below meth c H locs la hC hz hR hS hl
  exact lv_icmp_ge hC.1 hC.2.1 hd ht (fun k => K1 (by first | exact k | simpa using k) l G p e s m args below meth c H locs la hC hz hR hS hl) (fun k => K2 (by first | exact k | simpa using k) l G p e s m args below meth c H locs la hC hz hR hS hl)
theorem x_if_gt {x : Int32} {off : Int} (tgt : Nat) (hd : decode M.2.1 pc = .ok (.ifCond .gt off, 3)) (ht : (pc : Int) + off = (tgt : Int)) (K1 : 0 < x → X M R Z sh V L cu su tgt ls st) (K2 : ¬ (0 < x) → X M R Z sh V L cu su (pc + 3) ls st) : X M R Z sh V L cu su pc ls (.int x :: st) := by
  intro l G p e s m args below meth c H locs la hC hz hR hS hl
  exact lv_if_gt hC.1 hC.2.1 hd ht (fun k => K1 (by first | exact k | simpa using k) l G p e s m args below meth c H locs la hC hz hR hS hl) (fun k => K2 (by first | exact k | simpa using k) l G p e s m args below meth c H locs la hC hz hR hS hl)
theorem x_icmp_gt {x y : Int32} {off : Int} (tgt : Nat) (hd : decode M.2.1 pc = .ok (.if_icmp .gt off, 3)) (ht : (pc : Int) + off = (tgt : Int)) (K1 : y < x → X M R Z sh V L cu su tgt ls st) (K2 : ¬ (y < x) → X M R Z sh V L cu su (pc + 3) ls st) : X M R Z sh V L cu su pc ls (.int y :: .int x :: st) := by
  intro l G p e s m args below meth c H locs la hC hz hR hS hl
  exact lv_icmp_gt hC.1 hC.2.1 hd ht (fun k => K1 (by first | exact k | simpa using k) l G p e s m args below meth c H locs la hC hz hR hS hl) (fun k => K2 (by first | exact k | simpa using k) l G p e s m args below meth c H locs la hC hz hR hS hl)
theorem x_if_le {x : Int32} {off : Int} (tgt : Nat) (hd : decode M.2.1 pc = .ok (.ifCond .le off, 3)) (ht : (pc : Int) + off = (tgt : Int)) (K1 : x ≤ 0 → X M R Z sh V L cu su tgt ls st) (K2 : ¬ (x ≤ 0) → X M R Z sh V L cu su (pc + 3) ls st) : X M R Z sh V L cu su pc ls (.int x :: st) := by
  intro l G p e s m args below meth c H locs la hC hz hR hS hl
  exact lv_if_le hC.1 hC.2.1 hd ht (fun k => K1 (by first | exact k | simpa using k) l G p e s m args below meth c H locs la hC hz hR hS hl) (fun k => K2 (by first | exact k | simpa using k) l G p e s m args below meth c H locs la hC hz hR hS hl)
theorem x_icmp_le {x y : Int32} {off : Int} (tgt : Nat) (hd : decode M.2.1 pc = .ok (.if_icmp .le off, 3)) (ht : (pc : Int) + off = (tgt : Int)) (K1 : x ≤ y → X M R Z sh V L cu su tgt ls st) (K2 : ¬ (x ≤ y) → X M R Z sh V L cu su (pc + 3) ls st) : X M R Z sh V L cu su pc ls (.int y :: .int x :: st) := by
  intro l G p e s m args below meth c H locs la hC hz hR hS hl
  exact lv_icmp_le hC.1 hC.2.1 hd ht (fun k => K1 (by first | exact k | simpa using k) l G p e s m args below meth c H locs la hC hz hR hS hl) (fun k => K2 (by first | exact k | simpa using k) l G p e s m args below meth c H locs la hC hz hR hS hl)
theorem x_goto {off : Int} (tgt : Nat) (hd : decode M.2.1 pc = .ok (.goto off, 3)) (ht : (pc : Int) + off = (tgt : Int)) (K : X M R Z sh V L cu su tgt ls st) : X M R Z sh V L cu su pc ls st := by
  intro l G p e s m args below meth c H locs la hC hz hR hS hl
  exact lv_goto hC.1 hC.2.1 hd ht (K l G p e s m args below meth c H locs la hC hz hR hS hl)
theorem x_ifnonnull {q : Nat} {off : Int} (tgt : Nat) (hd : decode M.2.1 pc = .ok (.ifnonnull off, 3)) (ht : (pc : Int) + off = (tgt : Int)) (K : X M R Z sh V L cu su tgt ls st) : X M R Z sh V L cu su pc ls (.ref q :: st) := by
  intro l G p e s m args below meth c H locs la hC hz hR hS hl
  exact lv_ifnonnull hC.1 hC.2.1 hd ht (K l G p e s m args below meth c H locs la hC hz hR hS hl)
theorem x_ifnonnullN {off : Int} (hd : decode M.2.1 pc = .ok (.ifnonnull off, 3)) (K : X M R Z sh V L cu su (pc + 3) ls st) : X M R Z sh V L cu su pc ls (.null :: st) := by
  intro l G p e s m args below meth c H locs la hC hz hR hS hl
  exact lv_ifnonnullN hC.1 hC.2.1 hd (K l G p e s m args below meth c H locs la hC hz hR hS hl)
theorem x_tableOut {dflt lo hi : Int} {offs : Array Int} {len : Nat} {x : Int32} (tgt : Nat) (hd : decode M.2.1 pc = .ok (.tableswitch dflt lo hi offs, len)) (h : x.toInt < lo ∨ hi < x.toInt) (ht : (pc : Int) + dflt = (tgt : Int)) (K : X M R Z sh V L cu su tgt ls st) : X M R Z sh V L cu su pc ls (.int x :: st) := by
  intro l G p e s m args below meth c H locs la hC hz hR hS hl
  exact lv_tableOut hC.1 hC.2.1 hd h ht (K l G p e s m args below meth c H locs la hC hz hR hS hl)
theorem x_tableIn {dflt lo hi : Int} {offs : Array Int} {len : Nat} {x : Int32} (off : Int) (tgt : Nat) (hd : decode M.2.1 pc = .ok (.tableswitch dflt lo hi offs, len)) (h1 : ¬ x.toInt < lo) (h2 : ¬ hi < x.toInt) (ho : offs[(x.toInt - lo).toNat]? = some off) (ht : (pc : Int) + off = (tgt : Int)) (K : X M R Z sh V L cu su tgt ls st) : X M R Z sh V L cu su pc ls (.int x :: st) := by
  intro l G p e s m args below meth c H locs la hC hz hR hS hl
  exact lv_tableIn hC.1 hC.2.1 hd h1 h2 ho ht (K l G p e s m args below meth c H locs la hC hz hR hS hl)
theorem x_lookup {dflt : Int} {ps : Array (Int × Int)} {len : Nat} {x : Int32} (off : Int) (tgt : Nat) (hd : decode M.2.1 pc = .ok (.lookupswitch dflt ps, len)) (hp : (ps.toList.zip (ps.toList.drop 1)).all (fun (a, next) => a.1 < next.1) = true) (ho : Op.lookupswitch.offset ps.toList dflt x.toInt = off) (ht : (pc : Int) + off = (tgt : Int)) (K : X M R Z sh V L cu su tgt ls st) : X M R Z sh V L cu su pc ls (.int x :: st) := by
  intro l G p e s m args below meth c H locs la hC hz hR hS hl
  exact lv_lookup hC.1 hC.2.1 hd hp ho ht (K l G p e s m args below meth c H locs la hC hz hR hS hl)
theorem x_ldc {index : Nat} {v : Int32} (hw : Cond.constant M.1.cls index v ∈ xTbl) (hd : decode M.2.1 pc = .ok (.ldc index, 2)) (K : X M R Z sh V L cu su (pc + 2) ls (.int v :: st)) : X M R Z sh V L cu su pc ls st := by
  intro l G p e s m args below meth c H locs la hC hz hR hS hl
  exact lv_ldc hC.1 hC.2.1 hC.2.2.2.2.1 (hC.2.2.2.2.2.1 _ hw) hd (K l G p e s m args below meth c H locs la hC hz hR hS hl)
theorem x_ldcw {index : Nat} {v : Int32} (hw : Cond.constant M.1.cls index v ∈ xTbl) (hd : decode M.2.1 pc = .ok (.ldc_w index, 3)) (K : X M R Z sh V L cu su (pc + 3) ls (.int v :: st)) : X M R Z sh V L cu su pc ls st := by
  intro l G p e s m args below meth c H locs la hC hz hR hS hl
  exact lv_ldcw hC.1 hC.2.1 hC.2.2.2.2.1 (hC.2.2.2.2.2.1 _ hw) hd (K l G p e s m args below meth c H locs la hC hz hR hS hl)
theorem x_ldc2 {index : Nat} {v : Int64} (hw : Cond.constantLong M.1.cls index v ∈ xTbl) (hd : decode M.2.1 pc = .ok (.ldc2_w index, 3)) (K : X M R Z sh V L cu su (pc + 3) ls (.long v :: st)) : X M R Z sh V L cu su pc ls st := by
  intro l G p e s m args below meth c H locs la hC hz hR hS hl
  exact lv_ldc2 hC.1 hC.2.1 hC.2.2.2.2.1 (hC.2.2.2.2.2.1 _ hw) hd (K l G p e s m args below meth c H locs la hC hz hR hS hl)
/-- a field of ours, as an instruction of the class own names it: its class, its slot, whether it is final, its type -/
def xF (own : String) (idx ci k : Nat) (fin : Bool) (ty : FieldType) : Prop := ∃ (C : String) (T : u_T) (N : Nat) (tf : Nat → FieldType), classes[ci]? = some (C, T, N) ∧ xCls C T N tf ∧ k < N ∧ Cond.fieldLink own idx (T k).1 (T k).2.1 (T k).2.2.1 ∈ xTbl ∧ (T k).2.2.2 = fin ∧ tf k = ty ∧ (T k).1 = C
theorem xks_at {G : xG} {V : xV} {r k kd : Nat} {ks : List Nat} (h : ks[k]? = some kd) : (ks.mapIdx (fun k kd => xv G (xsv kd (V r k))))[k]? = some (xv G (xsv kd (V r k))) := by simp only [List.getElem?_mapIdx, h, Option.map_some]
theorem x_getI {idx ci k r : Nat} {fin : Bool} {ty : FieldType} {ks : List Nat} (hf : xF M.1.cls idx ci k fin ty) (hs : sh[r]? = some (.inr (ci, ks))) (hk : ks[k]? = some 0) (hd : decode M.2.1 pc = .ok (.getfield idx, 3)) (K : X M R Z sh V L cu su (pc + 3) ls (.int (V r k) :: st)) : X M R Z sh V L cu su pc ls (.ref r :: st) := by
  intro l G p e s m args below meth c H locs la hC hz hR hS hl
  obtain ⟨C, T, N, tf, f1, f2, f3, f4, f5, f6, f7⟩ := hf
  exact va_get hC.1 hC.2.1 hC.2.2.2.2.2.1 f2.1 hC.2.2.2.2.1 hC.2.2.2.2.2.2.2.2.1 hR r (xw_at hs) f1 k f3 (hC.2.2.2.2.2.1 _ f4) (fun _ h => h) (xks_at hk) hd (K l G p e s m args below meth c H locs la hC hz hR hS hl)
theorem x_getP {idx ci k r q : Nat} {fin : Bool} {ty : FieldType} {ks : List Nat} (hf : xF M.1.cls idx ci k fin ty) (hs : sh[r]? = some (.inr (ci, ks))) (hk : ks[k]? = some (q + 3)) (hd : decode M.2.1 pc = .ok (.getfield idx, 3)) (K : X M R Z sh V L cu su (pc + 3) ls (.ref q :: st)) : X M R Z sh V L cu su pc ls (.ref r :: st) := by
  intro l G p e s m args below meth c H locs la hC hz hR hS hl
  obtain ⟨C, T, N, tf, f1, f2, f3, f4, f5, f6, f7⟩ := hf
  exact va_get hC.1 hC.2.1 hC.2.2.2.2.2.1 f2.1 hC.2.2.2.2.1 hC.2.2.2.2.2.2.2.2.1 hR r (xw_at hs) f1 k f3 (hC.2.2.2.2.2.1 _ f4) (fun _ h => h) (xks_at hk) hd (K l G p e s m args below meth c H locs la hC hz hR hS hl)
theorem x_getU {idx ci k r : Nat} {fin : Bool} {ty : FieldType} {ks : List Nat} (hf : xF M.1.cls idx ci k fin ty) (hs : sh[r]? = some (.inr (ci, ks))) (hk : ks[k]? = some 2) (hd : decode M.2.1 pc = .ok (.getfield idx, 3)) (K : X M R Z sh V L cu su (pc + 3) ls (.ref (V r k).toNatClampNeg :: st)) : X M R Z sh V L cu su pc ls (.ref r :: st) := by
  intro l G p e s m args below meth c H locs la hC hz hR hS hl
  obtain ⟨C, T, N, tf, f1, f2, f3, f4, f5, f6, f7⟩ := hf
  exact va_get hC.1 hC.2.1 hC.2.2.2.2.2.1 f2.1 hC.2.2.2.2.1 hC.2.2.2.2.2.2.2.2.1 hR r (xw_at hs) f1 k f3 (hC.2.2.2.2.2.1 _ f4) (fun _ h => h) (xks_at hk) hd (K l G p e s m args below meth c H locs la hC hz hR hS hl)
theorem xV_put {G : xG} {V : xV} {L : xL} {r k ci : Nat} {ks : List Nat} {v : Int32} (hk : ks[k]? = some 0) : xe G (x2 V r k v) L r (.inr (ci, ks)) = .inr (ci, (ks.mapIdx (fun k kd => xv G (xsv kd (V r k)))).set k (.int v)) := by
  simp only [xe]
  congr 2
  apply List.ext_getElem?
  intro j
  by_cases hj : j = k
  · subst hj
    rw [List.getElem?_set_self (by simp only [List.length_mapIdx]; exact (List.getElem?_eq_some_iff.mp hk).1)]
    simp only [List.getElem?_mapIdx, hk, Option.map_some, x2, and_self, if_true, xsv, xv]
  · rw [List.getElem?_set_ne (Ne.symm hj)]
    simp only [List.getElem?_mapIdx, x2, hj, and_false, if_false]
theorem x_putI {idx ci k r : Nat} {ty : FieldType} {ks : List Nat} {v : Int32} (hf : xF M.1.cls idx ci k false ty) (hs : sh[r]? = some (.inr (ci, ks))) (hk : ks[k]? = some 0) (hn : narrow ty (.int v) = .int v) (hv : fits ty (.int v) = true) (hd : decode M.2.1 pc = .ok (.putfield idx, 3)) (K : X M R Z sh (x2 V r k v) L cu su (pc + 3) ls st) : X M R Z sh V L cu su pc ls (.int v :: .ref r :: st) := by
  intro l G p e s m args below meth c H locs la hC hz hR hS hl
  obtain ⟨C, T, N, tf, f1, f2, f3, f4, f5, f6, f7⟩ := hf
  refine va_put hC.1 hC.2.1 hC.2.2.2.2.2.1 f2.1 tf f2.2.1 f2.2.2 hC.2.2.2.2.1 hC.2.2.2.2.2.2.2.2.1 hR (xw_D G sh V L) hS r (xw_at hs) f1 k f3 (hC.2.2.2.2.2.1 _ f4) (fun _ h => h) f5 (by rw [f2.2.1 k f3, f6]) hn hv (by simp only [List.length_mapIdx]; exact (List.getElem?_eq_some_iff.mp hk).1) hd (fun H1 locs1 p1 p2 p3 => ?_)
  refine K l G p e s m args below meth c H1 locs1 la hC hz ?_ p3 hl
  show va_P _ _ _ _
  rw [xw_setS (V := V) (L := L) hs (fun j hj => x2_ne hj) (fun _ _ => rfl), xV_put hk]
  exact p1
theorem xV_putU {G : xG} {V : xV} {L : xL} {r k ci q : Nat} {ks : List Nat} (hk : ks[k]? = some 2) (hq : q < 2 ^ 31) : xe G (x2 V r k (nI q)) L r (.inr (ci, ks)) = .inr (ci, (ks.mapIdx (fun k kd => xv G (xsv kd (V r k)))).set k (.ref (G.1 + q))) := by
  simp only [xe]
  congr 2
  apply List.ext_getElem?
  intro j
  by_cases hj : j = k
  · subst hj
    rw [List.getElem?_set_self (by simp only [List.length_mapIdx]; exact (List.getElem?_eq_some_iff.mp hk).1)]
    simp only [List.getElem?_mapIdx, hk, Option.map_some, x2, and_self, if_true, xsv, xv, nI_clamp hq]
  · rw [List.getElem?_set_ne (Ne.symm hj)]
    simp only [List.getElem?_mapIdx, x2, hj, and_false, if_false]
theorem x_putU {idx ci k r q : Nat} {cn : String} {ks : List Nat} (hf : xF M.1.cls idx ci k false (.object cn)) (hs : sh[r]? = some (.inr (ci, ks))) (hk : ks[k]? = some 2) (hq : q < 2 ^ 31) (hd : decode M.2.1 pc = .ok (.putfield idx, 3)) (K : X M R Z sh (x2 V r k (nI q)) L cu su (pc + 3) ls st) : X M R Z sh V L cu su pc ls (.ref q :: .ref r :: st) := by
  intro l G p e s m args below meth c H locs la hC hz hR hS hl
  obtain ⟨C, T, N, tf, f1, f2, f3, f4, f5, f6, f7⟩ := hf
  refine va_put hC.1 hC.2.1 hC.2.2.2.2.2.1 f2.1 tf f2.2.1 f2.2.2 hC.2.2.2.2.1 hC.2.2.2.2.2.2.2.2.1 hR (xw_D G sh V L) hS r (xw_at hs) f1 k f3 (hC.2.2.2.2.2.1 _ f4) (fun _ h => h) f5 (by rw [f2.2.1 k f3, f6]) rfl rfl (by simp only [List.length_mapIdx]; exact (List.getElem?_eq_some_iff.mp hk).1) hd (fun H1 locs1 p1 p2 p3 => ?_)
  refine K l G p e s m args below meth c H1 locs1 la hC hz ?_ p3 hl
  show va_P _ _ _ _
  rw [xw_setS (V := V) (L := L) hs (fun j hj => x2_ne hj) (fun _ _ => rfl), xV_putU hk hq]
  exact p1
theorem x_iaload {r n : Nat} {f : Nat → Option Nat} {i : Int32} (hs : sh[r]? = some (.inl (.int, n, f))) (hi : xI i n = true) (hd : decode M.2.1 pc = .ok (.iaload, 1)) (K : X M R Z sh V L cu su (pc + 1) ls (.int (V r i.toNatClampNeg) :: st)) : X M R Z sh V L cu su pc ls (.int i :: .ref r :: st) := by
  intro l G p e s m args below meth c H locs la hC hz hR hS hl
  exact va_iald hC.1 hC.2.1 hC.2.2.2.2.2.2.2.2.1 hR r 0 (xw_at hs) rfl (xI_in hi) hd (K l G p e s m args below meth c H locs la hC hz hR hS hl)
theorem x_baload {r n : Nat} {f : Nat → Option Nat} {i : Int32} (hs : sh[r]? = some (.inl (.byte, n, f))) (hi : xI i n = true) (hd : decode M.2.1 pc = .ok (.baload, 1)) (K : X M R Z sh V L cu su (pc + 1) ls (.int (V r i.toNatClampNeg) :: st)) : X M R Z sh V L cu su pc ls (.int i :: .ref r :: st) := by
  intro l G p e s m args below meth c H locs la hC hz hR hS hl
  exact va_bald hC.1 hC.2.1 hC.2.2.2.2.2.2.2.2.1 hR r 1 (xw_at hs) rfl (xI_in hi) hd (K l G p e s m args below meth c H locs la hC hz hR hS hl)
theorem x_laload {r n : Nat} {f : Nat → Option Nat} {i : Int32} (hs : sh[r]? = some (.inl (.long, n, f))) (hi : xI i n = true) (hd : decode M.2.1 pc = .ok (.laload, 1)) (K : X M R Z sh V L cu su (pc + 1) ls (.long (L r i.toNatClampNeg) :: st)) : X M R Z sh V L cu su pc ls (.int i :: .ref r :: st) := by
  intro l G p e s m args below meth c H locs la hC hz hR hS hl
  exact va_lald hC.1 hC.2.1 hC.2.2.2.2.2.2.2.2.1 hR r 2 (xw_at hs) rfl (xI_in hi) hd (K l G p e s m args below meth c H locs la hC hz hR hS hl)
theorem x_aaload {r n q : Nat} {f : Nat → Option Nat} {i : Int32} (hs : sh[r]? = some (.inl (.object "WarrantWeather$Law", n, f))) (hi : xI i n = true) (hq : f i.toNatClampNeg = some q) (hd : decode M.2.1 pc = .ok (.aaload, 1)) (K : X M R Z sh V L cu su (pc + 1) ls (.ref q :: st)) : X M R Z sh V L cu su pc ls (.int i :: .ref r :: st) := by
  intro l G p e s m args below meth c H locs la hC hz hR hS hl
  have k1 := K l G p e s m args below meth c H locs la hC hz hR hS hl
  refine va_aldq hC.1 hC.2.1 hC.2.2.2.2.2.2.2.2.1 hR r 3 (xw_at hs) rfl (xI_in hi) hd ?_
  simp only [hq, Option.map_some, va_rf]
  exact k1
theorem x_iastore {r n : Nat} {f : Nat → Option Nat} {i : Int32} {x : Int32} (hs : sh[r]? = some (.inl (.int, n, f))) (hi : xI i n = true) (hd : decode M.2.1 pc = .ok (.iastore, 1)) (K : X M R Z sh (x2 V r i.toNatClampNeg x) L cu su (pc + 1) ls st) : X M R Z sh V L cu su pc ls (.int x :: .int i :: .ref r :: st) := by
  intro l G p e s m args below meth c H locs la hC hz hR hS hl
  refine va_iast hC.1 hC.2.1 hC.2.2.2.2.2.2.2.2.1 hR (xw_D G sh V L) hS r 0 (xw_at hs) rfl (xI_in hi) hd (fun H1 locs1 p1 p2 p3 => ?_)
  refine K l G p e s m args below meth c H1 locs1 la hC hz ?_ p3 hl
  show va_P _ _ _ _
  rw [xw_setS (V := V) (L := L) hs (fun j hj => x2_ne hj) (fun _ _ => rfl)]
  simp only [xe, xb, x2_upd]
  exact p1
theorem x_bastore {r n : Nat} {f : Nat → Option Nat} {i : Int32} {x : Int32} (hs : sh[r]? = some (.inl (.byte, n, f))) (hi : xI i n = true) (hd : decode M.2.1 pc = .ok (.bastore, 1)) (K : X M R Z sh (x2 V r i.toNatClampNeg (vp_nar .byte x)) L cu su (pc + 1) ls st) : X M R Z sh V L cu su pc ls (.int x :: .int i :: .ref r :: st) := by
  intro l G p e s m args below meth c H locs la hC hz hR hS hl
  refine va_bast hC.1 hC.2.1 hC.2.2.2.2.2.2.2.2.1 hR (xw_D G sh V L) hS r 1 (xw_at hs) rfl (xI_in hi) hd (fun H1 locs1 p1 p2 p3 => ?_)
  refine K l G p e s m args below meth c H1 locs1 la hC hz ?_ p3 hl
  show va_P _ _ _ _
  rw [xw_setS (V := V) (L := L) hs (fun j hj => x2_ne hj) (fun _ _ => rfl)]
  simp only [xe, xb, x2_upd]
  exact p1
theorem x_lastore {r n : Nat} {f : Nat → Option Nat} {i : Int32} {x : Int64} (hs : sh[r]? = some (.inl (.long, n, f))) (hi : xI i n = true) (hd : decode M.2.1 pc = .ok (.lastore, 1)) (K : X M R Z sh V (x2L L r i.toNatClampNeg x) cu su (pc + 1) ls st) : X M R Z sh V L cu su pc ls (.long x :: .int i :: .ref r :: st) := by
  intro l G p e s m args below meth c H locs la hC hz hR hS hl
  refine va_last hC.1 hC.2.1 hC.2.2.2.2.2.2.2.2.1 hR (xw_D G sh V L) hS r 2 (xw_at hs) rfl (xI_in hi) hd (fun H1 locs1 p1 p2 p3 => ?_)
  refine K l G p e s m args below meth c H1 locs1 la hC hz ?_ p3 hl
  show va_P _ _ _ _
  rw [xw_setS (V := V) (L := L) hs (fun _ _ => rfl) (fun j hj => x2L_ne hj)]
  simp only [xe, xb, x2L_upd]
  exact p1
theorem x_alen {r n : Nat} {ty : FieldType} {f : Nat → Option Nat} (v : Int32) (hs : sh[r]? = some (.inl (ty, n, f))) (ht : ty = .int ∨ ty = .byte ∨ ty = .long ∨ ty = .object "WarrantWeather$Law") (hv : Int32.ofNat n = v) (hd : decode M.2.1 pc = .ok (.arraylength, 1)) (K : X M R Z sh V L cu su (pc + 1) ls (.int v :: st)) : X M R Z sh V L cu su pc ls (.ref r :: st) := by
  intro l G p e s m args below meth c H locs la hC hz hR hS hl
  rcases ht with rfl | rfl | rfl | rfl
  · exact va_alen hC.1 hC.2.1 hC.2.2.2.2.2.2.2.2.1 hR r 0 (xw_at hs) rfl hv hd (K l G p e s m args below meth c H locs la hC hz hR hS hl)
  · exact va_alen hC.1 hC.2.1 hC.2.2.2.2.2.2.2.2.1 hR r 1 (xw_at hs) rfl hv hd (K l G p e s m args below meth c H locs la hC hz hR hS hl)
  · exact va_alen hC.1 hC.2.1 hC.2.2.2.2.2.2.2.2.1 hR r 2 (xw_at hs) rfl hv hd (K l G p e s m args below meth c H locs la hC hz hR hS hl)
  · exact va_alen hC.1 hC.2.1 hC.2.2.2.2.2.2.2.2.1 hR r 3 (xw_at hs) rfl hv hd (K l G p e s m args below meth c H locs la hC hz hR hS hl)
variable {Q : Option Value → xH → Prop}
theorem x_ireturn {v : Int32} (hr : M.2.2.2.1 = some .int) (hd : decode M.2.1 pc = .ok (.ireturn, 1)) (h1 : cu ≤ M.2.2.2.2.1) (h2 : su ≤ M.2.2.2.2.2) (hQ : Q (some (.int v)) (sh, V, L)) : X M R (xZ M Q) sh V L cu su pc ls [.int v] := by
  intro l G p e s m args below meth c H locs la hC hz hR hS hl
  refine W.widen (k := M.2.2.2.2.1) (n := M.2.2.2.2.2) h1 h2 ?_
  exact W.iret hC.1 hC.2.1 (by rw [hC.2.2.1]; exact hr) (fun t ht hw => ⟨(some (.int v)), (sh, V, L), rfl, hQ, by rw [ht]; exact hR, hS.F ht⟩) hS.2.2 hd hC.2.2.2.2.2.2.1
theorem x_zreturn {v : Int32} {ty : FieldType} (hr : M.2.2.2.1 = some ty) (hn : narrow ty (.int v) = .int v) (hd : decode M.2.1 pc = .ok (.ireturn, 1)) (h1 : cu ≤ M.2.2.2.2.1) (h2 : su ≤ M.2.2.2.2.2) (hQ : Q (some (.int v)) (sh, V, L)) : X M R (xZ M Q) sh V L cu su pc ls [.int v] := by
  intro l G p e s m args below meth c H locs la hC hz hR hS hl
  refine W.widen (k := M.2.2.2.2.1) (n := M.2.2.2.2.2) h1 h2 ?_
  exact W.zret hC.1 hC.2.1 (by rw [hC.2.2.1]; exact hr) hn (fun t ht hw => ⟨(some (.int v)), (sh, V, L), rfl, hQ, by rw [ht]; exact hR, hS.F ht⟩) hS.2.2 hd hC.2.2.2.2.2.2.1
theorem x_lreturn {v : Int64} (hr : M.2.2.2.1 = some .long) (hd : decode M.2.1 pc = .ok (.lreturn, 1)) (h1 : cu ≤ M.2.2.2.2.1) (h2 : su ≤ M.2.2.2.2.2) (hQ : Q (some (.long v)) (sh, V, L)) : X M R (xZ M Q) sh V L cu su pc ls [.long v] := by
  intro l G p e s m args below meth c H locs la hC hz hR hS hl
  refine W.widen (k := M.2.2.2.2.1) (n := M.2.2.2.2.2) h1 h2 ?_
  exact W.lret hC.1 hC.2.1 (by rw [hC.2.2.1]; exact hr) (fun t ht hw => ⟨(some (.long v)), (sh, V, L), rfl, hQ, by rw [ht]; exact hR, hS.F ht⟩) hS.2.2 hd hC.2.2.2.2.2.2.1
theorem x_return  (hr : M.2.2.2.1 = none) (hd : decode M.2.1 pc = .ok (.return_, 1)) (h1 : cu ≤ M.2.2.2.2.1) (h2 : su ≤ M.2.2.2.2.2) (hQ : Q none (sh, V, L)) : X M R (xZ M Q) sh V L cu su pc ls [] := by
  intro l G p e s m args below meth c H locs la hC hz hR hS hl
  refine W.widen (k := M.2.2.2.2.1) (n := M.2.2.2.2.2) h1 h2 ?_
  exact W.vret hC.1 hC.2.1 (by rw [hC.2.2.1]; exact hr) (fun t ht hw => ⟨none, (sh, V, L), rfl, hQ, by rw [ht]; exact hR, hS.F ht⟩) hS.2.2 hd hC.2.2.2.2.2.2.1
theorem x_areturn {q : Nat} {cn : String} (hr : M.2.2.2.1 = some (.object cn)) (hd : decode M.2.1 pc = .ok (.areturn, 1)) (h1 : cu ≤ M.2.2.2.2.1) (h2 : su ≤ M.2.2.2.2.2) (hQ : Q (some (.ref q)) (sh, V, L)) : X M R (xZ M Q) sh V L cu su pc ls [.ref q] := by
  intro l G p e s m args below meth c H locs la hC hz hR hS hl
  refine W.widen (k := M.2.2.2.2.1) (n := M.2.2.2.2.2) h1 h2 ?_
  exact W.aret hC.1 hC.2.1 (by rw [hC.2.2.1]; exact hr) (Or.inl ⟨_, rfl⟩) (Or.inr ⟨_, rfl⟩) (fun t ht hw => ⟨(some (.ref q)), (sh, V, L), rfl, hQ, by rw [ht]; exact hR, hS.F ht⟩) hS.2.2 hd hC.2.2.2.2.2.2.1
theorem x_areturnN {cn : String} (hr : M.2.2.2.1 = some (.object cn)) (hd : decode M.2.1 pc = .ok (.areturn, 1)) (h1 : cu ≤ M.2.2.2.2.1) (h2 : su ≤ M.2.2.2.2.2) (hQ : Q (some .null) (sh, V, L)) : X M R (xZ M Q) sh V L cu su pc ls [.null] := by
  intro l G p e s m args below meth c H locs la hC hz hR hS hl
  refine W.widen (k := M.2.2.2.2.1) (n := M.2.2.2.2.2) h1 h2 ?_
  exact W.aret hC.1 hC.2.1 (by rw [hC.2.2.1]; exact hr) (Or.inl ⟨_, rfl⟩) (Or.inl rfl) (fun t ht hw => ⟨(some .null), (sh, V, L), rfl, hQ, by rw [ht]; exact hR, hS.F ht⟩) hS.2.2 hd hC.2.2.2.2.2.2.1
end XRules
end
section
/-! CALLS, and what makes cells (printed by wip/whole/gen_calls.py) -/
theorem xcat {G : xG} {st : List Value} (h : (st.map fun v => v.category).sum ≤ 8) : ((st.map (xv G)).map fun v => v.category).sum ≤ 8 := by
  have e : (st.map (xv G)).map (fun v => v.category) = st.map fun v => v.category := by
    rw [List.map_map]
    exact List.map_congr_left (fun v _ => xv_cat G v)
  rw [e]
  exact h
theorem xblind {G : xG} {as : List Value} {h : xH} : FrameBlind (xPc G as h) := fun _ _ _ _ q => ⟨q.1, q.2.1, q.2.2.1.call, q.2.2.2⟩
theorem xpre {G : xG} {as : List Value} {sh : xS} {V : xV} {L : xL} {s : State} {H : Heap} {locs : List Loc} (hK : xK G s) (hR : xR G sh V L H) (hS : va_S (xA G) s.heap H locs) (hz : H.size ≤ G.1 + sh.length) : ∀ U : State, U.heap = H → s.WarmedH U.vm → xPc G as (sh, V, L) (as.map (xv G)).toArray U := by
  intro U hU hW
  refine ⟨rfl, by rw [hU]; exact hR, hK.to hW (by rw [hU]; exact hS.1) (fun q h1 h2 => by rw [hU]; exact hS.2.1 q h1 h2), by rw [hU]; exact hz⟩
/-- what an edge of the calls needs: the link, the callee's class and code, how many it takes -/
def xE0 (y : xM) (n : Nat) : Prop := Cond.initialized y.1.cls ∈ xTbl ∧ Cond.code y.1 y.2.1 y.2.2.1 y.2.2.2.1 ∈ xTbl ∧ (y.1.cls ≠ "java/lang/invoke/MethodHandle" ∧ y.1.cls ≠ "java/lang/invoke/VarHandle" ∧ (parseMethodDescriptor y.1.desc).map (fun d => d.parameters.length) = some n)
def xES (own : String) (idx : Nat) (y : xM) (n : Nat) : Prop := xE0 y n ∧ Cond.methodLink own idx y.1 ∈ xTbl ∧ Cond.static y.1 ∈ xTbl
def xEV (own : String) (idx : Nat) (y : xM) (n : Nat) : Prop := xE0 y n ∧ Cond.methodLink own idx y.1 ∈ xTbl ∧ Cond.instanceMethod y.1 ∈ xTbl ∧ Cond.selects y.1.cls y.1 y.1 ∈ xTbl
def xEI (own : String) (idx : Nat) (y : xM) (n : Nat) : Prop := xE0 y n ∧ Cond.methodLink own idx y.1 ∈ xTbl ∧ Cond.instanceMethod y.1 ∈ xTbl ∧ y.1.name = "<init>" ∧ y.2.2.2.1 = none
def xESN (own : String) (idx : Nat) (host : String) (y : xM) (n : Nat) : Prop := xE0 y n ∧ Cond.methodLinkNest own idx y.1 host ∈ xNest ∧ Cond.static y.1 ∈ xTbl
def xEIN (own : String) (idx : Nat) (host : String) (y : xM) (n : Nat) : Prop := xE0 y n ∧ Cond.methodLinkNest own idx y.1 host ∈ xNest ∧ Cond.instanceMethod y.1 ∈ xTbl ∧ y.1.name = "<init>" ∧ y.2.2.2.1 = none
/-- the room that a call of y, d deep, wants -/
def xFit (R : Room) (cu su d : Nat) (y : xM) : Prop := d + 1 ≤ R.frames ∧ 8 + (y.2.2.1 + 11) + (64 * d + 64) ≤ R.locals ∧ cu + y.2.2.2.2.1 ≤ R.cells ∧ su + y.2.2.2.2.2 ≤ R.slots
section XCalls
variable {M M2 : xM} {R : Room} {Z : xG → List Frame → Array Value → State → State → Prop} {sh : xS} {V : xV} {L : xL} {cu su pc : Nat} {ls ls' : List (Nat × Value)} {st stk : List Value} {d idx n : Nat} {Q : Option Value → xH → Prop} {as : List Value} {host : String}
theorem x_callS (he : xES M.1.cls idx M2 n) (hrun : xRuns d M2 as (sh, V, L) Q) (hn : as.length = n) (hstk : stk = as.reverse ++ st) (hc : (st.map fun v => v.category).sum ≤ 8) (hf : xFit R cu su d M2) (hd : decode M.2.1 pc = .ok (.invokestatic idx, 3)) (hg : ∀ r h, Q r h → sh.length + M2.2.2.2.2.1 ≤ h.1.length)
    (K : ∀ r h, Q r h → X M R Z h.1 h.2.1 h.2.2 (cu + M2.2.2.2.2.1) (su + M2.2.2.2.2.2) (pc + 3) ls (r.toList ++ st)) : X M R Z sh V L cu su pc ls stk := by
  intro l G p e1 s m args below meth c H locs la hC hz hR hS hl
  refine x_size fun hsz => ?_
  have hz2 : H.size ≤ G.1 + sh.length := by omega
  obtain ⟨⟨e3, e4, e5⟩, e6, e7⟩ := he
  subst hstk
  have hts := hC.2.2.2.2.2.1
  refine x_run (Q := Q) (rest := st.map (xv G)) (va_runS (As := as.map (xv G)) ⟨hC.1, hC.2.1, hC.2.2.2.1, hC.2.2.2.2.1, hC.2.2.2.2.2.1⟩ (hrun l G) ⟨callB_of n hts (xGood e4) rfl rfl rfl (hts _ e3) (hts _ e6) e5 ⟨hf.1, hf.2.1⟩, hts _ e7⟩ ⟨xblind, xpre hC.2.2.2.2.2.2.2.2 hR hS hz2⟩ rfl (by rw [List.length_map]; exact hn) hl.1 (by simp) (lv_room (xcat hc)) hd hf.2.2) hS (fun r h H1 locs1 hq hR1 hS1 => ?_)
  have e : (r.map (xv G)).toList ++ st.map (xv G) = (r.toList ++ st).map (xv G) := by cases r <;> simp
  rw [e]
  exact K r h hq l G p e1 s m args below meth c H1 locs1 la hC (by have := hg r h hq; omega) hR1 hS1 hl
theorem x_callSN (he : xESN M.1.cls idx host M2 n) (hrun : xRuns d M2 as (sh, V, L) Q) (hn : as.length = n) (hstk : stk = as.reverse ++ st) (hc : (st.map fun v => v.category).sum ≤ 8) (hf : xFit R cu su d M2) (hd : decode M.2.1 pc = .ok (.invokestatic idx, 3)) (hg : ∀ r h, Q r h → sh.length + M2.2.2.2.2.1 ≤ h.1.length)
    (K : ∀ r h, Q r h → X M R Z h.1 h.2.1 h.2.2 (cu + M2.2.2.2.2.1) (su + M2.2.2.2.2.2) (pc + 3) ls (r.toList ++ st)) : X M R Z sh V L cu su pc ls stk := by
  intro l G p e1 s m args below meth c H locs la hC hz hR hS hl
  refine x_size fun hsz => ?_
  have hz2 : H.size ≤ G.1 + sh.length := by omega
  obtain ⟨⟨e3, e4, e5⟩, e6, e7⟩ := he
  subst hstk
  have hts := hC.2.2.2.2.2.1
  have hk : xK G s := hC.2.2.2.2.2.2.2.2
  refine x_run (Q := Q) (rest := st.map (xv G)) (va_runSN (As := as.map (xv G)) ⟨hC.1, hC.2.1, hC.2.2.2.1, hC.2.2.2.2.1, hC.2.2.2.2.2.1⟩ (hrun l G) ⟨va_cnB n hts (xGood e4) rfl rfl rfl (hk.2.1 _ e6) (hts _ e3) e5 ⟨hf.1, hf.2.1⟩, hts _ e7, trivial⟩ ⟨xblind, xpre hk hR hS hz2⟩ rfl (by rw [List.length_map]; exact hn) hl.1 (by simp) (lv_room (xcat hc)) hd hf.2.2) hS (fun r h H1 locs1 hq hR1 hS1 => ?_)
  have e : (r.map (xv G)).toList ++ st.map (xv G) = (r.toList ++ st).map (xv G) := by cases r <;> simp
  rw [e]
  exact K r h hq l G p e1 s m args below meth c H1 locs1 la hC (by have := hg r h hq; omega) hR1 hS1 hl
theorem x_callV {r ci : Nat} {ks : List Nat} {T : u_T} {N : Nat} (he : xEV M.1.cls idx M2 n) (hs : sh[r]? = some (.inr (ci, ks))) (hci : classes[ci]? = some (M2.1.cls, T, N)) (hrun : xRuns d M2 (.ref r :: as) (sh, V, L) Q) (hn : as.length = n) (hstk : stk = as.reverse ++ .ref r :: st) (hc : (st.map fun v => v.category).sum ≤ 8) (hf : xFit R cu su d M2) (hd : decode M.2.1 pc = .ok (.invokevirtual idx, 3)) (hg : ∀ r h, Q r h → sh.length + M2.2.2.2.2.1 ≤ h.1.length)
    (K : ∀ r h, Q r h → X M R Z h.1 h.2.1 h.2.2 (cu + M2.2.2.2.2.1) (su + M2.2.2.2.2.2) (pc + 3) ls (r.toList ++ st)) : X M R Z sh V L cu su pc ls stk := by
  intro l G p e1 s m args below meth c H locs la hC hz hR hS hl
  refine x_size fun hsz => ?_
  have hz2 : H.size ≤ G.1 + sh.length := by omega
  obtain ⟨⟨e3, e4, e5⟩, e6, e7, e8⟩ := he
  subst hstk
  have hts := hC.2.2.2.2.2.1
  have hk : xK G s := hC.2.2.2.2.2.2.2.2
  refine x_run (Q := Q) (rest := st.map (xv G)) (va_runV (C := M2.1.cls) (b := G.1 + r) (As := as.map (xv G)) ⟨hC.1, hC.2.1, hC.2.2.2.1, hC.2.2.2.2.1, hC.2.2.2.2.2.1⟩ (hrun l G) ⟨callB_of n hts (xGood e4) rfl rfl rfl (hts _ e3) (hts _ e6) e5 ⟨hf.1, hf.2.1⟩, hts _ e7, hts _ e8⟩ ⟨xblind, va_recv hk.1 hR hci (xw_at hs), xpre (as := .ref r :: as) hk hR hS hz2⟩ rfl (by rw [List.length_map]; exact hn) hl.1 (by simp [xv]) (lv_room (xcat hc)) hd hf.2.2) hS (fun r h H1 locs1 hq hR1 hS1 => ?_)
  have e : (r.map (xv G)).toList ++ st.map (xv G) = (r.toList ++ st).map (xv G) := by cases r <;> simp
  rw [e]
  exact K r h hq l G p e1 s m args below meth c H1 locs1 la hC (by have := hg r h hq; omega) hR1 hS1 hl
theorem x_callI {r : Nat} (he : xEI M.1.cls idx M2 n) (hrun : xRuns d M2 (.ref r :: as) (sh, V, L) Q) (hn : as.length = n) (hstk : stk = as.reverse ++ .ref r :: st) (hc : (st.map fun v => v.category).sum ≤ 8) (hf : xFit R cu su d M2) (hd : decode M.2.1 pc = .ok (.invokespecial idx, 3)) (hg : ∀ r h, Q r h → sh.length + M2.2.2.2.2.1 ≤ h.1.length)
    (K : ∀ r h, Q r h → X M R Z h.1 h.2.1 h.2.2 (cu + M2.2.2.2.2.1) (su + M2.2.2.2.2.2) (pc + 3) ls (r.toList ++ st)) : X M R Z sh V L cu su pc ls stk := by
  intro l G p e1 s m args below meth c H locs la hC hz hR hS hl
  refine x_size fun hsz => ?_
  have hz2 : H.size ≤ G.1 + sh.length := by omega
  obtain ⟨⟨e3, e4, e5⟩, e6, e7, e8, e9⟩ := he
  subst hstk
  have hts := hC.2.2.2.2.2.1
  have hk : xK G s := hC.2.2.2.2.2.2.2.2
  have hM := hrun l G
  rw [e9] at hM e4
  refine x_run (Q := Q) (rest := st.map (xv G)) (va_runI (b := G.1 + r) (As := as.map (xv G)) ⟨hC.1, hC.2.1, hC.2.2.2.1, hC.2.2.2.2.1, hC.2.2.2.2.2.1⟩ hM ⟨callB_of n hts (xGood e4) rfl rfl rfl (hts _ e3) (hts _ e6) e5 ⟨hf.1, hf.2.1⟩, e8, hts _ e7⟩ ⟨xblind, xpre (as := .ref r :: as) hk hR hS hz2⟩ rfl (by rw [List.length_map]; exact hn) hl.1 (by simp [xv]) (lv_room (xcat hc)) hd hf.2.2) hS (fun r h H1 locs1 hq hR1 hS1 => ?_)
  have e : (r.map (xv G)).toList ++ st.map (xv G) = (r.toList ++ st).map (xv G) := by cases r <;> simp
  rw [e]
  exact K r h hq l G p e1 s m args below meth c H1 locs1 la hC (by have := hg r h hq; omega) hR1 hS1 hl
theorem x_callIN {r : Nat} (he : xEIN M.1.cls idx host M2 n) (hrun : xRuns d M2 (.ref r :: as) (sh, V, L) Q) (hn : as.length = n) (hstk : stk = as.reverse ++ .ref r :: st) (hc : (st.map fun v => v.category).sum ≤ 8) (hf : xFit R cu su d M2) (hd : decode M.2.1 pc = .ok (.invokespecial idx, 3)) (hg : ∀ r h, Q r h → sh.length + M2.2.2.2.2.1 ≤ h.1.length)
    (K : ∀ r h, Q r h → X M R Z h.1 h.2.1 h.2.2 (cu + M2.2.2.2.2.1) (su + M2.2.2.2.2.2) (pc + 3) ls (r.toList ++ st)) : X M R Z sh V L cu su pc ls stk := by
  intro l G p e1 s m args below meth c H locs la hC hz hR hS hl
  refine x_size fun hsz => ?_
  have hz2 : H.size ≤ G.1 + sh.length := by omega
  obtain ⟨⟨e3, e4, e5⟩, e6, e7, e8, e9⟩ := he
  subst hstk
  have hts := hC.2.2.2.2.2.1
  have hk : xK G s := hC.2.2.2.2.2.2.2.2
  have hM := hrun l G
  rw [e9] at hM e4
  refine x_run (Q := Q) (rest := st.map (xv G)) (va_runIN (b := G.1 + r) (As := as.map (xv G)) ⟨hC.1, hC.2.1, hC.2.2.2.1, hC.2.2.2.2.1, hC.2.2.2.2.2.1⟩ hM ⟨va_cnB n hts (xGood e4) rfl rfl rfl (hk.2.1 _ e6) (hts _ e3) e5 ⟨hf.1, hf.2.1⟩, e8, hts _ e7⟩ ⟨xblind, xpre (as := .ref r :: as) hk hR hS hz2⟩ rfl (by rw [List.length_map]; exact hn) hl.1 (by simp [xv]) (lv_room (xcat hc)) hd hf.2.2) hS (fun r h H1 locs1 hq hR1 hS1 => ?_)
  have e : (r.map (xv G)).toList ++ st.map (xv G) = (r.toList ++ st).map (xv G) := by cases r <;> simp
  rw [e]
  exact K r h hq l G p e1 s m args below meth c H1 locs1 la hC (by have := hg r h hq; omega) hR1 hS1 hl
theorem x_objInit {r : Nat} (hw : Cond.methodLink M.1.cls idx Lib.objectInit ∈ xTbl) (hi : Cond.instanceMethod Lib.objectInit ∈ xTbl) (hco : Cond.code Lib.objectInit ⟨#[0xb1]⟩ 1 none ∈ xTbl) (hf : 1 ≤ R.frames) (hlo : 20 ≤ R.locals) (hc : (st.map fun v => v.category).sum ≤ 8) (hd : decode M.2.1 pc = .ok (.invokespecial idx, 3)) (K : X M R Z sh V L cu su (pc + 3) ls st) : X M R Z sh V L cu su pc ls (.ref r :: st) := by
  intro l G p e s m args below meth c H locs la hC hz hR hS hl
  have hts := hC.2.2.2.2.2.1
  have h2 := lv_room (m := m) (pc := pc) (ls := la) (rest := []) (xcat (G := G) hc)
  refine W.objInit hC.1 hC.2.1 hC.2.2.2.2.1 (hts _ hw) (hts _ hi) (hts _ hco) (g := F0 m pc la ((.ref r :: st).map (xv G))) rfl (by rw [hC.2.2.2.1]; exact hl.1) (a := G.1 + r) (rest := st.map (xv G)) rfl hd hf ?_ (K l G p e s m args below meth c H locs la hC hz hR hS hl)
  exact Nat.le_trans (Nat.add_le_add_right h2 12) hlo
theorem x_max {x y : Int32} (hw : Cond.methodLink M.1.cls idx Lib.Math.max.name ∈ xTbl) (hs : Cond.static Lib.Math.max.name ∈ xTbl) (hi : Cond.initialized "java/lang/Math" ∈ xTbl) (hco : Cond.code Lib.Math.max.name Lib.Math.max.code 2 (some .int) ∈ xTbl) (hf : 1 ≤ R.frames) (hlo : 21 ≤ R.locals) (h1 : cu ≤ R.cells) (h2 : su ≤ R.slots) (hc : (st.map fun v => v.category).sum ≤ 8) (hd : decode M.2.1 pc = .ok (.invokestatic idx, 3)) (K : X M R Z sh V L cu su (pc + 3) ls (.int (if x < y then y else x) :: st)) : X M R Z sh V L cu su pc ls (.int y :: .int x :: st) := by
  intro l G p e s m args below meth c H locs la hC hz hR hS hl
  have hts := hC.2.2.2.2.2.1
  exact va_mmax hC.1 hC.2.1 (by rw [hC.2.2.2.1]; exact hl.1.symm) hC.2.2.2.2.1 (hts _ hw) (hts _ hs) (hts _ hi) (hts _ hco) hf (Nat.le_trans (Nat.add_le_add_right (xcat hc) 13) hlo) h1 h2 hd (K l G p e s m args below meth c H locs la hC hz hR hS hl)
theorem x_min {x y : Int32} (hw : Cond.methodLink M.1.cls idx Lib.Math.min.name ∈ xTbl) (hs : Cond.static Lib.Math.min.name ∈ xTbl) (hi : Cond.initialized "java/lang/Math" ∈ xTbl) (hco : Cond.code Lib.Math.min.name Lib.Math.min.code 2 (some .int) ∈ xTbl) (hf : 1 ≤ R.frames) (hlo : 21 ≤ R.locals) (h1 : cu ≤ R.cells) (h2 : su ≤ R.slots) (hc : (st.map fun v => v.category).sum ≤ 8) (hd : decode M.2.1 pc = .ok (.invokestatic idx, 3)) (K : X M R Z sh V L cu su (pc + 3) ls (.int (if y < x then y else x) :: st)) : X M R Z sh V L cu su pc ls (.int y :: .int x :: st) := by
  intro l G p e s m args below meth c H locs la hC hz hR hS hl
  have hts := hC.2.2.2.2.2.1
  exact va_mmin hC.1 hC.2.1 (by rw [hC.2.2.2.1]; exact hl.1.symm) hC.2.2.2.2.1 (hts _ hw) (hts _ hs) (hts _ hi) (hts _ hco) hf (Nat.le_trans (Nat.add_le_add_right (xcat hc) 13) hlo) h1 h2 hd (K l G p e s m args below meth c H locs la hC hz hR hS hl)
theorem x_copy {r q n0 n1 : Nat} {f0 f1 : Nat → Option Nat} {sp dp n : Int32} (hw : Cond.methodLink M.1.cls idx arraycopyName ∈ xTbl) (hna : Cond.native arraycopyName ∈ xTbl) (hs : Cond.static arraycopyName ∈ xTbl) (hi : Cond.initialized "java/lang/System" ∈ xTbl) (hf : 1 ≤ R.frames) (hlo : 8 + (nativeFrameWords "java/lang/System" "arraycopy" 5 + 11) ≤ R.locals) (hc : (st.map fun v => v.category).sum ≤ 8)
    (h0 : sh[r]? = some (.inl (.int, n0, f0))) (h1 : sh[q]? = some (.inl (.int, n1, f1))) (g1 : ¬ sp < 0) (g2 : ¬ dp < 0) (g3 : ¬ n < 0) (g4 : sp.toNatClampNeg + n.toNatClampNeg ≤ n0) (g5 : dp.toNatClampNeg + n.toNatClampNeg ≤ n1) (hd : decode M.2.1 pc = .ok (.invokestatic idx, 3)) (K : X M R Z sh (xrow V q (va_cpy (V r) (V q) sp.toNatClampNeg dp.toNatClampNeg n.toNatClampNeg)) L cu su (pc + 3) ls st) : X M R Z sh V L cu su pc ls (.int n :: .int dp :: .ref q :: .int sp :: .ref r :: st) := by
  intro l G p e s m args below meth c H locs la hC hz hR hS hl
  have hts := hC.2.2.2.2.2.1
  refine va_copyi hC.1 hC.2.1 (by rw [hC.2.2.2.1]; exact hl.1.symm) hC.2.2.2.2.1 (hts _ hw) (hts _ hna) (hts _ hs) (hts _ hi) hC.2.2.2.2.2.2.2.2.1 hR (xw_D G sh V L) hS r q 0 0 (xw_at h0) (xw_at h1) rfl rfl rfl g1 g2 g3 g4 g5 (fun _ _ => rfl) hf (Nat.le_trans (Nat.add_le_add_right (xcat hc) _) hlo) hd (fun H1 locs1 p1 p2 p3 => ?_)
  refine K l G p e s m args below meth c H1 locs1 la hC hz ?_ p3 hl
  show va_P _ _ _ _
  rw [xw_setS (V := V) (L := L) h1 (fun j hj => xrow_ne hj) (fun _ _ => rfl)]
  simp only [xe, xb, xrow_eq]
  exact p1
theorem xpush {G : xG} {sh : xS} {V : xV} {L : xL} {H H1 : Heap} {c : xC} (hR : xR G sh V L H) (hz : H.size = G.1 + sh.length) (ho : ∀ q, q < H.size → H1[q]? = H[q]?) (hc : va_at G.2.2.1 classes (G.1 + sh.length, xe G V L sh.length c) H1) : xR G (sh ++ [c]) V L H1 := by
  intro k q hk
  obtain ⟨c1, h1, rfl⟩ := xw_of hk
  by_cases hl : k < sh.length
  · rw [List.getElem?_append_left hl] at h1
    exact (hR k _ (xw_at h1)).kept (ho _ (by show G.1 + k < H.size; omega))
  · rw [List.getElem?_append_right (by omega)] at h1
    have h2 : k - sh.length < 1 := (List.getElem?_eq_some_iff.mp h1).1
    have h3 : k = sh.length := by omega
    subst h3
    rw [Nat.sub_self] at h1
    cases h1
    exact hc
theorem xgrow {G : xG} {H0 H H1 : Heap} {locs : List Loc} (hS : va_S (xA G) H0 H locs) (z : H1.size = H.size + 1) (ho : ∀ q, q < H.size → H1[q]? = H[q]?) : va_S (xA G) H0 H1 locs := ⟨Nat.le_trans hS.1 (by omega), fun q h1 h2 => (ho q (Nat.lt_of_lt_of_le h1 hS.1)).trans (hS.2.1 q h1 h2), hS.2.2⟩
/-- what a class needs to be made of by an instruction of own -/
def xN (own : String) (idx ci : Nat) (ks : List Nat) : Prop := ∃ (C : String) (T : u_T) (N : Nat) (tf : Nat → FieldType), classes[ci]? = some (C, T, N) ∧ xCls C T N tf ∧ Cond.classLink own idx C ∈ xTbl ∧ Cond.instantiable C N ∈ xTbl ∧ Cond.initialized C ∈ xTbl ∧ ks.length = N ∧ ∀ j, j < N → (ks[j]? = some 0 ∧ defaultValue (tf j) = .int 0) ∨ (ks[j]? = some 1 ∧ defaultValue (tf j) = .null)
theorem x_new {ci : Nat} {ks : List Nat} (hN : xN M.1.cls idx ci ks) (hV : ∀ k, V sh.length k = 0) (hc1 : cu + 1 ≤ R.cells) (hc2 : su + ks.length ≤ R.slots) (hd : decode M.2.1 pc = .ok (.new idx, 3))
    (K : X M R Z (sh ++ [.inr (ci, ks)]) V L (cu + 1) (su + ks.length) (pc + 3) ls (.ref sh.length :: st)) : X M R Z sh V L cu su pc ls st := by
  intro l G p e s m args below meth c H locs la hC hz hR hS hl
  refine x_size fun hsz => ?_
  have hk : xK G s := hC.2.2.2.2.2.2.2.2
  have hlow := xR_low hR (Nat.le_trans hk.2.2.2.2.1 hS.1)
  have hH : H.size = G.1 + sh.length := by omega
  obtain ⟨C, T, N, tf, f1, f2, f3, f4, f5, f6, f7⟩ := hN
  have hts := hC.2.2.2.2.2.1
  have hKn := hk.1.1 ci _ f1
  subst f6
  refine W.newcK hC.1 hC.2.1 hC.2.2.2.2.1 (hts _ f3) (hts _ f4) (hts _ f5) rfl hd hc1 hc2 hKn.2.1 hH fun H1 kC hkC e1 z1 o1 => ?_
  refine K l G p e s m args below meth c H1 locs la hC (by simp; omega) (xpush hR hH (by rw [hH]; exact o1) ?_) (xgrow hS (by rw [z1, hH]) (by rw [hH]; exact o1)) hl
  refine ⟨_, f1, (u_born tf hts f2.1 hKn hkC e1 f2.2.1).to (fun k hk => ?_)⟩
  show _ = (ks.mapIdx (fun k kd => xv G (xsv kd (V sh.length k)))).getD k .null
  rcases f7 k hk with ⟨a1, a2⟩ | ⟨a1, a2⟩
  · rw [List.getD_eq_getElem?_getD, xks_at a1, a2, hV]; rfl
  · rw [List.getD_eq_getElem?_getD, xks_at a1, a2]; rfl
theorem x_newarray {at_ : ArrayType} {ty : FieldType} {i : Int32} (n : Nat) (hw : Cond.arrayClass ty ∈ xTbl) (hty : newarray.typeOf at_ = ty) (ht : ty = .int ∨ ty = .byte ∨ ty = .long) (hV : ∀ k, V sh.length k = 0) (hL : ∀ k, L sh.length k = 0) (hi : ¬ i < 0) (hn : i.toNatClampNeg = n) (hb : n * 8 ≤ 536870912) (hc1 : cu + 1 ≤ R.cells) (hc2 : su + n ≤ R.slots) (hd : decode M.2.1 pc = .ok (.newarray at_, 2))
    (K : X M R Z (sh ++ [.inl (ty, n, fun _ => none)]) V L (cu + 1) (su + n) (pc + 2) ls (.ref sh.length :: st)) : X M R Z sh V L cu su pc ls (.int i :: st) := by
  intro l G p e s m args below meth c H locs la hC hz hR hS hl
  refine x_size fun hsz => ?_
  have hk : xK G s := hC.2.2.2.2.2.2.2.2
  have hlow := xR_low hR (Nat.le_trans hk.2.2.2.2.1 hS.1)
  have hH : H.size = G.1 + sh.length := by omega
  have hts := hC.2.2.2.2.2.1
  subst hty
  have hcb : n * componentBytes (newarray.typeOf at_) ≤ 536870912 := by
    refine Nat.le_trans ?_ hb
    rcases ht with h | h | h <;> rw [h] <;> exact Nat.mul_le_mul_left _ (by decide)
  refine va_newaK hC.1 hC.2.1 (hts _ hw) rfl hd rfl hi hn hcb hc1 hc2 hH fun H1 cA e1 z1 o1 hAr hNm => ?_
  have hcA : cA = G.2.2.2.1 (newarray.typeOf at_) := by
    rcases ht with h | h | h
    · have h2 : s.vm.findClass ("[" ++ (FieldType.int).toString) = some (G.2.2.2.1 .int) := (hk.1.2 0 _ rfl).2
      rw [h] at hNm ⊢; exact Option.some.inj (hNm.symm.trans h2)
    · have h2 : s.vm.findClass ("[" ++ (FieldType.byte).toString) = some (G.2.2.2.1 .byte) := (hk.1.2 1 _ rfl).2
      rw [h] at hNm ⊢; exact Option.some.inj (hNm.symm.trans h2)
    · have h2 : s.vm.findClass ("[" ++ (FieldType.long).toString) = some (G.2.2.2.1 .long) := (hk.1.2 2 _ rfl).2
      rw [h] at hNm ⊢; exact Option.some.inj (hNm.symm.trans h2)
  refine K l G p e s m args below meth c H1 locs la hC (by simp; omega) (xpush hR hH (by rw [hH]; exact o1) ?_) (xgrow hS (by rw [z1, hH]) (by rw [hH]; exact o1)) hl
  have hV2 : V sh.length = fun _ => 0 := funext hV
  have hL2 : L sh.length = fun _ => 0 := funext hL
  show H1[G.1 + sh.length]? = some (vp_cell _ _)
  rw [e1, hcA]
  rcases ht with h | h | h <;> rw [h] <;> simp only [xb, hV2, hL2] <;> rfl
theorem x_anewarray {i : Int32} (n : Nat) (hw : Cond.classLink M.1.cls idx "WarrantWeather$Law" ∈ xTbl) (hi : ¬ i < 0) (hn : i.toNatClampNeg = n) (hb : n * 4 ≤ 536870912) (hc1 : cu + 1 ≤ R.cells) (hc2 : su + n ≤ R.slots) (hd : decode M.2.1 pc = .ok (.anewarray idx, 3))
    (K : X M R Z (sh ++ [.inl (.object "WarrantWeather$Law", n, fun _ => none)]) V L (cu + 1) (su + n) (pc + 3) ls (.ref sh.length :: st)) : X M R Z sh V L cu su pc ls (.int i :: st) := by
  intro l G p e s m args below meth c H locs la hC hz hR hS hl
  refine x_size fun hsz => ?_
  have hk : xK G s := hC.2.2.2.2.2.2.2.2
  have hlow := xR_low hR (Nat.le_trans hk.2.2.2.2.1 hS.1)
  have hH : H.size = G.1 + sh.length := by omega
  have hts := hC.2.2.2.2.2.1
  subst hn
  refine W.anew hC.1 hC.2.1 hC.2.2.2.2.1 (hts _ hw) (va_AO.use hk.2.2.2.2.2.2.2.2.2.2.2) rfl hd rfl hi hb hc1 hc2 fun cA kA comp f1 f2 f3 f4 => ?_
  have h2 : va_RA s (G.2.2.2.1 (.object "WarrantWeather$Law")) (.object "WarrantWeather$Law") := (hk.1.2 3 _ rfl).2
  obtain ⟨kA2, comp2, q1, q2, q3, q4⟩ := h2
  have hcA : cA = G.2.2.2.1 (.object "WarrantWeather$Law") := Option.some.inj (f1.symm.trans q4)
  have o1 : ∀ q : Nat, q < H.size → (H.push ({ cls := cA, slots := Array.replicate i.toNatClampNeg .null, vm := .none } : Cell))[q]? = H[q]? := fun q hq => by rw [Array.getElem?_push, if_neg (Nat.ne_of_lt hq)]
  rw [hH]
  refine K l G p e s m args below meth c _ locs la hC (by simp; omega) (xpush hR hH o1 ?_) (xgrow hS (by rw [Array.size_push]) o1) hl
  show (H.push _)[G.1 + sh.length]? = some (vp_cell _ _)
  rw [← hH, Array.getElem?_push_size, ← hcA]
  show _ = some (arrV cA i.toNatClampNeg (fun _ => Value.null))
  rw [← arrV_new]
theorem xset_len {α : Type} {l : List α} {k : Nat} {v : α} : (l.set k v).length = l.length := by simp
theorem xV_putP {G : xG} {V : xV} {L : xL} {r k ci q : Nat} {ks : List Nat} (hk : k < ks.length) : xe G V L r (.inr (ci, ks.set k (q + 3))) = .inr (ci, (ks.mapIdx (fun k kd => xv G (xsv kd (V r k)))).set k (.ref (G.1 + q))) := by
  simp only [xe]
  congr 2
  apply List.ext_getElem?
  intro j
  by_cases hj : j = k
  · subst hj
    rw [List.getElem?_set_self (by simp only [List.length_mapIdx]; exact hk)]
    simp only [List.getElem?_mapIdx, List.getElem?_set_self hk, Option.map_some, xsv, xv]
  · rw [List.getElem?_set_ne (Ne.symm hj)]
    simp only [List.getElem?_mapIdx]
    rw [List.getElem?_set_ne (Ne.symm hj)]
/-- a reference is put into a new object's field -/
theorem x_putP {ci k r q : Nat} {fin : Bool} {ty : FieldType} {ks : List Nat} (hf : xF M.1.cls idx ci k fin ty) (hs : sh[r]? = some (.inr (ci, ks))) (hk : k < ks.length) (hty : narrow ty (.ref 0) = .ref 0 ∧ ∀ a, narrow ty (.ref a) = .ref a ∧ fits ty (.ref a) = true) (hin : fin = true → M.1.name = "<init>" ∧ ∃ T N, classes[ci]? = some (M.1.cls, T, N)) (hd : decode M.2.1 pc = .ok (.putfield idx, 3))
    (K : X M R Z (sh.set r (.inr (ci, ks.set k (q + 3)))) V L cu su (pc + 3) ls st) : X M R Z sh V L cu su pc ls (.ref q :: .ref r :: st) := by
  intro l G p e s m args below meth c H locs la hC hz hR hS hl
  obtain ⟨C, T, N, tf, f1, f2, f3, f4, f5, f6, f7⟩ := hf
  have hr : r < sh.length := (List.getElem?_eq_some_iff.mp hs).1
  have fin1 : ∀ (H1 : Heap) (locs1 : List Loc), va_P G.2.2.1 classes ((xw G sh V L).set r (G.1 + r, .inr (ci, (ks.mapIdx (fun k kd => xv G (xsv kd (V r k)))).set k (xv G (.ref q))))) H1 → va_D (xA G) ((xw G sh V L).set r (G.1 + r, .inr (ci, (ks.mapIdx (fun k kd => xv G (xsv kd (V r k)))).set k (xv G (.ref q))))) → va_S (xA G) s.heap H1 locs1 → W p l e R s m args below meth c H1 locs1 cu su (Z G below args s) (F0 m (pc + 3) la (st.map (xv G))) := by
    intro H1 locs1 p1 p2 p3
    refine K l G p e s m args below meth c H1 locs1 la hC (by simp; omega) ?_ p3 hl
    show va_P _ _ _ _
    rw [xw_set (V := V) (L := L) _ hr (fun _ _ => rfl) (fun _ _ => rfl), xV_putP hk]
    exact p1
  cases fin with
  | false => exact va_put hC.1 hC.2.1 hC.2.2.2.2.2.1 f2.1 tf f2.2.1 f2.2.2 hC.2.2.2.2.1 hC.2.2.2.2.2.2.2.2.1 hR (xw_D G sh V L) hS r (xw_at hs) f1 k f3 (hC.2.2.2.2.2.1 _ f4) (fun _ h => h) f5 (by rw [f2.2.1 k f3, f6]) (hty.2 _).1 (hty.2 _).2 (by simp only [List.length_mapIdx]; exact hk) hd fin1
  | true =>
    obtain ⟨i1, T2, N2, i2⟩ := hin rfl
    have hCc : C = M.1.cls := congrArg Prod.fst (Option.some.inj (f1.symm.trans i2))
    exact va_putF hC.1 hC.2.1 hC.2.2.2.2.2.1 f2.1 tf f2.2.1 f2.2.2 hC.2.2.2.2.1 hC.2.2.2.2.2.2.2.2.1 hR (xw_D G sh V L) hS r (xw_at hs) f1 k f3 (hC.2.2.2.2.2.1 _ f4) (fun _ h => h) f5 (by rw [hC.2.2.2.2.2.2.2.1]; exact i1) (by rw [f7, hCc]) (by rw [f2.2.1 k f3, f6]) (hty.2 _).1 (hty.2 _).2 (by simp only [List.length_mapIdx]; exact hk) hd fin1
end XCalls
end
section
/-! SUPPORT: what the printed walks use -/
theorem xpos {α : Type} {c : Prop} [Decidable c] {a b r : α} (hc : c) (h : (if c then a else b) = r) : a = r := by rwa [if_pos hc] at h
theorem xneg {α : Type} {c : Prop} [Decidable c] {a b r : α} (hc : ¬ c) (h : (if c then a else b) = r) : b = r := by rwa [if_neg hc] at h
theorem xguard {α : Type} {c : Prop} [Decidable c] {a : Option α} {r : α} (h : (if c then a else none) = some r) : c ∧ a = some r := by
  by_cases hc : c
  · rw [if_pos hc] at h; exact ⟨hc, h⟩
  · rw [if_neg hc] at h; cases h
theorem xbind {α β : Type} {a : Option α} {f : α → Option β} {r : β} (h : Option.bind a f = some r) : ∃ p, a = some p ∧ f p = some r := by
  cases a with
  | none => cases h
  | some p => exact ⟨p, rfl, h⟩
theorem xnz {v : Int32} (h : v = 0 ∨ v = 1) : narrow .boolean (.int v) = .int v := by rcases h with rfl | rfl <;> rfl
def xnl (c : Nat) : Value := match c with
  | 0 => .null
  | q + 1 => .ref q
theorem xnul (c : Nat) : (c = 0 ∧ xnl c = .null) ∨ ∃ q, c = q + 1 ∧ xnl c = .ref q := by
  cases c with
  | zero => exact Or.inl ⟨rfl, rfl⟩
  | succ q => exact Or.inr ⟨q, rfl, rfl⟩
def xrem (x y : Int32) : Int32 := x - x / y * y
def xmax (x y : Int32) : Int32 := if x < y then y else x
def xmin (x y : Int32) : Int32 := if y < x then y else x
def xfill (V : xV) (r n : Nat) (v : Int32) : xV := xrow V r (fun k => if k < n then v else V r k)
def xcopy (V : xV) (r q n : Nat) : xV := xrow V q (fun k => if k < n then V r k else V q k)
theorem xfit_of {d e : Nat} {M M2 : xM} (h : d + 1 ≤ e) (hm : M2.2.2.1 ≤ 45) : d + 1 ≤ (xRm e M).frames ∧ 8 + (M2.2.2.1 + 11) + (64 * d + 64) ≤ (xRm e M).locals := ⟨h, by show _ ≤ 64 * e + 64; omega⟩
theorem xlib_of {e : Nat} {M : xM} (h : 1 ≤ e) : 1 ≤ (xRm e M).frames ∧ 64 ≤ (xRm e M).locals ∧ 0 ≤ (xRm e M).cells ∧ 0 ≤ (xRm e M).slots := ⟨h, by show _ ≤ 64 * e + 64; omega, Nat.zero_le _, Nat.zero_le _⟩
theorem xpickm {G : xG} {ls ls' : List (Nat × Value)} (ks : List Nat) (h : lv_pick ls ks = ls') : lv_pick (xls G ls) ks = xls G ls' := by
  subst h
  induction ks with
  | nil => rfl
  | cons k ks ih =>
    simp only [lv_pick, xls, List.filterMap_cons, List.getElem?_map] at ih ⊢
    cases ls[k]? with
    | none => simpa using ih
    | some q => simpa using ih
section XSup
variable {M M2 : xM} {R : Room} {Z : xG → List Frame → Array Value → State → State → Prop} {sh : xS} {V V2 : xV} {L L2 : xL} {cu su pc : Nat} {ls ls' : List (Nat × Value)} {st stk : List Value} {d idx n : Nat} {as : List Value} {host : String} {v : Value}
theorem x_pick (ks : List Nat) (hp : lv_pick ls ks = ls') (K : X M R Z sh V L cu su pc ls' st) : X M R Z sh V L cu su pc ls st := by
  intro l G p e s m args below meth c H locs la hC hz hR hS hl
  exact K l G p e s m args below meth c H locs la hC hz hR hS (lv_sub hl ks (xpickm ks hp))
theorem x_irem2 {x y : Int32} (hd : decode M.2.1 pc = .ok (.irem, 1)) (hne : ¬ y = 0) (K : X M R Z sh V L cu su (pc + 1) ls (.int (xrem x y) :: st)) : X M R Z sh V L cu su pc ls (.int y :: .int x :: st) := x_irem hd hne K
/-- calls of methods that make nothing -/
theorem x_callS0 (he : xES M.1.cls idx M2 n) (hrun : xRuns d M2 as (sh, V, L) (fun o h => o = some v ∧ h = (sh, V2, L2))) (h0 : M2.2.2.2.2 = (0, 0)) (hn : as.length = n) (hstk : stk = as.reverse ++ st) (hc : (st.map fun v => v.category).sum ≤ 8) (hf : d + 1 ≤ R.frames ∧ 8 + (M2.2.2.1 + 11) + (64 * d + 64) ≤ R.locals) (h1 : cu ≤ R.cells) (h2 : su ≤ R.slots) (hd : decode M.2.1 pc = .ok (.invokestatic idx, 3))
    (K : X M R Z sh V2 L2 cu su (pc + 3) ls (v :: st)) : X M R Z sh V L cu su pc ls stk := by
  refine x_callS he hrun hn hstk hc ⟨hf.1, hf.2, by rw [h0]; exact h1, by rw [h0]; exact h2⟩ hd (fun r h q => by obtain ⟨rfl, rfl⟩ := q; rw [h0]; exact Nat.le_refl _) (fun r h q => ?_)
  obtain ⟨rfl, rfl⟩ := q
  rw [h0]; exact K
theorem x_callS0v (he : xES M.1.cls idx M2 n) (hrun : xRuns d M2 as (sh, V, L) (fun o h => o = none ∧ h = (sh, V2, L2))) (h0 : M2.2.2.2.2 = (0, 0)) (hn : as.length = n) (hstk : stk = as.reverse ++ st) (hc : (st.map fun v => v.category).sum ≤ 8) (hf : d + 1 ≤ R.frames ∧ 8 + (M2.2.2.1 + 11) + (64 * d + 64) ≤ R.locals) (h1 : cu ≤ R.cells) (h2 : su ≤ R.slots) (hd : decode M.2.1 pc = .ok (.invokestatic idx, 3))
    (K : X M R Z sh V2 L2 cu su (pc + 3) ls st) : X M R Z sh V L cu su pc ls stk := by
  refine x_callS he hrun hn hstk hc ⟨hf.1, hf.2, by rw [h0]; exact h1, by rw [h0]; exact h2⟩ hd (fun r h q => by obtain ⟨rfl, rfl⟩ := q; rw [h0]; exact Nat.le_refl _) (fun r h q => ?_)
  obtain ⟨rfl, rfl⟩ := q
  rw [h0]; exact K
theorem x_callSN0 (he : xESN M.1.cls idx host M2 n) (hrun : xRuns d M2 as (sh, V, L) (fun o h => o = some v ∧ h = (sh, V2, L2))) (h0 : M2.2.2.2.2 = (0, 0)) (hn : as.length = n) (hstk : stk = as.reverse ++ st) (hc : (st.map fun v => v.category).sum ≤ 8) (hf : d + 1 ≤ R.frames ∧ 8 + (M2.2.2.1 + 11) + (64 * d + 64) ≤ R.locals) (h1 : cu ≤ R.cells) (h2 : su ≤ R.slots) (hd : decode M.2.1 pc = .ok (.invokestatic idx, 3))
    (K : X M R Z sh V2 L2 cu su (pc + 3) ls (v :: st)) : X M R Z sh V L cu su pc ls stk := by
  refine x_callSN he hrun hn hstk hc ⟨hf.1, hf.2, by rw [h0]; exact h1, by rw [h0]; exact h2⟩ hd (fun r h q => by obtain ⟨rfl, rfl⟩ := q; rw [h0]; exact Nat.le_refl _) (fun r h q => ?_)
  obtain ⟨rfl, rfl⟩ := q
  rw [h0]; exact K
theorem x_callV0 {r ci : Nat} {ks : List Nat} {T : u_T} {N : Nat} (he : xEV M.1.cls idx M2 n) (hs : sh[r]? = some (.inr (ci, ks))) (hci : classes[ci]? = some (M2.1.cls, T, N)) (hrun : xRuns d M2 (.ref r :: as) (sh, V, L) (fun o h => o = some v ∧ h = (sh, V2, L2))) (h0 : M2.2.2.2.2 = (0, 0)) (hn : as.length = n) (hstk : stk = as.reverse ++ .ref r :: st) (hc : (st.map fun v => v.category).sum ≤ 8) (hf : d + 1 ≤ R.frames ∧ 8 + (M2.2.2.1 + 11) + (64 * d + 64) ≤ R.locals) (h1 : cu ≤ R.cells) (h2 : su ≤ R.slots) (hd : decode M.2.1 pc = .ok (.invokevirtual idx, 3))
    (K : X M R Z sh V2 L2 cu su (pc + 3) ls (v :: st)) : X M R Z sh V L cu su pc ls stk := by
  refine x_callV he hs hci hrun hn hstk hc ⟨hf.1, hf.2, by rw [h0]; exact h1, by rw [h0]; exact h2⟩ hd (fun r h q => by obtain ⟨rfl, rfl⟩ := q; rw [h0]; exact Nat.le_refl _) (fun r h q => ?_)
  obtain ⟨rfl, rfl⟩ := q
  rw [h0]; exact K
theorem x_callV0v {r ci : Nat} {ks : List Nat} {T : u_T} {N : Nat} (he : xEV M.1.cls idx M2 n) (hs : sh[r]? = some (.inr (ci, ks))) (hci : classes[ci]? = some (M2.1.cls, T, N)) (hrun : xRuns d M2 (.ref r :: as) (sh, V, L) (fun o h => o = none ∧ h = (sh, V2, L2))) (h0 : M2.2.2.2.2 = (0, 0)) (hn : as.length = n) (hstk : stk = as.reverse ++ .ref r :: st) (hc : (st.map fun v => v.category).sum ≤ 8) (hf : d + 1 ≤ R.frames ∧ 8 + (M2.2.2.1 + 11) + (64 * d + 64) ≤ R.locals) (h1 : cu ≤ R.cells) (h2 : su ≤ R.slots) (hd : decode M.2.1 pc = .ok (.invokevirtual idx, 3))
    (K : X M R Z sh V2 L2 cu su (pc + 3) ls st) : X M R Z sh V L cu su pc ls stk := by
  refine x_callV he hs hci hrun hn hstk hc ⟨hf.1, hf.2, by rw [h0]; exact h1, by rw [h0]; exact h2⟩ hd (fun r h q => by obtain ⟨rfl, rfl⟩ := q; rw [h0]; exact Nat.le_refl _) (fun r h q => ?_)
  obtain ⟨rfl, rfl⟩ := q
  rw [h0]; exact K
/-- an array's place that is a number -/
theorem x_ialoadC {r n : Nat} {f : Nat → Option Nat} {i : Int32} (j : Nat) (hs : sh[r]? = some (.inl (.int, n, f))) (hi : xI i n = true) (hj : i.toNatClampNeg = j) (hd : decode M.2.1 pc = .ok (.iaload, 1)) (K : X M R Z sh V L cu su (pc + 1) ls (.int (V r j) :: st)) : X M R Z sh V L cu su pc ls (.int i :: .ref r :: st) := by subst hj; exact x_iaload hs hi hd K
theorem x_laloadC {r n : Nat} {f : Nat → Option Nat} {i : Int32} (j : Nat) (hs : sh[r]? = some (.inl (.long, n, f))) (hi : xI i n = true) (hj : i.toNatClampNeg = j) (hd : decode M.2.1 pc = .ok (.laload, 1)) (K : X M R Z sh V L cu su (pc + 1) ls (.long (L r j) :: st)) : X M R Z sh V L cu su pc ls (.int i :: .ref r :: st) := by subst hj; exact x_laload hs hi hd K
theorem x_iastoreC {r n : Nat} {f : Nat → Option Nat} {i x : Int32} (j : Nat) (hs : sh[r]? = some (.inl (.int, n, f))) (hi : xI i n = true) (hj : i.toNatClampNeg = j) (hd : decode M.2.1 pc = .ok (.iastore, 1)) (K : X M R Z sh (x2 V r j x) L cu su (pc + 1) ls st) : X M R Z sh V L cu su pc ls (.int x :: .int i :: .ref r :: st) := by subst hj; exact x_iastore hs hi hd K
/-- the library's functions -/
def xLmax (own : String) (idx : Nat) : Prop := Cond.methodLink own idx Lib.Math.max.name ∈ xTbl ∧ Cond.static Lib.Math.max.name ∈ xTbl ∧ Cond.initialized "java/lang/Math" ∈ xTbl ∧ Cond.code Lib.Math.max.name Lib.Math.max.code 2 (some .int) ∈ xTbl
def xLmin (own : String) (idx : Nat) : Prop := Cond.methodLink own idx Lib.Math.min.name ∈ xTbl ∧ Cond.static Lib.Math.min.name ∈ xTbl ∧ Cond.initialized "java/lang/Math" ∈ xTbl ∧ Cond.code Lib.Math.min.name Lib.Math.min.code 2 (some .int) ∈ xTbl
def xLcopy (own : String) (idx : Nat) : Prop := Cond.methodLink own idx arraycopyName ∈ xTbl ∧ Cond.native arraycopyName ∈ xTbl ∧ Cond.static arraycopyName ∈ xTbl ∧ Cond.initialized "java/lang/System" ∈ xTbl
theorem x_max0 {x y : Int32} (hw : xLmax M.1.cls idx) (hl : 1 ≤ R.frames ∧ 64 ≤ R.locals ∧ cu ≤ R.cells ∧ su ≤ R.slots) (hc : (st.map fun v => v.category).sum ≤ 8) (hd : decode M.2.1 pc = .ok (.invokestatic idx, 3)) (K : X M R Z sh V L cu su (pc + 3) ls (.int (xmax x y) :: st)) : X M R Z sh V L cu su pc ls (.int y :: .int x :: st) := x_max hw.1 hw.2.1 hw.2.2.1 hw.2.2.2 hl.1 (Nat.le_trans (by decide) hl.2.1) hl.2.2.1 hl.2.2.2 hc hd K
theorem x_min0 {x y : Int32} (hw : xLmin M.1.cls idx) (hl : 1 ≤ R.frames ∧ 64 ≤ R.locals ∧ cu ≤ R.cells ∧ su ≤ R.slots) (hc : (st.map fun v => v.category).sum ≤ 8) (hd : decode M.2.1 pc = .ok (.invokestatic idx, 3)) (K : X M R Z sh V L cu su (pc + 3) ls (.int (xmin x y) :: st)) : X M R Z sh V L cu su pc ls (.int y :: .int x :: st) := x_min hw.1 hw.2.1 hw.2.2.1 hw.2.2.2 hl.1 (Nat.le_trans (by decide) hl.2.1) hl.2.2.1 hl.2.2.2 hc hd K
theorem x_copy0 {r q n0 n1 : Nat} {f0 f1 : Nat → Option Nat} {i : Int32} (hw : xLcopy M.1.cls idx) (hl : 1 ≤ R.frames ∧ 64 ≤ R.locals ∧ cu ≤ R.cells ∧ su ≤ R.slots) (hc : (st.map fun v => v.category).sum ≤ 8) (h0 : sh[r]? = some (.inl (.int, n0, f0))) (h1 : sh[q]? = some (.inl (.int, n1, f1))) (n : Nat) (hn : ¬ i < 0 ∧ i.toNatClampNeg = n ∧ n ≤ n0 ∧ n ≤ n1) (hd : decode M.2.1 pc = .ok (.invokestatic idx, 3)) (K : X M R Z sh (xcopy V r q n) L cu su (pc + 3) ls st) : X M R Z sh V L cu su pc ls (.int i :: .int 0 :: .ref q :: .int 0 :: .ref r :: st) := by
  obtain ⟨g1, g2, g3, g4⟩ := hn
  subst g2
  have e : xrow V q (va_cpy (V r) (V q) (0 : Int32).toNatClampNeg (0 : Int32).toNatClampNeg i.toNatClampNeg) = xcopy V r q i.toNatClampNeg := by
    unfold xcopy
    congr 1
    funext k
    have z : (0 : Int32).toNatClampNeg = 0 := by decide
    simp [va_cpy, z]
  have z : (0 : Int32).toNatClampNeg = 0 := by decide
  refine x_copy (sp := 0) (dp := 0) hw.1 hw.2.1 hw.2.2.1 hw.2.2.2 hl.1 (Nat.le_trans (by decide) hl.2.1) hc h0 h1 (by decide) (by decide) g1 (by rw [z]; omega) (by rw [z]; omega) hd ?_
  rw [e]
  exact K
/-- the constants that aren't ours -/
theorem x_getNames (hw : Cond.fieldLinkNest M.1.cls idx "WarrantWeather" "NAME_IS_OF" "[I" "WarrantWeather" ∈ xNest) (hd : decode M.2.1 pc = .ok (.getstatic idx, 3)) (K : X M R Z sh V L cu su (pc + 3) ls (.retAddr 2 :: st)) : X M R Z sh V L cu su pc ls st := by
  intro l G p e s m args below meth c H locs la hC hz hR hS hl
  have hk : xK G s := hC.2.2.2.2.2.2.2.2
  exact va_getsN hC.1 hC.2.1 hk.2.2.2.2.2.1 hS hC.2.2.2.2.1 (va_Nw.use rfl (hk.2.1 _ hw)) (fun _ h => h) hd (K l G p e s m args below meth c H locs la hC hz hR hS hl)
end XSup
end
section
/-! THE SHAPE of the heap behind the constructors (printed by wip/whole) -/
def SH : xS := [.inr (11, [4, 12, 20, 49, 22, 54, 60, 63, 66]),
  .inr (6, [5, 6, 7, 8, 9, 10, 11, 0, 0, 0, 0, 0, 0]),
  .inl (.int, 12, fun _ => none),
  .inl (.int, 12, fun _ => none),
  .inl (.int, 12, fun _ => none),
  .inl (.int, 30, fun _ => none),
  .inl (.int, 120, fun _ => none),
  .inl (.int, 10, fun _ => none),
  .inl (.int, 60, fun _ => none),
  .inr (6, [13, 14, 15, 16, 17, 18, 19, 0, 0, 0, 0, 0, 0]),
  .inl (.int, 12, fun _ => none),
  .inl (.int, 12, fun _ => none),
  .inl (.int, 12, fun _ => none),
  .inl (.int, 30, fun _ => none),
  .inl (.int, 120, fun _ => none),
  .inl (.int, 10, fun _ => none),
  .inl (.int, 60, fun _ => none),
  .inr (9, [21, 0]),
  .inl (.int, 300, fun _ => none),
  .inr (7, [4, 23, 28]),
  .inr (3, [24, 25, 26, 27, 0, 0]),
  .inl (.int, 300, fun _ => none),
  .inl (.int, 6, fun _ => none),
  .inl (.int, 6, fun _ => none),
  .inl (.int, 6, fun _ => none),
  .inl (.object "WarrantWeather$Law", 4, fun j => if j < 4 then some (26 + 5 * j) else none),
  .inr (3, [30, 31, 32, 33, 0, 0]),
  .inl (.int, 300, fun _ => none),
  .inl (.int, 6, fun _ => none),
  .inl (.int, 6, fun _ => none),
  .inl (.int, 6, fun _ => none),
  .inr (3, [35, 36, 37, 38, 0, 0]),
  .inl (.int, 300, fun _ => none),
  .inl (.int, 6, fun _ => none),
  .inl (.int, 6, fun _ => none),
  .inl (.int, 6, fun _ => none),
  .inr (3, [40, 41, 42, 43, 0, 0]),
  .inl (.int, 300, fun _ => none),
  .inl (.int, 6, fun _ => none),
  .inl (.int, 6, fun _ => none),
  .inl (.int, 6, fun _ => none),
  .inr (3, [45, 46, 47, 48, 0, 0]),
  .inl (.int, 300, fun _ => none),
  .inl (.int, 6, fun _ => none),
  .inl (.int, 6, fun _ => none),
  .inl (.int, 6, fun _ => none),
  .inr (5, [0, 0, 0, 50, 2, 0, 0]),
  .inr (10, [51, 52, 53, 0]),
  .inl (.int, 301, fun _ => none),
  .inl (.int, 301, fun _ => none),
  .inl (.int, 301, fun _ => none),
  .inr (2, [0, 0, 4, 22, 55, 58, 59, 0, 0, 0]),
  .inr (0, [56, 57]),
  .inl (.int, 40, fun _ => none),
  .inl (.int, 13, fun _ => none),
  .inl (.int, 12, fun _ => none),
  .inl (.int, 12, fun _ => none),
  .inr (4, [0, 0, 4, 54, 61, 62, 0, 0, 0]),
  .inl (.int, 20, fun _ => none),
  .inl (.int, 20, fun _ => none),
  .inr (1, [4, 54, 64, 65]),
  .inl (.int, 8, fun _ => none),
  .inl (.int, 32, fun _ => none),
  .inr (8, [0, 67]),
  .inl (.int, 300, fun _ => none),
  .inr (12, [69, 70, 71, 0, 0, 0, 72, 73, 74, 75, 76, 0, 0, 0, 0, 0, 0, 0, 0, 0, 77, 78, 0, 79, 80, 0, 0, 0, 81, 82, 0, 83, 84, 85, 86, 0, 87, 88, 89]),
  .inl (.int, 270, fun _ => none),
  .inl (.int, 270, fun _ => none),
  .inl (.byte, 300, fun _ => none),
  .inl (.int, 4, fun _ => none),
  .inl (.int, 24, fun _ => none),
  .inl (.int, 24, fun _ => none),
  .inl (.int, 1600, fun _ => none),
  .inl (.int, 1600, fun _ => none),
  .inl (.int, 40, fun _ => none),
  .inl (.int, 41, fun _ => none),
  .inl (.int, 80, fun _ => none),
  .inl (.int, 80, fun _ => none),
  .inl (.int, 6, fun _ => none),
  .inl (.int, 6, fun _ => none),
  .inl (.int, 400, fun _ => none),
  .inl (.int, 400, fun _ => none),
  .inl (.int, 13, fun _ => none),
  .inl (.long, 200, fun _ => none),
  .inl (.int, 20, fun _ => none),
  .inl (.int, 20, fun _ => none),
  .inl (.int, 300, fun _ => none)]
theorem sh_0 : SH[0]? = some (.inr (11, [4, 12, 20, 49, 22, 54, 60, 63, 66])) := rfl
theorem sh_1 : SH[1]? = some (.inr (6, [5, 6, 7, 8, 9, 10, 11, 0, 0, 0, 0, 0, 0])) := rfl
theorem sh_2 : SH[2]? = some (.inl (.int, 12, fun _ => none)) := rfl
theorem sh_3 : SH[3]? = some (.inl (.int, 12, fun _ => none)) := rfl
theorem sh_4 : SH[4]? = some (.inl (.int, 12, fun _ => none)) := rfl
theorem sh_5 : SH[5]? = some (.inl (.int, 30, fun _ => none)) := rfl
theorem sh_6 : SH[6]? = some (.inl (.int, 120, fun _ => none)) := rfl
theorem sh_7 : SH[7]? = some (.inl (.int, 10, fun _ => none)) := rfl
theorem sh_8 : SH[8]? = some (.inl (.int, 60, fun _ => none)) := rfl
theorem sh_9 : SH[9]? = some (.inr (6, [13, 14, 15, 16, 17, 18, 19, 0, 0, 0, 0, 0, 0])) := rfl
theorem sh_10 : SH[10]? = some (.inl (.int, 12, fun _ => none)) := rfl
theorem sh_11 : SH[11]? = some (.inl (.int, 12, fun _ => none)) := rfl
theorem sh_12 : SH[12]? = some (.inl (.int, 12, fun _ => none)) := rfl
theorem sh_13 : SH[13]? = some (.inl (.int, 30, fun _ => none)) := rfl
theorem sh_14 : SH[14]? = some (.inl (.int, 120, fun _ => none)) := rfl
theorem sh_15 : SH[15]? = some (.inl (.int, 10, fun _ => none)) := rfl
theorem sh_16 : SH[16]? = some (.inl (.int, 60, fun _ => none)) := rfl
theorem sh_17 : SH[17]? = some (.inr (9, [21, 0])) := rfl
theorem sh_18 : SH[18]? = some (.inl (.int, 300, fun _ => none)) := rfl
theorem sh_19 : SH[19]? = some (.inr (7, [4, 23, 28])) := rfl
theorem sh_20 : SH[20]? = some (.inr (3, [24, 25, 26, 27, 0, 0])) := rfl
theorem sh_21 : SH[21]? = some (.inl (.int, 300, fun _ => none)) := rfl
theorem sh_22 : SH[22]? = some (.inl (.int, 6, fun _ => none)) := rfl
theorem sh_23 : SH[23]? = some (.inl (.int, 6, fun _ => none)) := rfl
theorem sh_24 : SH[24]? = some (.inl (.int, 6, fun _ => none)) := rfl
theorem sh_25 : SH[25]? = some (.inl (.object "WarrantWeather$Law", 4, fun j => if j < 4 then some (26 + 5 * j) else none)) := rfl
theorem sh_26 : SH[26]? = some (.inr (3, [30, 31, 32, 33, 0, 0])) := rfl
theorem sh_27 : SH[27]? = some (.inl (.int, 300, fun _ => none)) := rfl
theorem sh_28 : SH[28]? = some (.inl (.int, 6, fun _ => none)) := rfl
theorem sh_29 : SH[29]? = some (.inl (.int, 6, fun _ => none)) := rfl
theorem sh_30 : SH[30]? = some (.inl (.int, 6, fun _ => none)) := rfl
theorem sh_31 : SH[31]? = some (.inr (3, [35, 36, 37, 38, 0, 0])) := rfl
theorem sh_32 : SH[32]? = some (.inl (.int, 300, fun _ => none)) := rfl
theorem sh_33 : SH[33]? = some (.inl (.int, 6, fun _ => none)) := rfl
theorem sh_34 : SH[34]? = some (.inl (.int, 6, fun _ => none)) := rfl
theorem sh_35 : SH[35]? = some (.inl (.int, 6, fun _ => none)) := rfl
theorem sh_36 : SH[36]? = some (.inr (3, [40, 41, 42, 43, 0, 0])) := rfl
theorem sh_37 : SH[37]? = some (.inl (.int, 300, fun _ => none)) := rfl
theorem sh_38 : SH[38]? = some (.inl (.int, 6, fun _ => none)) := rfl
theorem sh_39 : SH[39]? = some (.inl (.int, 6, fun _ => none)) := rfl
theorem sh_40 : SH[40]? = some (.inl (.int, 6, fun _ => none)) := rfl
theorem sh_41 : SH[41]? = some (.inr (3, [45, 46, 47, 48, 0, 0])) := rfl
theorem sh_42 : SH[42]? = some (.inl (.int, 300, fun _ => none)) := rfl
theorem sh_43 : SH[43]? = some (.inl (.int, 6, fun _ => none)) := rfl
theorem sh_44 : SH[44]? = some (.inl (.int, 6, fun _ => none)) := rfl
theorem sh_45 : SH[45]? = some (.inl (.int, 6, fun _ => none)) := rfl
theorem sh_46 : SH[46]? = some (.inr (5, [0, 0, 0, 50, 2, 0, 0])) := rfl
theorem sh_47 : SH[47]? = some (.inr (10, [51, 52, 53, 0])) := rfl
theorem sh_48 : SH[48]? = some (.inl (.int, 301, fun _ => none)) := rfl
theorem sh_49 : SH[49]? = some (.inl (.int, 301, fun _ => none)) := rfl
theorem sh_50 : SH[50]? = some (.inl (.int, 301, fun _ => none)) := rfl
theorem sh_51 : SH[51]? = some (.inr (2, [0, 0, 4, 22, 55, 58, 59, 0, 0, 0])) := rfl
theorem sh_52 : SH[52]? = some (.inr (0, [56, 57])) := rfl
theorem sh_53 : SH[53]? = some (.inl (.int, 40, fun _ => none)) := rfl
theorem sh_54 : SH[54]? = some (.inl (.int, 13, fun _ => none)) := rfl
theorem sh_55 : SH[55]? = some (.inl (.int, 12, fun _ => none)) := rfl
theorem sh_56 : SH[56]? = some (.inl (.int, 12, fun _ => none)) := rfl
theorem sh_57 : SH[57]? = some (.inr (4, [0, 0, 4, 54, 61, 62, 0, 0, 0])) := rfl
theorem sh_58 : SH[58]? = some (.inl (.int, 20, fun _ => none)) := rfl
theorem sh_59 : SH[59]? = some (.inl (.int, 20, fun _ => none)) := rfl
theorem sh_60 : SH[60]? = some (.inr (1, [4, 54, 64, 65])) := rfl
theorem sh_61 : SH[61]? = some (.inl (.int, 8, fun _ => none)) := rfl
theorem sh_62 : SH[62]? = some (.inl (.int, 32, fun _ => none)) := rfl
theorem sh_63 : SH[63]? = some (.inr (8, [0, 67])) := rfl
theorem sh_64 : SH[64]? = some (.inl (.int, 300, fun _ => none)) := rfl
theorem sh_65 : SH[65]? = some (.inr (12, [69, 70, 71, 0, 0, 0, 72, 73, 74, 75, 76, 0, 0, 0, 0, 0, 0, 0, 0, 0, 77, 78, 0, 79, 80, 0, 0, 0, 81, 82, 0, 83, 84, 85, 86, 0, 87, 88, 89])) := rfl
theorem sh_66 : SH[66]? = some (.inl (.int, 270, fun _ => none)) := rfl
theorem sh_67 : SH[67]? = some (.inl (.int, 270, fun _ => none)) := rfl
theorem sh_68 : SH[68]? = some (.inl (.byte, 300, fun _ => none)) := rfl
theorem sh_69 : SH[69]? = some (.inl (.int, 4, fun _ => none)) := rfl
theorem sh_70 : SH[70]? = some (.inl (.int, 24, fun _ => none)) := rfl
theorem sh_71 : SH[71]? = some (.inl (.int, 24, fun _ => none)) := rfl
theorem sh_72 : SH[72]? = some (.inl (.int, 1600, fun _ => none)) := rfl
theorem sh_73 : SH[73]? = some (.inl (.int, 1600, fun _ => none)) := rfl
theorem sh_74 : SH[74]? = some (.inl (.int, 40, fun _ => none)) := rfl
theorem sh_75 : SH[75]? = some (.inl (.int, 41, fun _ => none)) := rfl
theorem sh_76 : SH[76]? = some (.inl (.int, 80, fun _ => none)) := rfl
theorem sh_77 : SH[77]? = some (.inl (.int, 80, fun _ => none)) := rfl
theorem sh_78 : SH[78]? = some (.inl (.int, 6, fun _ => none)) := rfl
theorem sh_79 : SH[79]? = some (.inl (.int, 6, fun _ => none)) := rfl
theorem sh_80 : SH[80]? = some (.inl (.int, 400, fun _ => none)) := rfl
theorem sh_81 : SH[81]? = some (.inl (.int, 400, fun _ => none)) := rfl
theorem sh_82 : SH[82]? = some (.inl (.int, 13, fun _ => none)) := rfl
theorem sh_83 : SH[83]? = some (.inl (.long, 200, fun _ => none)) := rfl
theorem sh_84 : SH[84]? = some (.inl (.int, 20, fun _ => none)) := rfl
theorem sh_85 : SH[85]? = some (.inl (.int, 20, fun _ => none)) := rfl
theorem sh_86 : SH[86]? = some (.inl (.int, 300, fun _ => none)) := rfl
/-- the cells that are laws -/
def lawB (q : Nat) : Bool := q == 20 || q == 26 || q == 31 || q == 36 || q == 41
theorem lawB_of {q : Nat} (h : lawB q = true) : q = 20 ∨ q = 26 ∨ q = 31 ∨ q = 36 ∨ q = 41 := by
  simp only [lawB, Bool.or_eq_true, beq_iff_eq] at h
  omega
theorem lawB_lt {q : Nat} (h : lawB q = true) : q < 2 ^ 31 := by have := lawB_of h; omega
theorem sh_law {q : Nat} (h : lawB q = true) : SH[q]? = some (.inr (3, [q + 1 + 3, q + 2 + 3, q + 3 + 3, q + 4 + 3, 0, 0])) := by rcases lawB_of h with rfl | rfl | rfl | rfl | rfl <;> rfl
theorem sh_law1 {q : Nat} (h : lawB q = true) : SH[q + 1]? = some (.inl (.int, 300, fun _ => none)) := by rcases lawB_of h with rfl | rfl | rfl | rfl | rfl <;> rfl
theorem sh_law2 {q : Nat} (h : lawB q = true) : SH[q + 2]? = some (.inl (.int, 6, fun _ => none)) := by rcases lawB_of h with rfl | rfl | rfl | rfl | rfl <;> rfl
theorem sh_law3 {q : Nat} (h : lawB q = true) : SH[q + 3]? = some (.inl (.int, 6, fun _ => none)) := by rcases lawB_of h with rfl | rfl | rfl | rfl | rfl <;> rfl
theorem sh_law4 {q : Nat} (h : lawB q = true) : SH[q + 4]? = some (.inl (.int, 6, fun _ => none)) := by rcases lawB_of h with rfl | rfl | rfl | rfl | rfl <;> rfl
theorem law_lt {i : Int32} (h : xI i 4 = true) : i.toNatClampNeg < 4 := by
  have h1 := of_decide_eq_true h
  show i.toInt.toNat < 4
  omega
theorem law_at {i : Int32} (h : xI i 4 = true) : lawB (26 + 5 * i.toNatClampNeg) = true := by
  have h1 := law_lt h
  generalize i.toNatClampNeg = j at h1 ⊢
  rcases (show j = 0 ∨ j = 1 ∨ j = 2 ∨ j = 3 by omega) with rfl | rfl | rfl | rfl <;> rfl
theorem law_f {i : Int32} (h : xI i 4 = true) : (fun j => if j < 4 then some (26 + 5 * j) else none) i.toNatClampNeg = some (26 + 5 * i.toNatClampNeg) := if_pos (law_lt h)
end
section
def M_Arrays_fill : xM := (⟨"java/util/Arrays", "fill", "([II)V"⟩, prog_20_method_103_code, 4, none, 0, 0)
theorem e0_Arrays_fill : xE0 M_Arrays_fill 2 := ⟨xin 65 (by decide +kernel) rfl, xin 99 (by decide +kernel) rfl, by decide⟩
theorem d_Arrays_fill_0 : decode M_Arrays_fill.2.1 0 = .ok (.iconst 0, 1) := by decide +kernel
theorem d_Arrays_fill_1 : decode M_Arrays_fill.2.1 1 = .ok (.istore_n 2, 1) := by decide +kernel
theorem d_Arrays_fill_2 : decode M_Arrays_fill.2.1 2 = .ok (.aload_n 0, 1) := by decide +kernel
theorem d_Arrays_fill_3 : decode M_Arrays_fill.2.1 3 = .ok (.arraylength, 1) := by decide +kernel
theorem d_Arrays_fill_4 : decode M_Arrays_fill.2.1 4 = .ok (.istore_n 3, 1) := by decide +kernel
theorem d_Arrays_fill_5 : decode M_Arrays_fill.2.1 5 = .ok (.iload_n 2, 1) := by decide +kernel
theorem d_Arrays_fill_6 : decode M_Arrays_fill.2.1 6 = .ok (.iload_n 3, 1) := by decide +kernel
theorem d_Arrays_fill_7 : decode M_Arrays_fill.2.1 7 = .ok (.if_icmp .ge 13, 3) := by decide +kernel
theorem d_Arrays_fill_10 : decode M_Arrays_fill.2.1 10 = .ok (.aload_n 0, 1) := by decide +kernel
theorem d_Arrays_fill_11 : decode M_Arrays_fill.2.1 11 = .ok (.iload_n 2, 1) := by decide +kernel
theorem d_Arrays_fill_12 : decode M_Arrays_fill.2.1 12 = .ok (.iload_n 1, 1) := by decide +kernel
theorem d_Arrays_fill_13 : decode M_Arrays_fill.2.1 13 = .ok (.iastore, 1) := by decide +kernel
theorem d_Arrays_fill_14 : decode M_Arrays_fill.2.1 14 = .ok (.iinc 2 1, 3) := by decide +kernel
theorem d_Arrays_fill_17 : decode M_Arrays_fill.2.1 17 = .ok (.goto (-12), 3) := by decide +kernel
theorem d_Arrays_fill_20 : decode M_Arrays_fill.2.1 20 = .ok (.return_, 1) := by decide +kernel
/-! METHODS and links (printed by wip/whole/main.py) -/
def M_Ww_within : xM := (⟨"WarrantWeather", "within", "(II)Z"⟩, prog_1_method_34_code, 2, (Option.some FieldType.boolean), 0, 0)
def M_Rolls_enrol : xM := (⟨"WarrantWeather$Rolls", "enrol", "(III)I"⟩, prog_8_method_3_code, 4, (Option.some FieldType.int), 0, 0)
def M_Ww_folk : xM := (⟨"WarrantWeather", "folk", "(III)I"⟩, prog_1_method_2_code, 4, (Option.some FieldType.int), 0, 0)
def M_Ww_sky : xM := (⟨"WarrantWeather", "sky", "(II)Z"⟩, prog_1_method_3_code, 3, (Option.some FieldType.boolean), 0, 0)
def M_Rolls_wetDays : xM := (⟨"WarrantWeather$Rolls", "wetDays", "()I"⟩, prog_8_method_13_code, 3, (Option.some FieldType.int), 0, 0)
def M_Ww_skies : xM := (⟨"WarrantWeather", "skies", "(I)I"⟩, prog_1_method_4_code, 4, (Option.some FieldType.int), 0, 0)
def M_Rolls_stamp : xM := (⟨"WarrantWeather$Rolls", "stamp", "(III)Z"⟩, prog_8_method_11_code, 5, (Option.some FieldType.boolean), 0, 0)
def M_Ww_decree : xM := (⟨"WarrantWeather", "decree", "(IIZ)Z"⟩, prog_1_method_5_code, 4, (Option.some FieldType.boolean), 0, 0)
def M_Ww_chance : xM := (⟨"WarrantWeather", "chance", "(II)Z"⟩, prog_1_method_6_code, 3, (Option.some FieldType.boolean), 0, 0)
def M_Ww_ruin : xM := (⟨"WarrantWeather", "ruin", "(I)Z"⟩, prog_1_method_7_code, 2, (Option.some FieldType.boolean), 0, 0)
def M_Tape_put : xM := (⟨"WarrantWeather$Tape", "put", "(I)V"⟩, prog_11_method_2_code, 3, none, 0, 0)
def M_Ww_feed : xM := (⟨"WarrantWeather", "feed", "(IIIII)I"⟩, prog_1_method_8_code, 6, (Option.some FieldType.int), 0, 0)
def M_Ww_end : xM := (⟨"WarrantWeather", "end", "(I)I"⟩, prog_1_method_9_code, 2, (Option.some FieldType.int), 0, 0)
def M_Shelf_at : xM := (⟨"WarrantWeather$Shelf", "at", "(I)LWarrantWeather$Law;"⟩, prog_9_method_2_code, 2, (Option.some (FieldType.object "WarrantWeather$Law")), 0, 0)
def M_Law_clear : xM := (⟨"WarrantWeather$Law", "clear", "()V"⟩, prog_5_method_2_code, 1, none, 0, 0)
def M_Tokens_put : xM := (⟨"WarrantWeather$Tokens", "put", "(III)V"⟩, prog_12_method_3_code, 4, none, 0, 0)
def M_Tape_at : xM := (⟨"WarrantWeather$Tape", "at", "(I)I"⟩, prog_11_method_3_code, 2, (Option.some FieldType.int), 0, 0)
def M_Tokens_isLetter : xM := (⟨"WarrantWeather$Tokens", "isLetter", "(I)Z"⟩, prog_12_method_4_code, 1, (Option.some FieldType.boolean), 0, 0)
def M_Tokens_isDigit : xM := (⟨"WarrantWeather$Tokens", "isDigit", "(I)Z"⟩, prog_12_method_5_code, 1, (Option.some FieldType.boolean), 0, 0)
def M_Tokens_stopOf : xM := (⟨"WarrantWeather$Tokens", "stopOf", "(LWarrantWeather$Tape;I)I"⟩, prog_12_method_6_code, 5, (Option.some FieldType.int), 0, 0)
def M_Tokens_numberOf : xM := (⟨"WarrantWeather$Tokens", "numberOf", "(LWarrantWeather$Tape;II)I"⟩, prog_12_method_10_code, 5, (Option.some FieldType.int), 0, 0)
def M_Tokens_signOf : xM := (⟨"WarrantWeather$Tokens", "signOf", "(IZ)I"⟩, prog_12_method_9_code, 2, (Option.some FieldType.int), 0, 0)
def M_Tokens_wordOf : xM := (⟨"WarrantWeather$Tokens", "wordOf", "(LWarrantWeather$Tape;II)I"⟩, prog_12_method_8_code, 8, (Option.some FieldType.int), 0, 0)
def M_Tokens_kindOf : xM := (⟨"WarrantWeather$Tokens", "kindOf", "(LWarrantWeather$Tape;II)I"⟩, prog_12_method_7_code, 4, (Option.some FieldType.int), 0, 0)
def M_Tokens_scan : xM := (⟨"WarrantWeather$Tokens", "scan", "(LWarrantWeather$Tape;)V"⟩, prog_12_method_2_code, 6, none, 0, 0)
def M_Reader_kind : xM := (⟨"WarrantWeather$Reader", "kind", "()I"⟩, prog_7_method_3_code, 1, (Option.some FieldType.int), 0, 0)
def M_Law_has : xM := (⟨"WarrantWeather$Law", "has", "(I)Z"⟩, prog_5_method_4_code, 2, (Option.some FieldType.boolean), 0, 0)
def M_Reader_wrong : xM := (⟨"WarrantWeather$Reader", "wrong", "(I)Z"⟩, prog_7_method_5_code, 2, (Option.some FieldType.boolean), 0, 0)
def M_Reader_value : xM := (⟨"WarrantWeather$Reader", "value", "()I"⟩, prog_7_method_4_code, 1, (Option.some FieldType.int), 0, 0)
def M_Reader_faultOfPlain : xM := (⟨"WarrantWeather$Reader", "faultOfPlain", "(II)I"⟩, prog_7_method_11_code, 4, (Option.some FieldType.int), 0, 0)
def M_Reader_emitIf : xM := (⟨"WarrantWeather$Reader", "emitIf", "(ZI)V"⟩, prog_7_method_12_code, 3, none, 0, 0)
def M_Reader_readOne : xM := (⟨"WarrantWeather$Reader", "readOne", "(I)Z"⟩, prog_7_method_10_code, 4, (Option.some FieldType.boolean), 0, 0)
def M_Reader_readSum : xM := (⟨"WarrantWeather$Reader", "readSum", "(I)Z"⟩, prog_7_method_9_code, 5, (Option.some FieldType.boolean), 0, 0)
def M_Reader_readAsk : xM := (⟨"WarrantWeather$Reader", "readAsk", "()Z"⟩, prog_7_method_8_code, 3, (Option.some FieldType.boolean), 0, 0)
def M_Reader_readEither : xM := (⟨"WarrantWeather$Reader", "readEither", "()Z"⟩, prog_7_method_7_code, 4, (Option.some FieldType.boolean), 0, 0)
def M_Law_enter : xM := (⟨"WarrantWeather$Law", "enter", "(II)V"⟩, prog_5_method_3_code, 3, none, 0, 0)
def M_Reader_readClause : xM := (⟨"WarrantWeather$Reader", "readClause", "()Z"⟩, prog_7_method_6_code, 3, (Option.some FieldType.boolean), 0, 0)
def M_Reader_read : xM := (⟨"WarrantWeather$Reader", "read", "(LWarrantWeather$Tape;LWarrantWeather$Law;)Z"⟩, prog_7_method_2_code, 4, (Option.some FieldType.boolean), 0, 0)
def M_Ww_text : xM := (⟨"WarrantWeather", "text", "()I"⟩, prog_1_method_10_code, 3, (Option.some FieldType.int), 0, 0)
def M_Ww_fault : xM := (⟨"WarrantWeather", "fault", "(I)I"⟩, prog_1_method_11_code, 2, (Option.some FieldType.int), 0, 0)
def M_Ww_by : xM := (⟨"WarrantWeather", "by", "(I)Z"⟩, prog_1_method_12_code, 2, (Option.some FieldType.boolean), 0, 0)
def M_Ww_areDays : xM := (⟨"WarrantWeather", "areDays", "(II)Z"⟩, prog_1_method_35_code, 2, (Option.some FieldType.boolean), 0, 0)
def M_Shelf_ruling : xM := (⟨"WarrantWeather$Shelf", "ruling", "()LWarrantWeather$Law;"⟩, prog_9_method_3_code, 3, (Option.some (FieldType.object "WarrantWeather$Law")), 0, 0)
def M_Bench_tell : xM := (⟨"WarrantWeather$Bench", "tell", "(II)V"⟩, prog_2_method_2_code, 3, none, 0, 0)
def M_Rolls_decreeOf : xM := (⟨"WarrantWeather$Rolls", "decreeOf", "(II)I"⟩, prog_8_method_7_code, 4, (Option.some FieldType.int), 0, 0)
def M_Rolls_lastOf : xM := (⟨"WarrantWeather$Rolls", "lastOf", "(II)I"⟩, prog_8_method_8_code, 3, (Option.some FieldType.int), 0, 0)
def M_Rolls_skyOf : xM := (⟨"WarrantWeather$Rolls", "skyOf", "(I)I"⟩, prog_8_method_6_code, 2, (Option.some FieldType.int), 0, 0)
def M_Rolls_seenOn : xM := (⟨"WarrantWeather$Rolls", "seenOn", "(I)I"⟩, prog_8_method_9_code, 2, (Option.some FieldType.int), 0, 0)
def M_Law_stopOf : xM := (⟨"WarrantWeather$Law", "stopOf", "(I)I"⟩, prog_5_method_6_code, 2, (Option.some FieldType.int), 0, 0)
def M_Law_startOf : xM := (⟨"WarrantWeather$Law", "startOf", "(I)I"⟩, prog_5_method_5_code, 2, (Option.some FieldType.int), 0, 0)
def M_Bench_worked : xM := (⟨"WarrantWeather$Bench", "worked", "(IJJ)J"⟩, prog_2_method_5_code, 5, (Option.some FieldType.long), 0, 0)
def M_Bench_held : xM := (⟨"WarrantWeather$Bench", "held", "(J)I"⟩, prog_2_method_4_code, 2, (Option.some FieldType.int), 0, 0)
def M_Bench_run : xM := (⟨"WarrantWeather$Bench", "run", "(LWarrantWeather$Law;I)I"⟩, prog_2_method_3_code, 8, (Option.some FieldType.int), 0, 0)
def M_Court_comesTo : xM := (⟨"WarrantWeather$Court", "comesTo", "(I)I"⟩, prog_4_method_17_code, 2, (Option.some FieldType.int), 0, 0)
def M_Court_warrantFor : xM := (⟨"WarrantWeather$Court", "warrantFor", "(II)I"⟩, prog_4_method_14_code, 3, (Option.some FieldType.int), 0, 0)
def M_Ww_warrant : xM := (⟨"WarrantWeather", "warrant", "(II)I"⟩, prog_1_method_13_code, 6, (Option.some FieldType.int), 0, 0)
def M_Law_asks : xM := (⟨"WarrantWeather$Law", "asks", "(II)Z"⟩, prog_5_method_8_code, 5, (Option.some FieldType.boolean), 0, 0)
def M_Ww_letGo : xM := (⟨"WarrantWeather", "letGo", "()I"⟩, prog_1_method_14_code, 2, (Option.some FieldType.int), 0, 0)
def M_Rolls_takeBack : xM := (⟨"WarrantWeather$Rolls", "takeBack", "()I"⟩, prog_8_method_12_code, 3, (Option.some FieldType.int), 0, 0)
def M_Ww_undo : xM := (⟨"WarrantWeather", "undo", "()I"⟩, prog_1_method_15_code, 1, (Option.some FieldType.int), 0, 0)
def M_Court_call : xM := (⟨"WarrantWeather$Court", "call", "(I)V"⟩, prog_4_method_16_code, 2, none, 0, 0)
def M_Court_sit : xM := (⟨"WarrantWeather$Court", "sit", "(III)V"⟩, prog_4_method_3_code, 6, none, 0, 0)
def M_Court_sitAsItIs : xM := (⟨"WarrantWeather$Court", "sitAsItIs", "(II)V"⟩, prog_4_method_2_code, 3, none, 0, 0)
def M_Ww_of : xM := (⟨"WarrantWeather", "of", "(III)I"⟩, prog_1_method_16_code, 4, (Option.some FieldType.int), 0, 0)
def M_Rolls_homeOf : xM := (⟨"WarrantWeather$Rolls", "homeOf", "(I)I"⟩, prog_8_method_4_code, 2, (Option.some FieldType.int), 0, 0)
def M_Court_actOf : xM := (⟨"WarrantWeather$Court", "actOf", "(I)I"⟩, prog_4_method_5_code, 2, (Option.some FieldType.int), 0, 0)
def M_Ww_between : xM := (⟨"WarrantWeather", "between", "(III)I"⟩, prog_1_method_36_code, 3, (Option.some FieldType.int), 0, 0)
def M_Court_fineOf : xM := (⟨"WarrantWeather$Court", "fineOf", "(I)I"⟩, prog_4_method_7_code, 2, (Option.some FieldType.int), 0, 0)
def M_Court_appealOf : xM := (⟨"WarrantWeather$Court", "appealOf", "(I)I"⟩, prog_4_method_6_code, 2, (Option.some FieldType.int), 0, 0)
def M_Ww_on : xM := (⟨"WarrantWeather", "on", "(III)I"⟩, prog_1_method_17_code, 4, (Option.some FieldType.int), 0, 0)
def M_Court_gainOf : xM := (⟨"WarrantWeather$Court", "gainOf", "(IZ)I"⟩, prog_4_method_8_code, 4, (Option.some FieldType.int), 0, 0)
def M_Ww_gain : xM := (⟨"WarrantWeather", "gain", "(IIZ)I"⟩, prog_1_method_18_code, 4, (Option.some FieldType.int), 0, 0)
def M_Court_addGains : xM := (⟨"WarrantWeather$Court", "addGains", "(IZ)I"⟩, prog_4_method_12_code, 6, (Option.some FieldType.int), 0, 0)
def M_Court_tally : xM := (⟨"WarrantWeather$Court", "tally", "(IIIZ)I"⟩, prog_4_method_11_code, 8, (Option.some FieldType.int), 0, 0)
def M_Ww_sum : xM := (⟨"WarrantWeather", "sum", "(IIIZ)I"⟩, prog_1_method_19_code, 5, (Option.some FieldType.int), 0, 0)
def M_Court_totalOf : xM := (⟨"WarrantWeather$Court", "totalOf", "(I)I"⟩, prog_4_method_13_code, 2, (Option.some FieldType.int), 0, 0)
def M_Ww_ruined : xM := (⟨"WarrantWeather", "ruined", "(I)I"⟩, prog_1_method_20_code, 4, (Option.some FieldType.int), 0, 0)
def M_Court_moreByOther : xM := (⟨"WarrantWeather$Court", "moreByOther", "(II)I"⟩, prog_4_method_10_code, 5, (Option.some FieldType.int), 0, 0)
def M_Ww_led : xM := (⟨"WarrantWeather", "led", "(II)I"⟩, prog_1_method_21_code, 7, (Option.some FieldType.int), 0, 0)
def M_Ww_commonOf : xM := (⟨"WarrantWeather", "commonOf", "(II)I"⟩, prog_1_method_37_code, 6, (Option.some FieldType.int), 0, 0)
def M_Court_allDoAlike : xM := (⟨"WarrantWeather$Court", "allDoAlike", "(I)Z"⟩, prog_4_method_4_code, 3, (Option.some FieldType.boolean), 0, 0)
def M_Ww_odds : xM := (⟨"WarrantWeather", "odds", "(III)I"⟩, prog_1_method_22_code, 7, (Option.some FieldType.int), 0, 0)
def M_Planner_follow : xM := (⟨"WarrantWeather$Planner", "follow", "(IIII)V"⟩, prog_6_method_3_code, 8, none, 0, 0)
def M_Court_provinceGain : xM := (⟨"WarrantWeather$Court", "provinceGain", "(III)I"⟩, prog_4_method_9_code, 6, (Option.some FieldType.int), 0, 0)
def M_Planner_draw : xM := (⟨"WarrantWeather$Planner", "draw", "(III)V"⟩, prog_6_method_2_code, 5, none, 0, 0)
def M_Ww_plan : xM := (⟨"WarrantWeather", "plan", "(IIII)I"⟩, prog_1_method_23_code, 5, (Option.some FieldType.int), 0, 0)
def M_Rolls_ruleKey : xM := (⟨"WarrantWeather$Rolls", "ruleKey", "(II)I"⟩, prog_8_method_10_code, 3, (Option.some FieldType.int), 0, 0)
def M_Ww_found : xM := (⟨"WarrantWeather", "found", "(II)I"⟩, prog_1_method_24_code, 5, (Option.some FieldType.int), 0, 0)
def M_Court_tollFor : xM := (⟨"WarrantWeather$Court", "tollFor", "(IIII)I"⟩, prog_4_method_15_code, 5, (Option.some FieldType.int), 0, 0)
def M_Council_weigh : xM := (⟨"WarrantWeather$Council", "weigh", "(I)V"⟩, prog_3_method_2_code, 4, none, 0, 0)
def M_Council_shareOf : xM := (⟨"WarrantWeather$Council", "shareOf", "(II)I"⟩, prog_3_method_4_code, 7, (Option.some FieldType.int), 0, 0)
def M_Council_isEven : xM := (⟨"WarrantWeather$Council", "isEven", "(I)Z"⟩, prog_3_method_3_code, 3, (Option.some FieldType.boolean), 0, 0)
def M_Ww_even : xM := (⟨"WarrantWeather", "even", "(II)I"⟩, prog_1_method_25_code, 5, (Option.some FieldType.int), 0, 0)
def M_Rolls_wetDecreesOn : xM := (⟨"WarrantWeather$Rolls", "wetDecreesOn", "(I)I"⟩, prog_8_method_14_code, 4, (Option.some FieldType.int), 0, 0)
def M_Ww_flood : xM := (⟨"WarrantWeather", "flood", "(I)I"⟩, prog_1_method_26_code, 4, (Option.some FieldType.int), 0, 0)
def M_Law_clauseAt : xM := (⟨"WarrantWeather$Law", "clauseAt", "(I)I"⟩, prog_5_method_7_code, 2, (Option.some FieldType.int), 0, 0)
def M_Ww_reform : xM := (⟨"WarrantWeather", "reform", "(I)I"⟩, prog_1_method_27_code, 10, (Option.some FieldType.int), 0, 0)
def M_Song_isVowel : xM := (⟨"WarrantWeather$Song", "isVowel", "(I)Z"⟩, prog_10_method_4_code, 1, (Option.some FieldType.boolean), 0, 0)
def M_Song_read : xM := (⟨"WarrantWeather$Song", "read", "(LWarrantWeather$Tape;)Z"⟩, prog_10_method_2_code, 5, (Option.some FieldType.boolean), 0, 0)
def M_Ww_songFits : xM := (⟨"WarrantWeather", "songFits", "(II)Z"⟩, prog_1_method_33_code, 3, (Option.some FieldType.boolean), 0, 0)
def M_Song_skyOf : xM := (⟨"WarrantWeather$Song", "skyOf", "(II)I"⟩, prog_10_method_3_code, 3, (Option.some FieldType.int), 0, 0)
def M_Ww_sing : xM := (⟨"WarrantWeather", "sing", "(II)I"⟩, prog_1_method_28_code, 4, (Option.some FieldType.int), 0, 0)
def M_Ww_heard : xM := (⟨"WarrantWeather", "heard", "(II)I"⟩, prog_1_method_29_code, 5, (Option.some FieldType.int), 0, 0)
def M_Rolls_takeOver : xM := (⟨"WarrantWeather$Rolls", "takeOver", "(LWarrantWeather$Rolls;)V"⟩, prog_8_method_2_code, 2, none, 0, 0)
def M_Ww_image : xM := (⟨"WarrantWeather", "image", "()I"⟩, prog_1_method_30_code, 1, (Option.some FieldType.int), 0, 0)
def M_Ww_back : xM := (⟨"WarrantWeather", "back", "()I"⟩, prog_1_method_31_code, 1, (Option.some FieldType.int), 0, 0)
def M_Rolls_entryOf : xM := (⟨"WarrantWeather$Rolls", "entryOf", "(I)I"⟩, prog_8_method_5_code, 2, (Option.some FieldType.int), 0, 0)
def M_Rolls_wetDecrees : xM := (⟨"WarrantWeather$Rolls", "wetDecrees", "()I"⟩, prog_8_method_15_code, 3, (Option.some FieldType.int), 0, 0)
def M_Ww_about : xM := (⟨"WarrantWeather", "about", "(I)I"⟩, prog_1_method_32_code, 2, (Option.some FieldType.int), 0, 0)
def M_Md_in : xM := (⟨"WarrantWeatherModel", "in", "(III)Z"⟩, prog_14_method_2_code, 3, (Option.some FieldType.boolean), 0, 0)
def M_Md_isProvince : xM := (⟨"WarrantWeatherModel", "isProvince", "(I)Z"⟩, prog_14_method_5_code, 1, (Option.some FieldType.boolean), 0, 0)
def M_Md_folk : xM := (⟨"WarrantWeatherModel", "folk", "(III)I"⟩, prog_14_method_9_code, 5, (Option.some FieldType.int), 0, 0)
def M_Md_isDay : xM := (⟨"WarrantWeatherModel", "isDay", "(I)Z"⟩, prog_14_method_4_code, 1, (Option.some FieldType.boolean), 0, 0)
def M_Md_sky : xM := (⟨"WarrantWeatherModel", "sky", "(II)Z"⟩, prog_14_method_10_code, 3, (Option.some FieldType.boolean), 0, 0)
def M_Md_wetDays : xM := (⟨"WarrantWeatherModel", "wetDays", "()I"⟩, prog_14_method_11_code, 3, (Option.some FieldType.int), 0, 0)
def M_Md_skies : xM := (⟨"WarrantWeatherModel", "skies", "(I)I"⟩, prog_14_method_12_code, 4, (Option.some FieldType.int), 0, 0)
def M_Md_decrees : xM := (⟨"WarrantWeatherModel", "decrees", "(III)Z"⟩, prog_14_method_13_code, 6, (Option.some FieldType.boolean), 0, 0)
def M_Md_decree : xM := (⟨"WarrantWeatherModel", "decree", "(IIZ)Z"⟩, prog_14_method_14_code, 5, (Option.some FieldType.boolean), 0, 0)
def M_Md_chance : xM := (⟨"WarrantWeatherModel", "chance", "(II)Z"⟩, prog_14_method_15_code, 3, (Option.some FieldType.boolean), 0, 0)
def M_Md_ruin : xM := (⟨"WarrantWeatherModel", "ruin", "(I)Z"⟩, prog_14_method_16_code, 2, (Option.some FieldType.boolean), 0, 0)
def M_Md_put : xM := (⟨"WarrantWeatherModel", "put", "(I)V"⟩, prog_14_method_17_code, 3, none, 0, 0)
def M_Md_feed : xM := (⟨"WarrantWeatherModel", "feed", "(IIIII)I"⟩, prog_14_method_18_code, 6, (Option.some FieldType.int), 0, 0)
def M_Md_end : xM := (⟨"WarrantWeatherModel", "end", "(I)I"⟩, prog_14_method_19_code, 2, (Option.some FieldType.int), 0, 0)
def M_Md_isLetter : xM := (⟨"WarrantWeatherModel", "isLetter", "(I)Z"⟩, prog_14_method_20_code, 1, (Option.some FieldType.boolean), 0, 0)
def M_Md_wordOf : xM := (⟨"WarrantWeatherModel", "wordOf", "(J)I"⟩, prog_14_method_21_code, 2, (Option.some FieldType.int), 0, 0)
def M_Md_next : xM := (⟨"WarrantWeatherModel", "next", "()V"⟩, prog_14_method_22_code, 5, none, 0, 0)
def M_Md_isWord : xM := (⟨"WarrantWeatherModel", "isWord", "(I)Z"⟩, prog_14_method_24_code, 2, (Option.some FieldType.boolean), 0, 0)
def M_Md_opensFrame : xM := (⟨"WarrantWeatherModel", "opensFrame", "(I)V"⟩, prog_14_method_27_code, 2, none, 0, 0)
def M_Md_errs : xM := (⟨"WarrantWeatherModel", "errs", "(I)V"⟩, prog_14_method_25_code, 2, none, 0, 0)
def M_Md_opensSign : xM := (⟨"WarrantWeatherModel", "opensSign", "(I)Z"⟩, prog_14_method_29_code, 2, (Option.some FieldType.boolean), 0, 0)
def M_Md_asks : xM := (⟨"WarrantWeatherModel", "asks", "()V"⟩, prog_14_method_33_code, 2, none, 0, 0)
def M_Md_mayOf : xM := (⟨"WarrantWeatherModel", "mayOf", "(I)I"⟩, prog_14_method_34_code, 1, (Option.some FieldType.int), 0, 0)
def M_Md_emits : xM := (⟨"WarrantWeatherModel", "emits", "(II)V"⟩, prog_14_method_26_code, 3, none, 0, 0)
def M_Md_top : xM := (⟨"WarrantWeatherModel", "top", "()I"⟩, prog_14_method_28_code, 1, (Option.some FieldType.int), 0, 0)
def M_Md_oneIsOver : xM := (⟨"WarrantWeatherModel", "oneIsOver", "()V"⟩, prog_14_method_36_code, 1, none, 0, 0)
def M_Md_isSign : xM := (⟨"WarrantWeatherModel", "isSign", "(I)Z"⟩, prog_14_method_23_code, 2, (Option.some FieldType.boolean), 0, 0)
def M_Md_begins : xM := (⟨"WarrantWeatherModel", "begins", "()V"⟩, prog_14_method_35_code, 2, none, 0, 0)
def M_Md_rank : xM := (⟨"WarrantWeatherModel", "rank", "(I)I"⟩, prog_14_method_30_code, 1, (Option.some FieldType.int), 0, 0)
def M_Md_works : xM := (⟨"WarrantWeatherModel", "works", "(I)V"⟩, prog_14_method_31_code, 2, none, 0, 0)
def M_Md_waitsFor : xM := (⟨"WarrantWeatherModel", "waitsFor", "(I)V"⟩, prog_14_method_32_code, 2, none, 0, 0)
def M_Md_isAsking : xM := (⟨"WarrantWeatherModel", "isAsking", "(I)Z"⟩, prog_14_method_38_code, 1, (Option.some FieldType.boolean), 0, 0)
def M_Md_clauseIsOver : xM := (⟨"WarrantWeatherModel", "clauseIsOver", "()V"⟩, prog_14_method_41_code, 1, none, 0, 0)
def M_Md_askIsOver : xM := (⟨"WarrantWeatherModel", "askIsOver", "()V"⟩, prog_14_method_37_code, 1, none, 0, 0)
def M_Md_goesOn : xM := (⟨"WarrantWeatherModel", "goesOn", "()V"⟩, prog_14_method_39_code, 3, none, 0, 0)
def M_Md_asksOn : xM := (⟨"WarrantWeatherModel", "asksOn", "()V"⟩, prog_14_method_40_code, 1, none, 0, 0)
def M_Md_clause : xM := (⟨"WarrantWeatherModel", "clause", "()V"⟩, prog_14_method_42_code, 2, none, 0, 0)
def M_Md_text : xM := (⟨"WarrantWeatherModel", "text", "()I"⟩, prog_14_method_43_code, 3, (Option.some FieldType.int), 0, 0)
def M_Md_fault : xM := (⟨"WarrantWeatherModel", "fault", "(I)I"⟩, prog_14_method_44_code, 2, (Option.some FieldType.int), 0, 0)
def M_Md_by : xM := (⟨"WarrantWeatherModel", "by", "(I)Z"⟩, prog_14_method_48_code, 2, (Option.some FieldType.boolean), 0, 0)
def M_Md_hasClause : xM := (⟨"WarrantWeatherModel", "hasClause", "(I)Z"⟩, prog_14_method_49_code, 2, (Option.some FieldType.boolean), 0, 0)
def M_Md_decreeOf : xM := (⟨"WarrantWeatherModel", "decreeOf", "(II)I"⟩, prog_14_method_8_code, 3, (Option.some FieldType.int), 0, 0)
def M_Md_warrantNames : xM := (⟨"WarrantWeatherModel", "warrantNames", "(II)V"⟩, prog_14_method_51_code, 3, none, 0, 0)
def M_Md_bound : xM := (⟨"WarrantWeatherModel", "bound", "(J)J"⟩, prog_14_method_45_code, 2, (Option.some FieldType.long), 0, 0)
def M_Md_worked : xM := (⟨"WarrantWeatherModel", "worked", "(IJJ)J"⟩, prog_14_method_46_code, 5, (Option.some FieldType.long), 0, 0)
def M_Md_saysOf : xM := (⟨"WarrantWeatherModel", "saysOf", "(I)J"⟩, prog_14_method_47_code, 5, (Option.some FieldType.long), 0, 0)
def M_Md_says : xM := (⟨"WarrantWeatherModel", "says", "(I)J"⟩, prog_14_method_50_code, 2, (Option.some FieldType.long), 0, 0)
def M_Md_warrant : xM := (⟨"WarrantWeatherModel", "warrant", "(II)I"⟩, prog_14_method_52_code, 8, (Option.some FieldType.int), 0, 0)
def M_Md_letGo : xM := (⟨"WarrantWeatherModel", "letGo", "()I"⟩, prog_14_method_53_code, 3, (Option.some FieldType.int), 0, 0)
def M_Md_undo : xM := (⟨"WarrantWeatherModel", "undo", "()I"⟩, prog_14_method_54_code, 3, (Option.some FieldType.int), 0, 0)
def M_Md_provinceOf : xM := (⟨"WarrantWeatherModel", "provinceOf", "(I)I"⟩, prog_14_method_7_code, 2, (Option.some FieldType.int), 0, 0)
def M_Md_folkNames : xM := (⟨"WarrantWeatherModel", "folkNames", "(IIII)V"⟩, prog_14_method_55_code, 5, none, 0, 0)
def M_Md_does : xM := (⟨"WarrantWeatherModel", "does", "(IIII)Z"⟩, prog_14_method_56_code, 5, (Option.some FieldType.boolean), 0, 0)
def M_Md_hats : xM := (⟨"WarrantWeatherModel", "hats", "(IIII)I"⟩, prog_14_method_57_code, 8, (Option.some FieldType.int), 0, 0)
def M_Md_of : xM := (⟨"WarrantWeatherModel", "of", "(III)I"⟩, prog_14_method_63_code, 4, (Option.some FieldType.int), 0, 0)
def M_Md_isFolk : xM := (⟨"WarrantWeatherModel", "isFolk", "(I)Z"⟩, prog_14_method_6_code, 2, (Option.some FieldType.boolean), 0, 0)
def M_Md_appeals : xM := (⟨"WarrantWeatherModel", "appeals", "(IIII)Z"⟩, prog_14_method_58_code, 6, (Option.some FieldType.boolean), 0, 0)
def M_Md_held : xM := (⟨"WarrantWeatherModel", "held", "(JII)I"⟩, prog_14_method_59_code, 4, (Option.some FieldType.int), 0, 0)
def M_Md_fineOf : xM := (⟨"WarrantWeatherModel", "fineOf", "(IIII)I"⟩, prog_14_method_60_code, 6, (Option.some FieldType.int), 0, 0)
def M_Md_on : xM := (⟨"WarrantWeatherModel", "on", "(III)I"⟩, prog_14_method_64_code, 7, (Option.some FieldType.int), 0, 0)
def M_Md_gainOf : xM := (⟨"WarrantWeatherModel", "gainOf", "(IIIIZ)I"⟩, prog_14_method_61_code, 8, (Option.some FieldType.int), 0, 0)
def M_Md_gainAsIs : xM := (⟨"WarrantWeatherModel", "gainAsIs", "(IIZ)I"⟩, prog_14_method_62_code, 4, (Option.some FieldType.int), 0, 0)
def M_Md_gain : xM := (⟨"WarrantWeatherModel", "gain", "(IIZ)I"⟩, prog_14_method_65_code, 4, (Option.some FieldType.int), 0, 0)
def M_Md_sumOf : xM := (⟨"WarrantWeatherModel", "sumOf", "(IIIZ)I"⟩, prog_14_method_66_code, 7, (Option.some FieldType.int), 0, 0)
def M_Md_sumAll : xM := (⟨"WarrantWeatherModel", "sumAll", "(IIZ)I"⟩, prog_14_method_67_code, 6, (Option.some FieldType.int), 0, 0)
def M_Md_sum : xM := (⟨"WarrantWeatherModel", "sum", "(IIIZ)I"⟩, prog_14_method_68_code, 5, (Option.some FieldType.int), 0, 0)
def M_Md_ruined : xM := (⟨"WarrantWeatherModel", "ruined", "(I)I"⟩, prog_14_method_69_code, 4, (Option.some FieldType.int), 0, 0)
def M_Md_led : xM := (⟨"WarrantWeatherModel", "led", "(II)I"⟩, prog_14_method_70_code, 8, (Option.some FieldType.int), 0, 0)
def M_Md_isAlike : xM := (⟨"WarrantWeatherModel", "isAlike", "(III)Z"⟩, prog_14_method_71_code, 9, (Option.some FieldType.boolean), 0, 0)
def M_Md_odds : xM := (⟨"WarrantWeatherModel", "odds", "(III)I"⟩, prog_14_method_72_code, 9, (Option.some FieldType.int), 0, 0)
def M_Md_gainBy : xM := (⟨"WarrantWeatherModel", "gainBy", "(III)I"⟩, prog_14_method_73_code, 6, (Option.some FieldType.int), 0, 0)
def M_Md_isHidden : xM := (⟨"WarrantWeatherModel", "isHidden", "(IIII)Z"⟩, prog_14_method_74_code, 12, (Option.some FieldType.boolean), 0, 0)
def M_Md_plan : xM := (⟨"WarrantWeatherModel", "plan", "(IIII)I"⟩, prog_14_method_75_code, 10, (Option.some FieldType.int), 0, 0)
def M_Md_isLike : xM := (⟨"WarrantWeatherModel", "isLike", "(III)Z"⟩, prog_14_method_76_code, 8, (Option.some FieldType.boolean), 0, 0)
def M_Md_found : xM := (⟨"WarrantWeatherModel", "found", "(II)I"⟩, prog_14_method_77_code, 5, (Option.some FieldType.int), 0, 0)
def M_Md_hasBy : xM := (⟨"WarrantWeatherModel", "hasBy", "(III)I"⟩, prog_14_method_78_code, 7, (Option.some FieldType.int), 0, 0)
def M_Md_even : xM := (⟨"WarrantWeatherModel", "even", "(II)I"⟩, prog_14_method_79_code, 7, (Option.some FieldType.int), 0, 0)
def M_Md_flood : xM := (⟨"WarrantWeatherModel", "flood", "(I)I"⟩, prog_14_method_80_code, 6, (Option.some FieldType.int), 0, 0)
def M_Md_reform : xM := (⟨"WarrantWeatherModel", "reform", "(I)I"⟩, prog_14_method_81_code, 8, (Option.some FieldType.int), 0, 0)
def M_Md_isSmall : xM := (⟨"WarrantWeatherModel", "isSmall", "(I)Z"⟩, prog_14_method_82_code, 1, (Option.some FieldType.boolean), 0, 0)
def M_Md_isVowel : xM := (⟨"WarrantWeatherModel", "isVowel", "(I)Z"⟩, prog_14_method_83_code, 1, (Option.some FieldType.boolean), 0, 0)
def M_Md_words : xM := (⟨"WarrantWeatherModel", "words", "(I)I"⟩, prog_14_method_84_code, 5, (Option.some FieldType.int), 0, 0)
def M_Md_songOf : xM := (⟨"WarrantWeatherModel", "songOf", "(II)I"⟩, prog_14_method_85_code, 4, (Option.some FieldType.int), 0, 0)
def M_Md_sing : xM := (⟨"WarrantWeatherModel", "sing", "(II)I"⟩, prog_14_method_86_code, 5, (Option.some FieldType.int), 0, 0)
def M_Md_heard : xM := (⟨"WarrantWeatherModel", "heard", "(II)I"⟩, prog_14_method_87_code, 6, (Option.some FieldType.int), 0, 0)
def M_Md_copies : xM := (⟨"WarrantWeatherModel", "copies", "(Z)V"⟩, prog_14_method_3_code, 3, none, 0, 0)
def M_Md_image : xM := (⟨"WarrantWeatherModel", "image", "()I"⟩, prog_14_method_88_code, 1, (Option.some FieldType.int), 0, 0)
def M_Md_back : xM := (⟨"WarrantWeatherModel", "back", "()I"⟩, prog_14_method_89_code, 1, (Option.some FieldType.int), 0, 0)
def M_Md_wetDecrees : xM := (⟨"WarrantWeatherModel", "wetDecrees", "()I"⟩, prog_14_method_90_code, 3, (Option.some FieldType.int), 0, 0)
def M_Md_about : xM := (⟨"WarrantWeatherModel", "about", "(I)I"⟩, prog_14_method_91_code, 3, (Option.some FieldType.int), 0, 0)
theorem f_Ww_10 : xF "WarrantWeather" 10 11 0 true (.object "WarrantWeather$Rolls") := ⟨R_Ww, T_Ww, 9, ty_Ww, rfl, q_Ww, Nat.le_of_ble_eq_true rfl, xin 391 (by decide +kernel) rfl, rfl, rfl, rfl⟩
theorem f_Ww_16 : xF "WarrantWeather" 16 11 1 true (.object "WarrantWeather$Rolls") := ⟨R_Ww, T_Ww, 9, ty_Ww, rfl, q_Ww, Nat.le_of_ble_eq_true rfl, xin 392 (by decide +kernel) rfl, rfl, rfl, rfl⟩
theorem f_Ww_22 : xF "WarrantWeather" 22 11 2 true (.object "WarrantWeather$Tape") := ⟨R_Ww, T_Ww, 9, ty_Ww, rfl, q_Ww, Nat.le_of_ble_eq_true rfl, xin 393 (by decide +kernel) rfl, rfl, rfl, rfl⟩
theorem f_Ww_31 : xF "WarrantWeather" 31 11 4 true (.object "WarrantWeather$Shelf") := ⟨R_Ww, T_Ww, 9, ty_Ww, rfl, q_Ww, Nat.le_of_ble_eq_true rfl, xin 395 (by decide +kernel) rfl, rfl, rfl, rfl⟩
theorem f_Ww_44 : xF "WarrantWeather" 44 11 3 true (.object "WarrantWeather$Reader") := ⟨R_Ww, T_Ww, 9, ty_Ww, rfl, q_Ww, Nat.le_of_ble_eq_true rfl, xin 394 (by decide +kernel) rfl, rfl, rfl, rfl⟩
theorem f_Ww_53 : xF "WarrantWeather" 53 11 5 true (.object "WarrantWeather$Court") := ⟨R_Ww, T_Ww, 9, ty_Ww, rfl, q_Ww, Nat.le_of_ble_eq_true rfl, xin 396 (by decide +kernel) rfl, rfl, rfl, rfl⟩
theorem f_Ww_62 : xF "WarrantWeather" 62 11 6 true (.object "WarrantWeather$Planner") := ⟨R_Ww, T_Ww, 9, ty_Ww, rfl, q_Ww, Nat.le_of_ble_eq_true rfl, xin 397 (by decide +kernel) rfl, rfl, rfl, rfl⟩
theorem f_Ww_69 : xF "WarrantWeather" 69 11 7 true (.object "WarrantWeather$Council") := ⟨R_Ww, T_Ww, 9, ty_Ww, rfl, q_Ww, Nat.le_of_ble_eq_true rfl, xin 398 (by decide +kernel) rfl, rfl, rfl, rfl⟩
theorem f_Ww_76 : xF "WarrantWeather" 76 11 8 true (.object "WarrantWeather$Song") := ⟨R_Ww, T_Ww, 9, ty_Ww, rfl, q_Ww, Nat.le_of_ble_eq_true rfl, xin 399 (by decide +kernel) rfl, rfl, rfl, rfl⟩
theorem f_Ww_88 : xF "WarrantWeather" 88 6 3 true (.array .int) := ⟨R_Rolls, T_Rolls, 13, ty_Rolls, rfl, q_Rolls, Nat.le_of_ble_eq_true rfl, xin 107 (by decide +kernel) rfl, rfl, rfl, rfl⟩
theorem f_Ww_100 : xF "WarrantWeather" 100 6 5 true (.array .int) := ⟨R_Rolls, T_Rolls, 13, ty_Rolls, rfl, q_Rolls, Nat.le_of_ble_eq_true rfl, xin 110 (by decide +kernel) rfl, rfl, rfl, rfl⟩
theorem f_Ww_103 : xF "WarrantWeather" 103 6 8 false (.int) := ⟨R_Rolls, T_Rolls, 13, ty_Rolls, rfl, q_Rolls, Nat.le_of_ble_eq_true rfl, xin 116 (by decide +kernel) rfl, rfl, rfl, rfl⟩
theorem f_Ww_107 : xF "WarrantWeather" 107 9 1 false (.int) := ⟨R_Tape, T_Tape, 2, ty_Tape, rfl, q_Tape, Nat.le_of_ble_eq_true rfl, xin 163 (by decide +kernel) rfl, rfl, rfl, rfl⟩
theorem f_Ww_114 : xF "WarrantWeather" 114 6 9 false (.int) := ⟨R_Rolls, T_Rolls, 13, ty_Rolls, rfl, q_Rolls, Nat.le_of_ble_eq_true rfl, xin 118 (by decide +kernel) rfl, rfl, rfl, rfl⟩
theorem f_Ww_125 : xF "WarrantWeather" 125 5 0 false (.boolean) := ⟨R_Reader, T_Reader, 7, ty_Reader, rfl, q_Reader, Nat.le_of_ble_eq_true rfl, xin 246 (by decide +kernel) rfl, rfl, rfl, rfl⟩
theorem f_Ww_129 : xF "WarrantWeather" 129 5 1 false (.int) := ⟨R_Reader, T_Reader, 7, ty_Reader, rfl, q_Reader, Nat.le_of_ble_eq_true rfl, xin 248 (by decide +kernel) rfl, rfl, rfl, rfl⟩
theorem f_Ww_132 : xF "WarrantWeather" 132 5 2 false (.int) := ⟨R_Reader, T_Reader, 7, ty_Reader, rfl, q_Reader, Nat.le_of_ble_eq_true rfl, xin 250 (by decide +kernel) rfl, rfl, rfl, rfl⟩
theorem f_Ww_135 : xF "WarrantWeather" 135 6 10 false (.int) := ⟨R_Rolls, T_Rolls, 13, ty_Rolls, rfl, q_Rolls, Nat.le_of_ble_eq_true rfl, xin 121 (by decide +kernel) rfl, rfl, rfl, rfl⟩
theorem f_Ww_167 : xF "WarrantWeather" 167 2 0 false (.int) := ⟨R_Court, T_Court, 10, ty_Court, rfl, q_Court, Nat.le_of_ble_eq_true rfl, xin 290 (by decide +kernel) rfl, rfl, rfl, rfl⟩
theorem f_Ww_170 : xF "WarrantWeather" 170 6 7 false (.int) := ⟨R_Rolls, T_Rolls, 13, ty_Rolls, rfl, q_Rolls, Nat.le_of_ble_eq_true rfl, xin 114 (by decide +kernel) rfl, rfl, rfl, rfl⟩
theorem f_Ww_215 : xF "WarrantWeather" 215 4 0 false (.int) := ⟨R_Planner, T_Planner, 9, ty_Planner, rfl, q_Planner, Nat.le_of_ble_eq_true rfl, xin 329 (by decide +kernel) rfl, rfl, rfl, rfl⟩
theorem f_Ww_218 : xF "WarrantWeather" 218 4 1 false (.int) := ⟨R_Planner, T_Planner, 9, ty_Planner, rfl, q_Planner, Nat.le_of_ble_eq_true rfl, xin 331 (by decide +kernel) rfl, rfl, rfl, rfl⟩
theorem f_Ww_233 : xF "WarrantWeather" 233 3 4 false (.int) := ⟨R_Law, T_Law, 6, ty_Law, rfl, q_Law, Nat.le_of_ble_eq_true rfl, xin 188 (by decide +kernel) rfl, rfl, rfl, rfl⟩
theorem f_Ww_239 : xF "WarrantWeather" 239 2 1 false (.int) := ⟨R_Court, T_Court, 10, ty_Court, rfl, q_Court, Nat.le_of_ble_eq_true rfl, xin 292 (by decide +kernel) rfl, rfl, rfl, rfl⟩
theorem f_Ww_245 : xF "WarrantWeather" 245 8 0 false (.int) := ⟨R_Song, T_Song, 2, ty_Song, rfl, q_Song, Nat.le_of_ble_eq_true rfl, xin 384 (by decide +kernel) rfl, rfl, rfl, rfl⟩
theorem f_Ww_257 : xF "WarrantWeather" 257 6 11 false (.int) := ⟨R_Rolls, T_Rolls, 13, ty_Rolls, rfl, q_Rolls, Nat.le_of_ble_eq_true rfl, xin 123 (by decide +kernel) rfl, rfl, rfl, rfl⟩
theorem f_Bench_9 : xF "WarrantWeather$Bench" 9 0 0 true (.array .int) := ⟨R_Bench, T_Bench, 2, ty_Bench, rfl, q_Bench, Nat.le_of_ble_eq_true rfl, xin 282 (by decide +kernel) rfl, rfl, rfl, rfl⟩
theorem f_Bench_15 : xF "WarrantWeather$Bench" 15 0 1 true (.array .int) := ⟨R_Bench, T_Bench, 2, ty_Bench, rfl, q_Bench, Nat.le_of_ble_eq_true rfl, xin 283 (by decide +kernel) rfl, rfl, rfl, rfl⟩
theorem f_Bench_22 : xF "WarrantWeather$Bench" 22 3 0 true (.array .int) := ⟨R_Law, T_Law, 6, ty_Law, rfl, q_Law, Nat.le_of_ble_eq_true rfl, xin 182 (by decide +kernel) rfl, rfl, rfl, rfl⟩
theorem f_Council_9 : xF "WarrantWeather$Council" 9 1 2 true (.array .int) := ⟨R_Council, T_Council, 4, ty_Council, rfl, q_Council, Nat.le_of_ble_eq_true rfl, xin 366 (by decide +kernel) rfl, rfl, rfl, rfl⟩
theorem f_Council_15 : xF "WarrantWeather$Council" 15 1 3 true (.array .int) := ⟨R_Council, T_Council, 4, ty_Council, rfl, q_Council, Nat.le_of_ble_eq_true rfl, xin 367 (by decide +kernel) rfl, rfl, rfl, rfl⟩
theorem f_Council_22 : xF "WarrantWeather$Council" 22 1 1 true (.object "WarrantWeather$Court") := ⟨R_Council, T_Council, 4, ty_Council, rfl, q_Council, Nat.le_of_ble_eq_true rfl, xin 365 (by decide +kernel) rfl, rfl, rfl, rfl⟩
theorem f_Court_9 : xF "WarrantWeather$Court" 9 2 1 false (.int) := ⟨R_Court, T_Court, 10, ty_Court, rfl, q_Court, Nat.le_of_ble_eq_true rfl, xin 291 (by decide +kernel) rfl, rfl, rfl, rfl⟩
theorem f_Court_18 : xF "WarrantWeather$Court" 18 2 4 true (.object "WarrantWeather$Bench") := ⟨R_Court, T_Court, 10, ty_Court, rfl, q_Court, Nat.le_of_ble_eq_true rfl, xin 295 (by decide +kernel) rfl, rfl, rfl, rfl⟩
theorem f_Court_22 : xF "WarrantWeather$Court" 22 2 5 true (.array .int) := ⟨R_Court, T_Court, 10, ty_Court, rfl, q_Court, Nat.le_of_ble_eq_true rfl, xin 296 (by decide +kernel) rfl, rfl, rfl, rfl⟩
theorem f_Court_26 : xF "WarrantWeather$Court" 26 2 6 true (.array .int) := ⟨R_Court, T_Court, 10, ty_Court, rfl, q_Court, Nat.le_of_ble_eq_true rfl, xin 297 (by decide +kernel) rfl, rfl, rfl, rfl⟩
theorem f_Court_29 : xF "WarrantWeather$Court" 29 2 2 true (.object "WarrantWeather$Rolls") := ⟨R_Court, T_Court, 10, ty_Court, rfl, q_Court, Nat.le_of_ble_eq_true rfl, xin 293 (by decide +kernel) rfl, rfl, rfl, rfl⟩
theorem f_Court_33 : xF "WarrantWeather$Court" 33 2 3 true (.object "WarrantWeather$Shelf") := ⟨R_Court, T_Court, 10, ty_Court, rfl, q_Court, Nat.le_of_ble_eq_true rfl, xin 294 (by decide +kernel) rfl, rfl, rfl, rfl⟩
theorem f_Court_51 : xF "WarrantWeather$Court" 51 2 7 false (.int) := ⟨R_Court, T_Court, 10, ty_Court, rfl, q_Court, Nat.le_of_ble_eq_true rfl, xin 298 (by decide +kernel) rfl, rfl, rfl, rfl⟩
theorem f_Court_54 : xF "WarrantWeather$Court" 54 2 9 false (.int) := ⟨R_Court, T_Court, 10, ty_Court, rfl, q_Court, Nat.le_of_ble_eq_true rfl, xin 300 (by decide +kernel) rfl, rfl, rfl, rfl⟩
theorem f_Court_57 : xF "WarrantWeather$Court" 57 2 8 false (.int) := ⟨R_Court, T_Court, 10, ty_Court, rfl, q_Court, Nat.le_of_ble_eq_true rfl, xin 299 (by decide +kernel) rfl, rfl, rfl, rfl⟩
theorem f_Court_64 : xF "WarrantWeather$Court" 64 2 0 false (.int) := ⟨R_Court, T_Court, 10, ty_Court, rfl, q_Court, Nat.le_of_ble_eq_true rfl, xin 289 (by decide +kernel) rfl, rfl, rfl, rfl⟩
theorem f_Court_67 : xF "WarrantWeather$Court" 67 6 7 false (.int) := ⟨R_Rolls, T_Rolls, 13, ty_Rolls, rfl, q_Rolls, Nat.le_of_ble_eq_true rfl, xin 113 (by decide +kernel) rfl, rfl, rfl, rfl⟩
theorem f_Court_70 : xF "WarrantWeather$Court" 70 6 0 true (.array .int) := ⟨R_Rolls, T_Rolls, 13, ty_Rolls, rfl, q_Rolls, Nat.le_of_ble_eq_true rfl, xin 101 (by decide +kernel) rfl, rfl, rfl, rfl⟩
theorem f_Court_116 : xF "WarrantWeather$Court" 116 6 1 true (.array .int) := ⟨R_Rolls, T_Rolls, 13, ty_Rolls, rfl, q_Rolls, Nat.le_of_ble_eq_true rfl, xin 103 (by decide +kernel) rfl, rfl, rfl, rfl⟩
theorem f_Court_119 : xF "WarrantWeather$Court" 119 6 2 true (.array .int) := ⟨R_Rolls, T_Rolls, 13, ty_Rolls, rfl, q_Rolls, Nat.le_of_ble_eq_true rfl, xin 105 (by decide +kernel) rfl, rfl, rfl, rfl⟩
theorem f_Law_9 : xF "WarrantWeather$Law" 9 3 0 true (.array .int) := ⟨R_Law, T_Law, 6, ty_Law, rfl, q_Law, Nat.le_of_ble_eq_true rfl, xin 181 (by decide +kernel) rfl, rfl, rfl, rfl⟩
theorem f_Law_15 : xF "WarrantWeather$Law" 15 3 1 true (.array .int) := ⟨R_Law, T_Law, 6, ty_Law, rfl, q_Law, Nat.le_of_ble_eq_true rfl, xin 184 (by decide +kernel) rfl, rfl, rfl, rfl⟩
theorem f_Law_18 : xF "WarrantWeather$Law" 18 3 2 true (.array .int) := ⟨R_Law, T_Law, 6, ty_Law, rfl, q_Law, Nat.le_of_ble_eq_true rfl, xin 185 (by decide +kernel) rfl, rfl, rfl, rfl⟩
theorem f_Law_21 : xF "WarrantWeather$Law" 21 3 3 true (.array .int) := ⟨R_Law, T_Law, 6, ty_Law, rfl, q_Law, Nat.le_of_ble_eq_true rfl, xin 186 (by decide +kernel) rfl, rfl, rfl, rfl⟩
theorem f_Law_30 : xF "WarrantWeather$Law" 30 3 4 false (.int) := ⟨R_Law, T_Law, 6, ty_Law, rfl, q_Law, Nat.le_of_ble_eq_true rfl, xin 187 (by decide +kernel) rfl, rfl, rfl, rfl⟩
theorem f_Law_34 : xF "WarrantWeather$Law" 34 3 5 false (.int) := ⟨R_Law, T_Law, 6, ty_Law, rfl, q_Law, Nat.le_of_ble_eq_true rfl, xin 189 (by decide +kernel) rfl, rfl, rfl, rfl⟩
theorem f_Planner_9 : xF "WarrantWeather$Planner" 9 4 4 true (.array .int) := ⟨R_Planner, T_Planner, 9, ty_Planner, rfl, q_Planner, Nat.le_of_ble_eq_true rfl, xin 334 (by decide +kernel) rfl, rfl, rfl, rfl⟩
theorem f_Planner_15 : xF "WarrantWeather$Planner" 15 4 5 true (.array .int) := ⟨R_Planner, T_Planner, 9, ty_Planner, rfl, q_Planner, Nat.le_of_ble_eq_true rfl, xin 335 (by decide +kernel) rfl, rfl, rfl, rfl⟩
theorem f_Planner_18 : xF "WarrantWeather$Planner" 18 4 2 true (.object "WarrantWeather$Rolls") := ⟨R_Planner, T_Planner, 9, ty_Planner, rfl, q_Planner, Nat.le_of_ble_eq_true rfl, xin 332 (by decide +kernel) rfl, rfl, rfl, rfl⟩
theorem f_Planner_22 : xF "WarrantWeather$Planner" 22 4 3 true (.object "WarrantWeather$Court") := ⟨R_Planner, T_Planner, 9, ty_Planner, rfl, q_Planner, Nat.le_of_ble_eq_true rfl, xin 333 (by decide +kernel) rfl, rfl, rfl, rfl⟩
theorem f_Planner_26 : xF "WarrantWeather$Planner" 26 4 6 false (.int) := ⟨R_Planner, T_Planner, 9, ty_Planner, rfl, q_Planner, Nat.le_of_ble_eq_true rfl, xin 336 (by decide +kernel) rfl, rfl, rfl, rfl⟩
theorem f_Planner_36 : xF "WarrantWeather$Planner" 36 4 7 false (.int) := ⟨R_Planner, T_Planner, 9, ty_Planner, rfl, q_Planner, Nat.le_of_ble_eq_true rfl, xin 337 (by decide +kernel) rfl, rfl, rfl, rfl⟩
theorem f_Planner_51 : xF "WarrantWeather$Planner" 51 4 8 false (.boolean) := ⟨R_Planner, T_Planner, 9, ty_Planner, rfl, q_Planner, Nat.le_of_ble_eq_true rfl, xin 338 (by decide +kernel) rfl, rfl, rfl, rfl⟩
theorem f_Planner_55 : xF "WarrantWeather$Planner" 55 4 0 false (.int) := ⟨R_Planner, T_Planner, 9, ty_Planner, rfl, q_Planner, Nat.le_of_ble_eq_true rfl, xin 328 (by decide +kernel) rfl, rfl, rfl, rfl⟩
theorem f_Planner_58 : xF "WarrantWeather$Planner" 58 4 1 false (.int) := ⟨R_Planner, T_Planner, 9, ty_Planner, rfl, q_Planner, Nat.le_of_ble_eq_true rfl, xin 330 (by decide +kernel) rfl, rfl, rfl, rfl⟩
theorem f_Reader_9 : xF "WarrantWeather$Reader" 9 5 2 false (.int) := ⟨R_Reader, T_Reader, 7, ty_Reader, rfl, q_Reader, Nat.le_of_ble_eq_true rfl, xin 249 (by decide +kernel) rfl, rfl, rfl, rfl⟩
theorem f_Reader_18 : xF "WarrantWeather$Reader" 18 5 3 true (.object "WarrantWeather$Tokens") := ⟨R_Reader, T_Reader, 7, ty_Reader, rfl, q_Reader, Nat.le_of_ble_eq_true rfl, xin 251 (by decide +kernel) rfl, rfl, rfl, rfl⟩
theorem f_Reader_22 : xF "WarrantWeather$Reader" 22 5 4 false (.object "WarrantWeather$Law") := ⟨R_Reader, T_Reader, 7, ty_Reader, rfl, q_Reader, Nat.le_of_ble_eq_true rfl, xin 252 (by decide +kernel) rfl, rfl, rfl, rfl⟩
theorem f_Reader_26 : xF "WarrantWeather$Reader" 26 5 0 false (.boolean) := ⟨R_Reader, T_Reader, 7, ty_Reader, rfl, q_Reader, Nat.le_of_ble_eq_true rfl, xin 245 (by decide +kernel) rfl, rfl, rfl, rfl⟩
theorem f_Reader_30 : xF "WarrantWeather$Reader" 30 5 1 false (.int) := ⟨R_Reader, T_Reader, 7, ty_Reader, rfl, q_Reader, Nat.le_of_ble_eq_true rfl, xin 247 (by decide +kernel) rfl, rfl, rfl, rfl⟩
theorem f_Reader_38 : xF "WarrantWeather$Reader" 38 5 5 false (.int) := ⟨R_Reader, T_Reader, 7, ty_Reader, rfl, q_Reader, Nat.le_of_ble_eq_true rfl, xin 253 (by decide +kernel) rfl, rfl, rfl, rfl⟩
theorem f_Reader_45 : xF "WarrantWeather$Reader" 45 10 3 false (.int) := ⟨R_Tokens, T_Tokens, 4, ty_Tokens, rfl, q_Tokens, Nat.le_of_ble_eq_true rfl, xin 235 (by decide +kernel) rfl, rfl, rfl, rfl⟩
theorem f_Reader_56 : xF "WarrantWeather$Reader" 56 10 0 true (.array .int) := ⟨R_Tokens, T_Tokens, 4, ty_Tokens, rfl, q_Tokens, Nat.le_of_ble_eq_true rfl, xin 229 (by decide +kernel) rfl, rfl, rfl, rfl⟩
theorem f_Reader_60 : xF "WarrantWeather$Reader" 60 10 2 true (.array .int) := ⟨R_Tokens, T_Tokens, 4, ty_Tokens, rfl, q_Tokens, Nat.le_of_ble_eq_true rfl, xin 233 (by decide +kernel) rfl, rfl, rfl, rfl⟩
theorem f_Reader_63 : xF "WarrantWeather$Reader" 63 10 1 true (.array .int) := ⟨R_Tokens, T_Tokens, 4, ty_Tokens, rfl, q_Tokens, Nat.le_of_ble_eq_true rfl, xin 231 (by decide +kernel) rfl, rfl, rfl, rfl⟩
theorem f_Reader_66 : xF "WarrantWeather$Reader" 66 5 6 false (.int) := ⟨R_Reader, T_Reader, 7, ty_Reader, rfl, q_Reader, Nat.le_of_ble_eq_true rfl, xin 254 (by decide +kernel) rfl, rfl, rfl, rfl⟩
theorem f_Reader_80 : xF "WarrantWeather$Reader" 80 3 5 false (.int) := ⟨R_Law, T_Law, 6, ty_Law, rfl, q_Law, Nat.le_of_ble_eq_true rfl, xin 190 (by decide +kernel) rfl, rfl, rfl, rfl⟩
theorem f_Reader_113 : xF "WarrantWeather$Reader" 113 3 0 true (.array .int) := ⟨R_Law, T_Law, 6, ty_Law, rfl, q_Law, Nat.le_of_ble_eq_true rfl, xin 183 (by decide +kernel) rfl, rfl, rfl, rfl⟩
theorem f_Rolls_9 : xF "WarrantWeather$Rolls" 9 6 0 true (.array .int) := ⟨R_Rolls, T_Rolls, 13, ty_Rolls, rfl, q_Rolls, Nat.le_of_ble_eq_true rfl, xin 100 (by decide +kernel) rfl, rfl, rfl, rfl⟩
theorem f_Rolls_15 : xF "WarrantWeather$Rolls" 15 6 1 true (.array .int) := ⟨R_Rolls, T_Rolls, 13, ty_Rolls, rfl, q_Rolls, Nat.le_of_ble_eq_true rfl, xin 102 (by decide +kernel) rfl, rfl, rfl, rfl⟩
theorem f_Rolls_18 : xF "WarrantWeather$Rolls" 18 6 2 true (.array .int) := ⟨R_Rolls, T_Rolls, 13, ty_Rolls, rfl, q_Rolls, Nat.le_of_ble_eq_true rfl, xin 104 (by decide +kernel) rfl, rfl, rfl, rfl⟩
theorem f_Rolls_21 : xF "WarrantWeather$Rolls" 21 6 3 true (.array .int) := ⟨R_Rolls, T_Rolls, 13, ty_Rolls, rfl, q_Rolls, Nat.le_of_ble_eq_true rfl, xin 106 (by decide +kernel) rfl, rfl, rfl, rfl⟩
theorem f_Rolls_24 : xF "WarrantWeather$Rolls" 24 6 4 true (.array .int) := ⟨R_Rolls, T_Rolls, 13, ty_Rolls, rfl, q_Rolls, Nat.le_of_ble_eq_true rfl, xin 108 (by decide +kernel) rfl, rfl, rfl, rfl⟩
theorem f_Rolls_27 : xF "WarrantWeather$Rolls" 27 6 5 true (.array .int) := ⟨R_Rolls, T_Rolls, 13, ty_Rolls, rfl, q_Rolls, Nat.le_of_ble_eq_true rfl, xin 109 (by decide +kernel) rfl, rfl, rfl, rfl⟩
theorem f_Rolls_30 : xF "WarrantWeather$Rolls" 30 6 6 true (.array .int) := ⟨R_Rolls, T_Rolls, 13, ty_Rolls, rfl, q_Rolls, Nat.le_of_ble_eq_true rfl, xin 111 (by decide +kernel) rfl, rfl, rfl, rfl⟩
theorem f_Rolls_33 : xF "WarrantWeather$Rolls" 33 6 10 false (.int) := ⟨R_Rolls, T_Rolls, 13, ty_Rolls, rfl, q_Rolls, Nat.le_of_ble_eq_true rfl, xin 119 (by decide +kernel) rfl, rfl, rfl, rfl⟩
theorem f_Rolls_49 : xF "WarrantWeather$Rolls" 49 6 7 false (.int) := ⟨R_Rolls, T_Rolls, 13, ty_Rolls, rfl, q_Rolls, Nat.le_of_ble_eq_true rfl, xin 112 (by decide +kernel) rfl, rfl, rfl, rfl⟩
theorem f_Rolls_52 : xF "WarrantWeather$Rolls" 52 6 8 false (.int) := ⟨R_Rolls, T_Rolls, 13, ty_Rolls, rfl, q_Rolls, Nat.le_of_ble_eq_true rfl, xin 115 (by decide +kernel) rfl, rfl, rfl, rfl⟩
theorem f_Rolls_55 : xF "WarrantWeather$Rolls" 55 6 9 false (.int) := ⟨R_Rolls, T_Rolls, 13, ty_Rolls, rfl, q_Rolls, Nat.le_of_ble_eq_true rfl, xin 117 (by decide +kernel) rfl, rfl, rfl, rfl⟩
theorem f_Rolls_58 : xF "WarrantWeather$Rolls" 58 6 11 false (.int) := ⟨R_Rolls, T_Rolls, 13, ty_Rolls, rfl, q_Rolls, Nat.le_of_ble_eq_true rfl, xin 122 (by decide +kernel) rfl, rfl, rfl, rfl⟩
theorem f_Rolls_61 : xF "WarrantWeather$Rolls" 61 6 12 false (.int) := ⟨R_Rolls, T_Rolls, 13, ty_Rolls, rfl, q_Rolls, Nat.le_of_ble_eq_true rfl, xin 124 (by decide +kernel) rfl, rfl, rfl, rfl⟩
theorem f_Shelf_12 : xF "WarrantWeather$Shelf" 12 7 1 true (.object "WarrantWeather$Law") := ⟨R_Shelf, T_Shelf, 3, ty_Shelf, rfl, q_Shelf, Nat.le_of_ble_eq_true rfl, xin 206 (by decide +kernel) rfl, rfl, rfl, rfl⟩
theorem f_Shelf_18 : xF "WarrantWeather$Shelf" 18 7 2 true (.array (.object "WarrantWeather$Law")) := ⟨R_Shelf, T_Shelf, 3, ty_Shelf, rfl, q_Shelf, Nat.le_of_ble_eq_true rfl, xin 208 (by decide +kernel) rfl, rfl, rfl, rfl⟩
theorem f_Shelf_22 : xF "WarrantWeather$Shelf" 22 7 0 true (.object "WarrantWeather$Rolls") := ⟨R_Shelf, T_Shelf, 3, ty_Shelf, rfl, q_Shelf, Nat.le_of_ble_eq_true rfl, xin 205 (by decide +kernel) rfl, rfl, rfl, rfl⟩
theorem f_Shelf_30 : xF "WarrantWeather$Shelf" 30 6 10 false (.int) := ⟨R_Rolls, T_Rolls, 13, ty_Rolls, rfl, q_Rolls, Nat.le_of_ble_eq_true rfl, xin 120 (by decide +kernel) rfl, rfl, rfl, rfl⟩
theorem f_Song_9 : xF "WarrantWeather$Song" 9 8 1 true (.array .int) := ⟨R_Song, T_Song, 2, ty_Song, rfl, q_Song, Nat.le_of_ble_eq_true rfl, xin 385 (by decide +kernel) rfl, rfl, rfl, rfl⟩
theorem f_Song_15 : xF "WarrantWeather$Song" 15 8 0 false (.int) := ⟨R_Song, T_Song, 2, ty_Song, rfl, q_Song, Nat.le_of_ble_eq_true rfl, xin 383 (by decide +kernel) rfl, rfl, rfl, rfl⟩
theorem f_Song_19 : xF "WarrantWeather$Song" 19 9 1 false (.int) := ⟨R_Tape, T_Tape, 2, ty_Tape, rfl, q_Tape, Nat.le_of_ble_eq_true rfl, xin 162 (by decide +kernel) rfl, rfl, rfl, rfl⟩
theorem f_Tape_9 : xF "WarrantWeather$Tape" 9 9 0 true (.array .int) := ⟨R_Tape, T_Tape, 2, ty_Tape, rfl, q_Tape, Nat.le_of_ble_eq_true rfl, xin 159 (by decide +kernel) rfl, rfl, rfl, rfl⟩
theorem f_Tape_15 : xF "WarrantWeather$Tape" 15 9 1 false (.int) := ⟨R_Tape, T_Tape, 2, ty_Tape, rfl, q_Tape, Nat.le_of_ble_eq_true rfl, xin 160 (by decide +kernel) rfl, rfl, rfl, rfl⟩
theorem f_Tokens_9 : xF "WarrantWeather$Tokens" 9 10 0 true (.array .int) := ⟨R_Tokens, T_Tokens, 4, ty_Tokens, rfl, q_Tokens, Nat.le_of_ble_eq_true rfl, xin 228 (by decide +kernel) rfl, rfl, rfl, rfl⟩
theorem f_Tokens_15 : xF "WarrantWeather$Tokens" 15 10 1 true (.array .int) := ⟨R_Tokens, T_Tokens, 4, ty_Tokens, rfl, q_Tokens, Nat.le_of_ble_eq_true rfl, xin 230 (by decide +kernel) rfl, rfl, rfl, rfl⟩
theorem f_Tokens_18 : xF "WarrantWeather$Tokens" 18 10 2 true (.array .int) := ⟨R_Tokens, T_Tokens, 4, ty_Tokens, rfl, q_Tokens, Nat.le_of_ble_eq_true rfl, xin 232 (by decide +kernel) rfl, rfl, rfl, rfl⟩
theorem f_Tokens_21 : xF "WarrantWeather$Tokens" 21 10 3 false (.int) := ⟨R_Tokens, T_Tokens, 4, ty_Tokens, rfl, q_Tokens, Nat.le_of_ble_eq_true rfl, xin 234 (by decide +kernel) rfl, rfl, rfl, rfl⟩
theorem f_Tokens_25 : xF "WarrantWeather$Tokens" 25 9 1 false (.int) := ⟨R_Tape, T_Tape, 2, ty_Tape, rfl, q_Tape, Nat.le_of_ble_eq_true rfl, xin 161 (by decide +kernel) rfl, rfl, rfl, rfl⟩
theorem f_Md_7 : xF "WarrantWeatherModel" 7 12 0 true (.array .int) := ⟨R_Md, T_Md, 39, ty_Md, rfl, q_Md, Nat.le_of_ble_eq_true rfl, xin 957 (by decide +kernel) rfl, rfl, rfl, rfl⟩
theorem f_Md_13 : xF "WarrantWeatherModel" 13 12 1 true (.array .int) := ⟨R_Md, T_Md, 39, ty_Md, rfl, q_Md, Nat.le_of_ble_eq_true rfl, xin 958 (by decide +kernel) rfl, rfl, rfl, rfl⟩
theorem f_Md_16 : xF "WarrantWeatherModel" 16 12 2 true (.array .byte) := ⟨R_Md, T_Md, 39, ty_Md, rfl, q_Md, Nat.le_of_ble_eq_true rfl, xin 959 (by decide +kernel) rfl, rfl, rfl, rfl⟩
theorem f_Md_20 : xF "WarrantWeatherModel" 20 12 4 false (.int) := ⟨R_Md, T_Md, 39, ty_Md, rfl, q_Md, Nat.le_of_ble_eq_true rfl, xin 961 (by decide +kernel) rfl, rfl, rfl, rfl⟩
theorem f_Md_24 : xF "WarrantWeatherModel" 24 12 5 false (.int) := ⟨R_Md, T_Md, 39, ty_Md, rfl, q_Md, Nat.le_of_ble_eq_true rfl, xin 962 (by decide +kernel) rfl, rfl, rfl, rfl⟩
theorem f_Md_27 : xF "WarrantWeatherModel" 27 12 6 true (.array .int) := ⟨R_Md, T_Md, 39, ty_Md, rfl, q_Md, Nat.le_of_ble_eq_true rfl, xin 963 (by decide +kernel) rfl, rfl, rfl, rfl⟩
theorem f_Md_30 : xF "WarrantWeatherModel" 30 12 7 true (.array .int) := ⟨R_Md, T_Md, 39, ty_Md, rfl, q_Md, Nat.le_of_ble_eq_true rfl, xin 964 (by decide +kernel) rfl, rfl, rfl, rfl⟩
theorem f_Md_33 : xF "WarrantWeatherModel" 33 12 8 true (.array .int) := ⟨R_Md, T_Md, 39, ty_Md, rfl, q_Md, Nat.le_of_ble_eq_true rfl, xin 965 (by decide +kernel) rfl, rfl, rfl, rfl⟩
theorem f_Md_36 : xF "WarrantWeatherModel" 36 12 9 true (.array .int) := ⟨R_Md, T_Md, 39, ty_Md, rfl, q_Md, Nat.le_of_ble_eq_true rfl, xin 966 (by decide +kernel) rfl, rfl, rfl, rfl⟩
theorem f_Md_39 : xF "WarrantWeatherModel" 39 12 10 true (.array .int) := ⟨R_Md, T_Md, 39, ty_Md, rfl, q_Md, Nat.le_of_ble_eq_true rfl, xin 967 (by decide +kernel) rfl, rfl, rfl, rfl⟩
theorem f_Md_42 : xF "WarrantWeatherModel" 42 12 20 true (.array .int) := ⟨R_Md, T_Md, 39, ty_Md, rfl, q_Md, Nat.le_of_ble_eq_true rfl, xin 977 (by decide +kernel) rfl, rfl, rfl, rfl⟩
theorem f_Md_45 : xF "WarrantWeatherModel" 45 12 21 true (.array .int) := ⟨R_Md, T_Md, 39, ty_Md, rfl, q_Md, Nat.le_of_ble_eq_true rfl, xin 978 (by decide +kernel) rfl, rfl, rfl, rfl⟩
theorem f_Md_48 : xF "WarrantWeatherModel" 48 12 23 true (.array .int) := ⟨R_Md, T_Md, 39, ty_Md, rfl, q_Md, Nat.le_of_ble_eq_true rfl, xin 980 (by decide +kernel) rfl, rfl, rfl, rfl⟩
theorem f_Md_51 : xF "WarrantWeatherModel" 51 12 24 true (.array .int) := ⟨R_Md, T_Md, 39, ty_Md, rfl, q_Md, Nat.le_of_ble_eq_true rfl, xin 981 (by decide +kernel) rfl, rfl, rfl, rfl⟩
theorem f_Md_54 : xF "WarrantWeatherModel" 54 12 28 true (.array .int) := ⟨R_Md, T_Md, 39, ty_Md, rfl, q_Md, Nat.le_of_ble_eq_true rfl, xin 985 (by decide +kernel) rfl, rfl, rfl, rfl⟩
theorem f_Md_57 : xF "WarrantWeatherModel" 57 12 29 true (.array .int) := ⟨R_Md, T_Md, 39, ty_Md, rfl, q_Md, Nat.le_of_ble_eq_true rfl, xin 986 (by decide +kernel) rfl, rfl, rfl, rfl⟩
theorem f_Md_60 : xF "WarrantWeatherModel" 60 12 31 true (.array .int) := ⟨R_Md, T_Md, 39, ty_Md, rfl, q_Md, Nat.le_of_ble_eq_true rfl, xin 988 (by decide +kernel) rfl, rfl, rfl, rfl⟩
theorem f_Md_63 : xF "WarrantWeatherModel" 63 12 32 true (.array .int) := ⟨R_Md, T_Md, 39, ty_Md, rfl, q_Md, Nat.le_of_ble_eq_true rfl, xin 989 (by decide +kernel) rfl, rfl, rfl, rfl⟩
theorem f_Md_66 : xF "WarrantWeatherModel" 66 12 33 true (.array .int) := ⟨R_Md, T_Md, 39, ty_Md, rfl, q_Md, Nat.le_of_ble_eq_true rfl, xin 990 (by decide +kernel) rfl, rfl, rfl, rfl⟩
theorem f_Md_69 : xF "WarrantWeatherModel" 69 12 34 true (.array .long) := ⟨R_Md, T_Md, 39, ty_Md, rfl, q_Md, Nat.le_of_ble_eq_true rfl, xin 991 (by decide +kernel) rfl, rfl, rfl, rfl⟩
theorem f_Md_73 : xF "WarrantWeatherModel" 73 12 35 false (.int) := ⟨R_Md, T_Md, 39, ty_Md, rfl, q_Md, Nat.le_of_ble_eq_true rfl, xin 992 (by decide +kernel) rfl, rfl, rfl, rfl⟩
theorem f_Md_76 : xF "WarrantWeatherModel" 76 12 36 true (.array .int) := ⟨R_Md, T_Md, 39, ty_Md, rfl, q_Md, Nat.le_of_ble_eq_true rfl, xin 993 (by decide +kernel) rfl, rfl, rfl, rfl⟩
theorem f_Md_79 : xF "WarrantWeatherModel" 79 12 37 true (.array .int) := ⟨R_Md, T_Md, 39, ty_Md, rfl, q_Md, Nat.le_of_ble_eq_true rfl, xin 994 (by decide +kernel) rfl, rfl, rfl, rfl⟩
theorem f_Md_82 : xF "WarrantWeatherModel" 82 12 38 true (.array .int) := ⟨R_Md, T_Md, 39, ty_Md, rfl, q_Md, Nat.le_of_ble_eq_true rfl, xin 995 (by decide +kernel) rfl, rfl, rfl, rfl⟩
theorem f_Md_107 : xF "WarrantWeatherModel" 107 12 3 false (.int) := ⟨R_Md, T_Md, 39, ty_Md, rfl, q_Md, Nat.le_of_ble_eq_true rfl, xin 960 (by decide +kernel) rfl, rfl, rfl, rfl⟩
theorem f_Md_158 : xF "WarrantWeatherModel" 158 12 12 false (.int) := ⟨R_Md, T_Md, 39, ty_Md, rfl, q_Md, Nat.le_of_ble_eq_true rfl, xin 969 (by decide +kernel) rfl, rfl, rfl, rfl⟩
theorem f_Md_161 : xF "WarrantWeatherModel" 161 12 11 false (.int) := ⟨R_Md, T_Md, 39, ty_Md, rfl, q_Md, Nat.le_of_ble_eq_true rfl, xin 968 (by decide +kernel) rfl, rfl, rfl, rfl⟩
theorem f_Md_164 : xF "WarrantWeatherModel" 164 12 13 false (.int) := ⟨R_Md, T_Md, 39, ty_Md, rfl, q_Md, Nat.le_of_ble_eq_true rfl, xin 970 (by decide +kernel) rfl, rfl, rfl, rfl⟩
theorem f_Md_167 : xF "WarrantWeatherModel" 167 12 14 false (.int) := ⟨R_Md, T_Md, 39, ty_Md, rfl, q_Md, Nat.le_of_ble_eq_true rfl, xin 971 (by decide +kernel) rfl, rfl, rfl, rfl⟩
theorem f_Md_179 : xF "WarrantWeatherModel" 179 12 15 false (.int) := ⟨R_Md, T_Md, 39, ty_Md, rfl, q_Md, Nat.le_of_ble_eq_true rfl, xin 972 (by decide +kernel) rfl, rfl, rfl, rfl⟩
theorem f_Md_183 : xF "WarrantWeatherModel" 183 12 16 false (.int) := ⟨R_Md, T_Md, 39, ty_Md, rfl, q_Md, Nat.le_of_ble_eq_true rfl, xin 973 (by decide +kernel) rfl, rfl, rfl, rfl⟩
theorem f_Md_186 : xF "WarrantWeatherModel" 186 12 17 false (.int) := ⟨R_Md, T_Md, 39, ty_Md, rfl, q_Md, Nat.le_of_ble_eq_true rfl, xin 974 (by decide +kernel) rfl, rfl, rfl, rfl⟩
theorem f_Md_189 : xF "WarrantWeatherModel" 189 12 30 false (.int) := ⟨R_Md, T_Md, 39, ty_Md, rfl, q_Md, Nat.le_of_ble_eq_true rfl, xin 987 (by decide +kernel) rfl, rfl, rfl, rfl⟩
theorem f_Md_192 : xF "WarrantWeatherModel" 192 12 19 false (.int) := ⟨R_Md, T_Md, 39, ty_Md, rfl, q_Md, Nat.le_of_ble_eq_true rfl, xin 976 (by decide +kernel) rfl, rfl, rfl, rfl⟩
theorem f_Md_195 : xF "WarrantWeatherModel" 195 12 18 false (.int) := ⟨R_Md, T_Md, 39, ty_Md, rfl, q_Md, Nat.le_of_ble_eq_true rfl, xin 975 (by decide +kernel) rfl, rfl, rfl, rfl⟩
theorem f_Md_207 : xF "WarrantWeatherModel" 207 12 22 false (.int) := ⟨R_Md, T_Md, 39, ty_Md, rfl, q_Md, Nat.le_of_ble_eq_true rfl, xin 979 (by decide +kernel) rfl, rfl, rfl, rfl⟩
theorem f_Md_227 : xF "WarrantWeatherModel" 227 12 25 false (.int) := ⟨R_Md, T_Md, 39, ty_Md, rfl, q_Md, Nat.le_of_ble_eq_true rfl, xin 982 (by decide +kernel) rfl, rfl, rfl, rfl⟩
theorem f_Md_233 : xF "WarrantWeatherModel" 233 12 27 false (.int) := ⟨R_Md, T_Md, 39, ty_Md, rfl, q_Md, Nat.le_of_ble_eq_true rfl, xin 984 (by decide +kernel) rfl, rfl, rfl, rfl⟩
theorem f_Md_257 : xF "WarrantWeatherModel" 257 12 26 false (.int) := ⟨R_Md, T_Md, 39, ty_Md, rfl, q_Md, Nat.le_of_ble_eq_true rfl, xin 983 (by decide +kernel) rfl, rfl, rfl, rfl⟩
theorem e0_Ww_within : xE0 M_Ww_within 2 := ⟨xin 63 (by decide +kernel) rfl, xin 425 (by decide +kernel) rfl, by decide⟩
theorem e_Ww_80 : xES "WarrantWeather" 80 M_Ww_within 2 := ⟨e0_Ww_within, xin 423 (by decide +kernel) rfl, xin 424 (by decide +kernel) rfl⟩
theorem e0_Rolls_enrol : xE0 M_Rolls_enrol 3 := ⟨xin 64 (by decide +kernel) rfl, xin 429 (by decide +kernel) rfl, by decide⟩
theorem e_Ww_84 : xEV "WarrantWeather" 84 M_Rolls_enrol 3 := ⟨e0_Rolls_enrol, xin 426 (by decide +kernel) rfl, xin 427 (by decide +kernel) rfl, xin 428 (by decide +kernel) rfl⟩
theorem e0_Rolls_wetDays : xE0 M_Rolls_wetDays 0 := ⟨xin 64 (by decide +kernel) rfl, xin 442 (by decide +kernel) rfl, by decide⟩
theorem e_Ww_92 : xEV "WarrantWeather" 92 M_Rolls_wetDays 0 := ⟨e0_Rolls_wetDays, xin 439 (by decide +kernel) rfl, xin 440 (by decide +kernel) rfl, xin 441 (by decide +kernel) rfl⟩
theorem e0_Rolls_stamp : xE0 M_Rolls_stamp 3 := ⟨xin 64 (by decide +kernel) rfl, xin 450 (by decide +kernel) rfl, by decide⟩
theorem e_Ww_96 : xEV "WarrantWeather" 96 M_Rolls_stamp 3 := ⟨e0_Rolls_stamp, xin 447 (by decide +kernel) rfl, xin 448 (by decide +kernel) rfl, xin 449 (by decide +kernel) rfl⟩
theorem e0_Tape_put : xE0 M_Tape_put 1 := ⟨xin 66 (by decide +kernel) rfl, xin 469 (by decide +kernel) rfl, by decide⟩
theorem e_Ww_110 : xEV "WarrantWeather" 110 M_Tape_put 1 := ⟨e0_Tape_put, xin 466 (by decide +kernel) rfl, xin 467 (by decide +kernel) rfl, xin 468 (by decide +kernel) rfl⟩
theorem e0_Shelf_at : xE0 M_Shelf_at 1 := ⟨xin 67 (by decide +kernel) rfl, xin 482 (by decide +kernel) rfl, by decide⟩
theorem e_Ww_117 : xEV "WarrantWeather" 117 M_Shelf_at 1 := ⟨e0_Shelf_at, xin 479 (by decide +kernel) rfl, xin 480 (by decide +kernel) rfl, xin 481 (by decide +kernel) rfl⟩
theorem e0_Reader_read : xE0 M_Reader_read 2 := ⟨xin 69 (by decide +kernel) rfl, xin 487 (by decide +kernel) rfl, by decide⟩
theorem e_Ww_121 : xEV "WarrantWeather" 121 M_Reader_read 2 := ⟨e0_Reader_read, xin 484 (by decide +kernel) rfl, xin 485 (by decide +kernel) rfl, xin 486 (by decide +kernel) rfl⟩
theorem e0_Ww_areDays : xE0 M_Ww_areDays 2 := ⟨xin 63 (by decide +kernel) rfl, xin 644 (by decide +kernel) rfl, by decide⟩
theorem e_Ww_138 : xES "WarrantWeather" 138 M_Ww_areDays 2 := ⟨e0_Ww_areDays, xin 642 (by decide +kernel) rfl, xin 643 (by decide +kernel) rfl⟩
theorem e0_Shelf_ruling : xE0 M_Shelf_ruling 0 := ⟨xin 67 (by decide +kernel) rfl, xin 648 (by decide +kernel) rfl, by decide⟩
theorem e_Ww_141 : xEV "WarrantWeather" 141 M_Shelf_ruling 0 := ⟨e0_Shelf_ruling, xin 645 (by decide +kernel) rfl, xin 646 (by decide +kernel) rfl, xin 647 (by decide +kernel) rfl⟩
theorem e0_Law_has : xE0 M_Law_has 1 := ⟨xin 68 (by decide +kernel) rfl, xin 593 (by decide +kernel) rfl, by decide⟩
theorem e_Ww_144 : xEV "WarrantWeather" 144 M_Law_has 1 := ⟨e0_Law_has, xin 649 (by decide +kernel) rfl, xin 591 (by decide +kernel) rfl, xin 592 (by decide +kernel) rfl⟩
theorem e0_Court_warrantFor : xE0 M_Court_warrantFor 2 := ⟨xin 71 (by decide +kernel) rfl, xin 653 (by decide +kernel) rfl, by decide⟩
theorem e_Ww_150 : xEV "WarrantWeather" 150 M_Court_warrantFor 2 := ⟨e0_Court_warrantFor, xin 650 (by decide +kernel) rfl, xin 651 (by decide +kernel) rfl, xin 652 (by decide +kernel) rfl⟩
theorem e0_Law_asks : xE0 M_Law_asks 2 := ⟨xin 68 (by decide +kernel) rfl, xin 714 (by decide +kernel) rfl, by decide⟩
theorem e_Ww_154 : xEV "WarrantWeather" 154 M_Law_asks 2 := ⟨e0_Law_asks, xin 711 (by decide +kernel) rfl, xin 712 (by decide +kernel) rfl, xin 713 (by decide +kernel) rfl⟩
theorem e0_Rolls_takeBack : xE0 M_Rolls_takeBack 0 := ⟨xin 64 (by decide +kernel) rfl, xin 726 (by decide +kernel) rfl, by decide⟩
theorem e_Ww_157 : xEV "WarrantWeather" 157 M_Rolls_takeBack 0 := ⟨e0_Rolls_takeBack, xin 723 (by decide +kernel) rfl, xin 724 (by decide +kernel) rfl, xin 725 (by decide +kernel) rfl⟩
theorem e0_Rolls_decreeOf : xE0 M_Rolls_decreeOf 2 := ⟨xin 64 (by decide +kernel) rfl, xin 666 (by decide +kernel) rfl, by decide⟩
theorem e_Ww_160 : xEV "WarrantWeather" 160 M_Rolls_decreeOf 2 := ⟨e0_Rolls_decreeOf, xin 731 (by decide +kernel) rfl, xin 664 (by decide +kernel) rfl, xin 665 (by decide +kernel) rfl⟩
theorem e0_Court_sitAsItIs : xE0 M_Court_sitAsItIs 2 := ⟨xin 71 (by decide +kernel) rfl, xin 735 (by decide +kernel) rfl, by decide⟩
theorem e_Ww_163 : xEV "WarrantWeather" 163 M_Court_sitAsItIs 2 := ⟨e0_Court_sitAsItIs, xin 732 (by decide +kernel) rfl, xin 733 (by decide +kernel) rfl, xin 734 (by decide +kernel) rfl⟩
theorem e0_Rolls_homeOf : xE0 M_Rolls_homeOf 1 := ⟨xin 64 (by decide +kernel) rfl, xin 753 (by decide +kernel) rfl, by decide⟩
theorem e_Ww_171 : xEV "WarrantWeather" 171 M_Rolls_homeOf 1 := ⟨e0_Rolls_homeOf, xin 750 (by decide +kernel) rfl, xin 751 (by decide +kernel) rfl, xin 752 (by decide +kernel) rfl⟩
theorem e0_Court_actOf : xE0 M_Court_actOf 1 := ⟨xin 71 (by decide +kernel) rfl, xin 757 (by decide +kernel) rfl, by decide⟩
theorem e_Ww_175 : xEV "WarrantWeather" 175 M_Court_actOf 1 := ⟨e0_Court_actOf, xin 754 (by decide +kernel) rfl, xin 755 (by decide +kernel) rfl, xin 756 (by decide +kernel) rfl⟩
theorem e0_Court_fineOf : xE0 M_Court_fineOf 1 := ⟨xin 71 (by decide +kernel) rfl, xin 761 (by decide +kernel) rfl, by decide⟩
theorem e_Ww_178 : xEV "WarrantWeather" 178 M_Court_fineOf 1 := ⟨e0_Court_fineOf, xin 758 (by decide +kernel) rfl, xin 759 (by decide +kernel) rfl, xin 760 (by decide +kernel) rfl⟩
theorem e0_Court_appealOf : xE0 M_Court_appealOf 1 := ⟨xin 71 (by decide +kernel) rfl, xin 770 (by decide +kernel) rfl, by decide⟩
theorem e_Ww_181 : xEV "WarrantWeather" 181 M_Court_appealOf 1 := ⟨e0_Court_appealOf, xin 767 (by decide +kernel) rfl, xin 768 (by decide +kernel) rfl, xin 769 (by decide +kernel) rfl⟩
theorem e0_Court_gainOf : xE0 M_Court_gainOf 2 := ⟨xin 71 (by decide +kernel) rfl, xin 779 (by decide +kernel) rfl, by decide⟩
theorem e_Ww_185 : xEV "WarrantWeather" 185 M_Court_gainOf 2 := ⟨e0_Court_gainOf, xin 776 (by decide +kernel) rfl, xin 777 (by decide +kernel) rfl, xin 778 (by decide +kernel) rfl⟩
theorem e0_Court_tally : xE0 M_Court_tally 4 := ⟨xin 71 (by decide +kernel) rfl, xin 789 (by decide +kernel) rfl, by decide⟩
theorem e_Ww_190 : xEV "WarrantWeather" 190 M_Court_tally 4 := ⟨e0_Court_tally, xin 786 (by decide +kernel) rfl, xin 787 (by decide +kernel) rfl, xin 788 (by decide +kernel) rfl⟩
theorem e0_Court_totalOf : xE0 M_Court_totalOf 1 := ⟨xin 71 (by decide +kernel) rfl, xin 805 (by decide +kernel) rfl, by decide⟩
theorem e_Ww_194 : xEV "WarrantWeather" 194 M_Court_totalOf 1 := ⟨e0_Court_totalOf, xin 802 (by decide +kernel) rfl, xin 803 (by decide +kernel) rfl, xin 804 (by decide +kernel) rfl⟩
theorem e0_Court_moreByOther : xE0 M_Court_moreByOther 2 := ⟨xin 71 (by decide +kernel) rfl, xin 813 (by decide +kernel) rfl, by decide⟩
theorem e_Ww_197 : xEV "WarrantWeather" 197 M_Court_moreByOther 2 := ⟨e0_Court_moreByOther, xin 810 (by decide +kernel) rfl, xin 811 (by decide +kernel) rfl, xin 812 (by decide +kernel) rfl⟩
theorem e0_Court_allDoAlike : xE0 M_Court_allDoAlike 1 := ⟨xin 71 (by decide +kernel) rfl, xin 821 (by decide +kernel) rfl, by decide⟩
theorem e_Ww_200 : xEV "WarrantWeather" 200 M_Court_allDoAlike 1 := ⟨e0_Court_allDoAlike, xin 818 (by decide +kernel) rfl, xin 819 (by decide +kernel) rfl, xin 820 (by decide +kernel) rfl⟩
theorem e0_Ww_commonOf : xE0 M_Ww_commonOf 2 := ⟨xin 63 (by decide +kernel) rfl, xin 824 (by decide +kernel) rfl, by decide⟩
theorem e_Ww_203 : xES "WarrantWeather" 203 M_Ww_commonOf 2 := ⟨e0_Ww_commonOf, xin 822 (by decide +kernel) rfl, xin 823 (by decide +kernel) rfl⟩
theorem e0_Planner_draw : xE0 M_Planner_draw 3 := ⟨xin 73 (by decide +kernel) rfl, xin 832 (by decide +kernel) rfl, by decide⟩
theorem e_Ww_211 : xEV "WarrantWeather" 211 M_Planner_draw 3 := ⟨e0_Planner_draw, xin 829 (by decide +kernel) rfl, xin 830 (by decide +kernel) rfl, xin 831 (by decide +kernel) rfl⟩
theorem e0_Rolls_ruleKey : xE0 M_Rolls_ruleKey 2 := ⟨xin 64 (by decide +kernel) rfl, xin 853 (by decide +kernel) rfl, by decide⟩
theorem e_Ww_221 : xEV "WarrantWeather" 221 M_Rolls_ruleKey 2 := ⟨e0_Rolls_ruleKey, xin 850 (by decide +kernel) rfl, xin 851 (by decide +kernel) rfl, xin 852 (by decide +kernel) rfl⟩
theorem e0_Council_weigh : xE0 M_Council_weigh 1 := ⟨xin 74 (by decide +kernel) rfl, xin 863 (by decide +kernel) rfl, by decide⟩
theorem e_Ww_224 : xEV "WarrantWeather" 224 M_Council_weigh 1 := ⟨e0_Council_weigh, xin 860 (by decide +kernel) rfl, xin 861 (by decide +kernel) rfl, xin 862 (by decide +kernel) rfl⟩
theorem e0_Council_isEven : xE0 M_Council_isEven 1 := ⟨xin 74 (by decide +kernel) rfl, xin 872 (by decide +kernel) rfl, by decide⟩
theorem e_Ww_227 : xEV "WarrantWeather" 227 M_Council_isEven 1 := ⟨e0_Council_isEven, xin 869 (by decide +kernel) rfl, xin 870 (by decide +kernel) rfl, xin 871 (by decide +kernel) rfl⟩
theorem e0_Rolls_wetDecreesOn : xE0 M_Rolls_wetDecreesOn 1 := ⟨xin 64 (by decide +kernel) rfl, xin 885 (by decide +kernel) rfl, by decide⟩
theorem e_Ww_230 : xEV "WarrantWeather" 230 M_Rolls_wetDecreesOn 1 := ⟨e0_Rolls_wetDecreesOn, xin 882 (by decide +kernel) rfl, xin 883 (by decide +kernel) rfl, xin 884 (by decide +kernel) rfl⟩
theorem e0_Law_clauseAt : xE0 M_Law_clauseAt 1 := ⟨xin 68 (by decide +kernel) rfl, xin 893 (by decide +kernel) rfl, by decide⟩
theorem e_Ww_236 : xEV "WarrantWeather" 236 M_Law_clauseAt 1 := ⟨e0_Law_clauseAt, xin 890 (by decide +kernel) rfl, xin 891 (by decide +kernel) rfl, xin 892 (by decide +kernel) rfl⟩
theorem e0_Ww_songFits : xE0 M_Ww_songFits 2 := ⟨xin 63 (by decide +kernel) rfl, xin 901 (by decide +kernel) rfl, by decide⟩
theorem e_Ww_242 : xEV "WarrantWeather" 242 M_Ww_songFits 2 := ⟨e0_Ww_songFits, xin 898 (by decide +kernel) rfl, xin 900 (by decide +kernel) rfl, xin 15 (by decide +kernel) rfl⟩
theorem e0_Song_skyOf : xE0 M_Song_skyOf 2 := ⟨xin 75 (by decide +kernel) rfl, xin 914 (by decide +kernel) rfl, by decide⟩
theorem e_Ww_248 : xEV "WarrantWeather" 248 M_Song_skyOf 2 := ⟨e0_Song_skyOf, xin 911 (by decide +kernel) rfl, xin 912 (by decide +kernel) rfl, xin 913 (by decide +kernel) rfl⟩
theorem e0_Rolls_takeOver : xE0 M_Rolls_takeOver 1 := ⟨xin 64 (by decide +kernel) rfl, xin 926 (by decide +kernel) rfl, by decide⟩
theorem e_Ww_251 : xEV "WarrantWeather" 251 M_Rolls_takeOver 1 := ⟨e0_Rolls_takeOver, xin 923 (by decide +kernel) rfl, xin 924 (by decide +kernel) rfl, xin 925 (by decide +kernel) rfl⟩
theorem e0_Rolls_entryOf : xE0 M_Rolls_entryOf 1 := ⟨xin 64 (by decide +kernel) rfl, xin 941 (by decide +kernel) rfl, by decide⟩
theorem e_Ww_254 : xEV "WarrantWeather" 254 M_Rolls_entryOf 1 := ⟨e0_Rolls_entryOf, xin 938 (by decide +kernel) rfl, xin 939 (by decide +kernel) rfl, xin 940 (by decide +kernel) rfl⟩
theorem e0_Rolls_wetDecrees : xE0 M_Rolls_wetDecrees 0 := ⟨xin 64 (by decide +kernel) rfl, xin 945 (by decide +kernel) rfl, by decide⟩
theorem e_Ww_260 : xEV "WarrantWeather" 260 M_Rolls_wetDecrees 0 := ⟨e0_Rolls_wetDecrees, xin 942 (by decide +kernel) rfl, xin 943 (by decide +kernel) rfl, xin 944 (by decide +kernel) rfl⟩
theorem e0_Song_read : xE0 M_Song_read 1 := ⟨xin 75 (by decide +kernel) rfl, xin 905 (by decide +kernel) rfl, by decide⟩
theorem e_Ww_263 : xEV "WarrantWeather" 263 M_Song_read 1 := ⟨e0_Song_read, xin 902 (by decide +kernel) rfl, xin 903 (by decide +kernel) rfl, xin 904 (by decide +kernel) rfl⟩
theorem e_Bench_18 : xESN "WarrantWeather$Bench" 18 "WarrantWeather" M_Ww_within 2 := ⟨e0_Ww_within, xinN 658 (by decide +kernel) rfl, xin 424 (by decide +kernel) rfl⟩
theorem e0_Law_stopOf : xE0 M_Law_stopOf 1 := ⟨xin 68 (by decide +kernel) rfl, xin 688 (by decide +kernel) rfl, by decide⟩
theorem e_Bench_27 : xEV "WarrantWeather$Bench" 27 M_Law_stopOf 1 := ⟨e0_Law_stopOf, xin 685 (by decide +kernel) rfl, xin 686 (by decide +kernel) rfl, xin 687 (by decide +kernel) rfl⟩
theorem e0_Law_startOf : xE0 M_Law_startOf 1 := ⟨xin 68 (by decide +kernel) rfl, xin 693 (by decide +kernel) rfl, by decide⟩
theorem e_Bench_37 : xEV "WarrantWeather$Bench" 37 M_Law_startOf 1 := ⟨e0_Law_startOf, xin 690 (by decide +kernel) rfl, xin 691 (by decide +kernel) rfl, xin 692 (by decide +kernel) rfl⟩
theorem e0_Bench_worked : xE0 M_Bench_worked 3 := ⟨xin 72 (by decide +kernel) rfl, xin 699 (by decide +kernel) rfl, by decide⟩
theorem e_Bench_43 : xES "WarrantWeather$Bench" 43 M_Bench_worked 3 := ⟨e0_Bench_worked, xin 697 (by decide +kernel) rfl, xin 698 (by decide +kernel) rfl⟩
theorem e0_Bench_held : xE0 M_Bench_held 1 := ⟨xin 72 (by decide +kernel) rfl, xin 702 (by decide +kernel) rfl, by decide⟩
theorem e_Bench_47 : xES "WarrantWeather$Bench" 47 M_Bench_held 1 := ⟨e0_Bench_held, xin 700 (by decide +kernel) rfl, xin 701 (by decide +kernel) rfl⟩
theorem e0_Court_provinceGain : xE0 M_Court_provinceGain 3 := ⟨xin 71 (by decide +kernel) rfl, xin 837 (by decide +kernel) rfl, by decide⟩
theorem e_Council_26 : xEV "WarrantWeather$Council" 26 M_Court_provinceGain 3 := ⟨e0_Court_provinceGain, xin 864 (by decide +kernel) rfl, xin 835 (by decide +kernel) rfl, xin 836 (by decide +kernel) rfl⟩
theorem e0_Court_tollFor : xE0 M_Court_tollFor 4 := ⟨xin 71 (by decide +kernel) rfl, xin 868 (by decide +kernel) rfl, by decide⟩
theorem e_Council_32 : xEV "WarrantWeather$Council" 32 M_Court_tollFor 4 := ⟨e0_Court_tollFor, xin 865 (by decide +kernel) rfl, xin 866 (by decide +kernel) rfl, xin 867 (by decide +kernel) rfl⟩
theorem e0_Council_shareOf : xE0 M_Council_shareOf 2 := ⟨xin 74 (by decide +kernel) rfl, xin 876 (by decide +kernel) rfl, by decide⟩
theorem e_Council_36 : xEV "WarrantWeather$Council" 36 M_Council_shareOf 2 := ⟨e0_Council_shareOf, xin 873 (by decide +kernel) rfl, xin 875 (by decide +kernel) rfl, xin 14 (by decide +kernel) rfl⟩
theorem e_Council_40 : xESN "WarrantWeather$Council" 40 "WarrantWeather" M_Ww_within 2 := ⟨e0_Ww_within, xinN 877 (by decide +kernel) rfl, xin 424 (by decide +kernel) rfl⟩
theorem e_Court_37 : xEV "WarrantWeather$Court" 37 M_Rolls_decreeOf 2 := ⟨e0_Rolls_decreeOf, xin 736 (by decide +kernel) rfl, xin 664 (by decide +kernel) rfl, xin 665 (by decide +kernel) rfl⟩
theorem e0_Court_sit : xE0 M_Court_sit 3 := ⟨xin 71 (by decide +kernel) rfl, xin 740 (by decide +kernel) rfl, by decide⟩
theorem e_Court_43 : xEV "WarrantWeather$Court" 43 M_Court_sit 3 := ⟨e0_Court_sit, xin 737 (by decide +kernel) rfl, xin 738 (by decide +kernel) rfl, xin 739 (by decide +kernel) rfl⟩
theorem e0_Rolls_skyOf : xE0 M_Rolls_skyOf 1 := ⟨xin 64 (by decide +kernel) rfl, xin 674 (by decide +kernel) rfl, by decide⟩
theorem e_Court_47 : xEV "WarrantWeather$Court" 47 M_Rolls_skyOf 1 := ⟨e0_Rolls_skyOf, xin 675 (by decide +kernel) rfl, xin 672 (by decide +kernel) rfl, xin 673 (by decide +kernel) rfl⟩
theorem e0_Bench_tell : xE0 M_Bench_tell 2 := ⟨xin 72 (by decide +kernel) rfl, xin 657 (by decide +kernel) rfl, by decide⟩
theorem e_Court_60 : xEV "WarrantWeather$Court" 60 M_Bench_tell 2 := ⟨e0_Bench_tell, xin 654 (by decide +kernel) rfl, xin 655 (by decide +kernel) rfl, xin 656 (by decide +kernel) rfl⟩
theorem e0_Court_call : xE0 M_Court_call 1 := ⟨xin 71 (by decide +kernel) rfl, xin 744 (by decide +kernel) rfl, by decide⟩
theorem e_Court_73 : xEV "WarrantWeather$Court" 73 M_Court_call 1 := ⟨e0_Court_call, xin 741 (by decide +kernel) rfl, xin 743 (by decide +kernel) rfl, xin 11 (by decide +kernel) rfl⟩
theorem e0_Court_comesTo : xE0 M_Court_comesTo 1 := ⟨xin 71 (by decide +kernel) rfl, xin 679 (by decide +kernel) rfl, by decide⟩
theorem e_Court_77 : xEV "WarrantWeather$Court" 77 M_Court_comesTo 1 := ⟨e0_Court_comesTo, xin 676 (by decide +kernel) rfl, xin 678 (by decide +kernel) rfl, xin 10 (by decide +kernel) rfl⟩
theorem e_Court_80 : xESN "WarrantWeather$Court" 80 "WarrantWeather" M_Ww_within 2 := ⟨e0_Ww_within, xinN 745 (by decide +kernel) rfl, xin 424 (by decide +kernel) rfl⟩
theorem e0_Ww_between : xE0 M_Ww_between 3 := ⟨xin 63 (by decide +kernel) rfl, xin 764 (by decide +kernel) rfl, by decide⟩
theorem e_Court_84 : xESN "WarrantWeather$Court" 84 "WarrantWeather" M_Ww_between 3 := ⟨e0_Ww_between, xinN 762 (by decide +kernel) rfl, xin 763 (by decide +kernel) rfl⟩
theorem e_Court_88 : xEV "WarrantWeather$Court" 88 M_Court_fineOf 1 := ⟨e0_Court_fineOf, xin 780 (by decide +kernel) rfl, xin 759 (by decide +kernel) rfl, xin 760 (by decide +kernel) rfl⟩
theorem e_Court_91 : xEV "WarrantWeather$Court" 91 M_Rolls_homeOf 1 := ⟨e0_Rolls_homeOf, xin 791 (by decide +kernel) rfl, xin 751 (by decide +kernel) rfl, xin 752 (by decide +kernel) rfl⟩
theorem e_Court_94 : xEV "WarrantWeather$Court" 94 M_Court_gainOf 2 := ⟨e0_Court_gainOf, xin 797 (by decide +kernel) rfl, xin 777 (by decide +kernel) rfl, xin 778 (by decide +kernel) rfl⟩
theorem e_Court_98 : xEV "WarrantWeather$Court" 98 M_Court_sitAsItIs 2 := ⟨e0_Court_sitAsItIs, xin 792 (by decide +kernel) rfl, xin 733 (by decide +kernel) rfl, xin 734 (by decide +kernel) rfl⟩
theorem e0_Court_addGains : xE0 M_Court_addGains 2 := ⟨xin 71 (by decide +kernel) rfl, xin 796 (by decide +kernel) rfl, by decide⟩
theorem e_Court_107 : xEV "WarrantWeather$Court" 107 M_Court_addGains 2 := ⟨e0_Court_addGains, xin 793 (by decide +kernel) rfl, xin 795 (by decide +kernel) rfl, xin 12 (by decide +kernel) rfl⟩
theorem e0_Rolls_lastOf : xE0 M_Rolls_lastOf 2 := ⟨xin 64 (by decide +kernel) rfl, xin 662 (by decide +kernel) rfl, by decide⟩
theorem e_Court_110 : xEV "WarrantWeather$Court" 110 M_Rolls_lastOf 2 := ⟨e0_Rolls_lastOf, xin 659 (by decide +kernel) rfl, xin 660 (by decide +kernel) rfl, xin 661 (by decide +kernel) rfl⟩
theorem e0_Rolls_seenOn : xE0 M_Rolls_seenOn 1 := ⟨xin 64 (by decide +kernel) rfl, xin 670 (by decide +kernel) rfl, by decide⟩
theorem e_Court_113 : xEV "WarrantWeather$Court" 113 M_Rolls_seenOn 1 := ⟨e0_Rolls_seenOn, xin 667 (by decide +kernel) rfl, xin 668 (by decide +kernel) rfl, xin 669 (by decide +kernel) rfl⟩
theorem e_Court_122 : xEV "WarrantWeather$Court" 122 M_Shelf_ruling 0 := ⟨e0_Shelf_ruling, xin 680 (by decide +kernel) rfl, xin 646 (by decide +kernel) rfl, xin 647 (by decide +kernel) rfl⟩
theorem e0_Bench_run : xE0 M_Bench_run 2 := ⟨xin 72 (by decide +kernel) rfl, xin 684 (by decide +kernel) rfl, by decide⟩
theorem e_Court_128 : xEV "WarrantWeather$Court" 128 M_Bench_run 2 := ⟨e0_Bench_run, xin 681 (by decide +kernel) rfl, xin 682 (by decide +kernel) rfl, xin 683 (by decide +kernel) rfl⟩
theorem e_Law_37 : xESN "WarrantWeather$Law" 37 "WarrantWeather" M_Ww_within 2 := ⟨e0_Ww_within, xinN 594 (by decide +kernel) rfl, xin 424 (by decide +kernel) rfl⟩
theorem e_Law_41 : xEV "WarrantWeather$Law" 41 M_Law_stopOf 1 := ⟨e0_Law_stopOf, xin 715 (by decide +kernel) rfl, xin 686 (by decide +kernel) rfl, xin 687 (by decide +kernel) rfl⟩
theorem e_Law_51 : xEV "WarrantWeather$Law" 51 M_Law_startOf 1 := ⟨e0_Law_startOf, xin 717 (by decide +kernel) rfl, xin 691 (by decide +kernel) rfl, xin 692 (by decide +kernel) rfl⟩
theorem e_Planner_39 : xEV "WarrantWeather$Planner" 39 M_Court_provinceGain 3 := ⟨e0_Court_provinceGain, xin 834 (by decide +kernel) rfl, xin 835 (by decide +kernel) rfl, xin 836 (by decide +kernel) rfl⟩
theorem e_Planner_61 : xEV "WarrantWeather$Planner" 61 M_Rolls_lastOf 2 := ⟨e0_Rolls_lastOf, xin 839 (by decide +kernel) rfl, xin 660 (by decide +kernel) rfl, xin 661 (by decide +kernel) rfl⟩
theorem e0_Planner_follow : xE0 M_Planner_follow 4 := ⟨xin 73 (by decide +kernel) rfl, xin 843 (by decide +kernel) rfl, by decide⟩
theorem e_Planner_66 : xEV "WarrantWeather$Planner" 66 M_Planner_follow 4 := ⟨e0_Planner_follow, xin 840 (by decide +kernel) rfl, xin 842 (by decide +kernel) rfl, xin 13 (by decide +kernel) rfl⟩
theorem e_Planner_70 : xEV "WarrantWeather$Planner" 70 M_Rolls_seenOn 1 := ⟨e0_Rolls_seenOn, xin 844 (by decide +kernel) rfl, xin 668 (by decide +kernel) rfl, xin 669 (by decide +kernel) rfl⟩
theorem e_Planner_74 : xESN "WarrantWeather$Planner" 74 "WarrantWeather" M_Ww_within 2 := ⟨e0_Ww_within, xinN 845 (by decide +kernel) rfl, xin 424 (by decide +kernel) rfl⟩
theorem e0_Law_clear : xE0 M_Law_clear 0 := ⟨xin 68 (by decide +kernel) rfl, xin 491 (by decide +kernel) rfl, by decide⟩
theorem e_Reader_33 : xEV "WarrantWeather$Reader" 33 M_Law_clear 0 := ⟨e0_Law_clear, xin 488 (by decide +kernel) rfl, xin 489 (by decide +kernel) rfl, xin 490 (by decide +kernel) rfl⟩
theorem e0_Tokens_scan : xE0 M_Tokens_scan 1 := ⟨xin 70 (by decide +kernel) rfl, xin 496 (by decide +kernel) rfl, by decide⟩
theorem e_Reader_41 : xEV "WarrantWeather$Reader" 41 M_Tokens_scan 1 := ⟨e0_Tokens_scan, xin 493 (by decide +kernel) rfl, xin 494 (by decide +kernel) rfl, xin 495 (by decide +kernel) rfl⟩
theorem e0_Reader_kind : xE0 M_Reader_kind 0 := ⟨xin 69 (by decide +kernel) rfl, xin 580 (by decide +kernel) rfl, by decide⟩
theorem e_Reader_48 : xEV "WarrantWeather$Reader" 48 M_Reader_kind 0 := ⟨e0_Reader_kind, xin 577 (by decide +kernel) rfl, xin 579 (by decide +kernel) rfl, xin 0 (by decide +kernel) rfl⟩
theorem e0_Reader_readClause : xE0 M_Reader_readClause 0 := ⟨xin 69 (by decide +kernel) rfl, xin 584 (by decide +kernel) rfl, by decide⟩
theorem e_Reader_52 : xEV "WarrantWeather$Reader" 52 M_Reader_readClause 0 := ⟨e0_Reader_readClause, xin 581 (by decide +kernel) rfl, xin 583 (by decide +kernel) rfl, xin 1 (by decide +kernel) rfl⟩
theorem e_Reader_69 : xESN "WarrantWeather$Reader" 69 "WarrantWeather" M_Ww_within 2 := ⟨e0_Ww_within, xinN 585 (by decide +kernel) rfl, xin 424 (by decide +kernel) rfl⟩
theorem e0_Reader_wrong : xE0 M_Reader_wrong 1 := ⟨xin 69 (by decide +kernel) rfl, xin 589 (by decide +kernel) rfl, by decide⟩
theorem e_Reader_73 : xEV "WarrantWeather$Reader" 73 M_Reader_wrong 1 := ⟨e0_Reader_wrong, xin 586 (by decide +kernel) rfl, xin 588 (by decide +kernel) rfl, xin 2 (by decide +kernel) rfl⟩
theorem e_Reader_77 : xEV "WarrantWeather$Reader" 77 M_Law_has 1 := ⟨e0_Law_has, xin 590 (by decide +kernel) rfl, xin 591 (by decide +kernel) rfl, xin 592 (by decide +kernel) rfl⟩
theorem e0_Reader_readSum : xE0 M_Reader_readSum 1 := ⟨xin 69 (by decide +kernel) rfl, xin 598 (by decide +kernel) rfl, by decide⟩
theorem e_Reader_83 : xEV "WarrantWeather$Reader" 83 M_Reader_readSum 1 := ⟨e0_Reader_readSum, xin 595 (by decide +kernel) rfl, xin 597 (by decide +kernel) rfl, xin 3 (by decide +kernel) rfl⟩
theorem e0_Reader_readEither : xE0 M_Reader_readEither 0 := ⟨xin 69 (by decide +kernel) rfl, xin 620 (by decide +kernel) rfl, by decide⟩
theorem e_Reader_86 : xEV "WarrantWeather$Reader" 86 M_Reader_readEither 0 := ⟨e0_Reader_readEither, xin 617 (by decide +kernel) rfl, xin 619 (by decide +kernel) rfl, xin 8 (by decide +kernel) rfl⟩
theorem e0_Law_enter : xE0 M_Law_enter 2 := ⟨xin 68 (by decide +kernel) rfl, xin 628 (by decide +kernel) rfl, by decide⟩
theorem e_Reader_89 : xEV "WarrantWeather$Reader" 89 M_Law_enter 2 := ⟨e0_Law_enter, xin 625 (by decide +kernel) rfl, xin 626 (by decide +kernel) rfl, xin 627 (by decide +kernel) rfl⟩
theorem e0_Reader_readAsk : xE0 M_Reader_readAsk 0 := ⟨xin 69 (by decide +kernel) rfl, xin 624 (by decide +kernel) rfl, by decide⟩
theorem e_Reader_93 : xEV "WarrantWeather$Reader" 93 M_Reader_readAsk 0 := ⟨e0_Reader_readAsk, xin 621 (by decide +kernel) rfl, xin 623 (by decide +kernel) rfl, xin 9 (by decide +kernel) rfl⟩
theorem e0_Reader_emitIf : xE0 M_Reader_emitIf 2 := ⟨xin 69 (by decide +kernel) rfl, xin 616 (by decide +kernel) rfl, by decide⟩
theorem e_Reader_96 : xEV "WarrantWeather$Reader" 96 M_Reader_emitIf 2 := ⟨e0_Reader_emitIf, xin 613 (by decide +kernel) rfl, xin 615 (by decide +kernel) rfl, xin 7 (by decide +kernel) rfl⟩
theorem e0_Reader_readOne : xE0 M_Reader_readOne 1 := ⟨xin 69 (by decide +kernel) rfl, xin 602 (by decide +kernel) rfl, by decide⟩
theorem e_Reader_100 : xEV "WarrantWeather$Reader" 100 M_Reader_readOne 1 := ⟨e0_Reader_readOne, xin 599 (by decide +kernel) rfl, xin 601 (by decide +kernel) rfl, xin 4 (by decide +kernel) rfl⟩
theorem e0_Reader_value : xE0 M_Reader_value 0 := ⟨xin 69 (by decide +kernel) rfl, xin 606 (by decide +kernel) rfl, by decide⟩
theorem e_Reader_103 : xEV "WarrantWeather$Reader" 103 M_Reader_value 0 := ⟨e0_Reader_value, xin 603 (by decide +kernel) rfl, xin 605 (by decide +kernel) rfl, xin 5 (by decide +kernel) rfl⟩
theorem e0_Reader_faultOfPlain : xE0 M_Reader_faultOfPlain 2 := ⟨xin 69 (by decide +kernel) rfl, xin 610 (by decide +kernel) rfl, by decide⟩
theorem e_Reader_106 : xEV "WarrantWeather$Reader" 106 M_Reader_faultOfPlain 2 := ⟨e0_Reader_faultOfPlain, xin 607 (by decide +kernel) rfl, xin 609 (by decide +kernel) rfl, xin 6 (by decide +kernel) rfl⟩
theorem e_Rolls_64 : xESN "WarrantWeather$Rolls" 64 "WarrantWeather" M_Ww_within 2 := ⟨e0_Ww_within, xinN 430 (by decide +kernel) rfl, xin 424 (by decide +kernel) rfl⟩
theorem e_Rolls_68 : xEV "WarrantWeather$Rolls" 68 M_Rolls_decreeOf 2 := ⟨e0_Rolls_decreeOf, xin 663 (by decide +kernel) rfl, xin 664 (by decide +kernel) rfl, xin 665 (by decide +kernel) rfl⟩
theorem e_Rolls_72 : xEV "WarrantWeather$Rolls" 72 M_Rolls_skyOf 1 := ⟨e0_Rolls_skyOf, xin 671 (by decide +kernel) rfl, xin 672 (by decide +kernel) rfl, xin 673 (by decide +kernel) rfl⟩
theorem e_Rolls_76 : xEV "WarrantWeather$Rolls" 76 M_Rolls_lastOf 2 := ⟨e0_Rolls_lastOf, xin 854 (by decide +kernel) rfl, xin 660 (by decide +kernel) rfl, xin 661 (by decide +kernel) rfl⟩
theorem e_Rolls_79 : xEV "WarrantWeather$Rolls" 79 M_Rolls_seenOn 1 := ⟨e0_Rolls_seenOn, xin 855 (by decide +kernel) rfl, xin 668 (by decide +kernel) rfl, xin 669 (by decide +kernel) rfl⟩
theorem e_Rolls_87 : xEV "WarrantWeather$Rolls" 87 M_Rolls_wetDecreesOn 1 := ⟨e0_Rolls_wetDecreesOn, xin 946 (by decide +kernel) rfl, xin 883 (by decide +kernel) rfl, xin 884 (by decide +kernel) rfl⟩
theorem e_Shelf_26 : xESN "WarrantWeather$Shelf" 26 "WarrantWeather" M_Ww_within 2 := ⟨e0_Ww_within, xinN 483 (by decide +kernel) rfl, xin 424 (by decide +kernel) rfl⟩
theorem e0_Tape_at : xE0 M_Tape_at 1 := ⟨xin 66 (by decide +kernel) rfl, xin 500 (by decide +kernel) rfl, by decide⟩
theorem e_Song_24 : xEV "WarrantWeather$Song" 24 M_Tape_at 1 := ⟨e0_Tape_at, xin 906 (by decide +kernel) rfl, xin 498 (by decide +kernel) rfl, xin 499 (by decide +kernel) rfl⟩
theorem e_Song_28 : xESN "WarrantWeather$Song" 28 "WarrantWeather" M_Ww_within 2 := ⟨e0_Ww_within, xinN 907 (by decide +kernel) rfl, xin 424 (by decide +kernel) rfl⟩
theorem e0_Song_isVowel : xE0 M_Song_isVowel 1 := ⟨xin 75 (by decide +kernel) rfl, xin 910 (by decide +kernel) rfl, by decide⟩
theorem e_Song_32 : xES "WarrantWeather$Song" 32 M_Song_isVowel 1 := ⟨e0_Song_isVowel, xin 908 (by decide +kernel) rfl, xin 909 (by decide +kernel) rfl⟩
theorem e_Tape_19 : xESN "WarrantWeather$Tape" 19 "WarrantWeather" M_Ww_within 2 := ⟨e0_Ww_within, xinN 470 (by decide +kernel) rfl, xin 424 (by decide +kernel) rfl⟩
theorem e_Tokens_28 : xEV "WarrantWeather$Tokens" 28 M_Tape_at 1 := ⟨e0_Tape_at, xin 497 (by decide +kernel) rfl, xin 498 (by decide +kernel) rfl, xin 499 (by decide +kernel) rfl⟩
theorem e0_Tokens_stopOf : xE0 M_Tokens_stopOf 2 := ⟨xin 70 (by decide +kernel) rfl, xin 503 (by decide +kernel) rfl, by decide⟩
theorem e_Tokens_32 : xES "WarrantWeather$Tokens" 32 M_Tokens_stopOf 2 := ⟨e0_Tokens_stopOf, xin 501 (by decide +kernel) rfl, xin 502 (by decide +kernel) rfl⟩
theorem e0_Tokens_isDigit : xE0 M_Tokens_isDigit 1 := ⟨xin 70 (by decide +kernel) rfl, xin 509 (by decide +kernel) rfl, by decide⟩
theorem e_Tokens_36 : xES "WarrantWeather$Tokens" 36 M_Tokens_isDigit 1 := ⟨e0_Tokens_isDigit, xin 507 (by decide +kernel) rfl, xin 508 (by decide +kernel) rfl⟩
theorem e0_Tokens_numberOf : xE0 M_Tokens_numberOf 3 := ⟨xin 70 (by decide +kernel) rfl, xin 512 (by decide +kernel) rfl, by decide⟩
theorem e_Tokens_40 : xES "WarrantWeather$Tokens" 40 M_Tokens_numberOf 3 := ⟨e0_Tokens_numberOf, xin 510 (by decide +kernel) rfl, xin 511 (by decide +kernel) rfl⟩
theorem e0_Tokens_kindOf : xE0 M_Tokens_kindOf 3 := ⟨xin 70 (by decide +kernel) rfl, xin 516 (by decide +kernel) rfl, by decide⟩
theorem e_Tokens_44 : xES "WarrantWeather$Tokens" 44 M_Tokens_kindOf 3 := ⟨e0_Tokens_kindOf, xin 514 (by decide +kernel) rfl, xin 515 (by decide +kernel) rfl⟩
theorem e0_Tokens_put : xE0 M_Tokens_put 3 := ⟨xin 70 (by decide +kernel) rfl, xin 575 (by decide +kernel) rfl, by decide⟩
theorem e_Tokens_47 : xEV "WarrantWeather$Tokens" 47 M_Tokens_put 3 := ⟨e0_Tokens_put, xin 572 (by decide +kernel) rfl, xin 573 (by decide +kernel) rfl, xin 574 (by decide +kernel) rfl⟩
theorem e_Tokens_51 : xESN "WarrantWeather$Tokens" 51 "WarrantWeather" M_Ww_within 2 := ⟨e0_Ww_within, xinN 576 (by decide +kernel) rfl, xin 424 (by decide +kernel) rfl⟩
theorem e0_Tokens_isLetter : xE0 M_Tokens_isLetter 1 := ⟨xin 70 (by decide +kernel) rfl, xin 506 (by decide +kernel) rfl, by decide⟩
theorem e_Tokens_55 : xES "WarrantWeather$Tokens" 55 M_Tokens_isLetter 1 := ⟨e0_Tokens_isLetter, xin 504 (by decide +kernel) rfl, xin 505 (by decide +kernel) rfl⟩
theorem e0_Tokens_wordOf : xE0 M_Tokens_wordOf 3 := ⟨xin 70 (by decide +kernel) rfl, xin 519 (by decide +kernel) rfl, by decide⟩
theorem e_Tokens_58 : xES "WarrantWeather$Tokens" 58 M_Tokens_wordOf 3 := ⟨e0_Tokens_wordOf, xin 517 (by decide +kernel) rfl, xin 518 (by decide +kernel) rfl⟩
theorem e0_Tokens_signOf : xE0 M_Tokens_signOf 2 := ⟨xin 70 (by decide +kernel) rfl, xin 571 (by decide +kernel) rfl, by decide⟩
theorem e_Tokens_61 : xES "WarrantWeather$Tokens" 61 M_Tokens_signOf 2 := ⟨e0_Tokens_signOf, xin 569 (by decide +kernel) rfl, xin 570 (by decide +kernel) rfl⟩
theorem e0_Md_copies : xE0 M_Md_copies 1 := ⟨xin 76 (by decide +kernel) rfl, xin 956 (by decide +kernel) rfl, by decide⟩
theorem e_Md_85 : xEV "WarrantWeatherModel" 85 M_Md_copies 1 := ⟨e0_Md_copies, xin 953 (by decide +kernel) rfl, xin 955 (by decide +kernel) rfl, xin 16 (by decide +kernel) rfl⟩
theorem e0_Md_in : xE0 M_Md_in 3 := ⟨xin 76 (by decide +kernel) rfl, xin 1085 (by decide +kernel) rfl, by decide⟩
theorem e_Md_89 : xES "WarrantWeatherModel" 89 M_Md_in 3 := ⟨e0_Md_in, xin 1083 (by decide +kernel) rfl, xin 1084 (by decide +kernel) rfl⟩
theorem e0_Md_isProvince : xE0 M_Md_isProvince 1 := ⟨xin 76 (by decide +kernel) rfl, xin 1082 (by decide +kernel) rfl, by decide⟩
theorem e_Md_93 : xES "WarrantWeatherModel" 93 M_Md_isProvince 1 := ⟨e0_Md_isProvince, xin 1080 (by decide +kernel) rfl, xin 1081 (by decide +kernel) rfl⟩
theorem e0_Md_isDay : xE0 M_Md_isDay 1 := ⟨xin 76 (by decide +kernel) rfl, xin 1092 (by decide +kernel) rfl, by decide⟩
theorem e_Md_97 : xES "WarrantWeatherModel" 97 M_Md_isDay 1 := ⟨e0_Md_isDay, xin 1090 (by decide +kernel) rfl, xin 1091 (by decide +kernel) rfl⟩
theorem e0_Md_wetDays : xE0 M_Md_wetDays 0 := ⟨xin 76 (by decide +kernel) rfl, xin 1100 (by decide +kernel) rfl, by decide⟩
theorem e_Md_100 : xEV "WarrantWeatherModel" 100 M_Md_wetDays 0 := ⟨e0_Md_wetDays, xin 1097 (by decide +kernel) rfl, xin 1099 (by decide +kernel) rfl, xin 17 (by decide +kernel) rfl⟩
theorem e0_Md_decrees : xE0 M_Md_decrees 3 := ⟨xin 76 (by decide +kernel) rfl, xin 1108 (by decide +kernel) rfl, by decide⟩
theorem e_Md_104 : xEV "WarrantWeatherModel" 104 M_Md_decrees 3 := ⟨e0_Md_decrees, xin 1105 (by decide +kernel) rfl, xin 1107 (by decide +kernel) rfl, xin 18 (by decide +kernel) rfl⟩
theorem e0_Md_put : xE0 M_Md_put 1 := ⟨xin 76 (by decide +kernel) rfl, xin 1124 (by decide +kernel) rfl, by decide⟩
theorem e_Md_110 : xEV "WarrantWeatherModel" 110 M_Md_put 1 := ⟨e0_Md_put, xin 1121 (by decide +kernel) rfl, xin 1123 (by decide +kernel) rfl, xin 19 (by decide +kernel) rfl⟩
theorem e0_Md_isLetter : xE0 M_Md_isLetter 1 := ⟨xin 76 (by decide +kernel) rfl, xin 1139 (by decide +kernel) rfl, by decide⟩
theorem e_Md_170 : xES "WarrantWeatherModel" 170 M_Md_isLetter 1 := ⟨e0_Md_isLetter, xin 1137 (by decide +kernel) rfl, xin 1138 (by decide +kernel) rfl⟩
theorem e0_Md_wordOf : xE0 M_Md_wordOf 1 := ⟨xin 76 (by decide +kernel) rfl, xin 1143 (by decide +kernel) rfl, by decide⟩
theorem e_Md_175 : xES "WarrantWeatherModel" 175 M_Md_wordOf 1 := ⟨e0_Md_wordOf, xin 1141 (by decide +kernel) rfl, xin 1142 (by decide +kernel) rfl⟩
theorem e0_Md_errs : xE0 M_Md_errs 1 := ⟨xin 76 (by decide +kernel) rfl, xin 1182 (by decide +kernel) rfl, by decide⟩
theorem e_Md_198 : xEV "WarrantWeatherModel" 198 M_Md_errs 1 := ⟨e0_Md_errs, xin 1179 (by decide +kernel) rfl, xin 1181 (by decide +kernel) rfl, xin 24 (by decide +kernel) rfl⟩
theorem e0_Md_opensFrame : xE0 M_Md_opensFrame 1 := ⟨xin 76 (by decide +kernel) rfl, xin 1186 (by decide +kernel) rfl, by decide⟩
theorem e_Md_201 : xEV "WarrantWeatherModel" 201 M_Md_opensFrame 1 := ⟨e0_Md_opensFrame, xin 1183 (by decide +kernel) rfl, xin 1185 (by decide +kernel) rfl, xin 25 (by decide +kernel) rfl⟩
theorem e0_Md_next : xE0 M_Md_next 0 := ⟨xin 76 (by decide +kernel) rfl, xin 1136 (by decide +kernel) rfl, by decide⟩
theorem e_Md_204 : xEV "WarrantWeatherModel" 204 M_Md_next 0 := ⟨e0_Md_next, xin 1133 (by decide +kernel) rfl, xin 1135 (by decide +kernel) rfl, xin 20 (by decide +kernel) rfl⟩
theorem e0_Md_rank : xE0 M_Md_rank 1 := ⟨xin 76 (by decide +kernel) rfl, xin 1220 (by decide +kernel) rfl, by decide⟩
theorem e_Md_210 : xES "WarrantWeatherModel" 210 M_Md_rank 1 := ⟨e0_Md_rank, xin 1218 (by decide +kernel) rfl, xin 1219 (by decide +kernel) rfl⟩
theorem e0_Md_emits : xE0 M_Md_emits 2 := ⟨xin 76 (by decide +kernel) rfl, xin 1194 (by decide +kernel) rfl, by decide⟩
theorem e_Md_214 : xEV "WarrantWeatherModel" 214 M_Md_emits 2 := ⟨e0_Md_emits, xin 1191 (by decide +kernel) rfl, xin 1193 (by decide +kernel) rfl, xin 27 (by decide +kernel) rfl⟩
theorem e0_Md_works : xE0 M_Md_works 1 := ⟨xin 76 (by decide +kernel) rfl, xin 1224 (by decide +kernel) rfl, by decide⟩
theorem e_Md_218 : xEV "WarrantWeatherModel" 218 M_Md_works 1 := ⟨e0_Md_works, xin 1221 (by decide +kernel) rfl, xin 1223 (by decide +kernel) rfl, xin 33 (by decide +kernel) rfl⟩
theorem e0_Md_isWord : xE0 M_Md_isWord 1 := ⟨xin 76 (by decide +kernel) rfl, xin 1174 (by decide +kernel) rfl, by decide⟩
theorem e_Md_221 : xEV "WarrantWeatherModel" 221 M_Md_isWord 1 := ⟨e0_Md_isWord, xin 1171 (by decide +kernel) rfl, xin 1173 (by decide +kernel) rfl, xin 22 (by decide +kernel) rfl⟩
theorem e0_Md_opensSign : xE0 M_Md_opensSign 1 := ⟨xin 76 (by decide +kernel) rfl, xin 1178 (by decide +kernel) rfl, by decide⟩
theorem e_Md_224 : xEV "WarrantWeatherModel" 224 M_Md_opensSign 1 := ⟨e0_Md_opensSign, xin 1175 (by decide +kernel) rfl, xin 1177 (by decide +kernel) rfl, xin 23 (by decide +kernel) rfl⟩
theorem e0_Md_oneIsOver : xE0 M_Md_oneIsOver 0 := ⟨xin 76 (by decide +kernel) rfl, xin 1198 (by decide +kernel) rfl, by decide⟩
theorem e_Md_230 : xEV "WarrantWeatherModel" 230 M_Md_oneIsOver 0 := ⟨e0_Md_oneIsOver, xin 1195 (by decide +kernel) rfl, xin 1197 (by decide +kernel) rfl, xin 28 (by decide +kernel) rfl⟩
theorem e0_Md_mayOf : xE0 M_Md_mayOf 1 := ⟨xin 76 (by decide +kernel) rfl, xin 1205 (by decide +kernel) rfl, by decide⟩
theorem e_Md_236 : xES "WarrantWeatherModel" 236 M_Md_mayOf 1 := ⟨e0_Md_mayOf, xin 1203 (by decide +kernel) rfl, xin 1204 (by decide +kernel) rfl⟩
theorem e0_Md_isSign : xE0 M_Md_isSign 1 := ⟨xin 76 (by decide +kernel) rfl, xin 1209 (by decide +kernel) rfl, by decide⟩
theorem e_Md_239 : xEV "WarrantWeatherModel" 239 M_Md_isSign 1 := ⟨e0_Md_isSign, xin 1206 (by decide +kernel) rfl, xin 1208 (by decide +kernel) rfl, xin 30 (by decide +kernel) rfl⟩
theorem e0_Md_top : xE0 M_Md_top 0 := ⟨xin 76 (by decide +kernel) rfl, xin 1202 (by decide +kernel) rfl, by decide⟩
theorem e_Md_242 : xEV "WarrantWeatherModel" 242 M_Md_top 0 := ⟨e0_Md_top, xin 1199 (by decide +kernel) rfl, xin 1201 (by decide +kernel) rfl, xin 29 (by decide +kernel) rfl⟩
theorem e0_Md_waitsFor : xE0 M_Md_waitsFor 1 := ⟨xin 76 (by decide +kernel) rfl, xin 1217 (by decide +kernel) rfl, by decide⟩
theorem e_Md_245 : xEV "WarrantWeatherModel" 245 M_Md_waitsFor 1 := ⟨e0_Md_waitsFor, xin 1214 (by decide +kernel) rfl, xin 1216 (by decide +kernel) rfl, xin 32 (by decide +kernel) rfl⟩
theorem e0_Md_isAsking : xE0 M_Md_isAsking 1 := ⟨xin 76 (by decide +kernel) rfl, xin 1227 (by decide +kernel) rfl, by decide⟩
theorem e_Md_248 : xES "WarrantWeatherModel" 248 M_Md_isAsking 1 := ⟨e0_Md_isAsking, xin 1225 (by decide +kernel) rfl, xin 1226 (by decide +kernel) rfl⟩
theorem e0_Md_askIsOver : xE0 M_Md_askIsOver 0 := ⟨xin 76 (by decide +kernel) rfl, xin 1231 (by decide +kernel) rfl, by decide⟩
theorem e_Md_251 : xEV "WarrantWeatherModel" 251 M_Md_askIsOver 0 := ⟨e0_Md_askIsOver, xin 1228 (by decide +kernel) rfl, xin 1230 (by decide +kernel) rfl, xin 34 (by decide +kernel) rfl⟩
theorem e0_Md_clauseIsOver : xE0 M_Md_clauseIsOver 0 := ⟨xin 76 (by decide +kernel) rfl, xin 1235 (by decide +kernel) rfl, by decide⟩
theorem e_Md_254 : xEV "WarrantWeatherModel" 254 M_Md_clauseIsOver 0 := ⟨e0_Md_clauseIsOver, xin 1232 (by decide +kernel) rfl, xin 1234 (by decide +kernel) rfl, xin 35 (by decide +kernel) rfl⟩
theorem e0_Md_asks : xE0 M_Md_asks 0 := ⟨xin 76 (by decide +kernel) rfl, xin 1170 (by decide +kernel) rfl, by decide⟩
theorem e_Md_260 : xEV "WarrantWeatherModel" 260 M_Md_asks 0 := ⟨e0_Md_asks, xin 1167 (by decide +kernel) rfl, xin 1169 (by decide +kernel) rfl, xin 21 (by decide +kernel) rfl⟩
theorem e0_Md_begins : xE0 M_Md_begins 0 := ⟨xin 76 (by decide +kernel) rfl, xin 1190 (by decide +kernel) rfl, by decide⟩
theorem e_Md_263 : xEV "WarrantWeatherModel" 263 M_Md_begins 0 := ⟨e0_Md_begins, xin 1187 (by decide +kernel) rfl, xin 1189 (by decide +kernel) rfl, xin 26 (by decide +kernel) rfl⟩
theorem e0_Md_goesOn : xE0 M_Md_goesOn 0 := ⟨xin 76 (by decide +kernel) rfl, xin 1213 (by decide +kernel) rfl, by decide⟩
theorem e_Md_266 : xEV "WarrantWeatherModel" 266 M_Md_goesOn 0 := ⟨e0_Md_goesOn, xin 1210 (by decide +kernel) rfl, xin 1212 (by decide +kernel) rfl, xin 31 (by decide +kernel) rfl⟩
theorem e0_Md_asksOn : xE0 M_Md_asksOn 0 := ⟨xin 76 (by decide +kernel) rfl, xin 1239 (by decide +kernel) rfl, by decide⟩
theorem e_Md_269 : xEV "WarrantWeatherModel" 269 M_Md_asksOn 0 := ⟨e0_Md_asksOn, xin 1236 (by decide +kernel) rfl, xin 1238 (by decide +kernel) rfl, xin 36 (by decide +kernel) rfl⟩
theorem e0_Md_clause : xE0 M_Md_clause 0 := ⟨xin 76 (by decide +kernel) rfl, xin 1243 (by decide +kernel) rfl, by decide⟩
theorem e_Md_272 : xEV "WarrantWeatherModel" 272 M_Md_clause 0 := ⟨e0_Md_clause, xin 1240 (by decide +kernel) rfl, xin 1242 (by decide +kernel) rfl, xin 37 (by decide +kernel) rfl⟩
theorem e0_Md_bound : xE0 M_Md_bound 1 := ⟨xin 76 (by decide +kernel) rfl, xin 1281 (by decide +kernel) rfl, by decide⟩
theorem e_Md_279 : xES "WarrantWeatherModel" 279 M_Md_bound 1 := ⟨e0_Md_bound, xin 1279 (by decide +kernel) rfl, xin 1280 (by decide +kernel) rfl⟩
theorem e0_Md_worked : xE0 M_Md_worked 3 := ⟨xin 76 (by decide +kernel) rfl, xin 1278 (by decide +kernel) rfl, by decide⟩
theorem e_Md_283 : xES "WarrantWeatherModel" 283 M_Md_worked 3 := ⟨e0_Md_worked, xin 1276 (by decide +kernel) rfl, xin 1277 (by decide +kernel) rfl⟩
theorem e0_Md_saysOf : xE0 M_Md_saysOf 1 := ⟨xin 76 (by decide +kernel) rfl, xin 1275 (by decide +kernel) rfl, by decide⟩
theorem e_Md_287 : xEV "WarrantWeatherModel" 287 M_Md_saysOf 1 := ⟨e0_Md_saysOf, xin 1272 (by decide +kernel) rfl, xin 1274 (by decide +kernel) rfl, xin 42 (by decide +kernel) rfl⟩
theorem e0_Md_decreeOf : xE0 M_Md_decreeOf 2 := ⟨xin 76 (by decide +kernel) rfl, xin 1267 (by decide +kernel) rfl, by decide⟩
theorem e_Md_291 : xEV "WarrantWeatherModel" 291 M_Md_decreeOf 2 := ⟨e0_Md_decreeOf, xin 1264 (by decide +kernel) rfl, xin 1266 (by decide +kernel) rfl, xin 40 (by decide +kernel) rfl⟩
theorem e0_Md_hasClause : xE0 M_Md_hasClause 1 := ⟨xin 76 (by decide +kernel) rfl, xin 1259 (by decide +kernel) rfl, by decide⟩
theorem e_Md_295 : xEV "WarrantWeatherModel" 295 M_Md_hasClause 1 := ⟨e0_Md_hasClause, xin 1256 (by decide +kernel) rfl, xin 1258 (by decide +kernel) rfl, xin 38 (by decide +kernel) rfl⟩
theorem e0_Md_warrantNames : xE0 M_Md_warrantNames 2 := ⟨xin 76 (by decide +kernel) rfl, xin 1263 (by decide +kernel) rfl, by decide⟩
theorem e_Md_298 : xEV "WarrantWeatherModel" 298 M_Md_warrantNames 2 := ⟨e0_Md_warrantNames, xin 1260 (by decide +kernel) rfl, xin 1262 (by decide +kernel) rfl, xin 39 (by decide +kernel) rfl⟩
theorem e0_Md_says : xE0 M_Md_says 1 := ⟨xin 76 (by decide +kernel) rfl, xin 1271 (by decide +kernel) rfl, by decide⟩
theorem e_Md_301 : xEV "WarrantWeatherModel" 301 M_Md_says 1 := ⟨e0_Md_says, xin 1268 (by decide +kernel) rfl, xin 1270 (by decide +kernel) rfl, xin 41 (by decide +kernel) rfl⟩
theorem e0_Md_provinceOf : xE0 M_Md_provinceOf 1 := ⟨xin 76 (by decide +kernel) rfl, xin 1303 (by decide +kernel) rfl, by decide⟩
theorem e_Md_304 : xEV "WarrantWeatherModel" 304 M_Md_provinceOf 1 := ⟨e0_Md_provinceOf, xin 1300 (by decide +kernel) rfl, xin 1302 (by decide +kernel) rfl, xin 44 (by decide +kernel) rfl⟩
theorem e0_Md_folkNames : xE0 M_Md_folkNames 4 := ⟨xin 76 (by decide +kernel) rfl, xin 1311 (by decide +kernel) rfl, by decide⟩
theorem e_Md_307 : xEV "WarrantWeatherModel" 307 M_Md_folkNames 4 := ⟨e0_Md_folkNames, xin 1308 (by decide +kernel) rfl, xin 1310 (by decide +kernel) rfl, xin 46 (by decide +kernel) rfl⟩
theorem e0_Md_does : xE0 M_Md_does 4 := ⟨xin 76 (by decide +kernel) rfl, xin 1307 (by decide +kernel) rfl, by decide⟩
theorem e_Md_311 : xEV "WarrantWeatherModel" 311 M_Md_does 4 := ⟨e0_Md_does, xin 1304 (by decide +kernel) rfl, xin 1306 (by decide +kernel) rfl, xin 45 (by decide +kernel) rfl⟩
theorem e0_Md_hats : xE0 M_Md_hats 4 := ⟨xin 76 (by decide +kernel) rfl, xin 1299 (by decide +kernel) rfl, by decide⟩
theorem e_Md_315 : xEV "WarrantWeatherModel" 315 M_Md_hats 4 := ⟨e0_Md_hats, xin 1296 (by decide +kernel) rfl, xin 1298 (by decide +kernel) rfl, xin 43 (by decide +kernel) rfl⟩
theorem e0_Md_appeals : xE0 M_Md_appeals 4 := ⟨xin 76 (by decide +kernel) rfl, xin 1327 (by decide +kernel) rfl, by decide⟩
theorem e_Md_319 : xEV "WarrantWeatherModel" 319 M_Md_appeals 4 := ⟨e0_Md_appeals, xin 1324 (by decide +kernel) rfl, xin 1326 (by decide +kernel) rfl, xin 49 (by decide +kernel) rfl⟩
theorem e0_Md_held : xE0 M_Md_held 3 := ⟨xin 76 (by decide +kernel) rfl, xin 1330 (by decide +kernel) rfl, by decide⟩
theorem e_Md_322 : xES "WarrantWeatherModel" 322 M_Md_held 3 := ⟨e0_Md_held, xin 1328 (by decide +kernel) rfl, xin 1329 (by decide +kernel) rfl⟩
theorem e0_Md_fineOf : xE0 M_Md_fineOf 4 := ⟨xin 76 (by decide +kernel) rfl, xin 1323 (by decide +kernel) rfl, by decide⟩
theorem e_Md_326 : xEV "WarrantWeatherModel" 326 M_Md_fineOf 4 := ⟨e0_Md_fineOf, xin 1320 (by decide +kernel) rfl, xin 1322 (by decide +kernel) rfl, xin 48 (by decide +kernel) rfl⟩
theorem e0_Md_gainOf : xE0 M_Md_gainOf 5 := ⟨xin 76 (by decide +kernel) rfl, xin 1342 (by decide +kernel) rfl, by decide⟩
theorem e_Md_329 : xEV "WarrantWeatherModel" 329 M_Md_gainOf 5 := ⟨e0_Md_gainOf, xin 1339 (by decide +kernel) rfl, xin 1341 (by decide +kernel) rfl, xin 51 (by decide +kernel) rfl⟩
theorem e0_Md_isFolk : xE0 M_Md_isFolk 1 := ⟨xin 76 (by decide +kernel) rfl, xin 1319 (by decide +kernel) rfl, by decide⟩
theorem e_Md_333 : xEV "WarrantWeatherModel" 333 M_Md_isFolk 1 := ⟨e0_Md_isFolk, xin 1316 (by decide +kernel) rfl, xin 1318 (by decide +kernel) rfl, xin 47 (by decide +kernel) rfl⟩
theorem e0_Md_gainAsIs : xE0 M_Md_gainAsIs 3 := ⟨xin 76 (by decide +kernel) rfl, xin 1338 (by decide +kernel) rfl, by decide⟩
theorem e_Md_336 : xEV "WarrantWeatherModel" 336 M_Md_gainAsIs 3 := ⟨e0_Md_gainAsIs, xin 1335 (by decide +kernel) rfl, xin 1337 (by decide +kernel) rfl, xin 50 (by decide +kernel) rfl⟩
theorem e0_Md_sumOf : xE0 M_Md_sumOf 4 := ⟨xin 76 (by decide +kernel) rfl, xin 1356 (by decide +kernel) rfl, by decide⟩
theorem e_Md_341 : xEV "WarrantWeatherModel" 341 M_Md_sumOf 4 := ⟨e0_Md_sumOf, xin 1353 (by decide +kernel) rfl, xin 1355 (by decide +kernel) rfl, xin 53 (by decide +kernel) rfl⟩
theorem e0_Md_sumAll : xE0 M_Md_sumAll 3 := ⟨xin 76 (by decide +kernel) rfl, xin 1352 (by decide +kernel) rfl, by decide⟩
theorem e_Md_346 : xEV "WarrantWeatherModel" 346 M_Md_sumAll 3 := ⟨e0_Md_sumAll, xin 1349 (by decide +kernel) rfl, xin 1351 (by decide +kernel) rfl, xin 52 (by decide +kernel) rfl⟩
theorem e0_Md_isAlike : xE0 M_Md_isAlike 3 := ⟨xin 76 (by decide +kernel) rfl, xin 1372 (by decide +kernel) rfl, by decide⟩
theorem e_Md_349 : xEV "WarrantWeatherModel" 349 M_Md_isAlike 3 := ⟨e0_Md_isAlike, xin 1369 (by decide +kernel) rfl, xin 1371 (by decide +kernel) rfl, xin 54 (by decide +kernel) rfl⟩
theorem e0_Md_gainBy : xE0 M_Md_gainBy 3 := ⟨xin 76 (by decide +kernel) rfl, xin 1380 (by decide +kernel) rfl, by decide⟩
theorem e_Md_352 : xEV "WarrantWeatherModel" 352 M_Md_gainBy 3 := ⟨e0_Md_gainBy, xin 1377 (by decide +kernel) rfl, xin 1379 (by decide +kernel) rfl, xin 55 (by decide +kernel) rfl⟩
theorem e0_Md_isHidden : xE0 M_Md_isHidden 4 := ⟨xin 76 (by decide +kernel) rfl, xin 1384 (by decide +kernel) rfl, by decide⟩
theorem e_Md_356 : xEV "WarrantWeatherModel" 356 M_Md_isHidden 4 := ⟨e0_Md_isHidden, xin 1381 (by decide +kernel) rfl, xin 1383 (by decide +kernel) rfl, xin 56 (by decide +kernel) rfl⟩
theorem e0_Md_isLike : xE0 M_Md_isLike 3 := ⟨xin 76 (by decide +kernel) rfl, xin 1392 (by decide +kernel) rfl, by decide⟩
theorem e_Md_359 : xEV "WarrantWeatherModel" 359 M_Md_isLike 3 := ⟨e0_Md_isLike, xin 1389 (by decide +kernel) rfl, xin 1391 (by decide +kernel) rfl, xin 57 (by decide +kernel) rfl⟩
theorem e0_Md_hasBy : xE0 M_Md_hasBy 3 := ⟨xin 76 (by decide +kernel) rfl, xin 1400 (by decide +kernel) rfl, by decide⟩
theorem e_Md_362 : xEV "WarrantWeatherModel" 362 M_Md_hasBy 3 := ⟨e0_Md_hasBy, xin 1397 (by decide +kernel) rfl, xin 1399 (by decide +kernel) rfl, xin 58 (by decide +kernel) rfl⟩
theorem e0_Md_isSmall : xE0 M_Md_isSmall 1 := ⟨xin 76 (by decide +kernel) rfl, xin 1423 (by decide +kernel) rfl, by decide⟩
theorem e_Md_365 : xES "WarrantWeatherModel" 365 M_Md_isSmall 1 := ⟨e0_Md_isSmall, xin 1421 (by decide +kernel) rfl, xin 1422 (by decide +kernel) rfl⟩
theorem e0_Md_isVowel : xE0 M_Md_isVowel 1 := ⟨xin 76 (by decide +kernel) rfl, xin 1426 (by decide +kernel) rfl, by decide⟩
theorem e_Md_368 : xES "WarrantWeatherModel" 368 M_Md_isVowel 1 := ⟨e0_Md_isVowel, xin 1424 (by decide +kernel) rfl, xin 1425 (by decide +kernel) rfl⟩
theorem e0_Md_words : xE0 M_Md_words 1 := ⟨xin 76 (by decide +kernel) rfl, xin 1420 (by decide +kernel) rfl, by decide⟩
theorem e_Md_371 : xEV "WarrantWeatherModel" 371 M_Md_words 1 := ⟨e0_Md_words, xin 1417 (by decide +kernel) rfl, xin 1419 (by decide +kernel) rfl, xin 60 (by decide +kernel) rfl⟩
theorem e0_Md_songOf : xE0 M_Md_songOf 2 := ⟨xin 76 (by decide +kernel) rfl, xin 1416 (by decide +kernel) rfl, by decide⟩
theorem e_Md_374 : xEV "WarrantWeatherModel" 374 M_Md_songOf 2 := ⟨e0_Md_songOf, xin 1413 (by decide +kernel) rfl, xin 1415 (by decide +kernel) rfl, xin 59 (by decide +kernel) rfl⟩
theorem e0_Md_wetDecrees : xE0 M_Md_wetDecrees 0 := ⟨xin 76 (by decide +kernel) rfl, xin 1446 (by decide +kernel) rfl, by decide⟩
theorem e_Md_377 : xEV "WarrantWeatherModel" 377 M_Md_wetDecrees 0 := ⟨e0_Md_wetDecrees, xin 1443 (by decide +kernel) rfl, xin 1445 (by decide +kernel) rfl, xin 61 (by decide +kernel) rfl⟩
theorem c_Ww_184 : Cond.constant "WarrantWeather" 184 (-100000) ∈ xTbl := xin 775 (by decide +kernel) rfl
theorem c_Ww_189 : Cond.constant "WarrantWeather" 189 (-100000000) ∈ xTbl := xin 785 (by decide +kernel) rfl
theorem c_Bench_51 : Cond.constantLong "WarrantWeather$Bench" 51 (1000000) ∈ xTbl := xin 703 (by decide +kernel) rfl
theorem c_Bench_53 : Cond.constant "WarrantWeather$Bench" 53 (1000000) ∈ xTbl := xin 704 (by decide +kernel) rfl
theorem c_Bench_54 : Cond.constantLong "WarrantWeather$Bench" 54 (-1000000) ∈ xTbl := xin 705 (by decide +kernel) rfl
theorem c_Bench_56 : Cond.constant "WarrantWeather$Bench" 56 (-1000000) ∈ xTbl := xin 706 (by decide +kernel) rfl
theorem c_Md_114 : Cond.constantLong "WarrantWeatherModel" 114 (3815856806836) ∈ xTbl := xin 1144 (by decide +kernel) rfl
theorem c_Md_116 : Cond.constantLong "WarrantWeatherModel" 116 (9632115) ∈ xTbl := xin 1145 (by decide +kernel) rfl
theorem c_Md_118 : Cond.constantLong "WarrantWeatherModel" 118 (10361454) ∈ xTbl := xin 1146 (by decide +kernel) rfl
theorem c_Md_120 : Cond.constantLong "WarrantWeatherModel" 120 (10132389) ∈ xTbl := xin 1147 (by decide +kernel) rfl
theorem c_Md_122 : Cond.constantLong "WarrantWeatherModel" 122 (36251523180) ∈ xTbl := xin 1148 (by decide +kernel) rfl
theorem c_Md_124 : Cond.constantLong "WarrantWeatherModel" 124 (13826860) ∈ xTbl := xin 1149 (by decide +kernel) rfl
theorem c_Md_126 : Cond.constantLong "WarrantWeatherModel" 126 (3058) ∈ xTbl := xin 1150 (by decide +kernel) rfl
theorem c_Md_128 : Cond.constantLong "WarrantWeatherModel" 128 (138148) ∈ xTbl := xin 1151 (by decide +kernel) rfl
theorem c_Md_130 : Cond.constantLong "WarrantWeatherModel" 130 (191476) ∈ xTbl := xin 1152 (by decide +kernel) rfl
theorem c_Md_132 : Cond.constantLong "WarrantWeatherModel" 132 (149625) ∈ xTbl := xin 1153 (by decide +kernel) rfl
theorem c_Md_134 : Cond.constantLong "WarrantWeatherModel" 134 (214593589143781) ∈ xTbl := xin 1154 (by decide +kernel) rfl
theorem c_Md_136 : Cond.constantLong "WarrantWeatherModel" 136 (11672820) ∈ xTbl := xin 1155 (by decide +kernel) rfl
theorem c_Md_138 : Cond.constantLong "WarrantWeatherModel" 138 (13523310) ∈ xTbl := xin 1156 (by decide +kernel) rfl
theorem c_Md_140 : Cond.constantLong "WarrantWeatherModel" 140 (211705) ∈ xTbl := xin 1157 (by decide +kernel) rfl
theorem c_Md_142 : Cond.constantLong "WarrantWeatherModel" 142 (39284844901) ∈ xTbl := xin 1158 (by decide +kernel) rfl
theorem c_Md_144 : Cond.constantLong "WarrantWeatherModel" 144 (885659941) ∈ xTbl := xin 1159 (by decide +kernel) rfl
theorem c_Md_146 : Cond.constantLong "WarrantWeatherModel" 146 (10115186) ∈ xTbl := xin 1160 (by decide +kernel) rfl
theorem c_Md_148 : Cond.constantLong "WarrantWeatherModel" 148 (137460) ∈ xTbl := xin 1161 (by decide +kernel) rfl
theorem c_Md_150 : Cond.constantLong "WarrantWeatherModel" 150 (227700) ∈ xTbl := xin 1162 (by decide +kernel) rfl
theorem c_Md_152 : Cond.constantLong "WarrantWeatherModel" 152 (10624307) ∈ xTbl := xin 1163 (by decide +kernel) rfl
theorem c_Md_154 : Cond.constantLong "WarrantWeatherModel" 154 (11967397) ∈ xTbl := xin 1164 (by decide +kernel) rfl
theorem c_Md_156 : Cond.constantLong "WarrantWeatherModel" 156 (51348921523) ∈ xTbl := xin 1165 (by decide +kernel) rfl
theorem c_Md_173 : Cond.constantLong "WarrantWeatherModel" 173 (64) ∈ xTbl := xin 1140 (by decide +kernel) rfl
theorem c_Md_182 : Cond.constant "WarrantWeatherModel" 182 (99999) ∈ xTbl := xin 1166 (by decide +kernel) rfl
theorem c_Md_275 : Cond.constantLong "WarrantWeatherModel" 275 (1000000) ∈ xTbl := xin 1282 (by decide +kernel) rfl
theorem c_Md_277 : Cond.constantLong "WarrantWeatherModel" 277 (-1000000) ∈ xTbl := xin 1283 (by decide +kernel) rfl
theorem c_Md_340 : Cond.constant "WarrantWeatherModel" 340 (-100000) ∈ xTbl := xin 1343 (by decide +kernel) rfl
theorem c_Md_345 : Cond.constant "WarrantWeatherModel" 345 (-100000000) ∈ xTbl := xin 1348 (by decide +kernel) rfl
theorem li_Ww_206 : xLmax "WarrantWeather" 206 := ⟨xin 766 (by decide +kernel) rfl, xin 695 (by decide +kernel) rfl, xin 77 (by decide +kernel) rfl, xin 696 (by decide +kernel) rfl⟩
theorem li_Ww_266 : xLmin "WarrantWeather" 266 := ⟨xin 765 (by decide +kernel) rfl, xin 452 (by decide +kernel) rfl, xin 77 (by decide +kernel) rfl, xin 453 (by decide +kernel) rfl⟩
theorem li_Bench_31 : xLmin "WarrantWeather$Bench" 31 := ⟨xin 689 (by decide +kernel) rfl, xin 452 (by decide +kernel) rfl, xin 77 (by decide +kernel) rfl, xin 453 (by decide +kernel) rfl⟩
theorem li_Bench_40 : xLmax "WarrantWeather$Bench" 40 := ⟨xin 694 (by decide +kernel) rfl, xin 695 (by decide +kernel) rfl, xin 77 (by decide +kernel) rfl, xin 696 (by decide +kernel) rfl⟩
theorem li_Court_101 : xES "WarrantWeather$Court" 101 M_Arrays_fill 2 := ⟨e0_Arrays_fill, xin 790 (by decide +kernel) rfl, xin 98 (by decide +kernel) rfl⟩
theorem li_Law_24 : xES "WarrantWeather$Law" 24 M_Arrays_fill 2 := ⟨e0_Arrays_fill, xin 492 (by decide +kernel) rfl, xin 98 (by decide +kernel) rfl⟩
theorem li_Law_45 : xLmin "WarrantWeather$Law" 45 := ⟨xin 716 (by decide +kernel) rfl, xin 452 (by decide +kernel) rfl, xin 77 (by decide +kernel) rfl, xin 453 (by decide +kernel) rfl⟩
theorem li_Law_54 : xLmax "WarrantWeather$Law" 54 := ⟨xin 718 (by decide +kernel) rfl, xin 695 (by decide +kernel) rfl, xin 77 (by decide +kernel) rfl, xin 696 (by decide +kernel) rfl⟩
theorem li_Planner_30 : xLmin "WarrantWeather$Planner" 30 := ⟨xin 833 (by decide +kernel) rfl, xin 452 (by decide +kernel) rfl, xin 77 (by decide +kernel) rfl, xin 453 (by decide +kernel) rfl⟩
theorem li_Planner_45 : xES "WarrantWeather$Planner" 45 M_Arrays_fill 2 := ⟨e0_Arrays_fill, xin 838 (by decide +kernel) rfl, xin 98 (by decide +kernel) rfl⟩
theorem li_Rolls_43 : xLcopy "WarrantWeather$Rolls" 43 := ⟨xin 927 (by decide +kernel) rfl, xin 929 (by decide +kernel) rfl, xin 928 (by decide +kernel) rfl, xin 82 (by decide +kernel) rfl⟩
theorem li_Rolls_82 : xLmin "WarrantWeather$Rolls" 82 := ⟨xin 451 (by decide +kernel) rfl, xin 452 (by decide +kernel) rfl, xin 77 (by decide +kernel) rfl, xin 453 (by decide +kernel) rfl⟩
theorem li_Tokens_77 : xLmin "WarrantWeather$Tokens" 77 := ⟨xin 513 (by decide +kernel) rfl, xin 452 (by decide +kernel) rfl, xin 77 (by decide +kernel) rfl, xin 453 (by decide +kernel) rfl⟩
theorem w_names : Cond.fieldLinkNest "WarrantWeather$Reader" 110 "WarrantWeather" "NAME_IS_OF" "[I" "WarrantWeather" ∈ xNest := xinN 611 (by decide +kernel) rfl
end
section
/-! THE LIBRARY's fill, the table of names, the text of words -/
theorem xI_nI {k n : Nat} (h : k < n) (hn : n < 2 ^ 31) : xI (nI k) n = true := decide_eq_true (by rw [nI_toInt (by omega)]; omega)
theorem xfill_loop {sh : xS} {r n : Nat} {f : Nat → Option Nat} (hs : sh[r]? = some (.inl (.int, n, f))) (hn : n < 2 ^ 31) (v : Int32) (L : xL) (V0 : xV) : ∀ (k j : Nat), j + k = n → X M_Arrays_fill (xRm 1 M_Arrays_fill) (xZ M_Arrays_fill (fun o h' => o = none ∧ h' = (sh, xfill V0 r n v, L))) sh (xfill V0 r j v) L 0 0 5 [(3, .int (nI n)), (2, .int (nI j)), (0, .ref r), (1, .int v)] []
  | 0, j, hj => by
    have e : j = n := by omega
    subst e
    refine x_iload_n 1 d_Arrays_fill_5 rfl rfl ?_
    refine x_iload_n 0 d_Arrays_fill_6 rfl rfl ?_
    refine x_icmp_ge 20 d_Arrays_fill_7 (by decide) (fun c => ?_) (fun c => absurd (nI_le (Nat.le_refl j) hn) c)
    exact x_return rfl d_Arrays_fill_20 (Nat.le_refl _) (Nat.le_refl _) ⟨rfl, rfl⟩
  | k + 1, j, hj => by
    have hlt : j < n := by omega
    refine x_iload_n 1 d_Arrays_fill_5 rfl rfl ?_
    refine x_iload_n 0 d_Arrays_fill_6 rfl rfl ?_
    refine x_icmp_ge 20 d_Arrays_fill_7 (by decide) (fun c => absurd c (nI_ge hlt hn)) (fun c => ?_)
    refine x_aload_n 2 d_Arrays_fill_10 rfl rfl ?_
    refine x_iload_n 1 d_Arrays_fill_11 rfl rfl ?_
    refine x_iload_n 3 d_Arrays_fill_12 rfl rfl ?_
    refine x_iastore hs (xI_nI hlt hn) d_Arrays_fill_13 ?_
    refine x_iinc 1 1 [(2, .int (nI j + 1)), (3, .int (nI n)), (0, .ref r), (1, .int v)] d_Arrays_fill_14 rfl (by decide) (Nat.le_of_ble_eq_true rfl) rfl ?_
    refine x_goto 5 d_Arrays_fill_17 (by decide) ?_
    have e1 : nI j + 1 = nI (j + 1) := nI_1 j
    have e2 : x2 (xfill V0 r j v) r (nI j).toNatClampNeg v = xfill V0 r (j + 1) v := by
      rw [nI_clamp (by omega)]
      funext a b
      simp only [x2, xfill, xrow]
      by_cases ha : a = r
      · subst ha
        simp only [true_and, if_true]
        by_cases hb : b = j
        · subst hb; simp
        · simp only [hb, if_false]
          by_cases hb2 : b < j
          · rw [if_pos hb2, if_pos (by omega)]
          · rw [if_neg hb2, if_neg (by omega)]
      · simp [ha]
    rw [e1, e2]
    refine x_pick [1, 0, 2, 3] rfl ?_
    exact xfill_loop hs hn v L V0 k (j + 1) (by omega)
theorem xfill_zero (V : xV) (r : Nat) (v : Int32) : xfill V r 0 v = V := by
  funext a b
  simp only [xfill, xrow]
  by_cases ha : a = r
  · subst ha; simp
  · simp [ha]
theorem t_Arrays_fill {sh : xS} {r n : Nat} {f : Nat → Option Nat} (hs : sh[r]? = some (.inl (.int, n, f))) (hn : n < 2 ^ 31) (v : Int32) (V : xV) (L : xL) : xRuns 1 M_Arrays_fill [.ref r, .int v] (sh, V, L) (fun o h' => o = none ∧ h' = (sh, xfill V r n v, L)) := by
  refine xRuns_of (by decide) (Nat.le_of_ble_eq_true rfl) ?_
  show X M_Arrays_fill _ _ _ _ _ _ _ _ [(0, .ref r), (1, .int v)] []
  refine x_iconst 0 d_Arrays_fill_0 (by decide) ?_
  refine x_istore_n [(2, .int 0), (0, .ref r), (1, .int v)] d_Arrays_fill_1 rfl (Nat.le_of_ble_eq_true rfl) rfl ?_
  refine x_aload_n 1 d_Arrays_fill_2 rfl rfl ?_
  refine x_alen (nI n) hs (Or.inl rfl) rfl d_Arrays_fill_3 ?_
  refine x_istore_n [(3, .int (nI n)), (2, .int 0), (0, .ref r), (1, .int v)] d_Arrays_fill_4 rfl (Nat.le_of_ble_eq_true rfl) rfl ?_
  have h := xfill_loop hs hn v L V n 0 (by omega)
  rw [xfill_zero, nI_0] at h
  exact h
section XLib
variable {M : xM} {R : Room} {Z : xG → List Frame → Array Value → State → State → Prop} {sh : xS} {V : xV} {L : xL} {cu su pc : Nat} {ls : List (Nat × Value)} {st : List Value} {idx : Nat}
theorem x_fill0 {r n : Nat} {f : Nat → Option Nat} {v : Int32} (he : xES M.1.cls idx M_Arrays_fill 2) (hf : 1 + 1 ≤ R.frames ∧ 8 + (M_Arrays_fill.2.2.1 + 11) + (64 * 1 + 64) ≤ R.locals) (h1 : cu ≤ R.cells) (h2 : su ≤ R.slots) (hc : (st.map fun v => v.category).sum ≤ 8) (hs : sh[r]? = some (.inl (.int, n, f))) (hn : n < 2 ^ 31) (hd : decode M.2.1 pc = .ok (.invokestatic idx, 3)) (K : X M R Z sh (xfill V r n v) L cu su (pc + 3) ls st) : X M R Z sh V L cu su pc ls (.int v :: .ref r :: st) :=
  x_callS0v he (t_Arrays_fill hs hn v V L) rfl rfl rfl hc hf h1 h2 hd K
theorem x_namesLen (hd : decode M.2.1 pc = .ok (.arraylength, 1)) (K : X M R Z sh V L cu su (pc + 1) ls (.int 13 :: st)) : X M R Z sh V L cu su pc ls (.retAddr 2 :: st) := by
  intro l G p e s m args below meth c H locs la hC hz hR hS hl
  have hk : xK G s := hC.2.2.2.2.2.2.2.2
  obtain ⟨cell, q1, q2, q3, q4, q5, q6⟩ := hk.2.2.2.2.2.2.1.kept hS.2.1
  exact W.alen (n := 13) hC.1 hC.2.1 q1 q2 (by rw [q5]; rfl) rfl rfl hd (K l G p e s m args below meth c H locs la hC hz hR hS hl)
theorem x_namesAt {i : Int32} (hi : xI i 13 = true) (hd : decode M.2.1 pc = .ok (.iaload, 1)) (K : X M R Z sh V L cu su (pc + 1) ls (.int (xNames.getD i.toNatClampNeg 0) :: st)) : X M R Z sh V L cu su pc ls (.int i :: .retAddr 2 :: st) := by
  intro l G p e s m args below meth c H locs la hC hz hR hS hl
  have hk : xK G s := hC.2.2.2.2.2.2.2.2
  obtain ⟨cell, q1, q2, q3, q4, q5, q6, q7⟩ := hk.2.2.2.2.2.2.1.kept hS.2.1
  have h1 := xI_in hi
  have hlt : i.toNatClampNeg < 13 := Nat.not_le.mp fun q => h1 (Or.inr q)
  have h2 : ¬ i < 0 := fun q => h1 (Or.inl q)
  exact W.iald hC.1 hC.2.1 q1 q2 q3 (fun q => q.elim h2 (fun q => by omega)) (q6 _ hlt) rfl rfl hd (K l G p e s m args below meth c H locs la hC hz hR hS hl)
end XLib
end
