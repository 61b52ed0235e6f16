section
-- ===== PART A: goes FIRST, ahead of the names: the tables' words, and 'selects' of the private methods out of them =====
/-- a private method of a class that the tables say can be made, by its rows of tables_1 -/
def lw_okq (q : MethodName × Nat) : Prop := (q.1.cls ≠ "java/lang/invoke/MethodHandle" ∧ q.1.cls ≠ "java/lang/invoke/VarHandle") ∧ Cond.instantiable q.1.cls q.2 ∈ tables_1 ∧ Cond.privateMethod q.1 ∈ tables_1 ∧ Cond.instanceMethod q.1 ∈ tables_1
theorem lw_p0 : lw_okq (⟨"WarrantWeather$Reader", "kind", "()I"⟩, 7) := ⟨⟨by decide +kernel, by decide +kernel⟩, List.mem_of_getElem? (i := 155) (by decide +kernel), List.mem_of_getElem? (i := 516) (by decide +kernel), List.mem_of_getElem? (i := 517) (by decide +kernel)⟩
theorem lw_p1 : lw_okq (⟨"WarrantWeather$Reader", "readClause", "()Z"⟩, 7) := ⟨⟨by decide +kernel, by decide +kernel⟩, List.mem_of_getElem? (i := 155) (by decide +kernel), List.mem_of_getElem? (i := 520) (by decide +kernel), List.mem_of_getElem? (i := 521) (by decide +kernel)⟩
theorem lw_p2 : lw_okq (⟨"WarrantWeather$Reader", "wrong", "(I)Z"⟩, 7) := ⟨⟨by decide +kernel, by decide +kernel⟩, List.mem_of_getElem? (i := 155) (by decide +kernel), List.mem_of_getElem? (i := 525) (by decide +kernel), List.mem_of_getElem? (i := 526) (by decide +kernel)⟩
theorem lw_p3 : lw_okq (⟨"WarrantWeather$Reader", "readSum", "(I)Z"⟩, 7) := ⟨⟨by decide +kernel, by decide +kernel⟩, List.mem_of_getElem? (i := 155) (by decide +kernel), List.mem_of_getElem? (i := 534) (by decide +kernel), List.mem_of_getElem? (i := 535) (by decide +kernel)⟩
theorem lw_p4 : lw_okq (⟨"WarrantWeather$Reader", "readOne", "(I)Z"⟩, 7) := ⟨⟨by decide +kernel, by decide +kernel⟩, List.mem_of_getElem? (i := 155) (by decide +kernel), List.mem_of_getElem? (i := 538) (by decide +kernel), List.mem_of_getElem? (i := 539) (by decide +kernel)⟩
theorem lw_p5 : lw_okq (⟨"WarrantWeather$Reader", "value", "()I"⟩, 7) := ⟨⟨by decide +kernel, by decide +kernel⟩, List.mem_of_getElem? (i := 155) (by decide +kernel), List.mem_of_getElem? (i := 542) (by decide +kernel), List.mem_of_getElem? (i := 543) (by decide +kernel)⟩
theorem lw_p6 : lw_okq (⟨"WarrantWeather$Reader", "faultOfPlain", "(II)I"⟩, 7) := ⟨⟨by decide +kernel, by decide +kernel⟩, List.mem_of_getElem? (i := 155) (by decide +kernel), List.mem_of_getElem? (i := 546) (by decide +kernel), List.mem_of_getElem? (i := 547) (by decide +kernel)⟩
theorem lw_p7 : lw_okq (⟨"WarrantWeather$Reader", "emitIf", "(ZI)V"⟩, 7) := ⟨⟨by decide +kernel, by decide +kernel⟩, List.mem_of_getElem? (i := 155) (by decide +kernel), List.mem_of_getElem? (i := 552) (by decide +kernel), List.mem_of_getElem? (i := 553) (by decide +kernel)⟩
theorem lw_p8 : lw_okq (⟨"WarrantWeather$Reader", "readEither", "()Z"⟩, 7) := ⟨⟨by decide +kernel, by decide +kernel⟩, List.mem_of_getElem? (i := 155) (by decide +kernel), List.mem_of_getElem? (i := 556) (by decide +kernel), List.mem_of_getElem? (i := 557) (by decide +kernel)⟩
theorem lw_p9 : lw_okq (⟨"WarrantWeather$Reader", "readAsk", "()Z"⟩, 7) := ⟨⟨by decide +kernel, by decide +kernel⟩, List.mem_of_getElem? (i := 155) (by decide +kernel), List.mem_of_getElem? (i := 560) (by decide +kernel), List.mem_of_getElem? (i := 561) (by decide +kernel)⟩
theorem lw_p10 : lw_okq (⟨"WarrantWeather$Court", "comesTo", "(I)I"⟩, 10) := ⟨⟨by decide +kernel, by decide +kernel⟩, List.mem_of_getElem? (i := 209) (by decide +kernel), List.mem_of_getElem? (i := 615) (by decide +kernel), List.mem_of_getElem? (i := 616) (by decide +kernel)⟩
theorem lw_p11 : lw_okq (⟨"WarrantWeather$Court", "call", "(I)V"⟩, 10) := ⟨⟨by decide +kernel, by decide +kernel⟩, List.mem_of_getElem? (i := 209) (by decide +kernel), List.mem_of_getElem? (i := 680) (by decide +kernel), List.mem_of_getElem? (i := 681) (by decide +kernel)⟩
theorem lw_p12 : lw_okq (⟨"WarrantWeather$Court", "addGains", "(IZ)I"⟩, 10) := ⟨⟨by decide +kernel, by decide +kernel⟩, List.mem_of_getElem? (i := 209) (by decide +kernel), List.mem_of_getElem? (i := 732) (by decide +kernel), List.mem_of_getElem? (i := 733) (by decide +kernel)⟩
theorem lw_p13 : lw_okq (⟨"WarrantWeather$Planner", "follow", "(IIII)V"⟩, 9) := ⟨⟨by decide +kernel, by decide +kernel⟩, List.mem_of_getElem? (i := 261) (by decide +kernel), List.mem_of_getElem? (i := 779) (by decide +kernel), List.mem_of_getElem? (i := 780) (by decide +kernel)⟩
theorem lw_p14 : lw_okq (⟨"WarrantWeather$Council", "shareOf", "(II)I"⟩, 4) := ⟨⟨by decide +kernel, by decide +kernel⟩, List.mem_of_getElem? (i := 297) (by decide +kernel), List.mem_of_getElem? (i := 812) (by decide +kernel), List.mem_of_getElem? (i := 813) (by decide +kernel)⟩
theorem lw_p15 : lw_okq (⟨"WarrantWeather", "songFits", "(II)Z"⟩, 9) := ⟨⟨by decide +kernel, by decide +kernel⟩, List.mem_of_getElem? (i := 22) (by decide +kernel), List.mem_of_getElem? (i := 837) (by decide +kernel), List.mem_of_getElem? (i := 838) (by decide +kernel)⟩
def lw_privs_1 : List (MethodName × Nat) := [(⟨"WarrantWeather$Reader", "kind", "()I"⟩, 7), (⟨"WarrantWeather$Reader", "readClause", "()Z"⟩, 7), (⟨"WarrantWeather$Reader", "wrong", "(I)Z"⟩, 7), (⟨"WarrantWeather$Reader", "readSum", "(I)Z"⟩, 7), (⟨"WarrantWeather$Reader", "readOne", "(I)Z"⟩, 7), (⟨"WarrantWeather$Reader", "value", "()I"⟩, 7), (⟨"WarrantWeather$Reader", "faultOfPlain", "(II)I"⟩, 7), (⟨"WarrantWeather$Reader", "emitIf", "(ZI)V"⟩, 7), (⟨"WarrantWeather$Reader", "readEither", "()Z"⟩, 7), (⟨"WarrantWeather$Reader", "readAsk", "()Z"⟩, 7), (⟨"WarrantWeather$Court", "comesTo", "(I)I"⟩, 10), (⟨"WarrantWeather$Court", "call", "(I)V"⟩, 10), (⟨"WarrantWeather$Court", "addGains", "(IZ)I"⟩, 10), (⟨"WarrantWeather$Planner", "follow", "(IIII)V"⟩, 9), (⟨"WarrantWeather$Council", "shareOf", "(II)I"⟩, 4), (⟨"WarrantWeather", "songFits", "(II)Z"⟩, 9)]
theorem lw_r1 : ∀ q ∈ lw_privs_1, lw_okq q := List.forall_mem_cons.mpr ⟨lw_p0, List.forall_mem_cons.mpr ⟨lw_p1, List.forall_mem_cons.mpr ⟨lw_p2, List.forall_mem_cons.mpr ⟨lw_p3, List.forall_mem_cons.mpr ⟨lw_p4, List.forall_mem_cons.mpr ⟨lw_p5, List.forall_mem_cons.mpr ⟨lw_p6, List.forall_mem_cons.mpr ⟨lw_p7, List.forall_mem_cons.mpr ⟨lw_p8, List.forall_mem_cons.mpr ⟨lw_p9, List.forall_mem_cons.mpr ⟨lw_p10, List.forall_mem_cons.mpr ⟨lw_p11, List.forall_mem_cons.mpr ⟨lw_p12, List.forall_mem_cons.mpr ⟨lw_p13, List.forall_mem_cons.mpr ⟨lw_p14, List.forall_mem_cons.mpr ⟨lw_p15, fun _ h => absurd h List.not_mem_nil⟩⟩⟩⟩⟩⟩⟩⟩⟩⟩⟩⟩⟩⟩⟩⟩
theorem lw_p16 : lw_okq (⟨"WarrantWeatherModel", "copies", "(Z)V"⟩, 39) := ⟨⟨by decide +kernel, by decide +kernel⟩, List.mem_of_getElem? (i := 886) (by decide +kernel), List.mem_of_getElem? (i := 892) (by decide +kernel), List.mem_of_getElem? (i := 893) (by decide +kernel)⟩
theorem lw_p17 : lw_okq (⟨"WarrantWeatherModel", "wetDays", "()I"⟩, 39) := ⟨⟨by decide +kernel, by decide +kernel⟩, List.mem_of_getElem? (i := 886) (by decide +kernel), List.mem_of_getElem? (i := 1036) (by decide +kernel), List.mem_of_getElem? (i := 1037) (by decide +kernel)⟩
theorem lw_p18 : lw_okq (⟨"WarrantWeatherModel", "decrees", "(III)Z"⟩, 39) := ⟨⟨by decide +kernel, by decide +kernel⟩, List.mem_of_getElem? (i := 886) (by decide +kernel), List.mem_of_getElem? (i := 1044) (by decide +kernel), List.mem_of_getElem? (i := 1045) (by decide +kernel)⟩
theorem lw_p19 : lw_okq (⟨"WarrantWeatherModel", "put", "(I)V"⟩, 39) := ⟨⟨by decide +kernel, by decide +kernel⟩, List.mem_of_getElem? (i := 886) (by decide +kernel), List.mem_of_getElem? (i := 1060) (by decide +kernel), List.mem_of_getElem? (i := 1061) (by decide +kernel)⟩
theorem lw_p20 : lw_okq (⟨"WarrantWeatherModel", "next", "()V"⟩, 39) := ⟨⟨by decide +kernel, by decide +kernel⟩, List.mem_of_getElem? (i := 886) (by decide +kernel), List.mem_of_getElem? (i := 1072) (by decide +kernel), List.mem_of_getElem? (i := 1073) (by decide +kernel)⟩
theorem lw_p21 : lw_okq (⟨"WarrantWeatherModel", "asks", "()V"⟩, 39) := ⟨⟨by decide +kernel, by decide +kernel⟩, List.mem_of_getElem? (i := 886) (by decide +kernel), List.mem_of_getElem? (i := 1106) (by decide +kernel), List.mem_of_getElem? (i := 1107) (by decide +kernel)⟩
theorem lw_p22 : lw_okq (⟨"WarrantWeatherModel", "isWord", "(I)Z"⟩, 39) := ⟨⟨by decide +kernel, by decide +kernel⟩, List.mem_of_getElem? (i := 886) (by decide +kernel), List.mem_of_getElem? (i := 1110) (by decide +kernel), List.mem_of_getElem? (i := 1111) (by decide +kernel)⟩
theorem lw_p23 : lw_okq (⟨"WarrantWeatherModel", "opensSign", "(I)Z"⟩, 39) := ⟨⟨by decide +kernel, by decide +kernel⟩, List.mem_of_getElem? (i := 886) (by decide +kernel), List.mem_of_getElem? (i := 1114) (by decide +kernel), List.mem_of_getElem? (i := 1115) (by decide +kernel)⟩
theorem lw_p24 : lw_okq (⟨"WarrantWeatherModel", "errs", "(I)V"⟩, 39) := ⟨⟨by decide +kernel, by decide +kernel⟩, List.mem_of_getElem? (i := 886) (by decide +kernel), List.mem_of_getElem? (i := 1118) (by decide +kernel), List.mem_of_getElem? (i := 1119) (by decide +kernel)⟩
theorem lw_p25 : lw_okq (⟨"WarrantWeatherModel", "opensFrame", "(I)V"⟩, 39) := ⟨⟨by decide +kernel, by decide +kernel⟩, List.mem_of_getElem? (i := 886) (by decide +kernel), List.mem_of_getElem? (i := 1122) (by decide +kernel), List.mem_of_getElem? (i := 1123) (by decide +kernel)⟩
theorem lw_p26 : lw_okq (⟨"WarrantWeatherModel", "begins", "()V"⟩, 39) := ⟨⟨by decide +kernel, by decide +kernel⟩, List.mem_of_getElem? (i := 886) (by decide +kernel), List.mem_of_getElem? (i := 1126) (by decide +kernel), List.mem_of_getElem? (i := 1127) (by decide +kernel)⟩
theorem lw_p27 : lw_okq (⟨"WarrantWeatherModel", "emits", "(II)V"⟩, 39) := ⟨⟨by decide +kernel, by decide +kernel⟩, List.mem_of_getElem? (i := 886) (by decide +kernel), List.mem_of_getElem? (i := 1130) (by decide +kernel), List.mem_of_getElem? (i := 1131) (by decide +kernel)⟩
theorem lw_p28 : lw_okq (⟨"WarrantWeatherModel", "oneIsOver", "()V"⟩, 39) := ⟨⟨by decide +kernel, by decide +kernel⟩, List.mem_of_getElem? (i := 886) (by decide +kernel), List.mem_of_getElem? (i := 1134) (by decide +kernel), List.mem_of_getElem? (i := 1135) (by decide +kernel)⟩
theorem lw_p29 : lw_okq (⟨"WarrantWeatherModel", "top", "()I"⟩, 39) := ⟨⟨by decide +kernel, by decide +kernel⟩, List.mem_of_getElem? (i := 886) (by decide +kernel), List.mem_of_getElem? (i := 1138) (by decide +kernel), List.mem_of_getElem? (i := 1139) (by decide +kernel)⟩
theorem lw_p30 : lw_okq (⟨"WarrantWeatherModel", "isSign", "(I)Z"⟩, 39) := ⟨⟨by decide +kernel, by decide +kernel⟩, List.mem_of_getElem? (i := 886) (by decide +kernel), List.mem_of_getElem? (i := 1145) (by decide +kernel), List.mem_of_getElem? (i := 1146) (by decide +kernel)⟩
theorem lw_p31 : lw_okq (⟨"WarrantWeatherModel", "goesOn", "()V"⟩, 39) := ⟨⟨by decide +kernel, by decide +kernel⟩, List.mem_of_getElem? (i := 886) (by decide +kernel), List.mem_of_getElem? (i := 1149) (by decide +kernel), List.mem_of_getElem? (i := 1150) (by decide +kernel)⟩
def lw_privs_2 : List (MethodName × Nat) := [(⟨"WarrantWeatherModel", "copies", "(Z)V"⟩, 39), (⟨"WarrantWeatherModel", "wetDays", "()I"⟩, 39), (⟨"WarrantWeatherModel", "decrees", "(III)Z"⟩, 39), (⟨"WarrantWeatherModel", "put", "(I)V"⟩, 39), (⟨"WarrantWeatherModel", "next", "()V"⟩, 39), (⟨"WarrantWeatherModel", "asks", "()V"⟩, 39), (⟨"WarrantWeatherModel", "isWord", "(I)Z"⟩, 39), (⟨"WarrantWeatherModel", "opensSign", "(I)Z"⟩, 39), (⟨"WarrantWeatherModel", "errs", "(I)V"⟩, 39), (⟨"WarrantWeatherModel", "opensFrame", "(I)V"⟩, 39), (⟨"WarrantWeatherModel", "begins", "()V"⟩, 39), (⟨"WarrantWeatherModel", "emits", "(II)V"⟩, 39), (⟨"WarrantWeatherModel", "oneIsOver", "()V"⟩, 39), (⟨"WarrantWeatherModel", "top", "()I"⟩, 39), (⟨"WarrantWeatherModel", "isSign", "(I)Z"⟩, 39), (⟨"WarrantWeatherModel", "goesOn", "()V"⟩, 39)]
theorem lw_r2 : ∀ q ∈ lw_privs_2, lw_okq q := List.forall_mem_cons.mpr ⟨lw_p16, List.forall_mem_cons.mpr ⟨lw_p17, List.forall_mem_cons.mpr ⟨lw_p18, List.forall_mem_cons.mpr ⟨lw_p19, List.forall_mem_cons.mpr ⟨lw_p20, List.forall_mem_cons.mpr ⟨lw_p21, List.forall_mem_cons.mpr ⟨lw_p22, List.forall_mem_cons.mpr ⟨lw_p23, List.forall_mem_cons.mpr ⟨lw_p24, List.forall_mem_cons.mpr ⟨lw_p25, List.forall_mem_cons.mpr ⟨lw_p26, List.forall_mem_cons.mpr ⟨lw_p27, List.forall_mem_cons.mpr ⟨lw_p28, List.forall_mem_cons.mpr ⟨lw_p29, List.forall_mem_cons.mpr ⟨lw_p30, List.forall_mem_cons.mpr ⟨lw_p31, fun _ h => absurd h List.not_mem_nil⟩⟩⟩⟩⟩⟩⟩⟩⟩⟩⟩⟩⟩⟩⟩⟩
theorem lw_p32 : lw_okq (⟨"WarrantWeatherModel", "waitsFor", "(I)V"⟩, 39) := ⟨⟨by decide +kernel, by decide +kernel⟩, List.mem_of_getElem? (i := 886) (by decide +kernel), List.mem_of_getElem? (i := 1153) (by decide +kernel), List.mem_of_getElem? (i := 1154) (by decide +kernel)⟩
theorem lw_p33 : lw_okq (⟨"WarrantWeatherModel", "works", "(I)V"⟩, 39) := ⟨⟨by decide +kernel, by decide +kernel⟩, List.mem_of_getElem? (i := 886) (by decide +kernel), List.mem_of_getElem? (i := 1160) (by decide +kernel), List.mem_of_getElem? (i := 1161) (by decide +kernel)⟩
theorem lw_p34 : lw_okq (⟨"WarrantWeatherModel", "askIsOver", "()V"⟩, 39) := ⟨⟨by decide +kernel, by decide +kernel⟩, List.mem_of_getElem? (i := 886) (by decide +kernel), List.mem_of_getElem? (i := 1167) (by decide +kernel), List.mem_of_getElem? (i := 1168) (by decide +kernel)⟩
theorem lw_p35 : lw_okq (⟨"WarrantWeatherModel", "clauseIsOver", "()V"⟩, 39) := ⟨⟨by decide +kernel, by decide +kernel⟩, List.mem_of_getElem? (i := 886) (by decide +kernel), List.mem_of_getElem? (i := 1171) (by decide +kernel), List.mem_of_getElem? (i := 1172) (by decide +kernel)⟩
theorem lw_p36 : lw_okq (⟨"WarrantWeatherModel", "asksOn", "()V"⟩, 39) := ⟨⟨by decide +kernel, by decide +kernel⟩, List.mem_of_getElem? (i := 886) (by decide +kernel), List.mem_of_getElem? (i := 1175) (by decide +kernel), List.mem_of_getElem? (i := 1176) (by decide +kernel)⟩
theorem lw_p37 : lw_okq (⟨"WarrantWeatherModel", "clause", "()V"⟩, 39) := ⟨⟨by decide +kernel, by decide +kernel⟩, List.mem_of_getElem? (i := 886) (by decide +kernel), List.mem_of_getElem? (i := 1179) (by decide +kernel), List.mem_of_getElem? (i := 1180) (by decide +kernel)⟩
theorem lw_p38 : lw_okq (⟨"WarrantWeatherModel", "hasClause", "(I)Z"⟩, 39) := ⟨⟨by decide +kernel, by decide +kernel⟩, List.mem_of_getElem? (i := 886) (by decide +kernel), List.mem_of_getElem? (i := 1195) (by decide +kernel), List.mem_of_getElem? (i := 1196) (by decide +kernel)⟩
theorem lw_p39 : lw_okq (⟨"WarrantWeatherModel", "warrantNames", "(II)V"⟩, 39) := ⟨⟨by decide +kernel, by decide +kernel⟩, List.mem_of_getElem? (i := 886) (by decide +kernel), List.mem_of_getElem? (i := 1199) (by decide +kernel), List.mem_of_getElem? (i := 1200) (by decide +kernel)⟩
theorem lw_p40 : lw_okq (⟨"WarrantWeatherModel", "decreeOf", "(II)I"⟩, 39) := ⟨⟨by decide +kernel, by decide +kernel⟩, List.mem_of_getElem? (i := 886) (by decide +kernel), List.mem_of_getElem? (i := 1203) (by decide +kernel), List.mem_of_getElem? (i := 1204) (by decide +kernel)⟩
theorem lw_p41 : lw_okq (⟨"WarrantWeatherModel", "says", "(I)J"⟩, 39) := ⟨⟨by decide +kernel, by decide +kernel⟩, List.mem_of_getElem? (i := 886) (by decide +kernel), List.mem_of_getElem? (i := 1207) (by decide +kernel), List.mem_of_getElem? (i := 1208) (by decide +kernel)⟩
theorem lw_p42 : lw_okq (⟨"WarrantWeatherModel", "saysOf", "(I)J"⟩, 39) := ⟨⟨by decide +kernel, by decide +kernel⟩, List.mem_of_getElem? (i := 886) (by decide +kernel), List.mem_of_getElem? (i := 1211) (by decide +kernel), List.mem_of_getElem? (i := 1212) (by decide +kernel)⟩
theorem lw_p43 : lw_okq (⟨"WarrantWeatherModel", "hats", "(IIII)I"⟩, 39) := ⟨⟨by decide +kernel, by decide +kernel⟩, List.mem_of_getElem? (i := 886) (by decide +kernel), List.mem_of_getElem? (i := 1235) (by decide +kernel), List.mem_of_getElem? (i := 1236) (by decide +kernel)⟩
theorem lw_p44 : lw_okq (⟨"WarrantWeatherModel", "provinceOf", "(I)I"⟩, 39) := ⟨⟨by decide +kernel, by decide +kernel⟩, List.mem_of_getElem? (i := 886) (by decide +kernel), List.mem_of_getElem? (i := 1239) (by decide +kernel), List.mem_of_getElem? (i := 1240) (by decide +kernel)⟩
theorem lw_p45 : lw_okq (⟨"WarrantWeatherModel", "does", "(IIII)Z"⟩, 39) := ⟨⟨by decide +kernel, by decide +kernel⟩, List.mem_of_getElem? (i := 886) (by decide +kernel), List.mem_of_getElem? (i := 1243) (by decide +kernel), List.mem_of_getElem? (i := 1244) (by decide +kernel)⟩
theorem lw_p46 : lw_okq (⟨"WarrantWeatherModel", "folkNames", "(IIII)V"⟩, 39) := ⟨⟨by decide +kernel, by decide +kernel⟩, List.mem_of_getElem? (i := 886) (by decide +kernel), List.mem_of_getElem? (i := 1247) (by decide +kernel), List.mem_of_getElem? (i := 1248) (by decide +kernel)⟩
theorem lw_p47 : lw_okq (⟨"WarrantWeatherModel", "isFolk", "(I)Z"⟩, 39) := ⟨⟨by decide +kernel, by decide +kernel⟩, List.mem_of_getElem? (i := 886) (by decide +kernel), List.mem_of_getElem? (i := 1255) (by decide +kernel), List.mem_of_getElem? (i := 1256) (by decide +kernel)⟩
def lw_privs_3 : List (MethodName × Nat) := [(⟨"WarrantWeatherModel", "waitsFor", "(I)V"⟩, 39), (⟨"WarrantWeatherModel", "works", "(I)V"⟩, 39), (⟨"WarrantWeatherModel", "askIsOver", "()V"⟩, 39), (⟨"WarrantWeatherModel", "clauseIsOver", "()V"⟩, 39), (⟨"WarrantWeatherModel", "asksOn", "()V"⟩, 39), (⟨"WarrantWeatherModel", "clause", "()V"⟩, 39), (⟨"WarrantWeatherModel", "hasClause", "(I)Z"⟩, 39), (⟨"WarrantWeatherModel", "warrantNames", "(II)V"⟩, 39), (⟨"WarrantWeatherModel", "decreeOf", "(II)I"⟩, 39), (⟨"WarrantWeatherModel", "says", "(I)J"⟩, 39), (⟨"WarrantWeatherModel", "saysOf", "(I)J"⟩, 39), (⟨"WarrantWeatherModel", "hats", "(IIII)I"⟩, 39), (⟨"WarrantWeatherModel", "provinceOf", "(I)I"⟩, 39), (⟨"WarrantWeatherModel", "does", "(IIII)Z"⟩, 39), (⟨"WarrantWeatherModel", "folkNames", "(IIII)V"⟩, 39), (⟨"WarrantWeatherModel", "isFolk", "(I)Z"⟩, 39)]
theorem lw_r3 : ∀ q ∈ lw_privs_3, lw_okq q := List.forall_mem_cons.mpr ⟨lw_p32, List.forall_mem_cons.mpr ⟨lw_p33, List.forall_mem_cons.mpr ⟨lw_p34, List.forall_mem_cons.mpr ⟨lw_p35, List.forall_mem_cons.mpr ⟨lw_p36, List.forall_mem_cons.mpr ⟨lw_p37, List.forall_mem_cons.mpr ⟨lw_p38, List.forall_mem_cons.mpr ⟨lw_p39, List.forall_mem_cons.mpr ⟨lw_p40, List.forall_mem_cons.mpr ⟨lw_p41, List.forall_mem_cons.mpr ⟨lw_p42, List.forall_mem_cons.mpr ⟨lw_p43, List.forall_mem_cons.mpr ⟨lw_p44, List.forall_mem_cons.mpr ⟨lw_p45, List.forall_mem_cons.mpr ⟨lw_p46, List.forall_mem_cons.mpr ⟨lw_p47, fun _ h => absurd h List.not_mem_nil⟩⟩⟩⟩⟩⟩⟩⟩⟩⟩⟩⟩⟩⟩⟩⟩
theorem lw_p48 : lw_okq (⟨"WarrantWeatherModel", "fineOf", "(IIII)I"⟩, 39) := ⟨⟨by decide +kernel, by decide +kernel⟩, List.mem_of_getElem? (i := 886) (by decide +kernel), List.mem_of_getElem? (i := 1259) (by decide +kernel), List.mem_of_getElem? (i := 1260) (by decide +kernel)⟩
theorem lw_p49 : lw_okq (⟨"WarrantWeatherModel", "appeals", "(IIII)Z"⟩, 39) := ⟨⟨by decide +kernel, by decide +kernel⟩, List.mem_of_getElem? (i := 886) (by decide +kernel), List.mem_of_getElem? (i := 1263) (by decide +kernel), List.mem_of_getElem? (i := 1264) (by decide +kernel)⟩
theorem lw_p50 : lw_okq (⟨"WarrantWeatherModel", "gainAsIs", "(IIZ)I"⟩, 39) := ⟨⟨by decide +kernel, by decide +kernel⟩, List.mem_of_getElem? (i := 886) (by decide +kernel), List.mem_of_getElem? (i := 1274) (by decide +kernel), List.mem_of_getElem? (i := 1275) (by decide +kernel)⟩
theorem lw_p51 : lw_okq (⟨"WarrantWeatherModel", "gainOf", "(IIIIZ)I"⟩, 39) := ⟨⟨by decide +kernel, by decide +kernel⟩, List.mem_of_getElem? (i := 886) (by decide +kernel), List.mem_of_getElem? (i := 1278) (by decide +kernel), List.mem_of_getElem? (i := 1279) (by decide +kernel)⟩
theorem lw_p52 : lw_okq (⟨"WarrantWeatherModel", "sumAll", "(IIZ)I"⟩, 39) := ⟨⟨by decide +kernel, by decide +kernel⟩, List.mem_of_getElem? (i := 886) (by decide +kernel), List.mem_of_getElem? (i := 1288) (by decide +kernel), List.mem_of_getElem? (i := 1289) (by decide +kernel)⟩
theorem lw_p53 : lw_okq (⟨"WarrantWeatherModel", "sumOf", "(IIIZ)I"⟩, 39) := ⟨⟨by decide +kernel, by decide +kernel⟩, List.mem_of_getElem? (i := 886) (by decide +kernel), List.mem_of_getElem? (i := 1292) (by decide +kernel), List.mem_of_getElem? (i := 1293) (by decide +kernel)⟩
theorem lw_p54 : lw_okq (⟨"WarrantWeatherModel", "isAlike", "(III)Z"⟩, 39) := ⟨⟨by decide +kernel, by decide +kernel⟩, List.mem_of_getElem? (i := 886) (by decide +kernel), List.mem_of_getElem? (i := 1308) (by decide +kernel), List.mem_of_getElem? (i := 1309) (by decide +kernel)⟩
theorem lw_p55 : lw_okq (⟨"WarrantWeatherModel", "gainBy", "(III)I"⟩, 39) := ⟨⟨by decide +kernel, by decide +kernel⟩, List.mem_of_getElem? (i := 886) (by decide +kernel), List.mem_of_getElem? (i := 1316) (by decide +kernel), List.mem_of_getElem? (i := 1317) (by decide +kernel)⟩
theorem lw_p56 : lw_okq (⟨"WarrantWeatherModel", "isHidden", "(IIII)Z"⟩, 39) := ⟨⟨by decide +kernel, by decide +kernel⟩, List.mem_of_getElem? (i := 886) (by decide +kernel), List.mem_of_getElem? (i := 1320) (by decide +kernel), List.mem_of_getElem? (i := 1321) (by decide +kernel)⟩
theorem lw_p57 : lw_okq (⟨"WarrantWeatherModel", "isLike", "(III)Z"⟩, 39) := ⟨⟨by decide +kernel, by decide +kernel⟩, List.mem_of_getElem? (i := 886) (by decide +kernel), List.mem_of_getElem? (i := 1328) (by decide +kernel), List.mem_of_getElem? (i := 1329) (by decide +kernel)⟩
theorem lw_p58 : lw_okq (⟨"WarrantWeatherModel", "hasBy", "(III)I"⟩, 39) := ⟨⟨by decide +kernel, by decide +kernel⟩, List.mem_of_getElem? (i := 886) (by decide +kernel), List.mem_of_getElem? (i := 1336) (by decide +kernel), List.mem_of_getElem? (i := 1337) (by decide +kernel)⟩
theorem lw_p59 : lw_okq (⟨"WarrantWeatherModel", "songOf", "(II)I"⟩, 39) := ⟨⟨by decide +kernel, by decide +kernel⟩, List.mem_of_getElem? (i := 886) (by decide +kernel), List.mem_of_getElem? (i := 1352) (by decide +kernel), List.mem_of_getElem? (i := 1353) (by decide +kernel)⟩
theorem lw_p60 : lw_okq (⟨"WarrantWeatherModel", "words", "(I)I"⟩, 39) := ⟨⟨by decide +kernel, by decide +kernel⟩, List.mem_of_getElem? (i := 886) (by decide +kernel), List.mem_of_getElem? (i := 1356) (by decide +kernel), List.mem_of_getElem? (i := 1357) (by decide +kernel)⟩
theorem lw_p61 : lw_okq (⟨"WarrantWeatherModel", "wetDecrees", "()I"⟩, 39) := ⟨⟨by decide +kernel, by decide +kernel⟩, List.mem_of_getElem? (i := 886) (by decide +kernel), List.mem_of_getElem? (i := 1382) (by decide +kernel), List.mem_of_getElem? (i := 1383) (by decide +kernel)⟩
def lw_privs_4 : List (MethodName × Nat) := [(⟨"WarrantWeatherModel", "fineOf", "(IIII)I"⟩, 39), (⟨"WarrantWeatherModel", "appeals", "(IIII)Z"⟩, 39), (⟨"WarrantWeatherModel", "gainAsIs", "(IIZ)I"⟩, 39), (⟨"WarrantWeatherModel", "gainOf", "(IIIIZ)I"⟩, 39), (⟨"WarrantWeatherModel", "sumAll", "(IIZ)I"⟩, 39), (⟨"WarrantWeatherModel", "sumOf", "(IIIZ)I"⟩, 39), (⟨"WarrantWeatherModel", "isAlike", "(III)Z"⟩, 39), (⟨"WarrantWeatherModel", "gainBy", "(III)I"⟩, 39), (⟨"WarrantWeatherModel", "isHidden", "(IIII)Z"⟩, 39), (⟨"WarrantWeatherModel", "isLike", "(III)Z"⟩, 39), (⟨"WarrantWeatherModel", "hasBy", "(III)I"⟩, 39), (⟨"WarrantWeatherModel", "songOf", "(II)I"⟩, 39), (⟨"WarrantWeatherModel", "words", "(I)I"⟩, 39), (⟨"WarrantWeatherModel", "wetDecrees", "()I"⟩, 39)]
theorem lw_r4 : ∀ q ∈ lw_privs_4, lw_okq q := List.forall_mem_cons.mpr ⟨lw_p48, List.forall_mem_cons.mpr ⟨lw_p49, List.forall_mem_cons.mpr ⟨lw_p50, List.forall_mem_cons.mpr ⟨lw_p51, List.forall_mem_cons.mpr ⟨lw_p52, List.forall_mem_cons.mpr ⟨lw_p53, List.forall_mem_cons.mpr ⟨lw_p54, List.forall_mem_cons.mpr ⟨lw_p55, List.forall_mem_cons.mpr ⟨lw_p56, List.forall_mem_cons.mpr ⟨lw_p57, List.forall_mem_cons.mpr ⟨lw_p58, List.forall_mem_cons.mpr ⟨lw_p59, List.forall_mem_cons.mpr ⟨lw_p60, List.forall_mem_cons.mpr ⟨lw_p61, fun _ h => absurd h List.not_mem_nil⟩⟩⟩⟩⟩⟩⟩⟩⟩⟩⟩⟩⟩⟩
def lw_privs : List (MethodName × Nat) := lw_privs_1 ++ (lw_privs_2 ++ (lw_privs_3 ++ (lw_privs_4)))
def lw_tbl : List Cond := k2_sels lw_privs ++ tables_1
theorem lw_privs_ok : ∀ q ∈ lw_privs, lw_okq q := by
  show ∀ q ∈ lw_privs_1 ++ (lw_privs_2 ++ (lw_privs_3 ++ (lw_privs_4))), lw_okq q
  exact List.forall_mem_append.mpr ⟨lw_r1, List.forall_mem_append.mpr ⟨lw_r2, List.forall_mem_append.mpr ⟨lw_r3, lw_r4⟩⟩⟩
end
section
/-! NAMES: printed by wip/whole/gen_names.py out of the claim's tables -/
def xIsNest : Cond → Bool
  | .fieldLinkNest .. => true
  | .methodLinkNest .. => true
  | _ => false
def xTbl : List Cond := lw_tbl.filter goodWord
def xNest : List Cond := lw_tbl.filter xIsNest
theorem xin {w : Cond} (i : Nat) (h : lw_tbl[i]? = some w) (hg : goodWord w = true) : w ∈ xTbl := List.mem_filter.mpr ⟨List.mem_of_getElem? h, hg⟩
theorem xinN {w : Cond} (i : Nat) (h : lw_tbl[i]? = some w) (hg : xIsNest w = true) : w ∈ xNest := List.mem_filter.mpr ⟨List.mem_of_getElem? h, hg⟩
theorem xGood {w : Cond} (h : w ∈ xTbl) : GoodIn xTbl (w :: xTbl) := fun v hv => by
  have hv : v ∈ xTbl := (List.mem_cons.mp hv).elim (fun e => e ▸ h) id
  exact ⟨hv, good_of_word (List.mem_filter.mp hv).2⟩
def xWords : String := "warrant does gain fine appeal toll or and not day province last seen sky decree trade fear act wet hats mine others "
def xWordsN : Nat := 116
def xWordsB : List Int32 := [119, 97, 114, 114, 97, 110, 116, 32, 100, 111, 101, 115, 32, 103, 97, 105, 110, 32, 102, 105, 110, 101, 32, 97, 112, 112, 101, 97, 108, 32, 116, 111, 108, 108, 32, 111, 114, 32, 97, 110, 100, 32, 110, 111, 116, 32, 100, 97, 121, 32, 112, 114, 111, 118, 105, 110, 99, 101, 32, 108, 97, 115, 116, 32, 115, 101, 101, 110, 32, 115, 107, 121, 32, 100, 101, 99, 114, 101, 101, 32, 116, 114, 97, 100, 101, 32, 102, 101, 97, 114, 32, 97, 99, 116, 32, 119, 101, 116, 32, 104, 97, 116, 115, 32, 109, 105, 110, 101, 32, 111, 116, 104, 101, 114, 115, 32]
def xNames : List Int32 := [0b111111, 0b111111, 0b000001, 0b000001, 0b010111, 0b011110, 0b011110, 0b011110, 0b001100, 0b000100, 0b010000, 0b100000, 0b100000]
def R_Bench : String := "WarrantWeather$Bench"
def T_Bench : u_T := fun k => match k with
  | 0 => ("WarrantWeather$Bench", "stack", "[I", true)
  | _ => ("WarrantWeather$Bench", "told", "[I", true)
def ty_Bench : Nat → FieldType := fun k => match k with
  | 0 => .array .int
  | _ => .array .int
def R_Council : String := "WarrantWeather$Council"
def T_Council : u_T := fun k => match k with
  | 0 => ("WarrantWeather$Council", "rolls", "LWarrantWeather$Rolls;", true)
  | 1 => ("WarrantWeather$Council", "court", "LWarrantWeather$Court;", true)
  | 2 => ("WarrantWeather$Council", "gains", "[I", true)
  | _ => ("WarrantWeather$Council", "tolls", "[I", true)
def ty_Council : Nat → FieldType := fun k => match k with
  | 0 => .object "WarrantWeather$Rolls"
  | 1 => .object "WarrantWeather$Court"
  | 2 => .array .int
  | _ => .array .int
def R_Court : String := "WarrantWeather$Court"
def T_Court : u_T := fun k => match k with
  | 0 => ("WarrantWeather$Court", "hats", "I", false)
  | 1 => ("WarrantWeather$Court", "leftOut", "I", false)
  | 2 => ("WarrantWeather$Court", "rolls", "LWarrantWeather$Rolls;", true)
  | 3 => ("WarrantWeather$Court", "shelf", "LWarrantWeather$Shelf;", true)
  | 4 => ("WarrantWeather$Court", "bench", "LWarrantWeather$Bench;", true)
  | 5 => ("WarrantWeather$Court", "acts", "[I", true)
  | 6 => ("WarrantWeather$Court", "totals", "[I", true)
  | 7 => ("WarrantWeather$Court", "province", "I", false)
  | 8 => ("WarrantWeather$Court", "truly", "I", false)
  | _ => ("WarrantWeather$Court", "decree", "I", false)
def ty_Court : Nat → FieldType := fun k => match k with
  | 0 => .int
  | 1 => .int
  | 2 => .object "WarrantWeather$Rolls"
  | 3 => .object "WarrantWeather$Shelf"
  | 4 => .object "WarrantWeather$Bench"
  | 5 => .array .int
  | 6 => .array .int
  | 7 => .int
  | 8 => .int
  | _ => .int
def R_Law : String := "WarrantWeather$Law"
def T_Law : u_T := fun k => match k with
  | 0 => ("WarrantWeather$Law", "code", "[I", true)
  | 1 => ("WarrantWeather$Law", "starts", "[I", true)
  | 2 => ("WarrantWeather$Law", "stops", "[I", true)
  | 3 => ("WarrantWeather$Law", "order", "[I", true)
  | 4 => ("WarrantWeather$Law", "clauses", "I", false)
  | _ => ("WarrantWeather$Law", "length", "I", false)
def ty_Law : Nat → FieldType := fun k => match k with
  | 0 => .array .int
  | 1 => .array .int
  | 2 => .array .int
  | 3 => .array .int
  | 4 => .int
  | _ => .int
def R_Planner : String := "WarrantWeather$Planner"
def T_Planner : u_T := fun k => match k with
  | 0 => ("WarrantWeather$Planner", "best", "I", false)
  | 1 => ("WarrantWeather$Planner", "bestPath", "I", false)
  | 2 => ("WarrantWeather$Planner", "rolls", "LWarrantWeather$Rolls;", true)
  | 3 => ("WarrantWeather$Planner", "court", "LWarrantWeather$Court;", true)
  | 4 => ("WarrantWeather$Planner", "gains", "[I", true)
  | 5 => ("WarrantWeather$Planner", "rule", "[I", true)
  | 6 => ("WarrantWeather$Planner", "first", "I", false)
  | 7 => ("WarrantWeather$Planner", "length", "I", false)
  | _ => ("WarrantWeather$Planner", "any", "Z", false)
def ty_Planner : Nat → FieldType := fun k => match k with
  | 0 => .int
  | 1 => .int
  | 2 => .object "WarrantWeather$Rolls"
  | 3 => .object "WarrantWeather$Court"
  | 4 => .array .int
  | 5 => .array .int
  | 6 => .int
  | 7 => .int
  | _ => .boolean
def R_Reader : String := "WarrantWeather$Reader"
def T_Reader : u_T := fun k => match k with
  | 0 => ("WarrantWeather$Reader", "hasRead", "Z", false)
  | 1 => ("WarrantWeather$Reader", "faultKind", "I", false)
  | 2 => ("WarrantWeather$Reader", "faultAt", "I", false)
  | 3 => ("WarrantWeather$Reader", "tokens", "LWarrantWeather$Tokens;", true)
  | 4 => ("WarrantWeather$Reader", "law", "LWarrantWeather$Law;", false)
  | 5 => ("WarrantWeather$Reader", "at", "I", false)
  | _ => ("WarrantWeather$Reader", "clause", "I", false)
def ty_Reader : Nat → FieldType := fun k => match k with
  | 0 => .boolean
  | 1 => .int
  | 2 => .int
  | 3 => .object "WarrantWeather$Tokens"
  | 4 => .object "WarrantWeather$Law"
  | 5 => .int
  | _ => .int
def R_Rolls : String := "WarrantWeather$Rolls"
def T_Rolls : u_T := fun k => match k with
  | 0 => ("WarrantWeather$Rolls", "home", "[I", true)
  | 1 => ("WarrantWeather$Rolls", "trade", "[I", true)
  | 2 => ("WarrantWeather$Rolls", "fear", "[I", true)
  | 3 => ("WarrantWeather$Rolls", "skies", "[I", true)
  | 4 => ("WarrantWeather$Rolls", "decrees", "[I", true)
  | 5 => ("WarrantWeather$Rolls", "chances", "[I", true)
  | 6 => ("WarrantWeather$Rolls", "steps", "[I", true)
  | 7 => ("WarrantWeather$Rolls", "count", "I", false)
  | 8 => ("WarrantWeather$Rolls", "ruinAt", "I", false)
  | 9 => ("WarrantWeather$Rolls", "texts", "I", false)
  | 10 => ("WarrantWeather$Rolls", "ruling", "I", false)
  | 11 => ("WarrantWeather$Rolls", "stepCount", "I", false)
  | _ => ("WarrantWeather$Rolls", "nextStep", "I", false)
def ty_Rolls : Nat → FieldType := fun k => match k with
  | 0 => .array .int
  | 1 => .array .int
  | 2 => .array .int
  | 3 => .array .int
  | 4 => .array .int
  | 5 => .array .int
  | 6 => .array .int
  | 7 => .int
  | 8 => .int
  | 9 => .int
  | 10 => .int
  | 11 => .int
  | _ => .int
def R_Shelf : String := "WarrantWeather$Shelf"
def T_Shelf : u_T := fun k => match k with
  | 0 => ("WarrantWeather$Shelf", "rolls", "LWarrantWeather$Rolls;", true)
  | 1 => ("WarrantWeather$Shelf", "blank", "LWarrantWeather$Law;", true)
  | _ => ("WarrantWeather$Shelf", "laws", "[LWarrantWeather$Law;", true)
def ty_Shelf : Nat → FieldType := fun k => match k with
  | 0 => .object "WarrantWeather$Rolls"
  | 1 => .object "WarrantWeather$Law"
  | _ => .array (.object "WarrantWeather$Law")
def R_Song : String := "WarrantWeather$Song"
def T_Song : u_T := fun k => match k with
  | 0 => ("WarrantWeather$Song", "words", "I", false)
  | _ => ("WarrantWeather$Song", "vowels", "[I", true)
def ty_Song : Nat → FieldType := fun k => match k with
  | 0 => .int
  | _ => .array .int
def R_Tape : String := "WarrantWeather$Tape"
def T_Tape : u_T := fun k => match k with
  | 0 => ("WarrantWeather$Tape", "bytes", "[I", true)
  | _ => ("WarrantWeather$Tape", "count", "I", false)
def ty_Tape : Nat → FieldType := fun k => match k with
  | 0 => .array .int
  | _ => .int
def R_Tokens : String := "WarrantWeather$Tokens"
def T_Tokens : u_T := fun k => match k with
  | 0 => ("WarrantWeather$Tokens", "kinds", "[I", true)
  | 1 => ("WarrantWeather$Tokens", "places", "[I", true)
  | 2 => ("WarrantWeather$Tokens", "values", "[I", true)
  | _ => ("WarrantWeather$Tokens", "count", "I", false)
def ty_Tokens : Nat → FieldType := fun k => match k with
  | 0 => .array .int
  | 1 => .array .int
  | 2 => .array .int
  | _ => .int
def R_Ww : String := "WarrantWeather"
def T_Ww : u_T := fun k => match k with
  | 0 => ("WarrantWeather", "now", "LWarrantWeather$Rolls;", true)
  | 1 => ("WarrantWeather", "kept", "LWarrantWeather$Rolls;", true)
  | 2 => ("WarrantWeather", "tape", "LWarrantWeather$Tape;", true)
  | 3 => ("WarrantWeather", "reader", "LWarrantWeather$Reader;", true)
  | 4 => ("WarrantWeather", "shelf", "LWarrantWeather$Shelf;", true)
  | 5 => ("WarrantWeather", "court", "LWarrantWeather$Court;", true)
  | 6 => ("WarrantWeather", "planner", "LWarrantWeather$Planner;", true)
  | 7 => ("WarrantWeather", "council", "LWarrantWeather$Council;", true)
  | _ => ("WarrantWeather", "song", "LWarrantWeather$Song;", true)
def ty_Ww : Nat → FieldType := fun k => match k with
  | 0 => .object "WarrantWeather$Rolls"
  | 1 => .object "WarrantWeather$Rolls"
  | 2 => .object "WarrantWeather$Tape"
  | 3 => .object "WarrantWeather$Reader"
  | 4 => .object "WarrantWeather$Shelf"
  | 5 => .object "WarrantWeather$Court"
  | 6 => .object "WarrantWeather$Planner"
  | 7 => .object "WarrantWeather$Council"
  | _ => .object "WarrantWeather$Song"
def R_Md : String := "WarrantWeatherModel"
def T_Md : u_T := fun k => match k with
  | 0 => ("WarrantWeatherModel", "a", "[I", true)
  | 1 => ("WarrantWeatherModel", "image", "[I", true)
  | 2 => ("WarrantWeatherModel", "tape", "[B", true)
  | 3 => ("WarrantWeatherModel", "taped", "I", false)
  | 4 => ("WarrantWeatherModel", "fault", "I", false)
  | 5 => ("WarrantWeatherModel", "faultAt", "I", false)
  | 6 => ("WarrantWeatherModel", "clauses", "[I", true)
  | 7 => ("WarrantWeatherModel", "clauseAt", "[I", true)
  | 8 => ("WarrantWeatherModel", "clauseNumber", "[I", true)
  | 9 => ("WarrantWeatherModel", "order", "[I", true)
  | 10 => ("WarrantWeatherModel", "value", "[I", true)
  | 11 => ("WarrantWeatherModel", "length", "I", false)
  | 12 => ("WarrantWeatherModel", "at", "I", false)
  | 13 => ("WarrantWeatherModel", "token", "I", false)
  | 14 => ("WarrantWeatherModel", "sort", "I", false)
  | 15 => ("WarrantWeatherModel", "told", "I", false)
  | 16 => ("WarrantWeatherModel", "wrong", "I", false)
  | 17 => ("WarrantWeatherModel", "wrongAt", "I", false)
  | 18 => ("WarrantWeatherModel", "open", "I", false)
  | 19 => ("WarrantWeatherModel", "frames", "I", false)
  | 20 => ("WarrantWeatherModel", "frame", "[I", true)
  | 21 => ("WarrantWeatherModel", "compare", "[I", true)
  | 22 => ("WarrantWeatherModel", "waits", "I", false)
  | 23 => ("WarrantWeatherModel", "wait", "[I", true)
  | 24 => ("WarrantWeatherModel", "waitFrame", "[I", true)
  | 25 => ("WarrantWeatherModel", "state", "I", false)
  | 26 => ("WarrantWeatherModel", "newClauses", "I", false)
  | 27 => ("WarrantWeatherModel", "newKind", "I", false)
  | 28 => ("WarrantWeatherModel", "newAt", "[I", true)
  | 29 => ("WarrantWeatherModel", "newNumber", "[I", true)
  | 30 => ("WarrantWeatherModel", "newOrders", "I", false)
  | 31 => ("WarrantWeatherModel", "newOrder", "[I", true)
  | 32 => ("WarrantWeatherModel", "newValue", "[I", true)
  | 33 => ("WarrantWeatherModel", "name", "[I", true)
  | 34 => ("WarrantWeatherModel", "pile", "[J", true)
  | 35 => ("WarrantWeatherModel", "without", "I", false)
  | 36 => ("WarrantWeatherModel", "known", "[I", true)
  | 37 => ("WarrantWeatherModel", "gains", "[I", true)
  | _ => ("WarrantWeatherModel", "sung", "[I", true)
def ty_Md : Nat → FieldType := fun k => match k with
  | 0 => .array .int
  | 1 => .array .int
  | 2 => .array .byte
  | 3 => .int
  | 4 => .int
  | 5 => .int
  | 6 => .array .int
  | 7 => .array .int
  | 8 => .array .int
  | 9 => .array .int
  | 10 => .array .int
  | 11 => .int
  | 12 => .int
  | 13 => .int
  | 14 => .int
  | 15 => .int
  | 16 => .int
  | 17 => .int
  | 18 => .int
  | 19 => .int
  | 20 => .array .int
  | 21 => .array .int
  | 22 => .int
  | 23 => .array .int
  | 24 => .array .int
  | 25 => .int
  | 26 => .int
  | 27 => .int
  | 28 => .array .int
  | 29 => .array .int
  | 30 => .int
  | 31 => .array .int
  | 32 => .array .int
  | 33 => .array .int
  | 34 => .array .long
  | 35 => .int
  | 36 => .array .int
  | 37 => .array .int
  | _ => .array .int
abbrev classes : List vw_C := [(R_Bench, T_Bench, 2), (R_Council, T_Council, 4), (R_Court, T_Court, 10), (R_Law, T_Law, 6), (R_Planner, T_Planner, 9), (R_Reader, T_Reader, 7), (R_Rolls, T_Rolls, 13), (R_Shelf, T_Shelf, 3), (R_Song, T_Song, 2), (R_Tape, T_Tape, 2), (R_Tokens, T_Tokens, 4), (R_Ww, T_Ww, 9), (R_Md, T_Md, 39)]
/-- what is known of a class: its fields' rows of the tables, their types, that their names differ -/
def xCls (C : String) (T : u_T) (N : Nat) (ty : Nat → FieldType) : Prop := (∀ w ∈ u_ws C T N, w ∈ xTbl) ∧ (∀ k, k < N → parseFieldDescriptor (T k).2.2.1 = some (ty k)) ∧ (∀ a, a < N → ∀ b, b < N → a ≠ b → (T a).2.1 ≠ (T b).2.1)
set_option maxRecDepth 20000 in
theorem q_Bench : xCls R_Bench T_Bench 2 ty_Bench := by
  refine ⟨fun w hw => ?_, by decide +kernel, by decide +kernel⟩
  have h : u_ws R_Bench T_Bench 2 = [284, 286].filterMap (fun i => lw_tbl[i]?) ∧ (u_ws R_Bench T_Bench 2).all goodWord = true := by decide +kernel
  refine List.mem_filter.mpr ⟨?_, List.all_eq_true.mp h.2 w hw⟩
  rw [h.1] at hw
  obtain ⟨i, -, hi⟩ := List.mem_filterMap.mp hw
  exact List.mem_of_getElem? hi
set_option maxRecDepth 20000 in
theorem q_Council : xCls R_Council T_Council 4 ty_Council := by
  refine ⟨fun w hw => ?_, by decide +kernel, by decide +kernel⟩
  have h : u_ws R_Council T_Council 4 = [368, 370, 372, 374].filterMap (fun i => lw_tbl[i]?) ∧ (u_ws R_Council T_Council 4).all goodWord = true := by decide +kernel
  refine List.mem_filter.mpr ⟨?_, List.all_eq_true.mp h.2 w hw⟩
  rw [h.1] at hw
  obtain ⟨i, -, hi⟩ := List.mem_filterMap.mp hw
  exact List.mem_of_getElem? hi
set_option maxRecDepth 20000 in
theorem q_Court : xCls R_Court T_Court 10 ty_Court := by
  refine ⟨fun w hw => ?_, by decide +kernel, by decide +kernel⟩
  have h : u_ws R_Court T_Court 10 = [301, 303, 305, 307, 309, 311, 313, 315, 317, 319].filterMap (fun i => lw_tbl[i]?) ∧ (u_ws R_Court T_Court 10).all goodWord = true := by decide +kernel
  refine List.mem_filter.mpr ⟨?_, List.all_eq_true.mp h.2 w hw⟩
  rw [h.1] at hw
  obtain ⟨i, -, hi⟩ := List.mem_filterMap.mp hw
  exact List.mem_of_getElem? hi
set_option maxRecDepth 20000 in
theorem q_Law : xCls R_Law T_Law 6 ty_Law := by
  refine ⟨fun w hw => ?_, by decide +kernel, by decide +kernel⟩
  have h : u_ws R_Law T_Law 6 = [191, 193, 195, 197, 199, 201].filterMap (fun i => lw_tbl[i]?) ∧ (u_ws R_Law T_Law 6).all goodWord = true := by decide +kernel
  refine List.mem_filter.mpr ⟨?_, List.all_eq_true.mp h.2 w hw⟩
  rw [h.1] at hw
  obtain ⟨i, -, hi⟩ := List.mem_filterMap.mp hw
  exact List.mem_of_getElem? hi
set_option maxRecDepth 20000 in
theorem q_Planner : xCls R_Planner T_Planner 9 ty_Planner := by
  refine ⟨fun w hw => ?_, by decide +kernel, by decide +kernel⟩
  have h : u_ws R_Planner T_Planner 9 = [339, 341, 343, 345, 347, 349, 351, 353, 355].filterMap (fun i => lw_tbl[i]?) ∧ (u_ws R_Planner T_Planner 9).all goodWord = true := by decide +kernel
  refine List.mem_filter.mpr ⟨?_, List.all_eq_true.mp h.2 w hw⟩
  rw [h.1] at hw
  obtain ⟨i, -, hi⟩ := List.mem_filterMap.mp hw
  exact List.mem_of_getElem? hi
set_option maxRecDepth 20000 in
theorem q_Reader : xCls R_Reader T_Reader 7 ty_Reader := by
  refine ⟨fun w hw => ?_, by decide +kernel, by decide +kernel⟩
  have h : u_ws R_Reader T_Reader 7 = [255, 257, 259, 261, 263, 265, 267].filterMap (fun i => lw_tbl[i]?) ∧ (u_ws R_Reader T_Reader 7).all goodWord = true := by decide +kernel
  refine List.mem_filter.mpr ⟨?_, List.all_eq_true.mp h.2 w hw⟩
  rw [h.1] at hw
  obtain ⟨i, -, hi⟩ := List.mem_filterMap.mp hw
  exact List.mem_of_getElem? hi
set_option maxRecDepth 20000 in
theorem q_Rolls : xCls R_Rolls T_Rolls 13 ty_Rolls := by
  refine ⟨fun w hw => ?_, by decide +kernel, by decide +kernel⟩
  have h : u_ws R_Rolls T_Rolls 13 = [125, 127, 129, 131, 133, 135, 137, 139, 141, 143, 145, 147, 149].filterMap (fun i => lw_tbl[i]?) ∧ (u_ws R_Rolls T_Rolls 13).all goodWord = true := by decide +kernel
  refine List.mem_filter.mpr ⟨?_, List.all_eq_true.mp h.2 w hw⟩
  rw [h.1] at hw
  obtain ⟨i, -, hi⟩ := List.mem_filterMap.mp hw
  exact List.mem_of_getElem? hi
set_option maxRecDepth 20000 in
theorem q_Shelf : xCls R_Shelf T_Shelf 3 ty_Shelf := by
  refine ⟨fun w hw => ?_, by decide +kernel, by decide +kernel⟩
  have h : u_ws R_Shelf T_Shelf 3 = [209, 211, 213].filterMap (fun i => lw_tbl[i]?) ∧ (u_ws R_Shelf T_Shelf 3).all goodWord = true := by decide +kernel
  refine List.mem_filter.mpr ⟨?_, List.all_eq_true.mp h.2 w hw⟩
  rw [h.1] at hw
  obtain ⟨i, -, hi⟩ := List.mem_filterMap.mp hw
  exact List.mem_of_getElem? hi
set_option maxRecDepth 20000 in
theorem q_Song : xCls R_Song T_Song 2 ty_Song := by
  refine ⟨fun w hw => ?_, by decide +kernel, by decide +kernel⟩
  have h : u_ws R_Song T_Song 2 = [386, 388].filterMap (fun i => lw_tbl[i]?) ∧ (u_ws R_Song T_Song 2).all goodWord = true := by decide +kernel
  refine List.mem_filter.mpr ⟨?_, List.all_eq_true.mp h.2 w hw⟩
  rw [h.1] at hw
  obtain ⟨i, -, hi⟩ := List.mem_filterMap.mp hw
  exact List.mem_of_getElem? hi
set_option maxRecDepth 20000 in
theorem q_Tape : xCls R_Tape T_Tape 2 ty_Tape := by
  refine ⟨fun w hw => ?_, by decide +kernel, by decide +kernel⟩
  have h : u_ws R_Tape T_Tape 2 = [164, 166].filterMap (fun i => lw_tbl[i]?) ∧ (u_ws R_Tape T_Tape 2).all goodWord = true := by decide +kernel
  refine List.mem_filter.mpr ⟨?_, List.all_eq_true.mp h.2 w hw⟩
  rw [h.1] at hw
  obtain ⟨i, -, hi⟩ := List.mem_filterMap.mp hw
  exact List.mem_of_getElem? hi
set_option maxRecDepth 20000 in
theorem q_Tokens : xCls R_Tokens T_Tokens 4 ty_Tokens := by
  refine ⟨fun w hw => ?_, by decide +kernel, by decide +kernel⟩
  have h : u_ws R_Tokens T_Tokens 4 = [236, 238, 240, 242].filterMap (fun i => lw_tbl[i]?) ∧ (u_ws R_Tokens T_Tokens 4).all goodWord = true := by decide +kernel
  refine List.mem_filter.mpr ⟨?_, List.all_eq_true.mp h.2 w hw⟩
  rw [h.1] at hw
  obtain ⟨i, -, hi⟩ := List.mem_filterMap.mp hw
  exact List.mem_of_getElem? hi
set_option maxRecDepth 20000 in
theorem q_Ww : xCls R_Ww T_Ww 9 ty_Ww := by
  refine ⟨fun w hw => ?_, by decide +kernel, by decide +kernel⟩
  have h : u_ws R_Ww T_Ww 9 = [400, 402, 404, 406, 408, 410, 412, 414, 416].filterMap (fun i => lw_tbl[i]?) ∧ (u_ws R_Ww T_Ww 9).all goodWord = true := by decide +kernel
  refine List.mem_filter.mpr ⟨?_, List.all_eq_true.mp h.2 w hw⟩
  rw [h.1] at hw
  obtain ⟨i, -, hi⟩ := List.mem_filterMap.mp hw
  exact List.mem_of_getElem? hi
set_option maxRecDepth 20000 in
theorem q_Md : xCls R_Md T_Md 39 ty_Md := by
  refine ⟨fun w hw => ?_, by decide +kernel, by decide +kernel⟩
  have h : u_ws R_Md T_Md 39 = [996, 998, 1000, 1002, 1004, 1006, 1008, 1010, 1012, 1014, 1016, 1018, 1020, 1022, 1024, 1026, 1028, 1030, 1032, 1034, 1036, 1038, 1040, 1042, 1044, 1046, 1048, 1050, 1052, 1054, 1056, 1058, 1060, 1062, 1064, 1066, 1068, 1070, 1072].filterMap (fun i => lw_tbl[i]?) ∧ (u_ws R_Md T_Md 39).all goodWord = true := by decide +kernel
  refine List.mem_filter.mpr ⟨?_, List.all_eq_true.mp h.2 w hw⟩
  rw [h.1] at hw
  obtain ⟨i, -, hi⟩ := List.mem_filterMap.mp hw
  exact List.mem_of_getElem? hi
end
section
/-! THE FRAME: an abstract heap (shapes, ints, longs), and the judgement X over it: the machine's walk with all of its context hidden. -/
/-- a cell's shape: an array (its type, its length, its references), or an object (its class's number, its slots' kinds: 0 an int, 1 null, 2 a reference that V holds, q + 3 the reference q) -/
abbrev xC : Type := (FieldType × Nat × (Nat → Option Nat)) ⊕ (Nat × List Nat)
abbrev xS : Type := List xC
abbrev xV : Type := Nat → Nat → Int32
abbrev xL : Type := Nat → Nat → Int64
abbrev xH : Type := xS × xV × xL
/-- where the world lies: its first address, the addresses of what isn't ours, the classes' numbers and slots, the arrays' classes, the script -/
abbrev xG : Type := Nat × (Nat → Nat) × va_G × (FieldType → ClassId) × (Nat × (Nat → Int32))
/-- a method: its name, its bytes, how many locals, what it returns, how many cells and slots it may make -/
abbrev xM : Type := MethodName × ByteArray × Nat × Option FieldType × Nat × Nat
def xv (G : xG) : Value → Value
  | .ref q => .ref (G.1 + q)
  | .retAddr k => .ref (G.2.1 k)
  | v => v
theorem xv_cat (G : xG) (v : Value) : (xv G v).category = v.category := by cases v <;> rfl
def xsv (kd : Nat) (x : Int32) : Value := match kd with
  | 0 => .int x
  | 1 => .null
  | 2 => .ref x.toNatClampNeg
  | q + 3 => .ref q
def xb (G : xG) (V : xV) (L : xL) (r : Nat) (ty : FieldType) (f : Nat → Option Nat) : (Nat → Int32) ⊕ (Nat → Int64) ⊕ (Nat → UInt32) ⊕ (Nat → UInt64) ⊕ (Nat → Option Nat) := match ty with
  | .long => .inr (.inl (L r))
  | .object _ => .inr (.inr (.inr (.inr (fun j => (f j).map (fun q => G.1 + q)))))
  | _ => .inl (V r)
def xe (G : xG) (V : xV) (L : xL) (r : Nat) : xC → va_E
  | .inl (ty, n, f) => .inl (G.2.2.2.1 ty, n, xb G V L r ty f)
  | .inr (ci, ks) => .inr (ci, ks.mapIdx (fun k kd => xv G (xsv kd (V r k))))
def xw (G : xG) (sh : xS) (V : xV) (L : xL) : va_W := sh.mapIdx (fun r c => (G.1 + r, xe G V L r c))
def xA (G : xG) : Nat → Prop := fun q => G.1 ≤ q
def xR (G : xG) (sh : xS) (V : xV) (L : xL) (H : Heap) : Prop := va_P G.2.2.1 classes (xw G sh V L) H
theorem xw_at {G : xG} {sh : xS} {V : xV} {L : xL} {r : Nat} {c : xC} (h : sh[r]? = some c) : (xw G sh V L)[r]? = some (G.1 + r, xe G V L r c) := by
  simp only [xw, List.getElem?_mapIdx, h, Option.map_some]
theorem xw_of {G : xG} {sh : xS} {V : xV} {L : xL} {r : Nat} {q : Nat × va_E} (h : (xw G sh V L)[r]? = some q) : ∃ c, sh[r]? = some c ∧ q = (G.1 + r, xe G V L r c) := by
  simp only [xw, List.getElem?_mapIdx, Option.map_eq_some_iff] at h
  obtain ⟨c, h1, h2⟩ := h
  exact ⟨c, h1, h2.symm⟩
theorem xw_D (G : xG) (sh : xS) (V : xV) (L : xL) : va_D (xA G) (xw G sh V L) := by
  refine ⟨fun i j p q hi hj e => ?_, fun k q hk => ?_⟩
  · obtain ⟨c1, -, rfl⟩ := xw_of hi
    obtain ⟨c2, -, rfl⟩ := xw_of hj
    have e : G.1 + i = G.1 + j := e
    omega
  · obtain ⟨c1, -, rfl⟩ := xw_of hk
    exact Nat.le_add_right _ _
/-- the array types that the world has -/
def xTy (G : xG) : List (ClassId × FieldType) := [(G.2.2.2.1 .int, .int), (G.2.2.2.1 .byte, .byte), (G.2.2.2.1 .long, .long), (G.2.2.2.1 (.object "WarrantWeather$Law"), .object "WarrantWeather$Law")]
/-- what holds of every state: the tables, the script, the constants that aren't ours -/
def xK (G : xG) (U : State) : Prop :=
  va_K G.2.2.1 classes (xTy G) U ∧ (∀ w ∈ xNest, va_Nw w U) ∧ va_X (G.2.1 0) G.2.2.2.2.1 G.2.2.2.2.2 U U.heap ∧ G.2.1 0 < G.1 ∧ G.1 ≤ U.heap.size ∧
  va_Z "WarrantWeather" "NAME_IS_OF" "[I" (.ref (G.2.1 2)) (xA G) U U.heap ∧ va_T .int (G.2.1 2) 13 (fun j => .int (xNames.getD j 0)) (xA G) U U.heap ∧
  vk_R "WarrantWeather$Tokens" 65 xWords (G.2.1 1) U ∧ vk_S 1 [xWordsN] [xWordsB] (fun _ => G.2.1 1) (fun _ => G.2.1 3) (xA G) U U.heap ∧
  va_Z "java/lang/String" "COMPACT_STRINGS" "Z" (.int 1) (xA G) U U.heap ∧ va_Zq "jdk/internal/util/Preconditions" "SIOOBE_FORMATTER" "Ljava/util/function/BiFunction;" (xA G) U U.heap ∧ va_AO "WarrantWeather$Law" U
theorem xK.to {G : xG} {s U : State} (h : xK G s) (hW : s.WarmedH U.vm) (hz : s.heap.size ≤ U.heap.size) (hq : ∀ q : Nat, q < s.heap.size → ¬ xA G q → U.heap[q]? = s.heap[q]?) : xK G U := by
  obtain ⟨h1, h2, h3, h4, h5, h6, h7, h8, h9, h10, h11, h12⟩ := h
  have hb : ¬ xA G (G.2.1 0) := Nat.not_le.mpr h4
  refine ⟨va_K.moved hW.alike h1, fun w hw => ?_, (va_X.moved hW.alike h3).kept (hq _ (Nat.lt_of_lt_of_le h4 h5) hb), h4, Nat.le_trans h5 hz, (va_Z.moved hW.alike h6).kept hq, (va_T.moved hW.alike h7).kept hq, vk_R.warm hW h8, (vk_S.moved hW.alike h9).kept hq, (va_Z.moved hW.alike h10).kept hq, (va_Zq.moved hW.alike h11).kept hq, va_AO.moved hW.alike h12⟩
  have h := h2 w hw
  have hn : xIsNest w = true := (List.mem_filter.mp hw).2
  cases w <;> first | (exact va_Nw.warmF hW h) | (exact va_Nw.warmM hW h) | (cases hn)
theorem xK.call {G : xG} {U : State} {g : JFrame} {mk : MethodId} {a : Array Value} (h : xK G U) : xK G (U.calling g mk a) := by
  obtain ⟨h1, h2, h3, h4, h5, h6, h7, h8, h9, h10, h11, h12⟩ := h
  refine ⟨va_K.moved (u := U) (U := U.calling g mk a) (Vm.Alike.refl U.vm) h1, fun w hw => va_Nw.same ?_ (u := U) rfl (h2 w hw), va_X.moved (u := U) (Vm.Alike.refl U.vm) h3, h4, h5, va_Z.moved (u := U) (Vm.Alike.refl U.vm) h6, va_T.moved (u := U) (Vm.Alike.refl U.vm) h7, vk_R.same (u := U) rfl h8, vk_S.moved (u := U) (Vm.Alike.refl U.vm) h9, va_Z.moved (u := U) (Vm.Alike.refl U.vm) h10, va_Zq.moved (u := U) (Vm.Alike.refl U.vm) h11, va_AO.moved (u := U) (Vm.Alike.refl U.vm) h12⟩
  have hn : xIsNest w = true := (List.mem_filter.mp hw).2
  cases w <;> first | rfl | (cases hn)
/-- the room of a method whose calls go d deep -/
def xRm (d : Nat) (M : xM) : Room := { frames := d, cells := M.2.2.2.2.1, slots := M.2.2.2.2.2, locals := 64 * d + 64 }
def xPc (G : xG) (as : List Value) (h : xH) : Array Value → State → Prop := fun a U => a = (as.map (xv G)).toArray ∧ xR G h.1 h.2.1 h.2.2 U.heap ∧ xK G U ∧ U.heap.size ≤ G.1 + h.1.length
def xQc (G : xG) (Q : Option Value → xH → Prop) : Array Value → State → Outcome → State → Prop := fun _ st o t => ∃ (r : Option Value) (h : xH), o = .returned (r.map (xv G)) ∧ Q r h ∧ xR G h.1 h.2.1 h.2.2 t.heap ∧ va_F (xA G) st t
/-- a method's contract over the abstract heap -/
def xRuns (d : Nat) (M : xM) (as : List Value) (h : xH) (Q : Option Value → xH → Prop) : Prop :=
  ∀ (l : Launch) (G : xG), Met l M.1 (.code M.1 M.2.1 M.2.2.1 M.2.2.2.1 :: xTbl) (xRm d M) (xPc G as h) (xQc G Q) M.2.2.2.2.1 M.2.2.2.2.2 (xA G)
/-- a method's context -/
def xCx (G : xG) (M : xM) (p : Program) (s : State) (m : MethodId) (args : Array Value) (meth : Method) (c : Code) : Prop :=
  p.tables.exec = Jvm.exec ∧ c.code = M.2.1 ∧ meth.sig.returnType = M.2.2.2.1 ∧ c.maxLocals = M.2.2.1 ∧ s.vm.findClass M.1.cls = some m.cls ∧ (∀ w ∈ xTbl, w.before args s = true) ∧ meth.locks = false ∧ meth.name = M.1.name ∧ xK G s
def xls (G : xG) (ls : List (Nat × Value)) : List (Nat × Value) := ls.map (fun q => (q.1, xv G q.2))
/-- the judgement: the machine, in method M at pc with these locals and this stack, over this heap, comes to Z -/
def X (M : xM) (R : Room) (Z : xG → List Frame → Array Value → State → State → Prop) (sh : xS) (V : xV) (L : xL) (cu su pc : Nat) (ls : List (Nat × Value)) (st : List Value) : Prop :=
  ∀ (l : Launch) (G : xG) (p : Program) (e : Env) (s : State) (m : MethodId) (args : Array Value) (below : List Frame) (meth : Method) (c : Code) (H : Heap) (locs : List Loc) (la : Array Slot),
    xCx G M p s m args meth c → s.heap.size + cu ≤ G.1 + sh.length → xR G sh V L H → va_S (xA G) s.heap H locs → lv_has la M.2.2.1 (xls G ls) →
    W p l e R s m args below meth c H locs cu su (Z G below args s) (F0 m pc la (st.map (xv G)))
/-- a method's end -/
def xZ (M : xM) (Q : Option Value → xH → Prop) : xG → List Frame → Array Value → State → State → Prop := fun G below args s => MQ below (xQc G Q) args s M.2.2.2.2.1 M.2.2.2.2.2 (xA G)
theorem xl_at {G : xG} {ls : List (Nat × Value)} {k i : Nat} {v : Value} (h : ls[k]? = some (i, v)) : (xls G ls)[k]? = some (i, xv G v) := by
  simp only [xls, List.getElem?_map, h, Option.map_some]
theorem xl_st1 {G : xG} {ls ls' : List (Nat × Value)} {i : Nat} {v : Value} (h : (i, v) :: ls.filter (fun q => !(q.1 == i) && !(q.1 + 1 == i && q.2.category == 2)) = ls') :
    (i, xv G v) :: (xls G ls).filter (fun q => !(q.1 == i) && !(q.1 + 1 == i && q.2.category == 2)) = xls G ls' := by
  subst h
  simp only [xls, List.filter_map, List.map_cons]
  congr 2
  congr 1
  funext q
  simp only [Function.comp, xv_cat]
theorem xl_st2 {G : xG} {ls ls' : List (Nat × Value)} {i : Nat} {v : Value} (h : (i, v) :: ls.filter (fun q => !(q.1 == i) && (!(q.1 == i + 1) && !(q.1 + 1 == i && q.2.category == 2))) = ls') :
    (i, xv G v) :: (xls G ls).filter (fun q => !(q.1 == i) && (!(q.1 == i + 1) && !(q.1 + 1 == i && q.2.category == 2))) = xls G ls' := by
  subst h
  simp only [xls, List.filter_map, List.map_cons]
  congr 2
  congr 1
  funext q
  simp only [Function.comp, xv_cat]
theorem xl_args (G : xG) : ∀ (as : List Value) (i : Nat), lv_args i (as.map (xv G)) = xls G (lv_args i as)
  | [], _ => rfl
  | v :: vs, i => by
    simp only [List.map_cons, lv_args, xv_cat, xls]
    rw [xl_args G vs]
    rfl
theorem xl_sl (G : xG) : ∀ as : List Value, (lg_sl (as.map (xv G))).length = (lg_sl as).length
  | [] => rfl
  | v :: vs => by
    have ih := xl_sl G vs
    simp only [lg_sl, List.map_cons, List.flatMap_cons, List.length_append, xv_cat] at ih ⊢
    rw [ih]
    split <;> rfl
/-- a method's contract out of the walk of its body -/
theorem xRuns_of {d : Nat} {M : xM} {as : List Value} {sh : xS} {V : xV} {L : xL} {Q : Option Value → xH → Prop} (hy : plainName M.1.cls = true) (hn : (lg_sl as).length ≤ M.2.2.1)
    (h : X M (xRm d M) (xZ M Q) sh V L 0 0 0 (lv_args 0 as) []) : xRuns d M as (sh, V, L) Q := by
  intro l G
  refine Met.ofW (cc := M.2.1) (maxL := M.2.2.1) (ret := M.2.2.2.1) hy rfl ?_
  intro p e s m args below meth c s₁ B hml hv
  obtain ⟨rfl, hR, hK, hz⟩ := hv
  have hl := lv_entry (as.map (xv G)) (n := M.2.2.1) (by rw [xl_sl]; exact hn)
  rw [xl_args] at hl
  rw [lg_entry_eq]
  exact h l G p e s m _ below meth c s.heap [] _ ⟨B.exec, B.bytes, B.returns, hml, findClass_of_methodNamed B.named, fun w hw => atoms_spec B.pre w (List.mem_cons_of_mem _ hw), B.notSynchronized, (name_of_methodNamed B.named B.method).1, hK⟩ hz hR va_S.rf hl
theorem xRuns.weak {d : Nat} {M : xM} {as : List Value} {h : xH} {Q Q2 : Option Value → xH → Prop} (hM : xRuns d M as h Q) (hq : ∀ r h', Q r h' → Q2 r h') : xRuns d M as h Q2 := by
  intro l G
  refine fun p e ha hc hk s m args below hf happ hP hK => ?_
  obtain ⟨k, o, h1, h2, h3, ⟨r, h', e1, e2, e3⟩, h4⟩ := hM l G p e ha hc hk s m args below hf happ hP hK
  exact ⟨k, o, h1, h2, h3, ⟨r, h', e1, hq r h' e2, e3⟩, h4⟩
section XR
variable {p : Program} {l : Launch} {e : Env} {R : Room} {s : State} {m : MethodId} {args : Array Value} {below : List Frame} {meth : Method} {c : Code} {H : Heap} {locs : List Loc} {cells slots : Nat} {Qf : State → Prop}
variable {pc mc ms : Nat} {la : Array Slot} {rest st0 : List Value} {a : Array Value} {G : xG} {Q : Option Value → xH → Prop}
theorem x_run (hr : va_Run p l e R s m args below meth c H locs cells slots mc ms (F0 m pc la st0) rest (xQc G Q a) (xA G)) (hS : va_S (xA G) s.heap H locs)
    (K : ∀ (r : Option Value) (h : xH) (H1 : Heap) (locs1 : List Loc), Q r h → xR G h.1 h.2.1 h.2.2 H1 → va_S (xA G) s.heap H1 locs1 → W p l e R s m args below meth c H1 locs1 (cells + mc) (slots + ms) Qf (F0 m (pc + 3) la ((r.map (xv G)).toList ++ rest))) : W p l e R s m args below meth c H locs cells slots Qf (F0 m pc la st0) := by
  intro T hT Xx
  obtain ⟨v, st₀, t, T', L, h0, X', hL, e1, e2, ⟨r, h, hv, hq, hR, hz, hk⟩, st⟩ := hr T hT Xx
  cases hv
  rw [h0] at hz hk
  obtain ⟨t2, a1, b1⟩ := K r h T'.heap (locs ++ L) hq (by rw [e1]; exact hR)
    ⟨Nat.le_trans hS.1 (by rw [e1]; exact hz), fun q h1 h2 => by rw [e1, hk q (Nat.lt_of_lt_of_le h1 hS.1) h2]; exact hS.2.1 q h1 h2, fun q hq => by
      rcases List.mem_append.mp hq with h | h
      · exact hS.2.2 q h
      · exact hL q h⟩ T' rfl X'
  exact ⟨t2, st t2 a1, b1⟩
theorem x_size {g : JFrame} (h : H.size ≤ s.heap.size + cells → W p l e R s m args below meth c H locs cells slots Qf g) : W p l e R s m args below meth c H locs cells slots Qf g := fun T hT Xs => h (by have := Xs.same.2.2.1; rw [← hT]; exact this) T hT Xs
end XR
theorem xR_low {G : xG} {sh : xS} {V : xV} {L : xL} {H : Heap} (h : xR G sh V L H) (hb : G.1 ≤ H.size) : G.1 + sh.length ≤ H.size := by
  rcases Nat.eq_zero_or_pos sh.length with h0 | h0
  · omega
  · have h1 : sh[sh.length - 1]? = some sh[sh.length - 1] := List.getElem?_eq_getElem (by omega)
    have h2 := (h _ _ (xw_at (G := G) (V := V) (L := L) h1)).lt
    simp only at h2
    omega
theorem xe_eq {G : xG} {V V' : xV} {L L' : xL} {r : Nat} (c : xC) (hV : V' r = V r) (hL : L' r = L r) : xe G V' L' r c = xe G V L r c := by
  rcases c with ⟨ty, n, f⟩ | ⟨ci, ks⟩
  · cases ty <;> simp only [xe, xb, hV, hL]
  · simp only [xe, hV]
theorem xw_set {G : xG} {sh : xS} {V V' : xV} {L L' : xL} {r : Nat} (c : xC) (hr : r < sh.length) (hV : ∀ j, j ≠ r → V' j = V j) (hL : ∀ j, j ≠ r → L' j = L j) : xw G (sh.set r c) V' L' = (xw G sh V L).set r (G.1 + r, xe G V' L' r c) := by
  apply List.ext_getElem?
  intro i
  by_cases hi : i = r
  · subst hi
    rw [xw_at (List.getElem?_set_self hr), List.getElem?_set_self (by simp only [xw, List.length_mapIdx]; exact hr)]
  · rw [List.getElem?_set_ne (Ne.symm hi)]
    simp only [xw, List.getElem?_mapIdx]
    rw [List.getElem?_set_ne (Ne.symm hi)]
    cases sh[i]? with
    | none => rfl
    | some c' =>
      simp only [Option.map_some]
      rw [xe_eq c' (hV i hi) (hL i hi)]
theorem xw_setS {G : xG} {sh : xS} {V V' : xV} {L L' : xL} {r : Nat} {c : xC} (hr : sh[r]? = some c) (hV : ∀ j, j ≠ r → V' j = V j) (hL : ∀ j, j ≠ r → L' j = L j) : xw G sh V' L' = (xw G sh V L).set r (G.1 + r, xe G V' L' r c) := by
  have h1 := xw_set (G := G) c (List.getElem?_eq_some_iff.mp hr).1 hV hL
  rw [← h1]
  congr 1
  apply List.ext_getElem?
  intro i
  by_cases hi : i = r
  · subst hi
    rw [List.getElem?_set_self (List.getElem?_eq_some_iff.mp hr).1, hr]
  · rw [List.getElem?_set_ne (Ne.symm hi)]
/-- one int of the heap is another -/
def x2 (V : xV) (r k : Nat) (v : Int32) : xV := fun r' k' => if r' = r ∧ k' = k then v else V r' k'
def x2L (L : xL) (r k : Nat) (v : Int64) : xL := fun r' k' => if r' = r ∧ k' = k then v else L r' k'
/-- a row of the heap is another -/
def xrow (V : xV) (r : Nat) (f : Nat → Int32) : xV := fun r' => if r' = r then f else V r'
theorem x2_ne {V : xV} {r k j : Nat} {v : Int32} (h : j ≠ r) : x2 V r k v j = V j := by funext i; simp [x2, h]
theorem x2L_ne {V : xL} {r k j : Nat} {v : Int64} (h : j ≠ r) : x2L V r k v j = V j := by funext i; simp [x2L, h]
theorem xrow_ne {V : xV} {r j : Nat} {f : Nat → Int32} (h : j ≠ r) : xrow V r f j = V j := if_neg h
theorem xrow_eq {V : xV} {r : Nat} {f : Nat → Int32} : xrow V r f r = f := if_pos rfl
theorem x2_upd {V : xV} {r k : Nat} {v : Int32} : x2 V r k v r = upd (V r) k v := by funext i; simp [x2, upd]
theorem x2L_upd {V : xL} {r k : Nat} {v : Int64} : x2L V r k v r = vp_updL (V r) k v := by funext i; simp [x2L, vp_updL]
/-- an index is within -/
def xI (i : Int32) (n : Nat) : Bool := decide (0 ≤ i.toInt ∧ i.toInt < (n : Int))
theorem xI_in {i : Int32} {n : Nat} (h : xI i n = true) : vp_in i n := vp_in_iff.mpr (of_decide_eq_true h)
end
section
/-! THE RULES: a row for each instruction (printed by wip/whole/gen_rules.py) -/
section XRules
variable {M : xM} {R : Room} {Z : xG → List Frame → Array Value → State → State → Prop} {sh : xS} {V : xV} {L : xL} {cu su pc : Nat} {ls ls' : List (Nat × Value)} {st : List Value}
theorem x_iconst {n : Int} (v : Int32) (hd : decode M.2.1 pc = .ok (.iconst n, 1)) (hv : Int32.ofInt n = v) (K : X M R Z sh V L cu su (pc + 1) ls (.int v :: st)) : X M R Z sh V L cu su pc ls st := by
  intro l G p e s m args below meth c H locs la hC hz hR hS hl
  exact lv_iconst hC.1 hC.2.1 hd hv (K l G p e s m args below meth c H locs la hC hz hR hS hl)
theorem x_bipush {n : Int} (v : Int32) (hd : decode M.2.1 pc = .ok (.bipush n, 2)) (hv : (Int8.ofInt n).toInt32 = v) (K : X M R Z sh V L cu su (pc + 2) ls (.int v :: st)) : X M R Z sh V L cu su pc ls st := by
  intro l G p e s m args below meth c H locs la hC hz hR hS hl
  exact lv_bipush hC.1 hC.2.1 hd hv (K l G p e s m args below meth c H locs la hC hz hR hS hl)
theorem x_sipush {n : Int} (v : Int32) (hd : decode M.2.1 pc = .ok (.sipush n, 3)) (hv : (Int16.ofInt n).toInt32 = v) (K : X M R Z sh V L cu su (pc + 3) ls (.int v :: st)) : X M R Z sh V L cu su pc ls st := by
  intro l G p e s m args below meth c H locs la hC hz hR hS hl
  exact lv_sipush hC.1 hC.2.1 hd hv (K l G p e s m args below meth c H locs la hC hz hR hS hl)
theorem x_lconst {n : Fin 2} (v : Int64) (hd : decode M.2.1 pc = .ok (.lconst n, 1)) (hv : Int64.ofNat (n : Nat) = v) (K : X M R Z sh V L cu su (pc + 1) ls (.long v :: st)) : X M R Z sh V L cu su pc ls st := by
  intro l G p e s m args below meth c H locs la hC hz hR hS hl
  exact lv_lconst hC.1 hC.2.1 hd hv (K l G p e s m args below meth c H locs la hC hz hR hS hl)
theorem x_iadd {x y : Int32} (hd : decode M.2.1 pc = .ok (.iadd, 1))  (K : X M R Z sh V L cu su (pc + 1) ls (.int (x + y) :: st)) : X M R Z sh V L cu su pc ls (.int y :: .int x :: st) := by
  intro l G p e s m args below meth c H locs la hC hz hR hS hl
  exact lv_iadd hC.1 hC.2.1 hd  (K l G p e s m args below meth c H locs la hC hz hR hS hl)
theorem x_isub {x y : Int32} (hd : decode M.2.1 pc = .ok (.isub, 1))  (K : X M R Z sh V L cu su (pc + 1) ls (.int (x - y) :: st)) : X M R Z sh V L cu su pc ls (.int y :: .int x :: st) := by
  intro l G p e s m args below meth c H locs la hC hz hR hS hl
  exact lv_isub hC.1 hC.2.1 hd  (K l G p e s m args below meth c H locs la hC hz hR hS hl)
theorem x_imul {x y : Int32} (hd : decode M.2.1 pc = .ok (.imul, 1))  (K : X M R Z sh V L cu su (pc + 1) ls (.int (x * y) :: st)) : X M R Z sh V L cu su pc ls (.int y :: .int x :: st) := by
  intro l G p e s m args below meth c H locs la hC hz hR hS hl
  exact lv_imul hC.1 hC.2.1 hd  (K l G p e s m args below meth c H locs la hC hz hR hS hl)
theorem x_iand {x y : Int32} (hd : decode M.2.1 pc = .ok (.iand, 1))  (K : X M R Z sh V L cu su (pc + 1) ls (.int (x &&& y) :: st)) : X M R Z sh V L cu su pc ls (.int y :: .int x :: st) := by
  intro l G p e s m args below meth c H locs la hC hz hR hS hl
  exact lv_iand hC.1 hC.2.1 hd  (K l G p e s m args below meth c H locs la hC hz hR hS hl)
theorem x_ior {x y : Int32} (hd : decode M.2.1 pc = .ok (.ior, 1))  (K : X M R Z sh V L cu su (pc + 1) ls (.int (x ||| y) :: st)) : X M R Z sh V L cu su pc ls (.int y :: .int x :: st) := by
  intro l G p e s m args below meth c H locs la hC hz hR hS hl
  exact lv_ior hC.1 hC.2.1 hd  (K l G p e s m args below meth c H locs la hC hz hR hS hl)
theorem x_ixor {x y : Int32} (hd : decode M.2.1 pc = .ok (.ixor, 1))  (K : X M R Z sh V L cu su (pc + 1) ls (.int (x ^^^ y) :: st)) : X M R Z sh V L cu su pc ls (.int y :: .int x :: st) := by
  intro l G p e s m args below meth c H locs la hC hz hR hS hl
  exact lv_ixor hC.1 hC.2.1 hd  (K l G p e s m args below meth c H locs la hC hz hR hS hl)
theorem x_ladd {x y : Int64} (hd : decode M.2.1 pc = .ok (.ladd, 1))  (K : X M R Z sh V L cu su (pc + 1) ls (.long (x + y) :: st)) : X M R Z sh V L cu su pc ls (.long y :: .long x :: st) := by
  intro l G p e s m args below meth c H locs la hC hz hR hS hl
  exact lv_ladd hC.1 hC.2.1 hd  (K l G p e s m args below meth c H locs la hC hz hR hS hl)
theorem x_lsub {x y : Int64} (hd : decode M.2.1 pc = .ok (.lsub, 1))  (K : X M R Z sh V L cu su (pc + 1) ls (.long (x - y) :: st)) : X M R Z sh V L cu su pc ls (.long y :: .long x :: st) := by
  intro l G p e s m args below meth c H locs la hC hz hR hS hl
  exact lv_lsub hC.1 hC.2.1 hd  (K l G p e s m args below meth c H locs la hC hz hR hS hl)
theorem x_lmul {x y : Int64} (hd : decode M.2.1 pc = .ok (.lmul, 1))  (K : X M R Z sh V L cu su (pc + 1) ls (.long (x * y) :: st)) : X M R Z sh V L cu su pc ls (.long y :: .long x :: st) := by
  intro l G p e s m args below meth c H locs la hC hz hR hS hl
  exact lv_lmul hC.1 hC.2.1 hd  (K l G p e s m args below meth c H locs la hC hz hR hS hl)
theorem x_land {x y : Int64} (hd : decode M.2.1 pc = .ok (.land, 1))  (K : X M R Z sh V L cu su (pc + 1) ls (.long (x &&& y) :: st)) : X M R Z sh V L cu su pc ls (.long y :: .long x :: st) := by
  intro l G p e s m args below meth c H locs la hC hz hR hS hl
  exact lv_land hC.1 hC.2.1 hd  (K l G p e s m args below meth c H locs la hC hz hR hS hl)
theorem x_lor {x y : Int64} (hd : decode M.2.1 pc = .ok (.lor, 1))  (K : X M R Z sh V L cu su (pc + 1) ls (.long (x ||| y) :: st)) : X M R Z sh V L cu su pc ls (.long y :: .long x :: st) := by
  intro l G p e s m args below meth c H locs la hC hz hR hS hl
  exact lv_lor hC.1 hC.2.1 hd  (K l G p e s m args below meth c H locs la hC hz hR hS hl)
theorem x_idiv {x y : Int32} (hd : decode M.2.1 pc = .ok (.idiv, 1)) (hne : ¬ y = 0) (K : X M R Z sh V L cu su (pc + 1) ls (.int (x / y) :: st)) : X M R Z sh V L cu su pc ls (.int y :: .int x :: st) := by
  intro l G p e s m args below meth c H locs la hC hz hR hS hl
  exact lv_idiv hC.1 hC.2.1 hd hne (K l G p e s m args below meth c H locs la hC hz hR hS hl)
theorem x_irem {x y : Int32} (hd : decode M.2.1 pc = .ok (.irem, 1)) (hne : ¬ y = 0) (K : X M R Z sh V L cu su (pc + 1) ls (.int (x - x / y * y) :: st)) : X M R Z sh V L cu su pc ls (.int y :: .int x :: st) := by
  intro l G p e s m args below meth c H locs la hC hz hR hS hl
  exact lv_irem hC.1 hC.2.1 hd hne (K l G p e s m args below meth c H locs la hC hz hR hS hl)
theorem x_ldiv {x y : Int64} (hd : decode M.2.1 pc = .ok (.ldiv, 1)) (hne : ¬ y = 0) (K : X M R Z sh V L cu su (pc + 1) ls (.long (x / y) :: st)) : X M R Z sh V L cu su pc ls (.long y :: .long x :: st) := by
  intro l G p e s m args below meth c H locs la hC hz hR hS hl
  exact lv_ldiv hC.1 hC.2.1 hd hne (K l G p e s m args below meth c H locs la hC hz hR hS hl)
theorem x_ineg {x : Int32} (hd : decode M.2.1 pc = .ok (.ineg, 1))  (K : X M R Z sh V L cu su (pc + 1) ls (.int (0 - x) :: st)) : X M R Z sh V L cu su pc ls (.int x :: st) := by
  intro l G p e s m args below meth c H locs la hC hz hR hS hl
  exact lv_ineg hC.1 hC.2.1 hd  (K l G p e s m args below meth c H locs la hC hz hR hS hl)
theorem x_lneg {x : Int64} (hd : decode M.2.1 pc = .ok (.lneg, 1))  (K : X M R Z sh V L cu su (pc + 1) ls (.long (0 - x) :: st)) : X M R Z sh V L cu su pc ls (.long x :: st) := by
  intro l G p e s m args below meth c H locs la hC hz hR hS hl
  exact lv_lneg hC.1 hC.2.1 hd  (K l G p e s m args below meth c H locs la hC hz hR hS hl)
theorem x_ishl {x y : Int32} (hd : decode M.2.1 pc = .ok (.ishl, 1))  (K : X M R Z sh V L cu su (pc + 1) ls (.int (x <<< (y &&& 31)) :: st)) : X M R Z sh V L cu su pc ls (.int y :: .int x :: st) := by
  intro l G p e s m args below meth c H locs la hC hz hR hS hl
  exact lv_ishl hC.1 hC.2.1 hd  (K l G p e s m args below meth c H locs la hC hz hR hS hl)
theorem x_ishr {x y : Int32} (hd : decode M.2.1 pc = .ok (.ishr, 1))  (K : X M R Z sh V L cu su (pc + 1) ls (.int (x >>> (y &&& 31)) :: st)) : X M R Z sh V L cu su pc ls (.int y :: .int x :: st) := by
  intro l G p e s m args below meth c H locs la hC hz hR hS hl
  exact lv_ishr hC.1 hC.2.1 hd  (K l G p e s m args below meth c H locs la hC hz hR hS hl)
theorem x_i2l {x : Int32} (hd : decode M.2.1 pc = .ok (.i2l, 1))  (K : X M R Z sh V L cu su (pc + 1) ls (.long x.toInt64 :: st)) : X M R Z sh V L cu su pc ls (.int x :: st) := by
  intro l G p e s m args below meth c H locs la hC hz hR hS hl
  exact lv_i2l hC.1 hC.2.1 hd rfl (K l G p e s m args below meth c H locs la hC hz hR hS hl)
theorem x_l2i {x : Int64} (hd : decode M.2.1 pc = .ok (.l2i, 1))  (K : X M R Z sh V L cu su (pc + 1) ls (.int x.toInt32 :: st)) : X M R Z sh V L cu su pc ls (.long x :: st) := by
  intro l G p e s m args below meth c H locs la hC hz hR hS hl
  exact lv_l2i hC.1 hC.2.1 hd rfl (K l G p e s m args below meth c H locs la hC hz hR hS hl)
theorem x_i2b {x : Int32} (hd : decode M.2.1 pc = .ok (.i2b, 1))  (K : X M R Z sh V L cu su (pc + 1) ls (.int x.toInt8.toInt32 :: st)) : X M R Z sh V L cu su pc ls (.int x :: st) := by
  intro l G p e s m args below meth c H locs la hC hz hR hS hl
  exact lv_i2b hC.1 hC.2.1 hd rfl (K l G p e s m args below meth c H locs la hC hz hR hS hl)
theorem x_lcmp {x y : Int64} (hd : decode M.2.1 pc = .ok (.lcmp, 1))  (K : X M R Z sh V L cu su (pc + 1) ls (.int (lg_cmp x y) :: st)) : X M R Z sh V L cu su pc ls (.long y :: .long x :: st) := by
  intro l G p e s m args below meth c H locs la hC hz hR hS hl
  exact W.lcmp hC.1 hC.2.1 hd  (K l G p e s m args below meth c H locs la hC hz hR hS hl)
theorem x_dup {v : Value} (hd : decode M.2.1 pc = .ok (.dup, 1)) (hv : v.category = 1) (K : X M R Z sh V L cu su (pc + 1) ls (v :: v :: st)) : X M R Z sh V L cu su pc ls (v :: st) := by
  intro l G p e s m args below meth c H locs la hC hz hR hS hl
  exact lv_dup hC.1 hC.2.1 hd (by rw [xv_cat]; exact hv) (K l G p e s m args below meth c H locs la hC hz hR hS hl)
theorem x_pop {v : Value} (hd : decode M.2.1 pc = .ok (.pop, 1)) (hv : v.category = 1) (K : X M R Z sh V L cu su (pc + 1) ls st) : X M R Z sh V L cu su pc ls (v :: st) := by
  intro l G p e s m args below meth c H locs la hC hz hR hS hl
  exact lv_pop hC.1 hC.2.1 hd (by rw [xv_cat]; exact hv) (K l G p e s m args below meth c H locs la hC hz hR hS hl)
theorem x_dup2 {v w : Value} (hd : decode M.2.1 pc = .ok (.dup2, 1)) (hv : v.category = 1) (hw : w.category = 1) (K : X M R Z sh V L cu su (pc + 1) ls (v :: w :: v :: w :: st)) : X M R Z sh V L cu su pc ls (v :: w :: st) := by
  intro l G p e s m args below meth c H locs la hC hz hR hS hl
  exact lv_dup2_11 hC.1 hC.2.1 hd (by rw [xv_cat]; exact hv) (by rw [xv_cat]; exact hw) (K l G p e s m args below meth c H locs la hC hz hR hS hl)
theorem x_null  (hd : decode M.2.1 pc = .ok (.aconst_null, 1))  (K : X M R Z sh V L cu su (pc + 1) ls (.null :: st)) : X M R Z sh V L cu su pc ls st := by
  intro l G p e s m args below meth c H locs la hC hz hR hS hl
  exact lv_null hC.1 hC.2.1 hd  (K l G p e s m args below meth c H locs la hC hz hR hS hl)
theorem x_iload_n {k : Fin 4} (j : Nat) {i : Nat} {x : Int32} (hd : decode M.2.1 pc = .ok (.iload_n k, 1)) (hi : (k : Nat) = i) (hk : ls[j]? = some (i, .int x)) (K : X M R Z sh V L cu su (pc + 1) ls (.int x :: st)) : X M R Z sh V L cu su pc ls st := by
  intro l G p e s m args below meth c H locs la hC hz hR hS hl
  exact lv_iload_n hC.1 hC.2.1 hd hi (lv_at hl j (xl_at hk)) (K l G p e s m args below meth c H locs la hC hz hR hS hl)
theorem x_iload (j : Nat) {i : Nat} {x : Int32} (hd : decode M.2.1 pc = .ok (.iload i, 2)) (hk : ls[j]? = some (i, .int x)) (K : X M R Z sh V L cu su (pc + 2) ls (.int x :: st)) : X M R Z sh V L cu su pc ls st := by
  intro l G p e s m args below meth c H locs la hC hz hR hS hl
  exact lv_iload hC.1 hC.2.1 hd (lv_at hl j (xl_at hk)) (K l G p e s m args below meth c H locs la hC hz hR hS hl)
theorem x_lload_n {k : Fin 4} (j : Nat) {i : Nat} {x : Int64} (hd : decode M.2.1 pc = .ok (.lload_n k, 1)) (hi : (k : Nat) = i) (hk : ls[j]? = some (i, .long x)) (K : X M R Z sh V L cu su (pc + 1) ls (.long x :: st)) : X M R Z sh V L cu su pc ls st := by
  intro l G p e s m args below meth c H locs la hC hz hR hS hl
  exact lv_lload_n hC.1 hC.2.1 hd hi (lv_at hl j (xl_at hk)) (K l G p e s m args below meth c H locs la hC hz hR hS hl)
theorem x_lload (j : Nat) {i : Nat} {x : Int64} (hd : decode M.2.1 pc = .ok (.lload i, 2)) (hk : ls[j]? = some (i, .long x)) (K : X M R Z sh V L cu su (pc + 2) ls (.long x :: st)) : X M R Z sh V L cu su pc ls st := by
  intro l G p e s m args below meth c H locs la hC hz hR hS hl
  exact lv_lload hC.1 hC.2.1 hd (lv_at hl j (xl_at hk)) (K l G p e s m args below meth c H locs la hC hz hR hS hl)
theorem x_aload_n {k : Fin 4} (j : Nat) {i q : Nat} (hd : decode M.2.1 pc = .ok (.aload_n k, 1)) (hi : (k : Nat) = i) (hk : ls[j]? = some (i, .ref q)) (K : X M R Z sh V L cu su (pc + 1) ls (.ref q :: st)) : X M R Z sh V L cu su pc ls st := by
  intro l G p e s m args below meth c H locs la hC hz hR hS hl
  exact lv_aload_n hC.1 hC.2.1 hd hi (lv_at hl j (xl_at hk)) (K l G p e s m args below meth c H locs la hC hz hR hS hl)
theorem x_aload_nX {k : Fin 4} (j : Nat) {i q : Nat} (hd : decode M.2.1 pc = .ok (.aload_n k, 1)) (hi : (k : Nat) = i) (hk : ls[j]? = some (i, .retAddr q)) (K : X M R Z sh V L cu su (pc + 1) ls (.retAddr q :: st)) : X M R Z sh V L cu su pc ls st := by
  intro l G p e s m args below meth c H locs la hC hz hR hS hl
  exact lv_aload_n hC.1 hC.2.1 hd hi (lv_at hl j (xl_at hk)) (K l G p e s m args below meth c H locs la hC hz hR hS hl)
theorem x_aload_nN {k : Fin 4} (j : Nat) {i : Nat} (hd : decode M.2.1 pc = .ok (.aload_n k, 1)) (hi : (k : Nat) = i) (hk : ls[j]? = some (i, .null)) (K : X M R Z sh V L cu su (pc + 1) ls (.null :: st)) : X M R Z sh V L cu su pc ls st := by
  intro l G p e s m args below meth c H locs la hC hz hR hS hl
  exact lv_aload_nN hC.1 hC.2.1 hd hi (lv_at hl j (xl_at hk)) (K l G p e s m args below meth c H locs la hC hz hR hS hl)
theorem x_aload (j : Nat) {i q : Nat} (hd : decode M.2.1 pc = .ok (.aload i, 2)) (hk : ls[j]? = some (i, .ref q)) (K : X M R Z sh V L cu su (pc + 2) ls (.ref q :: st)) : X M R Z sh V L cu su pc ls st := by
  intro l G p e s m args below meth c H locs la hC hz hR hS hl
  exact lv_aload hC.1 hC.2.1 hd (lv_at hl j (xl_at hk)) (K l G p e s m args below meth c H locs la hC hz hR hS hl)
theorem x_istore_n {k : Fin 4} {x : Int32} {i : Nat} (ls' : List (Nat × Value)) (hd : decode M.2.1 pc = .ok (.istore_n k, 1)) (hi : (k : Nat) = i) (hn : i < M.2.2.1) (hl' : (i, .int x) :: ls.filter (fun q => !(q.1 == i) && !(q.1 + 1 == i && q.2.category == 2)) = ls') (K : X M R Z sh V L cu su (pc + 1) ls' st) : X M R Z sh V L cu su pc ls (.int x :: st) := by
  intro l G p e s m args below meth c H locs la hC hz hR hS hl
  exact lv_istore_n hC.1 hC.2.1 hd hi hl hn (xl_st1 hl') (fun la' hl2 => K l G p e s m args below meth c H locs la' hC hz hR hS hl2)
theorem x_istore {x : Int32} {i : Nat} (ls' : List (Nat × Value)) (hd : decode M.2.1 pc = .ok (.istore i, 2))  (hn : i < M.2.2.1) (hl' : (i, .int x) :: ls.filter (fun q => !(q.1 == i) && !(q.1 + 1 == i && q.2.category == 2)) = ls') (K : X M R Z sh V L cu su (pc + 2) ls' st) : X M R Z sh V L cu su pc ls (.int x :: st) := by
  intro l G p e s m args below meth c H locs la hC hz hR hS hl
  exact lv_istore hC.1 hC.2.1 hd  hl hn (xl_st1 hl') (fun la' hl2 => K l G p e s m args below meth c H locs la' hC hz hR hS hl2)
theorem x_lstore_n {k : Fin 4} {x : Int64} {i : Nat} (ls' : List (Nat × Value)) (hd : decode M.2.1 pc = .ok (.lstore_n k, 1)) (hi : (k : Nat) = i) (hn : i + 1 < M.2.2.1) (hl' : (i, .long x) :: ls.filter (fun q => !(q.1 == i) && (!(q.1 == i + 1) && !(q.1 + 1 == i && q.2.category == 2))) = ls') (K : X M R Z sh V L cu su (pc + 1) ls' st) : X M R Z sh V L cu su pc ls (.long x :: st) := by
  intro l G p e s m args below meth c H locs la hC hz hR hS hl
  exact lv_lstore_n hC.1 hC.2.1 hd hi hl hn (xl_st2 hl') (fun la' hl2 => K l G p e s m args below meth c H locs la' hC hz hR hS hl2)
theorem x_lstore {x : Int64} {i : Nat} (ls' : List (Nat × Value)) (hd : decode M.2.1 pc = .ok (.lstore i, 2))  (hn : i + 1 < M.2.2.1) (hl' : (i, .long x) :: ls.filter (fun q => !(q.1 == i) && (!(q.1 == i + 1) && !(q.1 + 1 == i && q.2.category == 2))) = ls') (K : X M R Z sh V L cu su (pc + 2) ls' st) : X M R Z sh V L cu su pc ls (.long x :: st) := by
  intro l G p e s m args below meth c H locs la hC hz hR hS hl
  exact lv_lstore hC.1 hC.2.1 hd  hl hn (xl_st2 hl') (fun la' hl2 => K l G p e s m args below meth c H locs la' hC hz hR hS hl2)
theorem x_astore_n {k : Fin 4} {q : Nat} {i : Nat} (ls' : List (Nat × Value)) (hd : decode M.2.1 pc = .ok (.astore_n k, 1)) (hi : (k : Nat) = i) (hn : i < M.2.2.1) (hl' : (i, .ref q) :: ls.filter (fun q => !(q.1 == i) && !(q.1 + 1 == i && q.2.category == 2)) = ls') (K : X M R Z sh V L cu su (pc + 1) ls' st) : X M R Z sh V L cu su pc ls (.ref q :: st) := by
  intro l G p e s m args below meth c H locs la hC hz hR hS hl
  exact lv_astore_n hC.1 hC.2.1 hd hi hl hn (xl_st1 hl') (fun la' hl2 => K l G p e s m args below meth c H locs la' hC hz hR hS hl2)
theorem x_astore_nN {k : Fin 4} {i : Nat} (ls' : List (Nat × Value)) (hd : decode M.2.1 pc = .ok (.astore_n k, 1)) (hi : (k : Nat) = i) (hn : i < M.2.2.1) (hl' : (i, .null) :: ls.filter (fun q => !(q.1 == i) && !(q.1 + 1 == i && q.2.category == 2)) = ls') (K : X M R Z sh V L cu su (pc + 1) ls' st) : X M R Z sh V L cu su pc ls (.null :: st) := by
  intro l G p e s m args below meth c H locs la hC hz hR hS hl
  exact lv_astore_nN hC.1 hC.2.1 hd hi hl hn (xl_st1 hl') (fun la' hl2 => K l G p e s m args below meth c H locs la' hC hz hR hS hl2)
theorem x_iinc (j : Nat) {i : Nat} {n : Int} {x : Int32} (v : Int32) (ls' : List (Nat × Value)) (hd : decode M.2.1 pc = .ok (.iinc i n, 3)) (hk : ls[j]? = some (i, .int x)) (hv : Int32.ofInt n = v) (hn : i < M.2.2.1) (hl' : (i, .int (x + v)) :: ls.filter (fun q => !(q.1 == i) && !(q.1 + 1 == i && q.2.category == 2)) = ls') (K : X M R Z sh V L cu su (pc + 3) ls' st) : X M R Z sh V L cu su pc ls st := by
  intro l G p e s m args below meth c H locs la hC hz hR hS hl
  subst hv
  exact lv_iinc hC.1 hC.2.1 hd hl (xl_at hk) rfl hn (xl_st1 hl') (fun la' hl2 => K l G p e s m args below meth c H locs la' hC hz hR hS hl2)
theorem x_if_eq {x : Int32} {off : Int} (tgt : Nat) (hd : decode M.2.1 pc = .ok (.ifCond .eq off, 3)) (ht : (pc : Int) + off = (tgt : Int)) (K1 : x = 0 → X M R Z sh V L cu su tgt ls st) (K2 : ¬ (x = 0) → X M R Z sh V L cu su (pc + 3) ls st) : X M R Z sh V L cu su pc ls (.int x :: st) := by
  intro l G p e s m args below meth c H locs la hC hz hR hS hl
  exact lv_if_eq hC.1 hC.2.1 hd ht (fun k => K1 (by first | exact k | simpa using k) l G p e s m args below meth c H locs la hC hz hR hS hl) (fun k => K2 (by first | exact k | simpa using k) l G p e s m args below meth c H locs la hC hz hR hS hl)
theorem x_icmp_eq {x y : Int32} {off : Int} (tgt : Nat) (hd : decode M.2.1 pc = .ok (.if_icmp .eq off, 3)) (ht : (pc : Int) + off = (tgt : Int)) (K1 : x = y → X M R Z sh V L cu su tgt ls st) (K2 : ¬ (x = y) → X M R Z sh V L cu su (pc + 3) ls st) : X M R Z sh V L cu su pc ls (.int y :: .int x :: st) := by
  intro l G p e s m args below meth c H locs la hC hz hR hS hl
  exact lv_icmp_eq hC.1 hC.2.1 hd ht (fun k => K1 (by first | exact k | simpa using k) l G p e s m args below meth c H locs la hC hz hR hS hl) (fun k => K2 (by first | exact k | simpa using k) l G p e s m args below meth c H locs la hC hz hR hS hl)
theorem x_if_ne {x : Int32} {off : Int} (tgt : Nat) (hd : decode M.2.1 pc = .ok (.ifCond .ne off, 3)) (ht : (pc : Int) + off = (tgt : Int)) (K1 : ¬ x = 0 → X M R Z sh V L cu su tgt ls st) (K2 : ¬ (¬ x = 0) → X M R Z sh V L cu su (pc + 3) ls st) : X M R Z sh V L cu su pc ls (.int x :: st) := by
  intro l G p e s m args below meth c H locs la hC hz hR hS hl
  exact lv_if_ne hC.1 hC.2.1 hd ht (fun k => K1 (by first | exact k | simpa using k) l G p e s m args below meth c H locs la hC hz hR hS hl) (fun k => K2 (by first | exact k | simpa using k) l G p e s m args below meth c H locs la hC hz hR hS hl)
theorem x_icmp_ne {x y : Int32} {off : Int} (tgt : Nat) (hd : decode M.2.1 pc = .ok (.if_icmp .ne off, 3)) (ht : (pc : Int) + off = (tgt : Int)) (K1 : ¬ x = y → X M R Z sh V L cu su tgt ls st) (K2 : ¬ (¬ x = y) → X M R Z sh V L cu su (pc + 3) ls st) : X M R Z sh V L cu su pc ls (.int y :: .int x :: st) := by
  intro l G p e s m args below meth c H locs la hC hz hR hS hl
  exact lv_icmp_ne hC.1 hC.2.1 hd ht (fun k => K1 (by first | exact k | simpa using k) l G p e s m args below meth c H locs la hC hz hR hS hl) (fun k => K2 (by first | exact k | simpa using k) l G p e s m args below meth c H locs la hC hz hR hS hl)
theorem x_if_lt {x : Int32} {off : Int} (tgt : Nat) (hd : decode M.2.1 pc = .ok (.ifCond .lt off, 3)) (ht : (pc : Int) + off = (tgt : Int)) (K1 : x < 0 → X M R Z sh V L cu su tgt ls st) (K2 : ¬ (x < 0) → X M R Z sh V L cu su (pc + 3) ls st) : X M R Z sh V L cu su pc ls (.int x :: st) := by
  intro l G p e s m args below meth c H locs la hC hz hR hS hl
  exact lv_if_lt hC.1 hC.2.1 hd ht (fun k => K1 (by first | exact k | simpa using k) l G p e s m args below meth c H locs la hC hz hR hS hl) (fun k => K2 (by first | exact k | simpa using k) l G p e s m args below meth c H locs la hC hz hR hS hl)
theorem x_icmp_lt {x y : Int32} {off : Int} (tgt : Nat) (hd : decode M.2.1 pc = .ok (.if_icmp .lt off, 3)) (ht : (pc : Int) + off = (tgt : Int)) (K1 : x < y → X M R Z sh V L cu su tgt ls st) (K2 : ¬ (x < y) → X M R Z sh V L cu su (pc + 3) ls st) : X M R Z sh V L cu su pc ls (.int y :: .int x :: st) := by
  intro l G p e s m args below meth c H locs la hC hz hR hS hl
  exact lv_icmp_lt hC.1 hC.2.1 hd ht (fun k => K1 (by first | exact k | simpa using k) l G p e s m args below meth c H locs la hC hz hR hS hl) (fun k => K2 (by first | exact k | simpa using k) l G p e s m args below meth c H locs la hC hz hR hS hl)
theorem x_if_ge {x : Int32} {off : Int} (tgt : Nat) (hd : decode M.2.1 pc = .ok (.ifCond .ge off, 3)) (ht : (pc : Int) + off = (tgt : Int)) (K1 : 0 ≤ x → X M R Z sh V L cu su tgt ls st) (K2 : ¬ (0 ≤ x) → X M R Z sh V L cu su (pc + 3) ls st) : X M R Z sh V L cu su pc ls (.int x :: st) := by
  intro l G p e s m args below meth c H locs la hC hz hR hS hl
  exact lv_if_ge hC.1 hC.2.1 hd ht (fun k => K1 (by first | exact k | simpa using k) l G p e s m args below meth c H locs la hC hz hR hS hl) (fun k => K2 (by first | exact k | simpa using k) l G p e s m args below meth c H locs la hC hz hR hS hl)
theorem x_icmp_ge {x y : Int32} {off : Int} (tgt : Nat) (hd : decode M.2.1 pc = .ok (.if_icmp .ge off, 3)) (ht : (pc : Int) + off = (tgt : Int)) (K1 : y ≤ x → X M R Z sh V L cu su tgt ls st) (K2 : ¬ (y ≤ x) → X M R Z sh V L cu su (pc + 3) ls st) : X M R Z sh V L cu su pc ls (.int y :: .int x :: st) := by
  intro l G p e s m args below meth c H locs la hC hz hR hS hl
  exact lv_icmp_ge hC.1 hC.2.1 hd ht (fun k => K1 (by first | exact k | simpa using k) l G p e s m args below meth c H locs la hC hz hR hS hl) (fun k => K2 (by first | exact k | simpa using k) l G p e s m args below meth c H locs la hC hz hR hS hl)
theorem x_if_gt {x : Int32} {off : Int} (tgt : Nat) (hd : decode M.2.1 pc = .ok (.ifCond .gt off, 3)) (ht : (pc : Int) + off = (tgt : Int)) (K1 : 0 < x → X M R Z sh V L cu su tgt ls st) (K2 : ¬ (0 < x) → X M R Z sh V L cu su (pc + 3) ls st) : X M R Z sh V L cu su pc ls (.int x :: st) := by
  intro l G p e s m args below meth c H locs la hC hz hR hS hl
  exact lv_if_gt hC.1 hC.2.1 hd ht (fun k => K1 (by first | exact k | simpa using k) l G p e s m args below meth c H locs la hC hz hR hS hl) (fun k => K2 (by first | exact k | simpa using k) l G p e s m args below meth c H locs la hC hz hR hS hl)
theorem x_icmp_gt {x y : Int32} {off : Int} (tgt : Nat) (hd : decode M.2.1 pc = .ok (.if_icmp .gt off, 3)) (ht : (pc : Int) + off = (tgt : Int)) (K1 : y < x → X M R Z sh V L cu su tgt ls st) (K2 : ¬ (y < x) → X M R Z sh V L cu su (pc + 3) ls st) : X M R Z sh V L cu su pc ls (.int y :: .int x :: st) := by
  intro l G p e s m args below meth c H locs la hC hz hR hS hl
  exact lv_icmp_gt hC.1 hC.2.1 hd ht (fun k => K1 (by first | exact k | simpa using k) l G p e s m args below meth c H locs la hC hz hR hS hl) (fun k => K2 (by first | exact k | simpa using k) l G p e s m args below meth c H locs la hC hz hR hS hl)
theorem x_if_le {x : Int32} {off : Int} (tgt : Nat) (hd : decode M.2.1 pc = .ok (.ifCond .le off, 3)) (ht : (pc : Int) + off = (tgt : Int)) (K1 : x ≤ 0 → X M R Z sh V L cu su tgt ls st) (K2 : ¬ (x ≤ 0) → X M R Z sh V L cu su (pc + 3) ls st) : X M R Z sh V L cu su pc ls (.int x :: st) := by
  intro l G p e s m args below meth c H locs la hC hz hR hS hl
  exact lv_if_le hC.1 hC.2.1 hd ht (fun k => K1 (by first | exact k | simpa using k) l G p e s m args below meth c H locs la hC hz hR hS hl) (fun k => K2 (by first | exact k | simpa using k) l G p e s m args below meth c H locs la hC hz hR hS hl)
theorem x_icmp_le {x y : Int32} {off : Int} (tgt : Nat) (hd : decode M.2.1 pc = .ok (.if_icmp .le off, 3)) (ht : (pc : Int) + off = (tgt : Int)) (K1 : x ≤ y → X M R Z sh V L cu su tgt ls st) (K2 : ¬ (x ≤ y) → X M R Z sh V L cu su (pc + 3) ls st) : X M R Z sh V L cu su pc ls (.int y :: .int x :: st) := by
  intro l G p e s m args below meth c H locs la hC hz hR hS hl
  exact lv_icmp_le hC.1 hC.2.1 hd ht (fun k => K1 (by first | exact k | simpa using k) l G p e s m args below meth c H locs la hC hz hR hS hl) (fun k => K2 (by first | exact k | simpa using k) l G p e s m args below meth c H locs la hC hz hR hS hl)
theorem x_goto {off : Int} (tgt : Nat) (hd : decode M.2.1 pc = .ok (.goto off, 3)) (ht : (pc : Int) + off = (tgt : Int)) (K : X M R Z sh V L cu su tgt ls st) : X M R Z sh V L cu su pc ls st := by
  intro l G p e s m args below meth c H locs la hC hz hR hS hl
  exact lv_goto hC.1 hC.2.1 hd ht (K l G p e s m args below meth c H locs la hC hz hR hS hl)
theorem x_ifnonnull {q : Nat} {off : Int} (tgt : Nat) (hd : decode M.2.1 pc = .ok (.ifnonnull off, 3)) (ht : (pc : Int) + off = (tgt : Int)) (K : X M R Z sh V L cu su tgt ls st) : X M R Z sh V L cu su pc ls (.ref q :: st) := by
  intro l G p e s m args below meth c H locs la hC hz hR hS hl
  exact lv_ifnonnull hC.1 hC.2.1 hd ht (K l G p e s m args below meth c H locs la hC hz hR hS hl)
theorem x_ifnonnullN {off : Int} (hd : decode M.2.1 pc = .ok (.ifnonnull off, 3)) (K : X M R Z sh V L cu su (pc + 3) ls st) : X M R Z sh V L cu su pc ls (.null :: st) := by
  intro l G p e s m args below meth c H locs la hC hz hR hS hl
  exact lv_ifnonnullN hC.1 hC.2.1 hd (K l G p e s m args below meth c H locs la hC hz hR hS hl)
theorem x_tableOut {dflt lo hi : Int} {offs : Array Int} {len : Nat} {x : Int32} (tgt : Nat) (hd : decode M.2.1 pc = .ok (.tableswitch dflt lo hi offs, len)) (h : x.toInt < lo ∨ hi < x.toInt) (ht : (pc : Int) + dflt = (tgt : Int)) (K : X M R Z sh V L cu su tgt ls st) : X M R Z sh V L cu su pc ls (.int x :: st) := by
  intro l G p e s m args below meth c H locs la hC hz hR hS hl
  exact lv_tableOut hC.1 hC.2.1 hd h ht (K l G p e s m args below meth c H locs la hC hz hR hS hl)
theorem x_tableIn {dflt lo hi : Int} {offs : Array Int} {len : Nat} {x : Int32} (off : Int) (tgt : Nat) (hd : decode M.2.1 pc = .ok (.tableswitch dflt lo hi offs, len)) (h1 : ¬ x.toInt < lo) (h2 : ¬ hi < x.toInt) (ho : offs[(x.toInt - lo).toNat]? = some off) (ht : (pc : Int) + off = (tgt : Int)) (K : X M R Z sh V L cu su tgt ls st) : X M R Z sh V L cu su pc ls (.int x :: st) := by
  intro l G p e s m args below meth c H locs la hC hz hR hS hl
  exact lv_tableIn hC.1 hC.2.1 hd h1 h2 ho ht (K l G p e s m args below meth c H locs la hC hz hR hS hl)
theorem x_lookup {dflt : Int} {ps : Array (Int × Int)} {len : Nat} {x : Int32} (off : Int) (tgt : Nat) (hd : decode M.2.1 pc = .ok (.lookupswitch dflt ps, len)) (hp : (ps.toList.zip (ps.toList.drop 1)).all (fun (a, next) => a.1 < next.1) = true) (ho : Op.lookupswitch.offset ps.toList dflt x.toInt = off) (ht : (pc : Int) + off = (tgt : Int)) (K : X M R Z sh V L cu su tgt ls st) : X M R Z sh V L cu su pc ls (.int x :: st) := by
  intro l G p e s m args below meth c H locs la hC hz hR hS hl
  exact lv_lookup hC.1 hC.2.1 hd hp ho ht (K l G p e s m args below meth c H locs la hC hz hR hS hl)
theorem x_ldc {index : Nat} {v : Int32} (hw : Cond.constant M.1.cls index v ∈ xTbl) (hd : decode M.2.1 pc = .ok (.ldc index, 2)) (K : X M R Z sh V L cu su (pc + 2) ls (.int v :: st)) : X M R Z sh V L cu su pc ls st := by
  intro l G p e s m args below meth c H locs la hC hz hR hS hl
  exact lv_ldc hC.1 hC.2.1 hC.2.2.2.2.1 (hC.2.2.2.2.2.1 _ hw) hd (K l G p e s m args below meth c H locs la hC hz hR hS hl)
theorem x_ldcw {index : Nat} {v : Int32} (hw : Cond.constant M.1.cls index v ∈ xTbl) (hd : decode M.2.1 pc = .ok (.ldc_w index, 3)) (K : X M R Z sh V L cu su (pc + 3) ls (.int v :: st)) : X M R Z sh V L cu su pc ls st := by
  intro l G p e s m args below meth c H locs la hC hz hR hS hl
  exact lv_ldcw hC.1 hC.2.1 hC.2.2.2.2.1 (hC.2.2.2.2.2.1 _ hw) hd (K l G p e s m args below meth c H locs la hC hz hR hS hl)
theorem x_ldc2 {index : Nat} {v : Int64} (hw : Cond.constantLong M.1.cls index v ∈ xTbl) (hd : decode M.2.1 pc = .ok (.ldc2_w index, 3)) (K : X M R Z sh V L cu su (pc + 3) ls (.long v :: st)) : X M R Z sh V L cu su pc ls st := by
  intro l G p e s m args below meth c H locs la hC hz hR hS hl
  exact lv_ldc2 hC.1 hC.2.1 hC.2.2.2.2.1 (hC.2.2.2.2.2.1 _ hw) hd (K l G p e s m args below meth c H locs la hC hz hR hS hl)
/-- a field of ours, as an instruction of the class own names it: its class, its slot, whether it is final, its type -/
def xF (own : String) (idx ci k : Nat) (fin : Bool) (ty : FieldType) : Prop := ∃ (C : String) (T : u_T) (N : Nat) (tf : Nat → FieldType), classes[ci]? = some (C, T, N) ∧ xCls C T N tf ∧ k < N ∧ Cond.fieldLink own idx (T k).1 (T k).2.1 (T k).2.2.1 ∈ xTbl ∧ (T k).2.2.2 = fin ∧ tf k = ty ∧ (T k).1 = C
theorem xks_at {G : xG} {V : xV} {r k kd : Nat} {ks : List Nat} (h : ks[k]? = some kd) : (ks.mapIdx (fun k kd => xv G (xsv kd (V r k))))[k]? = some (xv G (xsv kd (V r k))) := by simp only [List.getElem?_mapIdx, h, Option.map_some]
theorem x_getI {idx ci k r : Nat} {fin : Bool} {ty : FieldType} {ks : List Nat} (hf : xF M.1.cls idx ci k fin ty) (hs : sh[r]? = some (.inr (ci, ks))) (hk : ks[k]? = some 0) (hd : decode M.2.1 pc = .ok (.getfield idx, 3)) (K : X M R Z sh V L cu su (pc + 3) ls (.int (V r k) :: st)) : X M R Z sh V L cu su pc ls (.ref r :: st) := by
  intro l G p e s m args below meth c H locs la hC hz hR hS hl
  obtain ⟨C, T, N, tf, f1, f2, f3, f4, f5, f6, f7⟩ := hf
  exact va_get hC.1 hC.2.1 hC.2.2.2.2.2.1 f2.1 hC.2.2.2.2.1 hC.2.2.2.2.2.2.2.2.1 hR r (xw_at hs) f1 k f3 (hC.2.2.2.2.2.1 _ f4) (fun _ h => h) (xks_at hk) hd (K l G p e s m args below meth c H locs la hC hz hR hS hl)
theorem x_getP {idx ci k r q : Nat} {fin : Bool} {ty : FieldType} {ks : List Nat} (hf : xF M.1.cls idx ci k fin ty) (hs : sh[r]? = some (.inr (ci, ks))) (hk : ks[k]? = some (q + 3)) (hd : decode M.2.1 pc = .ok (.getfield idx, 3)) (K : X M R Z sh V L cu su (pc + 3) ls (.ref q :: st)) : X M R Z sh V L cu su pc ls (.ref r :: st) := by
  intro l G p e s m args below meth c H locs la hC hz hR hS hl
  obtain ⟨C, T, N, tf, f1, f2, f3, f4, f5, f6, f7⟩ := hf
  exact va_get hC.1 hC.2.1 hC.2.2.2.2.2.1 f2.1 hC.2.2.2.2.1 hC.2.2.2.2.2.2.2.2.1 hR r (xw_at hs) f1 k f3 (hC.2.2.2.2.2.1 _ f4) (fun _ h => h) (xks_at hk) hd (K l G p e s m args below meth c H locs la hC hz hR hS hl)
theorem x_getU {idx ci k r : Nat} {fin : Bool} {ty : FieldType} {ks : List Nat} (hf : xF M.1.cls idx ci k fin ty) (hs : sh[r]? = some (.inr (ci, ks))) (hk : ks[k]? = some 2) (hd : decode M.2.1 pc = .ok (.getfield idx, 3)) (K : X M R Z sh V L cu su (pc + 3) ls (.ref (V r k).toNatClampNeg :: st)) : X M R Z sh V L cu su pc ls (.ref r :: st) := by
  intro l G p e s m args below meth c H locs la hC hz hR hS hl
  obtain ⟨C, T, N, tf, f1, f2, f3, f4, f5, f6, f7⟩ := hf
  exact va_get hC.1 hC.2.1 hC.2.2.2.2.2.1 f2.1 hC.2.2.2.2.1 hC.2.2.2.2.2.2.2.2.1 hR r (xw_at hs) f1 k f3 (hC.2.2.2.2.2.1 _ f4) (fun _ h => h) (xks_at hk) hd (K l G p e s m args below meth c H locs la hC hz hR hS hl)
theorem xV_put {G : xG} {V : xV} {L : xL} {r k ci : Nat} {ks : List Nat} {v : Int32} (hk : ks[k]? = some 0) : xe G (x2 V r k v) L r (.inr (ci, ks)) = .inr (ci, (ks.mapIdx (fun k kd => xv G (xsv kd (V r k)))).set k (.int v)) := by
  simp only [xe]
  congr 2
  apply List.ext_getElem?
  intro j
  by_cases hj : j = k
  · subst hj
    rw [List.getElem?_set_self (by simp only [List.length_mapIdx]; exact (List.getElem?_eq_some_iff.mp hk).1)]
    simp only [List.getElem?_mapIdx, hk, Option.map_some, x2, and_self, if_true, xsv, xv]
  · rw [List.getElem?_set_ne (Ne.symm hj)]
    simp only [List.getElem?_mapIdx, x2, hj, and_false, if_false]
theorem x_putI {idx ci k r : Nat} {ty : FieldType} {ks : List Nat} {v : Int32} (hf : xF M.1.cls idx ci k false ty) (hs : sh[r]? = some (.inr (ci, ks))) (hk : ks[k]? = some 0) (hn : narrow ty (.int v) = .int v) (hv : fits ty (.int v) = true) (hd : decode M.2.1 pc = .ok (.putfield idx, 3)) (K : X M R Z sh (x2 V r k v) L cu su (pc + 3) ls st) : X M R Z sh V L cu su pc ls (.int v :: .ref r :: st) := by
  intro l G p e s m args below meth c H locs la hC hz hR hS hl
  obtain ⟨C, T, N, tf, f1, f2, f3, f4, f5, f6, f7⟩ := hf
  refine va_put hC.1 hC.2.1 hC.2.2.2.2.2.1 f2.1 tf f2.2.1 f2.2.2 hC.2.2.2.2.1 hC.2.2.2.2.2.2.2.2.1 hR (xw_D G sh V L) hS r (xw_at hs) f1 k f3 (hC.2.2.2.2.2.1 _ f4) (fun _ h => h) f5 (by rw [f2.2.1 k f3, f6]) hn hv (by simp only [List.length_mapIdx]; exact (List.getElem?_eq_some_iff.mp hk).1) hd (fun H1 locs1 p1 p2 p3 => ?_)
  refine K l G p e s m args below meth c H1 locs1 la hC hz ?_ p3 hl
  show va_P _ _ _ _
  rw [xw_setS (V := V) (L := L) hs (fun j hj => x2_ne hj) (fun _ _ => rfl), xV_put hk]
  exact p1
theorem xV_putU {G : xG} {V : xV} {L : xL} {r k ci q : Nat} {ks : List Nat} (hk : ks[k]? = some 2) (hq : q < 2 ^ 31) : xe G (x2 V r k (nI q)) L r (.inr (ci, ks)) = .inr (ci, (ks.mapIdx (fun k kd => xv G (xsv kd (V r k)))).set k (.ref (G.1 + q))) := by
  simp only [xe]
  congr 2
  apply List.ext_getElem?
  intro j
  by_cases hj : j = k
  · subst hj
    rw [List.getElem?_set_self (by simp only [List.length_mapIdx]; exact (List.getElem?_eq_some_iff.mp hk).1)]
    simp only [List.getElem?_mapIdx, hk, Option.map_some, x2, and_self, if_true, xsv, xv, nI_clamp hq]
  · rw [List.getElem?_set_ne (Ne.symm hj)]
    simp only [List.getElem?_mapIdx, x2, hj, and_false, if_false]
theorem x_putU {idx ci k r q : Nat} {cn : String} {ks : List Nat} (hf : xF M.1.cls idx ci k false (.object cn)) (hs : sh[r]? = some (.inr (ci, ks))) (hk : ks[k]? = some 2) (hq : q < 2 ^ 31) (hd : decode M.2.1 pc = .ok (.putfield idx, 3)) (K : X M R Z sh (x2 V r k (nI q)) L cu su (pc + 3) ls st) : X M R Z sh V L cu su pc ls (.ref q :: .ref r :: st) := by
  intro l G p e s m args below meth c H locs la hC hz hR hS hl
  obtain ⟨C, T, N, tf, f1, f2, f3, f4, f5, f6, f7⟩ := hf
  refine va_put hC.1 hC.2.1 hC.2.2.2.2.2.1 f2.1 tf f2.2.1 f2.2.2 hC.2.2.2.2.1 hC.2.2.2.2.2.2.2.2.1 hR (xw_D G sh V L) hS r (xw_at hs) f1 k f3 (hC.2.2.2.2.2.1 _ f4) (fun _ h => h) f5 (by rw [f2.2.1 k f3, f6]) rfl rfl (by simp only [List.length_mapIdx]; exact (List.getElem?_eq_some_iff.mp hk).1) hd (fun H1 locs1 p1 p2 p3 => ?_)
  refine K l G p e s m args below meth c H1 locs1 la hC hz ?_ p3 hl
  show va_P _ _ _ _
  rw [xw_setS (V := V) (L := L) hs (fun j hj => x2_ne hj) (fun _ _ => rfl), xV_putU hk hq]
  exact p1
theorem x_iaload {r n : Nat} {f : Nat → Option Nat} {i : Int32} (hs : sh[r]? = some (.inl (.int, n, f))) (hi : xI i n = true) (hd : decode M.2.1 pc = .ok (.iaload, 1)) (K : X M R Z sh V L cu su (pc + 1) ls (.int (V r i.toNatClampNeg) :: st)) : X M R Z sh V L cu su pc ls (.int i :: .ref r :: st) := by
  intro l G p e s m args below meth c H locs la hC hz hR hS hl
  exact va_iald hC.1 hC.2.1 hC.2.2.2.2.2.2.2.2.1 hR r 0 (xw_at hs) rfl (xI_in hi) hd (K l G p e s m args below meth c H locs la hC hz hR hS hl)
theorem x_baload {r n : Nat} {f : Nat → Option Nat} {i : Int32} (hs : sh[r]? = some (.inl (.byte, n, f))) (hi : xI i n = true) (hd : decode M.2.1 pc = .ok (.baload, 1)) (K : X M R Z sh V L cu su (pc + 1) ls (.int (V r i.toNatClampNeg) :: st)) : X M R Z sh V L cu su pc ls (.int i :: .ref r :: st) := by
  intro l G p e s m args below meth c H locs la hC hz hR hS hl
  exact va_bald hC.1 hC.2.1 hC.2.2.2.2.2.2.2.2.1 hR r 1 (xw_at hs) rfl (xI_in hi) hd (K l G p e s m args below meth c H locs la hC hz hR hS hl)
theorem x_laload {r n : Nat} {f : Nat → Option Nat} {i : Int32} (hs : sh[r]? = some (.inl (.long, n, f))) (hi : xI i n = true) (hd : decode M.2.1 pc = .ok (.laload, 1)) (K : X M R Z sh V L cu su (pc + 1) ls (.long (L r i.toNatClampNeg) :: st)) : X M R Z sh V L cu su pc ls (.int i :: .ref r :: st) := by
  intro l G p e s m args below meth c H locs la hC hz hR hS hl
  exact va_lald hC.1 hC.2.1 hC.2.2.2.2.2.2.2.2.1 hR r 2 (xw_at hs) rfl (xI_in hi) hd (K l G p e s m args below meth c H locs la hC hz hR hS hl)
theorem x_aaload {r n q : Nat} {f : Nat → Option Nat} {i : Int32} (hs : sh[r]? = some (.inl (.object "WarrantWeather$Law", n, f))) (hi : xI i n = true) (hq : f i.toNatClampNeg = some q) (hd : decode M.2.1 pc = .ok (.aaload, 1)) (K : X M R Z sh V L cu su (pc + 1) ls (.ref q :: st)) : X M R Z sh V L cu su pc ls (.int i :: .ref r :: st) := by
  intro l G p e s m args below meth c H locs la hC hz hR hS hl
  have k1 := K l G p e s m args below meth c H locs la hC hz hR hS hl
  refine va_aldq hC.1 hC.2.1 hC.2.2.2.2.2.2.2.2.1 hR r 3 (xw_at hs) rfl (xI_in hi) hd ?_
  simp only [hq, Option.map_some, va_rf]
  exact k1
theorem x_iastore {r n : Nat} {f : Nat → Option Nat} {i : Int32} {x : Int32} (hs : sh[r]? = some (.inl (.int, n, f))) (hi : xI i n = true) (hd : decode M.2.1 pc = .ok (.iastore, 1)) (K : X M R Z sh (x2 V r i.toNatClampNeg x) L cu su (pc + 1) ls st) : X M R Z sh V L cu su pc ls (.int x :: .int i :: .ref r :: st) := by
  intro l G p e s m args below meth c H locs la hC hz hR hS hl
  refine va_iast hC.1 hC.2.1 hC.2.2.2.2.2.2.2.2.1 hR (xw_D G sh V L) hS r 0 (xw_at hs) rfl (xI_in hi) hd (fun H1 locs1 p1 p2 p3 => ?_)
  refine K l G p e s m args below meth c H1 locs1 la hC hz ?_ p3 hl
  show va_P _ _ _ _
  rw [xw_setS (V := V) (L := L) hs (fun j hj => x2_ne hj) (fun _ _ => rfl)]
  simp only [xe, xb, x2_upd]
  exact p1
theorem x_bastore {r n : Nat} {f : Nat → Option Nat} {i : Int32} {x : Int32} (hs : sh[r]? = some (.inl (.byte, n, f))) (hi : xI i n = true) (hd : decode M.2.1 pc = .ok (.bastore, 1)) (K : X M R Z sh (x2 V r i.toNatClampNeg (vp_nar .byte x)) L cu su (pc + 1) ls st) : X M R Z sh V L cu su pc ls (.int x :: .int i :: .ref r :: st) := by
  intro l G p e s m args below meth c H locs la hC hz hR hS hl
  refine va_bast hC.1 hC.2.1 hC.2.2.2.2.2.2.2.2.1 hR (xw_D G sh V L) hS r 1 (xw_at hs) rfl (xI_in hi) hd (fun H1 locs1 p1 p2 p3 => ?_)
  refine K l G p e s m args below meth c H1 locs1 la hC hz ?_ p3 hl
  show va_P _ _ _ _
  rw [xw_setS (V := V) (L := L) hs (fun j hj => x2_ne hj) (fun _ _ => rfl)]
  simp only [xe, xb, x2_upd]
  exact p1
theorem x_lastore {r n : Nat} {f : Nat → Option Nat} {i : Int32} {x : Int64} (hs : sh[r]? = some (.inl (.long, n, f))) (hi : xI i n = true) (hd : decode M.2.1 pc = .ok (.lastore, 1)) (K : X M R Z sh V (x2L L r i.toNatClampNeg x) cu su (pc + 1) ls st) : X M R Z sh V L cu su pc ls (.long x :: .int i :: .ref r :: st) := by
  intro l G p e s m args below meth c H locs la hC hz hR hS hl
  refine va_last hC.1 hC.2.1 hC.2.2.2.2.2.2.2.2.1 hR (xw_D G sh V L) hS r 2 (xw_at hs) rfl (xI_in hi) hd (fun H1 locs1 p1 p2 p3 => ?_)
  refine K l G p e s m args below meth c H1 locs1 la hC hz ?_ p3 hl
  show va_P _ _ _ _
  rw [xw_setS (V := V) (L := L) hs (fun _ _ => rfl) (fun j hj => x2L_ne hj)]
  simp only [xe, xb, x2L_upd]
  exact p1
theorem x_alen {r n : Nat} {ty : FieldType} {f : Nat → Option Nat} (v : Int32) (hs : sh[r]? = some (.inl (ty, n, f))) (ht : ty = .int ∨ ty = .byte ∨ ty = .long ∨ ty = .object "WarrantWeather$Law") (hv : Int32.ofNat n = v) (hd : decode M.2.1 pc = .ok (.arraylength, 1)) (K : X M R Z sh V L cu su (pc + 1) ls (.int v :: st)) : X M R Z sh V L cu su pc ls (.ref r :: st) := by
  intro l G p e s m args below meth c H locs la hC hz hR hS hl
  rcases ht with rfl | rfl | rfl | rfl
  · exact va_alen hC.1 hC.2.1 hC.2.2.2.2.2.2.2.2.1 hR r 0 (xw_at hs) rfl hv hd (K l G p e s m args below meth c H locs la hC hz hR hS hl)
  · exact va_alen hC.1 hC.2.1 hC.2.2.2.2.2.2.2.2.1 hR r 1 (xw_at hs) rfl hv hd (K l G p e s m args below meth c H locs la hC hz hR hS hl)
  · exact va_alen hC.1 hC.2.1 hC.2.2.2.2.2.2.2.2.1 hR r 2 (xw_at hs) rfl hv hd (K l G p e s m args below meth c H locs la hC hz hR hS hl)
  · exact va_alen hC.1 hC.2.1 hC.2.2.2.2.2.2.2.2.1 hR r 3 (xw_at hs) rfl hv hd (K l G p e s m args below meth c H locs la hC hz hR hS hl)
variable {Q : Option Value → xH → Prop}
theorem x_ireturn {v : Int32} (hr : M.2.2.2.1 = some .int) (hd : decode M.2.1 pc = .ok (.ireturn, 1)) (h1 : cu ≤ M.2.2.2.2.1) (h2 : su ≤ M.2.2.2.2.2) (hQ : Q (some (.int v)) (sh, V, L)) : X M R (xZ M Q) sh V L cu su pc ls [.int v] := by
  intro l G p e s m args below meth c H locs la hC hz hR hS hl
  refine W.widen (k := M.2.2.2.2.1) (n := M.2.2.2.2.2) h1 h2 ?_
  exact W.iret hC.1 hC.2.1 (by rw [hC.2.2.1]; exact hr) (fun t ht hw => ⟨(some (.int v)), (sh, V, L), rfl, hQ, by rw [ht]; exact hR, hS.F ht⟩) hS.2.2 hd hC.2.2.2.2.2.2.1
theorem x_zreturn {v : Int32} {ty : FieldType} (hr : M.2.2.2.1 = some ty) (hn : narrow ty (.int v) = .int v) (hd : decode M.2.1 pc = .ok (.ireturn, 1)) (h1 : cu ≤ M.2.2.2.2.1) (h2 : su ≤ M.2.2.2.2.2) (hQ : Q (some (.int v)) (sh, V, L)) : X M R (xZ M Q) sh V L cu su pc ls [.int v] := by
  intro l G p e s m args below meth c H locs la hC hz hR hS hl
  refine W.widen (k := M.2.2.2.2.1) (n := M.2.2.2.2.2) h1 h2 ?_
  exact W.zret hC.1 hC.2.1 (by rw [hC.2.2.1]; exact hr) hn (fun t ht hw => ⟨(some (.int v)), (sh, V, L), rfl, hQ, by rw [ht]; exact hR, hS.F ht⟩) hS.2.2 hd hC.2.2.2.2.2.2.1
theorem x_lreturn {v : Int64} (hr : M.2.2.2.1 = some .long) (hd : decode M.2.1 pc = .ok (.lreturn, 1)) (h1 : cu ≤ M.2.2.2.2.1) (h2 : su ≤ M.2.2.2.2.2) (hQ : Q (some (.long v)) (sh, V, L)) : X M R (xZ M Q) sh V L cu su pc ls [.long v] := by
  intro l G p e s m args below meth c H locs la hC hz hR hS hl
  refine W.widen (k := M.2.2.2.2.1) (n := M.2.2.2.2.2) h1 h2 ?_
  exact W.lret hC.1 hC.2.1 (by rw [hC.2.2.1]; exact hr) (fun t ht hw => ⟨(some (.long v)), (sh, V, L), rfl, hQ, by rw [ht]; exact hR, hS.F ht⟩) hS.2.2 hd hC.2.2.2.2.2.2.1
theorem x_return  (hr : M.2.2.2.1 = none) (hd : decode M.2.1 pc = .ok (.return_, 1)) (h1 : cu ≤ M.2.2.2.2.1) (h2 : su ≤ M.2.2.2.2.2) (hQ : Q none (sh, V, L)) : X M R (xZ M Q) sh V L cu su pc ls [] := by
  intro l G p e s m args below meth c H locs la hC hz hR hS hl
  refine W.widen (k := M.2.2.2.2.1) (n := M.2.2.2.2.2) h1 h2 ?_
  exact W.vret hC.1 hC.2.1 (by rw [hC.2.2.1]; exact hr) (fun t ht hw => ⟨none, (sh, V, L), rfl, hQ, by rw [ht]; exact hR, hS.F ht⟩) hS.2.2 hd hC.2.2.2.2.2.2.1
theorem x_areturn {q : Nat} {cn : String} (hr : M.2.2.2.1 = some (.object cn)) (hd : decode M.2.1 pc = .ok (.areturn, 1)) (h1 : cu ≤ M.2.2.2.2.1) (h2 : su ≤ M.2.2.2.2.2) (hQ : Q (some (.ref q)) (sh, V, L)) : X M R (xZ M Q) sh V L cu su pc ls [.ref q] := by
  intro l G p e s m args below meth c H locs la hC hz hR hS hl
  refine W.widen (k := M.2.2.2.2.1) (n := M.2.2.2.2.2) h1 h2 ?_
  exact W.aret hC.1 hC.2.1 (by rw [hC.2.2.1]; exact hr) (Or.inl ⟨_, rfl⟩) (Or.inr ⟨_, rfl⟩) (fun t ht hw => ⟨(some (.ref q)), (sh, V, L), rfl, hQ, by rw [ht]; exact hR, hS.F ht⟩) hS.2.2 hd hC.2.2.2.2.2.2.1
theorem x_areturnN {cn : String} (hr : M.2.2.2.1 = some (.object cn)) (hd : decode M.2.1 pc = .ok (.areturn, 1)) (h1 : cu ≤ M.2.2.2.2.1) (h2 : su ≤ M.2.2.2.2.2) (hQ : Q (some .null) (sh, V, L)) : X M R (xZ M Q) sh V L cu su pc ls [.null] := by
  intro l G p e s m args below meth c H locs la hC hz hR hS hl
  refine W.widen (k := M.2.2.2.2.1) (n := M.2.2.2.2.2) h1 h2 ?_
  exact W.aret hC.1 hC.2.1 (by rw [hC.2.2.1]; exact hr) (Or.inl ⟨_, rfl⟩) (Or.inl rfl) (fun t ht hw => ⟨(some .null), (sh, V, L), rfl, hQ, by rw [ht]; exact hR, hS.F ht⟩) hS.2.2 hd hC.2.2.2.2.2.2.1
end XRules
end
section
/-! CALLS, and what makes cells (printed by wip/whole/gen_calls.py) -/
theorem xcat {G : xG} {st : List Value} (h : (st.map fun v => v.category).sum ≤ 8) : ((st.map (xv G)).map fun v => v.category).sum ≤ 8 := by
  have e : (st.map (xv G)).map (fun v => v.category) = st.map fun v => v.category := by
    rw [List.map_map]
    exact List.map_congr_left (fun v _ => xv_cat G v)
  rw [e]
  exact h
theorem xblind {G : xG} {as : List Value} {h : xH} : FrameBlind (xPc G as h) := fun _ _ _ _ q => ⟨q.1, q.2.1, q.2.2.1.call, q.2.2.2⟩
theorem xpre {G : xG} {as : List Value} {sh : xS} {V : xV} {L : xL} {s : State} {H : Heap} {locs : List Loc} (hK : xK G s) (hR : xR G sh V L H) (hS : va_S (xA G) s.heap H locs) (hz : H.size ≤ G.1 + sh.length) : ∀ U : State, U.heap = H → s.WarmedH U.vm → xPc G as (sh, V, L) (as.map (xv G)).toArray U := by
  intro U hU hW
  refine ⟨rfl, by rw [hU]; exact hR, hK.to hW (by rw [hU]; exact hS.1) (fun q h1 h2 => by rw [hU]; exact hS.2.1 q h1 h2), by rw [hU]; exact hz⟩
/-- what an edge of the calls needs: the link, the callee's class and code, how many it takes -/
def xE0 (y : xM) (n : Nat) : Prop := Cond.initialized y.1.cls ∈ xTbl ∧ Cond.code y.1 y.2.1 y.2.2.1 y.2.2.2.1 ∈ xTbl ∧ (y.1.cls ≠ "java/lang/invoke/MethodHandle" ∧ y.1.cls ≠ "java/lang/invoke/VarHandle" ∧ (parseMethodDescriptor y.1.desc).map (fun d => d.parameters.length) = some n)
def xES (own : String) (idx : Nat) (y : xM) (n : Nat) : Prop := xE0 y n ∧ Cond.methodLink own idx y.1 ∈ xTbl ∧ Cond.static y.1 ∈ xTbl
def xEV (own : String) (idx : Nat) (y : xM) (n : Nat) : Prop := xE0 y n ∧ Cond.methodLink own idx y.1 ∈ xTbl ∧ Cond.instanceMethod y.1 ∈ xTbl ∧ Cond.selects y.1.cls y.1 y.1 ∈ xTbl
def xEI (own : String) (idx : Nat) (y : xM) (n : Nat) : Prop := xE0 y n ∧ Cond.methodLink own idx y.1 ∈ xTbl ∧ Cond.instanceMethod y.1 ∈ xTbl ∧ y.1.name = "<init>" ∧ y.2.2.2.1 = none
def xESN (own : String) (idx : Nat) (host : String) (y : xM) (n : Nat) : Prop := xE0 y n ∧ Cond.methodLinkNest own idx y.1 host ∈ xNest ∧ Cond.static y.1 ∈ xTbl
def xEIN (own : String) (idx : Nat) (host : String) (y : xM) (n : Nat) : Prop := xE0 y n ∧ Cond.methodLinkNest own idx y.1 host ∈ xNest ∧ Cond.instanceMethod y.1 ∈ xTbl ∧ y.1.name = "<init>" ∧ y.2.2.2.1 = none
/-- the room that a call of y, d deep, wants -/
def xFit (R : Room) (cu su d : Nat) (y : xM) : Prop := d + 1 ≤ R.frames ∧ 8 + (y.2.2.1 + 11) + (64 * d + 64) ≤ R.locals ∧ cu + y.2.2.2.2.1 ≤ R.cells ∧ su + y.2.2.2.2.2 ≤ R.slots
section XCalls
variable {M M2 : xM} {R : Room} {Z : xG → List Frame → Array Value → State → State → Prop} {sh : xS} {V : xV} {L : xL} {cu su pc : Nat} {ls ls' : List (Nat × Value)} {st stk : List Value} {d idx n : Nat} {Q : Option Value → xH → Prop} {as : List Value} {host : String}
theorem x_callS (he : xES M.1.cls idx M2 n) (hrun : xRuns d M2 as (sh, V, L) Q) (hn : as.length = n) (hstk : stk = as.reverse ++ st) (hc : (st.map fun v => v.category).sum ≤ 8) (hf : xFit R cu su d M2) (hd : decode M.2.1 pc = .ok (.invokestatic idx, 3)) (hg : ∀ r h, Q r h → sh.length + M2.2.2.2.2.1 ≤ h.1.length)
    (K : ∀ r h, Q r h → X M R Z h.1 h.2.1 h.2.2 (cu + M2.2.2.2.2.1) (su + M2.2.2.2.2.2) (pc + 3) ls (r.toList ++ st)) : X M R Z sh V L cu su pc ls stk := by
  intro l G p e1 s m args below meth c H locs la hC hz hR hS hl
  refine x_size fun hsz => ?_
  have hz2 : H.size ≤ G.1 + sh.length := by omega
  obtain ⟨⟨e3, e4, e5⟩, e6, e7⟩ := he
  subst hstk
  have hts := hC.2.2.2.2.2.1
  refine x_run (Q := Q) (rest := st.map (xv G)) (va_runS (As := as.map (xv G)) ⟨hC.1, hC.2.1, hC.2.2.2.1, hC.2.2.2.2.1, hC.2.2.2.2.2.1⟩ (hrun l G) ⟨callB_of n hts (xGood e4) rfl rfl rfl (hts _ e3) (hts _ e6) e5 ⟨hf.1, hf.2.1⟩, hts _ e7⟩ ⟨xblind, xpre hC.2.2.2.2.2.2.2.2 hR hS hz2⟩ rfl (by rw [List.length_map]; exact hn) hl.1 (by simp) (lv_room (xcat hc)) hd hf.2.2) hS (fun r h H1 locs1 hq hR1 hS1 => ?_)
  have e : (r.map (xv G)).toList ++ st.map (xv G) = (r.toList ++ st).map (xv G) := by cases r <;> simp
  rw [e]
  exact K r h hq l G p e1 s m args below meth c H1 locs1 la hC (by have := hg r h hq; omega) hR1 hS1 hl
theorem x_callSN (he : xESN M.1.cls idx host M2 n) (hrun : xRuns d M2 as (sh, V, L) Q) (hn : as.length = n) (hstk : stk = as.reverse ++ st) (hc : (st.map fun v => v.category).sum ≤ 8) (hf : xFit R cu su d M2) (hd : decode M.2.1 pc = .ok (.invokestatic idx, 3)) (hg : ∀ r h, Q r h → sh.length + M2.2.2.2.2.1 ≤ h.1.length)
    (K : ∀ r h, Q r h → X M R Z h.1 h.2.1 h.2.2 (cu + M2.2.2.2.2.1) (su + M2.2.2.2.2.2) (pc + 3) ls (r.toList ++ st)) : X M R Z sh V L cu su pc ls stk := by
  intro l G p e1 s m args below meth c H locs la hC hz hR hS hl
  refine x_size fun hsz => ?_
  have hz2 : H.size ≤ G.1 + sh.length := by omega
  obtain ⟨⟨e3, e4, e5⟩, e6, e7⟩ := he
  subst hstk
  have hts := hC.2.2.2.2.2.1
  have hk : xK G s := hC.2.2.2.2.2.2.2.2
  refine x_run (Q := Q) (rest := st.map (xv G)) (va_runSN (As := as.map (xv G)) ⟨hC.1, hC.2.1, hC.2.2.2.1, hC.2.2.2.2.1, hC.2.2.2.2.2.1⟩ (hrun l G) ⟨va_cnB n hts (xGood e4) rfl rfl rfl (hk.2.1 _ e6) (hts _ e3) e5 ⟨hf.1, hf.2.1⟩, hts _ e7, trivial⟩ ⟨xblind, xpre hk hR hS hz2⟩ rfl (by rw [List.length_map]; exact hn) hl.1 (by simp) (lv_room (xcat hc)) hd hf.2.2) hS (fun r h H1 locs1 hq hR1 hS1 => ?_)
  have e : (r.map (xv G)).toList ++ st.map (xv G) = (r.toList ++ st).map (xv G) := by cases r <;> simp
  rw [e]
  exact K r h hq l G p e1 s m args below meth c H1 locs1 la hC (by have := hg r h hq; omega) hR1 hS1 hl
theorem x_callV {r ci : Nat} {ks : List Nat} {T : u_T} {N : Nat} (he : xEV M.1.cls idx M2 n) (hs : sh[r]? = some (.inr (ci, ks))) (hci : classes[ci]? = some (M2.1.cls, T, N)) (hrun : xRuns d M2 (.ref r :: as) (sh, V, L) Q) (hn : as.length = n) (hstk : stk = as.reverse ++ .ref r :: st) (hc : (st.map fun v => v.category).sum ≤ 8) (hf : xFit R cu su d M2) (hd : decode M.2.1 pc = .ok (.invokevirtual idx, 3)) (hg : ∀ r h, Q r h → sh.length + M2.2.2.2.2.1 ≤ h.1.length)
    (K : ∀ r h, Q r h → X M R Z h.1 h.2.1 h.2.2 (cu + M2.2.2.2.2.1) (su + M2.2.2.2.2.2) (pc + 3) ls (r.toList ++ st)) : X M R Z sh V L cu su pc ls stk := by
  intro l G p e1 s m args below meth c H locs la hC hz hR hS hl
  refine x_size fun hsz => ?_
  have hz2 : H.size ≤ G.1 + sh.length := by omega
  obtain ⟨⟨e3, e4, e5⟩, e6, e7, e8⟩ := he
  subst hstk
  have hts := hC.2.2.2.2.2.1
  have hk : xK G s := hC.2.2.2.2.2.2.2.2
  refine x_run (Q := Q) (rest := st.map (xv G)) (va_runV (C := M2.1.cls) (b := G.1 + r) (As := as.map (xv G)) ⟨hC.1, hC.2.1, hC.2.2.2.1, hC.2.2.2.2.1, hC.2.2.2.2.2.1⟩ (hrun l G) ⟨callB_of n hts (xGood e4) rfl rfl rfl (hts _ e3) (hts _ e6) e5 ⟨hf.1, hf.2.1⟩, hts _ e7, hts _ e8⟩ ⟨xblind, va_recv hk.1 hR hci (xw_at hs), xpre (as := .ref r :: as) hk hR hS hz2⟩ rfl (by rw [List.length_map]; exact hn) hl.1 (by simp [xv]) (lv_room (xcat hc)) hd hf.2.2) hS (fun r h H1 locs1 hq hR1 hS1 => ?_)
  have e : (r.map (xv G)).toList ++ st.map (xv G) = (r.toList ++ st).map (xv G) := by cases r <;> simp
  rw [e]
  exact K r h hq l G p e1 s m args below meth c H1 locs1 la hC (by have := hg r h hq; omega) hR1 hS1 hl
theorem x_callI {r : Nat} (he : xEI M.1.cls idx M2 n) (hrun : xRuns d M2 (.ref r :: as) (sh, V, L) Q) (hn : as.length = n) (hstk : stk = as.reverse ++ .ref r :: st) (hc : (st.map fun v => v.category).sum ≤ 8) (hf : xFit R cu su d M2) (hd : decode M.2.1 pc = .ok (.invokespecial idx, 3)) (hg : ∀ r h, Q r h → sh.length + M2.2.2.2.2.1 ≤ h.1.length)
    (K : ∀ r h, Q r h → X M R Z h.1 h.2.1 h.2.2 (cu + M2.2.2.2.2.1) (su + M2.2.2.2.2.2) (pc + 3) ls (r.toList ++ st)) : X M R Z sh V L cu su pc ls stk := by
  intro l G p e1 s m args below meth c H locs la hC hz hR hS hl
  refine x_size fun hsz => ?_
  have hz2 : H.size ≤ G.1 + sh.length := by omega
  obtain ⟨⟨e3, e4, e5⟩, e6, e7, e8, e9⟩ := he
  subst hstk
  have hts := hC.2.2.2.2.2.1
  have hk : xK G s := hC.2.2.2.2.2.2.2.2
  have hM := hrun l G
  rw [e9] at hM e4
  refine x_run (Q := Q) (rest := st.map (xv G)) (va_runI (b := G.1 + r) (As := as.map (xv G)) ⟨hC.1, hC.2.1, hC.2.2.2.1, hC.2.2.2.2.1, hC.2.2.2.2.2.1⟩ hM ⟨callB_of n hts (xGood e4) rfl rfl rfl (hts _ e3) (hts _ e6) e5 ⟨hf.1, hf.2.1⟩, e8, hts _ e7⟩ ⟨xblind, xpre (as := .ref r :: as) hk hR hS hz2⟩ rfl (by rw [List.length_map]; exact hn) hl.1 (by simp [xv]) (lv_room (xcat hc)) hd hf.2.2) hS (fun r h H1 locs1 hq hR1 hS1 => ?_)
  have e : (r.map (xv G)).toList ++ st.map (xv G) = (r.toList ++ st).map (xv G) := by cases r <;> simp
  rw [e]
  exact K r h hq l G p e1 s m args below meth c H1 locs1 la hC (by have := hg r h hq; omega) hR1 hS1 hl
theorem x_callIN {r : Nat} (he : xEIN M.1.cls idx host M2 n) (hrun : xRuns d M2 (.ref r :: as) (sh, V, L) Q) (hn : as.length = n) (hstk : stk = as.reverse ++ .ref r :: st) (hc : (st.map fun v => v.category).sum ≤ 8) (hf : xFit R cu su d M2) (hd : decode M.2.1 pc = .ok (.invokespecial idx, 3)) (hg : ∀ r h, Q r h → sh.length + M2.2.2.2.2.1 ≤ h.1.length)
    (K : ∀ r h, Q r h → X M R Z h.1 h.2.1 h.2.2 (cu + M2.2.2.2.2.1) (su + M2.2.2.2.2.2) (pc + 3) ls (r.toList ++ st)) : X M R Z sh V L cu su pc ls stk := by
  intro l G p e1 s m args below meth c H locs la hC hz hR hS hl
  refine x_size fun hsz => ?_
  have hz2 : H.size ≤ G.1 + sh.length := by omega
  obtain ⟨⟨e3, e4, e5⟩, e6, e7, e8, e9⟩ := he
  subst hstk
  have hts := hC.2.2.2.2.2.1
  have hk : xK G s := hC.2.2.2.2.2.2.2.2
  have hM := hrun l G
  rw [e9] at hM e4
  refine x_run (Q := Q) (rest := st.map (xv G)) (va_runIN (b := G.1 + r) (As := as.map (xv G)) ⟨hC.1, hC.2.1, hC.2.2.2.1, hC.2.2.2.2.1, hC.2.2.2.2.2.1⟩ hM ⟨va_cnB n hts (xGood e4) rfl rfl rfl (hk.2.1 _ e6) (hts _ e3) e5 ⟨hf.1, hf.2.1⟩, e8, hts _ e7⟩ ⟨xblind, xpre (as := .ref r :: as) hk hR hS hz2⟩ rfl (by rw [List.length_map]; exact hn) hl.1 (by simp [xv]) (lv_room (xcat hc)) hd hf.2.2) hS (fun r h H1 locs1 hq hR1 hS1 => ?_)
  have e : (r.map (xv G)).toList ++ st.map (xv G) = (r.toList ++ st).map (xv G) := by cases r <;> simp
  rw [e]
  exact K r h hq l G p e1 s m args below meth c H1 locs1 la hC (by have := hg r h hq; omega) hR1 hS1 hl
theorem x_objInit {r : Nat} (hw : Cond.methodLink M.1.cls idx Lib.objectInit ∈ xTbl) (hi : Cond.instanceMethod Lib.objectInit ∈ xTbl) (hco : Cond.code Lib.objectInit ⟨#[0xb1]⟩ 1 none ∈ xTbl) (hf : 1 ≤ R.frames) (hlo : 20 ≤ R.locals) (hc : (st.map fun v => v.category).sum ≤ 8) (hd : decode M.2.1 pc = .ok (.invokespecial idx, 3)) (K : X M R Z sh V L cu su (pc + 3) ls st) : X M R Z sh V L cu su pc ls (.ref r :: st) := by
  intro l G p e s m args below meth c H locs la hC hz hR hS hl
  have hts := hC.2.2.2.2.2.1
  have h2 := lv_room (m := m) (pc := pc) (ls := la) (rest := []) (xcat (G := G) hc)
  refine W.objInit hC.1 hC.2.1 hC.2.2.2.2.1 (hts _ hw) (hts _ hi) (hts _ hco) (g := F0 m pc la ((.ref r :: st).map (xv G))) rfl (by rw [hC.2.2.2.1]; exact hl.1) (a := G.1 + r) (rest := st.map (xv G)) rfl hd hf ?_ (K l G p e s m args below meth c H locs la hC hz hR hS hl)
  exact Nat.le_trans (Nat.add_le_add_right h2 12) hlo
theorem x_max {x y : Int32} (hw : Cond.methodLink M.1.cls idx Lib.Math.max.name ∈ xTbl) (hs : Cond.static Lib.Math.max.name ∈ xTbl) (hi : Cond.initialized "java/lang/Math" ∈ xTbl) (hco : Cond.code Lib.Math.max.name Lib.Math.max.code 2 (some .int) ∈ xTbl) (hf : 1 ≤ R.frames) (hlo : 21 ≤ R.locals) (h1 : cu ≤ R.cells) (h2 : su ≤ R.slots) (hc : (st.map fun v => v.category).sum ≤ 8) (hd : decode M.2.1 pc = .ok (.invokestatic idx, 3)) (K : X M R Z sh V L cu su (pc + 3) ls (.int (if x < y then y else x) :: st)) : X M R Z sh V L cu su pc ls (.int y :: .int x :: st) := by
  intro l G p e s m args below meth c H locs la hC hz hR hS hl
  have hts := hC.2.2.2.2.2.1
  exact va_mmax hC.1 hC.2.1 (by rw [hC.2.2.2.1]; exact hl.1.symm) hC.2.2.2.2.1 (hts _ hw) (hts _ hs) (hts _ hi) (hts _ hco) hf (Nat.le_trans (Nat.add_le_add_right (xcat hc) 13) hlo) h1 h2 hd (K l G p e s m args below meth c H locs la hC hz hR hS hl)
theorem x_min {x y : Int32} (hw : Cond.methodLink M.1.cls idx Lib.Math.min.name ∈ xTbl) (hs : Cond.static Lib.Math.min.name ∈ xTbl) (hi : Cond.initialized "java/lang/Math" ∈ xTbl) (hco : Cond.code Lib.Math.min.name Lib.Math.min.code 2 (some .int) ∈ xTbl) (hf : 1 ≤ R.frames) (hlo : 21 ≤ R.locals) (h1 : cu ≤ R.cells) (h2 : su ≤ R.slots) (hc : (st.map fun v => v.category).sum ≤ 8) (hd : decode M.2.1 pc = .ok (.invokestatic idx, 3)) (K : X M R Z sh V L cu su (pc + 3) ls (.int (if y < x then y else x) :: st)) : X M R Z sh V L cu su pc ls (.int y :: .int x :: st) := by
  intro l G p e s m args below meth c H locs la hC hz hR hS hl
  have hts := hC.2.2.2.2.2.1
  exact va_mmin hC.1 hC.2.1 (by rw [hC.2.2.2.1]; exact hl.1.symm) hC.2.2.2.2.1 (hts _ hw) (hts _ hs) (hts _ hi) (hts _ hco) hf (Nat.le_trans (Nat.add_le_add_right (xcat hc) 13) hlo) h1 h2 hd (K l G p e s m args below meth c H locs la hC hz hR hS hl)
theorem x_copy {r q n0 n1 : Nat} {f0 f1 : Nat → Option Nat} {sp dp n : Int32} (hw : Cond.methodLink M.1.cls idx arraycopyName ∈ xTbl) (hna : Cond.native arraycopyName ∈ xTbl) (hs : Cond.static arraycopyName ∈ xTbl) (hi : Cond.initialized "java/lang/System" ∈ xTbl) (hf : 1 ≤ R.frames) (hlo : 8 + (nativeFrameWords "java/lang/System" "arraycopy" 5 + 11) ≤ R.locals) (hc : (st.map fun v => v.category).sum ≤ 8)
    (h0 : sh[r]? = some (.inl (.int, n0, f0))) (h1 : sh[q]? = some (.inl (.int, n1, f1))) (g1 : ¬ sp < 0) (g2 : ¬ dp < 0) (g3 : ¬ n < 0) (g4 : sp.toNatClampNeg + n.toNatClampNeg ≤ n0) (g5 : dp.toNatClampNeg + n.toNatClampNeg ≤ n1) (hd : decode M.2.1 pc = .ok (.invokestatic idx, 3)) (K : X M R Z sh (xrow V q (va_cpy (V r) (V q) sp.toNatClampNeg dp.toNatClampNeg n.toNatClampNeg)) L cu su (pc + 3) ls st) : X M R Z sh V L cu su pc ls (.int n :: .int dp :: .ref q :: .int sp :: .ref r :: st) := by
  intro l G p e s m args below meth c H locs la hC hz hR hS hl
  have hts := hC.2.2.2.2.2.1
  refine va_copyi hC.1 hC.2.1 (by rw [hC.2.2.2.1]; exact hl.1.symm) hC.2.2.2.2.1 (hts _ hw) (hts _ hna) (hts _ hs) (hts _ hi) hC.2.2.2.2.2.2.2.2.1 hR (xw_D G sh V L) hS r q 0 0 (xw_at h0) (xw_at h1) rfl rfl rfl g1 g2 g3 g4 g5 (fun _ _ => rfl) hf (Nat.le_trans (Nat.add_le_add_right (xcat hc) _) hlo) hd (fun H1 locs1 p1 p2 p3 => ?_)
  refine K l G p e s m args below meth c H1 locs1 la hC hz ?_ p3 hl
  show va_P _ _ _ _
  rw [xw_setS (V := V) (L := L) h1 (fun j hj => xrow_ne hj) (fun _ _ => rfl)]
  simp only [xe, xb, xrow_eq]
  exact p1
theorem xpush {G : xG} {sh : xS} {V : xV} {L : xL} {H H1 : Heap} {c : xC} (hR : xR G sh V L H) (hz : H.size = G.1 + sh.length) (ho : ∀ q, q < H.size → H1[q]? = H[q]?) (hc : va_at G.2.2.1 classes (G.1 + sh.length, xe G V L sh.length c) H1) : xR G (sh ++ [c]) V L H1 := by
  intro k q hk
  obtain ⟨c1, h1, rfl⟩ := xw_of hk
  by_cases hl : k < sh.length
  · rw [List.getElem?_append_left hl] at h1
    exact (hR k _ (xw_at h1)).kept (ho _ (by show G.1 + k < H.size; omega))
  · rw [List.getElem?_append_right (by omega)] at h1
    have h2 : k - sh.length < 1 := (List.getElem?_eq_some_iff.mp h1).1
    have h3 : k = sh.length := by omega
    subst h3
    rw [Nat.sub_self] at h1
    cases h1
    exact hc
theorem xgrow {G : xG} {H0 H H1 : Heap} {locs : List Loc} (hS : va_S (xA G) H0 H locs) (z : H1.size = H.size + 1) (ho : ∀ q, q < H.size → H1[q]? = H[q]?) : va_S (xA G) H0 H1 locs := ⟨Nat.le_trans hS.1 (by omega), fun q h1 h2 => (ho q (Nat.lt_of_lt_of_le h1 hS.1)).trans (hS.2.1 q h1 h2), hS.2.2⟩
/-- what a class needs to be made of by an instruction of own -/
def xN (own : String) (idx ci : Nat) (ks : List Nat) : Prop := ∃ (C : String) (T : u_T) (N : Nat) (tf : Nat → FieldType), classes[ci]? = some (C, T, N) ∧ xCls C T N tf ∧ Cond.classLink own idx C ∈ xTbl ∧ Cond.instantiable C N ∈ xTbl ∧ Cond.initialized C ∈ xTbl ∧ ks.length = N ∧ ∀ j, j < N → (ks[j]? = some 0 ∧ defaultValue (tf j) = .int 0) ∨ (ks[j]? = some 1 ∧ defaultValue (tf j) = .null)
theorem x_new {ci : Nat} {ks : List Nat} (hN : xN M.1.cls idx ci ks) (hV : ∀ k, V sh.length k = 0) (hc1 : cu + 1 ≤ R.cells) (hc2 : su + ks.length ≤ R.slots) (hd : decode M.2.1 pc = .ok (.new idx, 3))
    (K : X M R Z (sh ++ [.inr (ci, ks)]) V L (cu + 1) (su + ks.length) (pc + 3) ls (.ref sh.length :: st)) : X M R Z sh V L cu su pc ls st := by
  intro l G p e s m args below meth c H locs la hC hz hR hS hl
  refine x_size fun hsz => ?_
  have hk : xK G s := hC.2.2.2.2.2.2.2.2
  have hlow := xR_low hR (Nat.le_trans hk.2.2.2.2.1 hS.1)
  have hH : H.size = G.1 + sh.length := by omega
  obtain ⟨C, T, N, tf, f1, f2, f3, f4, f5, f6, f7⟩ := hN
  have hts := hC.2.2.2.2.2.1
  have hKn := hk.1.1 ci _ f1
  subst f6
  refine W.newcK hC.1 hC.2.1 hC.2.2.2.2.1 (hts _ f3) (hts _ f4) (hts _ f5) rfl hd hc1 hc2 hKn.2.1 hH fun H1 kC hkC e1 z1 o1 => ?_
  refine K l G p e s m args below meth c H1 locs la hC (by simp; omega) (xpush hR hH (by rw [hH]; exact o1) ?_) (xgrow hS (by rw [z1, hH]) (by rw [hH]; exact o1)) hl
  refine ⟨_, f1, (u_born tf hts f2.1 hKn hkC e1 f2.2.1).to (fun k hk => ?_)⟩
  show _ = (ks.mapIdx (fun k kd => xv G (xsv kd (V sh.length k)))).getD k .null
  rcases f7 k hk with ⟨a1, a2⟩ | ⟨a1, a2⟩
  · rw [List.getD_eq_getElem?_getD, xks_at a1, a2, hV]; rfl
  · rw [List.getD_eq_getElem?_getD, xks_at a1, a2]; rfl
theorem x_newarray {at_ : ArrayType} {ty : FieldType} {i : Int32} (n : Nat) (hw : Cond.arrayClass ty ∈ xTbl) (hty : newarray.typeOf at_ = ty) (ht : ty = .int ∨ ty = .byte ∨ ty = .long) (hV : ∀ k, V sh.length k = 0) (hL : ∀ k, L sh.length k = 0) (hi : ¬ i < 0) (hn : i.toNatClampNeg = n) (hb : n * 8 ≤ 536870912) (hc1 : cu + 1 ≤ R.cells) (hc2 : su + n ≤ R.slots) (hd : decode M.2.1 pc = .ok (.newarray at_, 2))
    (K : X M R Z (sh ++ [.inl (ty, n, fun _ => none)]) V L (cu + 1) (su + n) (pc + 2) ls (.ref sh.length :: st)) : X M R Z sh V L cu su pc ls (.int i :: st) := by
  intro l G p e s m args below meth c H locs la hC hz hR hS hl
  refine x_size fun hsz => ?_
  have hk : xK G s := hC.2.2.2.2.2.2.2.2
  have hlow := xR_low hR (Nat.le_trans hk.2.2.2.2.1 hS.1)
  have hH : H.size = G.1 + sh.length := by omega
  have hts := hC.2.2.2.2.2.1
  subst hty
  have hcb : n * componentBytes (newarray.typeOf at_) ≤ 536870912 := by
    refine Nat.le_trans ?_ hb
    rcases ht with h | h | h <;> rw [h] <;> exact Nat.mul_le_mul_left _ (by decide)
  refine va_newaK hC.1 hC.2.1 (hts _ hw) rfl hd rfl hi hn hcb hc1 hc2 hH fun H1 cA e1 z1 o1 hAr hNm => ?_
  have hcA : cA = G.2.2.2.1 (newarray.typeOf at_) := by
    rcases ht with h | h | h
    · have h2 : s.vm.findClass ("[" ++ (FieldType.int).toString) = some (G.2.2.2.1 .int) := (hk.1.2 0 _ rfl).2
      rw [h] at hNm ⊢; exact Option.some.inj (hNm.symm.trans h2)
    · have h2 : s.vm.findClass ("[" ++ (FieldType.byte).toString) = some (G.2.2.2.1 .byte) := (hk.1.2 1 _ rfl).2
      rw [h] at hNm ⊢; exact Option.some.inj (hNm.symm.trans h2)
    · have h2 : s.vm.findClass ("[" ++ (FieldType.long).toString) = some (G.2.2.2.1 .long) := (hk.1.2 2 _ rfl).2
      rw [h] at hNm ⊢; exact Option.some.inj (hNm.symm.trans h2)
  refine K l G p e s m args below meth c H1 locs la hC (by simp; omega) (xpush hR hH (by rw [hH]; exact o1) ?_) (xgrow hS (by rw [z1, hH]) (by rw [hH]; exact o1)) hl
  have hV2 : V sh.length = fun _ => 0 := funext hV
  have hL2 : L sh.length = fun _ => 0 := funext hL
  show H1[G.1 + sh.length]? = some (vp_cell _ _)
  rw [e1, hcA]
  rcases ht with h | h | h <;> rw [h] <;> simp only [xb, hV2, hL2] <;> rfl
theorem x_anewarray {i : Int32} (n : Nat) (hw : Cond.classLink M.1.cls idx "WarrantWeather$Law" ∈ xTbl) (hi : ¬ i < 0) (hn : i.toNatClampNeg = n) (hb : n * 4 ≤ 536870912) (hc1 : cu + 1 ≤ R.cells) (hc2 : su + n ≤ R.slots) (hd : decode M.2.1 pc = .ok (.anewarray idx, 3))
    (K : X M R Z (sh ++ [.inl (.object "WarrantWeather$Law", n, fun _ => none)]) V L (cu + 1) (su + n) (pc + 3) ls (.ref sh.length :: st)) : X M R Z sh V L cu su pc ls (.int i :: st) := by
  intro l G p e s m args below meth c H locs la hC hz hR hS hl
  refine x_size fun hsz => ?_
  have hk : xK G s := hC.2.2.2.2.2.2.2.2
  have hlow := xR_low hR (Nat.le_trans hk.2.2.2.2.1 hS.1)
  have hH : H.size = G.1 + sh.length := by omega
  have hts := hC.2.2.2.2.2.1
  subst hn
  refine W.anew hC.1 hC.2.1 hC.2.2.2.2.1 (hts _ hw) (va_AO.use hk.2.2.2.2.2.2.2.2.2.2.2) rfl hd rfl hi hb hc1 hc2 fun cA kA comp f1 f2 f3 f4 => ?_
  have h2 : va_RA s (G.2.2.2.1 (.object "WarrantWeather$Law")) (.object "WarrantWeather$Law") := (hk.1.2 3 _ rfl).2
  obtain ⟨kA2, comp2, q1, q2, q3, q4⟩ := h2
  have hcA : cA = G.2.2.2.1 (.object "WarrantWeather$Law") := Option.some.inj (f1.symm.trans q4)
  have o1 : ∀ q : Nat, q < H.size → (H.push ({ cls := cA, slots := Array.replicate i.toNatClampNeg .null, vm := .none } : Cell))[q]? = H[q]? := fun q hq => by rw [Array.getElem?_push, if_neg (Nat.ne_of_lt hq)]
  rw [hH]
  refine K l G p e s m args below meth c _ locs la hC (by simp; omega) (xpush hR hH o1 ?_) (xgrow hS (by rw [Array.size_push]) o1) hl
  show (H.push _)[G.1 + sh.length]? = some (vp_cell _ _)
  rw [← hH, Array.getElem?_push_size, ← hcA]
  show _ = some (arrV cA i.toNatClampNeg (fun _ => Value.null))
  rw [← arrV_new]
theorem xset_len {α : Type} {l : List α} {k : Nat} {v : α} : (l.set k v).length = l.length := by simp
theorem xV_putP {G : xG} {V : xV} {L : xL} {r k ci q : Nat} {ks : List Nat} (hk : k < ks.length) : xe G V L r (.inr (ci, ks.set k (q + 3))) = .inr (ci, (ks.mapIdx (fun k kd => xv G (xsv kd (V r k)))).set k (.ref (G.1 + q))) := by
  simp only [xe]
  congr 2
  apply List.ext_getElem?
  intro j
  by_cases hj : j = k
  · subst hj
    rw [List.getElem?_set_self (by simp only [List.length_mapIdx]; exact hk)]
    simp only [List.getElem?_mapIdx, List.getElem?_set_self hk, Option.map_some, xsv, xv]
  · rw [List.getElem?_set_ne (Ne.symm hj)]
    simp only [List.getElem?_mapIdx]
    rw [List.getElem?_set_ne (Ne.symm hj)]
/-- a reference is put into a new object's field -/
theorem x_putP {ci k r q : Nat} {fin : Bool} {ty : FieldType} {ks : List Nat} (hf : xF M.1.cls idx ci k fin ty) (hs : sh[r]? = some (.inr (ci, ks))) (hk : k < ks.length) (hty : narrow ty (.ref 0) = .ref 0 ∧ ∀ a, narrow ty (.ref a) = .ref a ∧ fits ty (.ref a) = true) (hin : fin = true → M.1.name = "<init>" ∧ ∃ T N, classes[ci]? = some (M.1.cls, T, N)) (hd : decode M.2.1 pc = .ok (.putfield idx, 3))
    (K : X M R Z (sh.set r (.inr (ci, ks.set k (q + 3)))) V L cu su (pc + 3) ls st) : X M R Z sh V L cu su pc ls (.ref q :: .ref r :: st) := by
  intro l G p e s m args below meth c H locs la hC hz hR hS hl
  obtain ⟨C, T, N, tf, f1, f2, f3, f4, f5, f6, f7⟩ := hf
  have hr : r < sh.length := (List.getElem?_eq_some_iff.mp hs).1
  have fin1 : ∀ (H1 : Heap) (locs1 : List Loc), va_P G.2.2.1 classes ((xw G sh V L).set r (G.1 + r, .inr (ci, (ks.mapIdx (fun k kd => xv G (xsv kd (V r k)))).set k (xv G (.ref q))))) H1 → va_D (xA G) ((xw G sh V L).set r (G.1 + r, .inr (ci, (ks.mapIdx (fun k kd => xv G (xsv kd (V r k)))).set k (xv G (.ref q))))) → va_S (xA G) s.heap H1 locs1 → W p l e R s m args below meth c H1 locs1 cu su (Z G below args s) (F0 m (pc + 3) la (st.map (xv G))) := by
    intro H1 locs1 p1 p2 p3
    refine K l G p e s m args below meth c H1 locs1 la hC (by simp; omega) ?_ p3 hl
    show va_P _ _ _ _
    rw [xw_set (V := V) (L := L) _ hr (fun _ _ => rfl) (fun _ _ => rfl), xV_putP hk]
    exact p1
  cases fin with
  | false => exact va_put hC.1 hC.2.1 hC.2.2.2.2.2.1 f2.1 tf f2.2.1 f2.2.2 hC.2.2.2.2.1 hC.2.2.2.2.2.2.2.2.1 hR (xw_D G sh V L) hS r (xw_at hs) f1 k f3 (hC.2.2.2.2.2.1 _ f4) (fun _ h => h) f5 (by rw [f2.2.1 k f3, f6]) (hty.2 _).1 (hty.2 _).2 (by simp only [List.length_mapIdx]; exact hk) hd fin1
  | true =>
    obtain ⟨i1, T2, N2, i2⟩ := hin rfl
    have hCc : C = M.1.cls := congrArg Prod.fst (Option.some.inj (f1.symm.trans i2))
    exact va_putF hC.1 hC.2.1 hC.2.2.2.2.2.1 f2.1 tf f2.2.1 f2.2.2 hC.2.2.2.2.1 hC.2.2.2.2.2.2.2.2.1 hR (xw_D G sh V L) hS r (xw_at hs) f1 k f3 (hC.2.2.2.2.2.1 _ f4) (fun _ h => h) f5 (by rw [hC.2.2.2.2.2.2.2.1]; exact i1) (by rw [f7, hCc]) (by rw [f2.2.1 k f3, f6]) (hty.2 _).1 (hty.2 _).2 (by simp only [List.length_mapIdx]; exact hk) hd fin1
end XCalls
end
